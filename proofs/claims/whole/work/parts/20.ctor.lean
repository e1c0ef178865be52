/-! CONSTRUCTORS over any plain heap (n, s, F) -/
def isW (w : Nat) : Prop := w = 4 ∨ ∃ i, i < 161 ∧ w = 71 + 10 * i
def zI : Nat → Int32 := fun _ => 0
abbrev cI (n : Nat) : bm_C := .inl (0, n, zI)
theorem up_old {F : Nat → bm_C} {a k : Nat} {x y : bm_C} (h : F k = y) (hk : k ≠ a) : va_up F a x k = y := (va_up_ne _ _ hk).trans h
section ZR
variable {d mi : Nat} {Q : bm_Q} {pc p : Nat} {ls r : List Value} {n s : Nat} {F : Nat → bm_C}
theorem z_newarray {a : ClassFile.ArrayType} {z : Int32} {t N : Nat} (hi : pm_ins mi pc = some (.newarray a, 2)) (e : pc + 2 = p) (h0 : decide (¬ z < 0) = true) (hz : z.toNatClampNeg = N) (hn : decide (N ≤ 1000000) = true) (ht : bm_tag a = some t) (k : bm_W (bm_M d) mi Q p ls (.ref n :: r) (n + 1, s + N, va_up F n (.inl (t, N, zI)))) : bm_W (bm_M d) mi Q pc ls (.int z :: r) (n, s, F) := w_newarray hi e (of_decide_eq_true h0) hz (of_decide_eq_true hn) ht k
theorem z_anewarray {m ci : Nat} {z : Int32} {N : Nat} (hi : pm_ins mi pc = some (.anewarray m, 3)) (e : pc + 3 = p) (hx : decide (m < 1000) = true) (h0 : decide (¬ z < 0) = true) (hz : z.toNatClampNeg = N) (hn : decide (N ≤ 1000000) = true) (ht : pm_aT.lookup (bm_key mi m) = some ci) (k : bm_W (bm_M d) mi Q p ls (.ref n :: r) (n + 1, s + N, va_up F n (.inr (.inl (ci, N, fun _ => none))))) : bm_W (bm_M d) mi Q pc ls (.int z :: r) (n, s, F) := w_anewarray hi e hx (of_decide_eq_true h0) hz (of_decide_eq_true hn) ht k
theorem z_new {m ci : Nat} {q : vw_C} {x : bm_C} (hi : pm_ins mi pc = some (.new m, 3)) (e : pc + 3 = p) (hx : decide (m < 1000) = true) (hv : pm_nT.lookup (bm_key mi m) = some ci) (hq : pm_cl[ci]? = some q) (hc : .inr (.inr (ci, (List.range q.2.2).map fun j => defaultValue (pm_ty ci j))) = x) (k : bm_W (bm_M d) mi Q p ls (.ref n :: r) (n + 1, s + q.2.2, va_up F n x)) : bm_W (bm_M d) mi Q pc ls r (n, s, F) := w_new hi e hx hv hq hc k
theorem z_putfield {m a ci kf ne : Nat} {fs fs2 : List Value} {v : Value} {cq : vw_C} (hi : pm_ins mi pc = some (.putfield m, 3)) (e : pc + 3 = p) (hx : decide (m < 1000) = true) (hf : pm_fT.lookup (bm_key mi m) = some (ci, kf, ne)) (h3 : 3 ≤ a) (ha : a < n) (hok : bm_ok v = true) (hc : F a = .inr (.inr (ci, fs))) (hl : decide (kf < fs.length) = true) (hn : narrow (pm_ty ci kf) v = v) (hft : fits (pm_ty ci kf) v = true) (hcq : pm_cl[ci]? = some cq) (hor : (cq.2.1 kf).2.2.2 = false ∨ ((pm_M mi).2.1 = "<init>" ∧ pm_own mi = ci ∧ ne = 0)) (h2 : fs.set kf v = fs2) (k : bm_W (bm_M d) mi Q p ls r (n, s, va_up F a (.inr (.inr (ci, fs2))))) : bm_W (bm_M d) mi Q pc ls (v :: .ref a :: r) (n, s, F) := by
  subst h2
  exact w_putfield hi e hx hf h3 ha hok hc (of_decide_eq_true hl) hn hft hcq hor k
theorem z_special {st as : List Value} {N mj ne m a : Nat} {fs : List Value} (hi : pm_ins mi pc = some (.invokespecial m, 3)) (e : pc + 3 = p) (hx : decide (m < 1000) = true) (hq : pm_cT.lookup (bm_key mi m) = some (2, mj, ne)) (hf : bm_fit mi mj = true) (hn : pm_n mj = N) (hl : decide (N ≤ st.length) = true) (hd : st.drop N = .ref a :: r) (ht : (st.take N).reverse = as) (ha : bm_all (.ref a :: r) = true) (ha2 : bm_all r = true) (h3 : 3 ≤ a) (hal : a < n) (hc : F a = .inr (.inr (pm_own mj, fs))) (k : bm_M d mj (.ref a :: as) (n, s, F) (fun v h2 => bm_W (bm_M d) mi Q p ls (v.toList ++ r) h2)) : bm_W (bm_M d) mi Q pc ls st (n, s, F) := w_special hi e hx hq hf hn hl hd ht ha ha2 h3 hal hc k
end ZR
theorem up_here {F : Nat → bm_C} {a : Nat} {x : bm_C} : va_up F a x a = x := va_up_self _ _ _
theorem k_Inputs (d : Nat) {n s b : Nat} {F : Nat → bm_C} {Q : bm_Q} (h3 : 3 ≤ b) (hb : b < n) (hc : F b = .inr (.inr (2, [.null]))) (hQ : Q none (n + 1, s + 32, va_up (va_up F n (cI 32)) b (.inr (.inr (2, [.ref n]))))) : bm_M (d + 1) 35 [.ref b] (n, s, F) Q := by
  refine bw_enter rfl rfl rfl rfl ?_
  refine w_aload_n (p := 1) (pI pM_35 rfl) rfl rfl ?_
  refine w_objinit (p := 4) (pI pM_35 rfl) rfl rfl rfl rfl rfl ?_
  refine w_aload_n (p := 5) (pI pM_35 rfl) rfl rfl ?_
  refine w_bipush (p := 7) (v := 32) (pI pM_35 rfl) rfl (by decide) ?_
  refine z_newarray (p := 9) (N := 32) (t := 0) (pI pM_35 rfl) rfl rfl rfl rfl rfl ?_
  refine z_putfield (p := 12) (fs := [.null]) (fs2 := [.ref n]) (pI pM_35 rfl) rfl rfl rfl h3 (by omega) rfl (up_old hc (by omega)) rfl rfl rfl rfl (Or.inr ⟨rfl, rfl, rfl⟩) rfl ?_
  exact w_return (pI pM_35 rfl) rfl hQ
theorem k_Tokens (d : Nat) {n s b : Nat} {F : Nat → bm_C} {Q : bm_Q} (h3 : 3 ≤ b) (hb : b < n) (hc : F b = .inr (.inr (8, [.null, .null, .null, .int 0]))) (hQ : Q none (n + 3, s + 181, va_up (va_up (va_up (va_up (va_up (va_up F n (cI 60)) b (.inr (.inr (8, [.ref n, .null, .null, .int 0])))) (n + 1) (cI 61)) b (.inr (.inr (8, [.ref n, .ref (n + 1), .null, .int 0])))) (n + 2) (cI 60)) b (.inr (.inr (8, [.ref n, .ref (n + 1), .ref (n + 2), .int 0]))))) : bm_M (d + 1) 109 [.ref b] (n, s, F) Q := by
  refine bw_enter rfl rfl rfl rfl ?_
  refine w_aload_n (p := 1) (pI pM_109 rfl) rfl rfl ?_
  refine w_objinit (p := 4) (pI pM_109 rfl) rfl rfl rfl rfl rfl ?_
  refine w_aload_n (p := 5) (pI pM_109 rfl) rfl rfl ?_
  refine w_bipush (p := 7) (v := 60) (pI pM_109 rfl) rfl (by decide) ?_
  refine z_newarray (p := 9) (N := 60) (t := 0) (pI pM_109 rfl) rfl rfl rfl rfl rfl ?_
  refine z_putfield (p := 12) (fs := [.null, .null, .null, .int 0]) (fs2 := [.ref n, .null, .null, .int 0]) (pI pM_109 rfl) rfl rfl rfl h3 (by omega) rfl (up_old hc (by omega)) rfl rfl rfl rfl (Or.inr ⟨rfl, rfl, rfl⟩) rfl ?_
  refine w_aload_n (p := 13) (pI pM_109 rfl) rfl rfl ?_
  refine w_bipush (p := 15) (v := 61) (pI pM_109 rfl) rfl (by decide) ?_
  refine z_newarray (p := 17) (N := 61) (t := 0) (pI pM_109 rfl) rfl rfl rfl rfl rfl ?_
  refine z_putfield (p := 20) (fs := [.ref n, .null, .null, .int 0]) (fs2 := [.ref n, .ref (n + 1), .null, .int 0]) (pI pM_109 rfl) rfl rfl rfl h3 (by omega) rfl (up_old up_here (by omega)) rfl rfl rfl rfl (Or.inr ⟨rfl, rfl, rfl⟩) rfl ?_
  refine w_aload_n (p := 21) (pI pM_109 rfl) rfl rfl ?_
  refine w_bipush (p := 23) (v := 60) (pI pM_109 rfl) rfl (by decide) ?_
  refine z_newarray (p := 25) (N := 60) (t := 0) (pI pM_109 rfl) rfl rfl rfl rfl rfl ?_
  refine z_putfield (p := 28) (fs := [.ref n, .ref (n + 1), .null, .int 0]) (fs2 := [.ref n, .ref (n + 1), .ref (n + 2), .int 0]) (pI pM_109 rfl) rfl rfl rfl h3 (by omega) rfl (up_old up_here (by omega)) rfl rfl rfl rfl (Or.inr ⟨rfl, rfl, rfl⟩) rfl ?_
  exact w_return (pI pM_109 rfl) rfl hQ
theorem k_Row (d : Nat) {n s b : Nat} {F : Nat → bm_C} {Q : bm_Q} (h3 : 3 ≤ b) (hb : b < n) (hc : F b = .inr (.inr (5, [.null, .int 0, .int 0]))) (hQ : Q none (n + 1, s + 60, va_up (va_up F n (cI 60)) b (.inr (.inr (5, [.ref n, .int 0, .int 0]))))) : bm_M (d + 1) 86 [.ref b] (n, s, F) Q := by
  refine bw_enter rfl rfl rfl rfl ?_
  refine w_aload_n (p := 1) (pI pM_86 rfl) rfl rfl ?_
  refine w_objinit (p := 4) (pI pM_86 rfl) rfl rfl rfl rfl rfl ?_
  refine w_aload_n (p := 5) (pI pM_86 rfl) rfl rfl ?_
  refine w_bipush (p := 7) (v := 60) (pI pM_86 rfl) rfl (by decide) ?_
  refine z_newarray (p := 9) (N := 60) (t := 0) (pI pM_86 rfl) rfl rfl rfl rfl rfl ?_
  refine z_putfield (p := 12) (fs := [.null, .int 0, .int 0]) (fs2 := [.ref n, .int 0, .int 0]) (pI pM_86 rfl) rfl rfl rfl h3 (by omega) rfl (up_old hc (by omega)) rfl rfl rfl rfl (Or.inr ⟨rfl, rfl, rfl⟩) rfl ?_
  exact w_return (pI pM_86 rfl) rfl hQ
theorem k_Program (d : Nat) {n s b : Nat} {F : Nat → bm_C} {Q : bm_Q} (h3 : 3 ≤ b) (hb : b < n) (hc : F b = .inr (.inr (4, [.int 0, .null, .null, .null, .null, .null, .null, .null, .null, .null]))) (hQ : Q none (n + 9, s + 594, va_up (va_up (va_up (va_up (va_up (va_up (va_up (va_up (va_up (va_up (va_up (va_up (va_up (va_up (va_up (va_up (va_up (va_up F n (cI 6)) b (.inr (.inr (4, [.int 0, .ref n, .null, .null, .null, .null, .null, .null, .null, .null])))) (n + 1) (cI 6)) b (.inr (.inr (4, [.int 0, .ref n, .ref (n + 1), .null, .null, .null, .null, .null, .null, .null])))) (n + 2) (cI 240)) b (.inr (.inr (4, [.int 0, .ref n, .ref (n + 1), .ref (n + 2), .null, .null, .null, .null, .null, .null])))) (n + 3) (cI 240)) b (.inr (.inr (4, [.int 0, .ref n, .ref (n + 1), .ref (n + 2), .ref (n + 3), .null, .null, .null, .null, .null])))) (n + 4) (cI 6)) b (.inr (.inr (4, [.int 0, .ref n, .ref (n + 1), .ref (n + 2), .ref (n + 3), .ref (n + 4), .null, .null, .null, .null])))) (n + 5) (cI 24)) b (.inr (.inr (4, [.int 0, .ref n, .ref (n + 1), .ref (n + 2), .ref (n + 3), .ref (n + 4), .ref (n + 5), .null, .null, .null])))) (n + 6) (cI 24)) b (.inr (.inr (4, [.int 0, .ref n, .ref (n + 1), .ref (n + 2), .ref (n + 3), .ref (n + 4), .ref (n + 5), .ref (n + 6), .null, .null])))) (n + 7) (cI 24)) b (.inr (.inr (4, [.int 0, .ref n, .ref (n + 1), .ref (n + 2), .ref (n + 3), .ref (n + 4), .ref (n + 5), .ref (n + 6), .ref (n + 7), .null])))) (n + 8) (cI 24)) b (.inr (.inr (4, [.int 0, .ref n, .ref (n + 1), .ref (n + 2), .ref (n + 3), .ref (n + 4), .ref (n + 5), .ref (n + 6), .ref (n + 7), .ref (n + 8)]))))) : bm_M (d + 1) 72 [.ref b] (n, s, F) Q := by
  refine bw_enter rfl rfl rfl rfl ?_
  refine w_aload_n (p := 1) (pI pM_72 rfl) rfl rfl ?_
  refine w_objinit (p := 4) (pI pM_72 rfl) rfl rfl rfl rfl rfl ?_
  refine w_aload_n (p := 5) (pI pM_72 rfl) rfl rfl ?_
  refine w_bipush (p := 7) (v := 6) (pI pM_72 rfl) rfl (by decide) ?_
  refine z_newarray (p := 9) (N := 6) (t := 0) (pI pM_72 rfl) rfl rfl rfl rfl rfl ?_
  refine z_putfield (p := 12) (fs := [.int 0, .null, .null, .null, .null, .null, .null, .null, .null, .null]) (fs2 := [.int 0, .ref n, .null, .null, .null, .null, .null, .null, .null, .null]) (pI pM_72 rfl) rfl rfl rfl h3 (by omega) rfl (up_old hc (by omega)) rfl rfl rfl rfl (Or.inr ⟨rfl, rfl, rfl⟩) rfl ?_
  refine w_aload_n (p := 13) (pI pM_72 rfl) rfl rfl ?_
  refine w_bipush (p := 15) (v := 6) (pI pM_72 rfl) rfl (by decide) ?_
  refine z_newarray (p := 17) (N := 6) (t := 0) (pI pM_72 rfl) rfl rfl rfl rfl rfl ?_
  refine z_putfield (p := 20) (fs := [.int 0, .ref n, .null, .null, .null, .null, .null, .null, .null, .null]) (fs2 := [.int 0, .ref n, .ref (n + 1), .null, .null, .null, .null, .null, .null, .null]) (pI pM_72 rfl) rfl rfl rfl h3 (by omega) rfl (up_old up_here (by omega)) rfl rfl rfl rfl (Or.inr ⟨rfl, rfl, rfl⟩) rfl ?_
  refine w_aload_n (p := 21) (pI pM_72 rfl) rfl rfl ?_
  refine w_sipush (p := 24) (v := 240) (pI pM_72 rfl) rfl (by decide) ?_
  refine z_newarray (p := 26) (N := 240) (t := 0) (pI pM_72 rfl) rfl rfl rfl rfl rfl ?_
  refine z_putfield (p := 29) (fs := [.int 0, .ref n, .ref (n + 1), .null, .null, .null, .null, .null, .null, .null]) (fs2 := [.int 0, .ref n, .ref (n + 1), .ref (n + 2), .null, .null, .null, .null, .null, .null]) (pI pM_72 rfl) rfl rfl rfl h3 (by omega) rfl (up_old up_here (by omega)) rfl rfl rfl rfl (Or.inr ⟨rfl, rfl, rfl⟩) rfl ?_
  refine w_aload_n (p := 30) (pI pM_72 rfl) rfl rfl ?_
  refine w_sipush (p := 33) (v := 240) (pI pM_72 rfl) rfl (by decide) ?_
  refine z_newarray (p := 35) (N := 240) (t := 0) (pI pM_72 rfl) rfl rfl rfl rfl rfl ?_
  refine z_putfield (p := 38) (fs := [.int 0, .ref n, .ref (n + 1), .ref (n + 2), .null, .null, .null, .null, .null, .null]) (fs2 := [.int 0, .ref n, .ref (n + 1), .ref (n + 2), .ref (n + 3), .null, .null, .null, .null, .null]) (pI pM_72 rfl) rfl rfl rfl h3 (by omega) rfl (up_old up_here (by omega)) rfl rfl rfl rfl (Or.inr ⟨rfl, rfl, rfl⟩) rfl ?_
  refine w_aload_n (p := 39) (pI pM_72 rfl) rfl rfl ?_
  refine w_bipush (p := 41) (v := 6) (pI pM_72 rfl) rfl (by decide) ?_
  refine z_newarray (p := 43) (N := 6) (t := 0) (pI pM_72 rfl) rfl rfl rfl rfl rfl ?_
  refine z_putfield (p := 46) (fs := [.int 0, .ref n, .ref (n + 1), .ref (n + 2), .ref (n + 3), .null, .null, .null, .null, .null]) (fs2 := [.int 0, .ref n, .ref (n + 1), .ref (n + 2), .ref (n + 3), .ref (n + 4), .null, .null, .null, .null]) (pI pM_72 rfl) rfl rfl rfl h3 (by omega) rfl (up_old up_here (by omega)) rfl rfl rfl rfl (Or.inr ⟨rfl, rfl, rfl⟩) rfl ?_
  refine w_aload_n (p := 47) (pI pM_72 rfl) rfl rfl ?_
  refine w_bipush (p := 49) (v := 24) (pI pM_72 rfl) rfl (by decide) ?_
  refine z_newarray (p := 51) (N := 24) (t := 0) (pI pM_72 rfl) rfl rfl rfl rfl rfl ?_
  refine z_putfield (p := 54) (fs := [.int 0, .ref n, .ref (n + 1), .ref (n + 2), .ref (n + 3), .ref (n + 4), .null, .null, .null, .null]) (fs2 := [.int 0, .ref n, .ref (n + 1), .ref (n + 2), .ref (n + 3), .ref (n + 4), .ref (n + 5), .null, .null, .null]) (pI pM_72 rfl) rfl rfl rfl h3 (by omega) rfl (up_old up_here (by omega)) rfl rfl rfl rfl (Or.inr ⟨rfl, rfl, rfl⟩) rfl ?_
  refine w_aload_n (p := 55) (pI pM_72 rfl) rfl rfl ?_
  refine w_bipush (p := 57) (v := 24) (pI pM_72 rfl) rfl (by decide) ?_
  refine z_newarray (p := 59) (N := 24) (t := 0) (pI pM_72 rfl) rfl rfl rfl rfl rfl ?_
  refine z_putfield (p := 62) (fs := [.int 0, .ref n, .ref (n + 1), .ref (n + 2), .ref (n + 3), .ref (n + 4), .ref (n + 5), .null, .null, .null]) (fs2 := [.int 0, .ref n, .ref (n + 1), .ref (n + 2), .ref (n + 3), .ref (n + 4), .ref (n + 5), .ref (n + 6), .null, .null]) (pI pM_72 rfl) rfl rfl rfl h3 (by omega) rfl (up_old up_here (by omega)) rfl rfl rfl rfl (Or.inr ⟨rfl, rfl, rfl⟩) rfl ?_
  refine w_aload_n (p := 63) (pI pM_72 rfl) rfl rfl ?_
  refine w_bipush (p := 65) (v := 24) (pI pM_72 rfl) rfl (by decide) ?_
  refine z_newarray (p := 67) (N := 24) (t := 0) (pI pM_72 rfl) rfl rfl rfl rfl rfl ?_
  refine z_putfield (p := 70) (fs := [.int 0, .ref n, .ref (n + 1), .ref (n + 2), .ref (n + 3), .ref (n + 4), .ref (n + 5), .ref (n + 6), .null, .null]) (fs2 := [.int 0, .ref n, .ref (n + 1), .ref (n + 2), .ref (n + 3), .ref (n + 4), .ref (n + 5), .ref (n + 6), .ref (n + 7), .null]) (pI pM_72 rfl) rfl rfl rfl h3 (by omega) rfl (up_old up_here (by omega)) rfl rfl rfl rfl (Or.inr ⟨rfl, rfl, rfl⟩) rfl ?_
  refine w_aload_n (p := 71) (pI pM_72 rfl) rfl rfl ?_
  refine w_bipush (p := 73) (v := 24) (pI pM_72 rfl) rfl (by decide) ?_
  refine z_newarray (p := 75) (N := 24) (t := 0) (pI pM_72 rfl) rfl rfl rfl rfl rfl ?_
  refine z_putfield (p := 78) (fs := [.int 0, .ref n, .ref (n + 1), .ref (n + 2), .ref (n + 3), .ref (n + 4), .ref (n + 5), .ref (n + 6), .ref (n + 7), .null]) (fs2 := [.int 0, .ref n, .ref (n + 1), .ref (n + 2), .ref (n + 3), .ref (n + 4), .ref (n + 5), .ref (n + 6), .ref (n + 7), .ref (n + 8)]) (pI pM_72 rfl) rfl rfl rfl h3 (by omega) rfl (up_old up_here (by omega)) rfl rfl rfl rfl (Or.inr ⟨rfl, rfl, rfl⟩) rfl ?_
  exact w_return (pI pM_72 rfl) rfl hQ
