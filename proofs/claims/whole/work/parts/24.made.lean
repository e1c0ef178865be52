/-! SHARING, SEARCH, PATHRUNNER at their own addresses -/
theorem z_getfield {d mi : Nat} {Q : bm_Q} {pc p : Nat} {ls r : List Value} {n s : Nat} {F : Nat → bm_C} {m a ci kf ne : Nat} {fs : List Value} {v : Value} (hi : pm_ins mi pc = some (.getfield m, 3)) (e : pc + 3 = p) (hx : decide (m < 1000) = true) (hf : pm_fT.lookup (bm_key mi m) = some (ci, kf, ne)) (h3 : 3 ≤ a) (ha : a < n) (hc : F a = .inr (.inr (ci, fs))) (hv : fs[kf]? = some v) (k : bm_W (bm_M d) mi Q p ls (v :: r) (n, s, F)) : bm_W (bm_M d) mi Q pc ls (.ref a :: r) (n, s, F) := w_getfield hi e hx hf h3 ha hc hv k
def shN (F : Nat → bm_C) : Nat → bm_C := va_up (va_up (va_up (va_up (va_up (va_up (va_up (va_up (va_up (va_up (va_up (va_up (va_up (va_up (va_up (va_up (va_up (va_up (va_up (va_up F 45 (.inr (.inl (2, 8, fun _ => none)))) 44 (.inr (.inr (7, [.ref 45, .null, .null, .null])))) 46 (.inl (0, 8, zI))) 44 (.inr (.inr (7, [.ref 45, .ref 46, .null, .null])))) 47 (.inr (.inr (8, [.null, .null, .null, .int 0])))) 48 (cI 60)) 47 (.inr (.inr (8, [.ref 48, .null, .null, .int 0])))) 49 (cI 61)) 47 (.inr (.inr (8, [.ref 48, .ref 49, .null, .int 0])))) 50 (cI 60)) 47 (.inr (.inr (8, [.ref 48, .ref 49, .ref 50, .int 0])))) 44 (.inr (.inr (7, [.ref 45, .ref 46, .ref 47, .null])))) 51 (.inr (.inr (8, [.null, .null, .null, .int 0])))) 52 (cI 60)) 51 (.inr (.inr (8, [.ref 52, .null, .null, .int 0])))) 53 (cI 61)) 51 (.inr (.inr (8, [.ref 52, .ref 53, .null, .int 0])))) 54 (cI 60)) 51 (.inr (.inr (8, [.ref 52, .ref 53, .ref 54, .int 0])))) 44 (.inr (.inr (7, [.ref 45, .ref 46, .ref 47, .ref 51])))
theorem shN_keep {F : Nat → bm_C} {a : Nat} {x : bm_C} (h : F a = x) (ha : a < 44 ∨ 71 ≤ a) : shN F a = x := by
  unfold shN
  repeat rw [va_up_ne _ _ (by omega)]
  exact h
theorem sh_keep {F : Nat → bm_C} {a : Nat} {x : bm_C} (h : F a = x) (ha : a < 44 ∨ 71 ≤ a) : sh_F (shN F) 8 a = x := by
  unfold sh_F
  rw [if_neg (by omega), if_neg (by omega)]
  exact shN_keep h ha
theorem shN_44 (F : Nat → bm_C) : shN F 44 = .inr (.inr (7, [.ref 45, .ref 46, .ref 47, .ref 51])) := up_here
theorem shN_45 (F : Nat → bm_C) : shN F 45 = .inr (.inl (2, 8, fun _ => none)) := (up_old (up_old (up_old (up_old (up_old (up_old (up_old (up_old (up_old (up_old (up_old (up_old (up_old (up_old (up_old (up_old (up_old (up_old (up_old up_here (by decide)) (by decide)) (by decide)) (by decide)) (by decide)) (by decide)) (by decide)) (by decide)) (by decide)) (by decide)) (by decide)) (by decide)) (by decide)) (by decide)) (by decide)) (by decide)) (by decide)) (by decide)) (by decide))
theorem k_Sharing (d : Nat) {s : Nat} {F : Nat → bm_C} {Q : bm_Q} (hc : F 44 = .inr (.inr (7, [.null, .null, .null, .null]))) (hQ : Q none (71, s + 8 + 8 + 4 + 181 + 4 + 181 + 33 * 8, sh_F (shN F) 8)) : bm_M (d + 2) 104 [.ref 44] (45, s, F) Q := by
  refine bw_enter rfl rfl rfl rfl ?_
  refine w_aload_n (p := 1) (pI pM_104 rfl) rfl rfl ?_
  refine w_objinit (p := 4) (pI pM_104 rfl) rfl rfl rfl rfl rfl ?_
  refine w_aload_n (p := 5) (pI pM_104 rfl) rfl rfl ?_
  refine w_bipush (p := 7) (v := 8) (pI pM_104 rfl) rfl (by decide) ?_
  refine z_anewarray (p := 10) (N := 8) (pI pM_104 rfl) rfl rfl rfl rfl rfl rfl ?_
  refine z_putfield (p := 13) (a := 44) (fs := [.null, .null, .null, .null]) (fs2 := [.ref 45, .null, .null, .null]) (pI pM_104 rfl) rfl rfl rfl (by decide) (by decide) rfl (up_old hc (by decide)) rfl rfl rfl rfl (Or.inr ⟨rfl, rfl, rfl⟩) rfl ?_
  refine w_aload_n (p := 14) (pI pM_104 rfl) rfl rfl ?_
  refine w_bipush (p := 16) (v := 8) (pI pM_104 rfl) rfl (by decide) ?_
  refine z_newarray (p := 18) (N := 8) (t := 0) (pI pM_104 rfl) rfl rfl rfl rfl rfl ?_
  refine z_putfield (p := 21) (a := 44) (fs := [.ref 45, .null, .null, .null]) (fs2 := [.ref 45, .ref 46, .null, .null]) (pI pM_104 rfl) rfl rfl rfl (by decide) (by decide) rfl (up_old up_here (by decide)) rfl rfl rfl rfl (Or.inr ⟨rfl, rfl, rfl⟩) rfl ?_
  refine w_aload_n (p := 22) (pI pM_104 rfl) rfl rfl ?_
  refine z_new (p := 25) (x := .inr (.inr (8, [.null, .null, .null, .int 0]))) (pI pM_104 rfl) rfl rfl rfl rfl rfl ?_
  refine w_dup (p := 26) (pI pM_104 rfl) rfl rfl ?_
  refine z_special (p := 29) (mj := 109) (a := 47) (pI pM_104 rfl) rfl rfl rfl rfl rfl rfl rfl rfl rfl rfl (by decide) (by decide) up_here ?_
  refine k_Tokens _ (n := 48) (b := 47) (by decide) (by decide) up_here ?_
  refine z_putfield (p := 32) (a := 44) (fs := [.ref 45, .ref 46, .null, .null]) (fs2 := [.ref 45, .ref 46, .ref 47, .null]) (pI pM_104 rfl) rfl rfl rfl (by decide) (by decide) rfl (up_old (up_old (up_old (up_old (up_old (up_old (up_old up_here (by decide)) (by decide)) (by decide)) (by decide)) (by decide)) (by decide)) (by decide)) rfl rfl rfl rfl (Or.inr ⟨rfl, rfl, rfl⟩) rfl ?_
  refine w_aload_n (p := 33) (pI pM_104 rfl) rfl rfl ?_
  refine z_new (p := 36) (x := .inr (.inr (8, [.null, .null, .null, .int 0]))) (pI pM_104 rfl) rfl rfl rfl rfl rfl ?_
  refine w_dup (p := 37) (pI pM_104 rfl) rfl rfl ?_
  refine z_special (p := 40) (mj := 109) (a := 51) (pI pM_104 rfl) rfl rfl rfl rfl rfl rfl rfl rfl rfl rfl (by decide) (by decide) up_here ?_
  refine k_Tokens _ (n := 52) (b := 51) (by decide) (by decide) up_here ?_
  refine z_putfield (p := 43) (a := 44) (fs := [.ref 45, .ref 46, .ref 47, .null]) (fs2 := [.ref 45, .ref 46, .ref 47, .ref 51]) (pI pM_104 rfl) rfl rfl rfl (by decide) (by decide) rfl (up_old (up_old (up_old (up_old (up_old (up_old (up_old up_here (by decide)) (by decide)) (by decide)) (by decide)) (by decide)) (by decide)) (by decide)) rfl rfl rfl rfl (Or.inr ⟨rfl, rfl, rfl⟩) rfl ?_
  refine w_iconst (p := 44) (v := nI 0) (pI pM_104 rfl) rfl rfl ?_
  refine w_istore_n (p := 45) (pI pM_104 rfl) rfl rfl rfl ?_
  have k := sh_loop d (s + 8 + 8 + 4 + 181 + 4 + 181) (F := shN F) (shN_44 F) hQ 8 0 rfl
  rw [sh_0 _ (shN_45 F)] at k
  exact k
def srN (F : Nat → bm_C) (x : Int32) : Nat → bm_C := va_up (va_up (sh_F (shN (va_up (va_up (va_up (va_up (va_up (va_up (va_up (va_up (va_up (va_up (va_up (va_up (va_up (va_up (va_up (va_up (va_up (va_up (va_up (va_up (va_up (va_up (va_up (va_up (va_up (va_up (va_up (va_up (va_up (va_up (va_up (va_up (va_up (va_up (va_up (va_up (va_up (va_up (va_up (va_up (va_up (va_up (va_up (va_up (va_up (va_up (va_up (va_up F 21 (.inr (.inr (3, [.null, .null])))) 22 (.inr (.inr (4, [.int 0, .null, .null, .null, .null, .null, .null, .null, .null, .null])))) 23 (cI 6)) 22 (.inr (.inr (4, [.int 0, .ref 23, .null, .null, .null, .null, .null, .null, .null, .null])))) 24 (cI 6)) 22 (.inr (.inr (4, [.int 0, .ref 23, .ref 24, .null, .null, .null, .null, .null, .null, .null])))) 25 (cI 240)) 22 (.inr (.inr (4, [.int 0, .ref 23, .ref 24, .ref 25, .null, .null, .null, .null, .null, .null])))) 26 (cI 240)) 22 (.inr (.inr (4, [.int 0, .ref 23, .ref 24, .ref 25, .ref 26, .null, .null, .null, .null, .null])))) 27 (cI 6)) 22 (.inr (.inr (4, [.int 0, .ref 23, .ref 24, .ref 25, .ref 26, .ref 27, .null, .null, .null, .null])))) 28 (cI 24)) 22 (.inr (.inr (4, [.int 0, .ref 23, .ref 24, .ref 25, .ref 26, .ref 27, .ref 28, .null, .null, .null])))) 29 (cI 24)) 22 (.inr (.inr (4, [.int 0, .ref 23, .ref 24, .ref 25, .ref 26, .ref 27, .ref 28, .ref 29, .null, .null])))) 30 (cI 24)) 22 (.inr (.inr (4, [.int 0, .ref 23, .ref 24, .ref 25, .ref 26, .ref 27, .ref 28, .ref 29, .ref 30, .null])))) 31 (cI 24)) 22 (.inr (.inr (4, [.int 0, .ref 23, .ref 24, .ref 25, .ref 26, .ref 27, .ref 28, .ref 29, .ref 30, .ref 31])))) 21 (.inr (.inr (3, [.ref 22, .null])))) 32 (.inr (.inr (1, [.null, .null, .null, .null, .int 0])))) 33 (cI 32258)) 32 (.inr (.inr (1, [.ref 33, .null, .null, .null, .int 0])))) 34 (cI 32258)) 32 (.inr (.inr (1, [.ref 33, .ref 34, .null, .null, .int 0])))) 35 (cI 32258)) 32 (.inr (.inr (1, [.ref 33, .ref 34, .ref 35, .null, .int 0])))) 36 (cI 32258)) 32 (.inr (.inr (1, [.ref 33, .ref 34, .ref 35, .ref 36, .int 0])))) 32 (.inr (.inr (1, [.ref 33, .ref 34, .ref 35, .ref 36, .int 258])))) 21 (.inr (.inr (3, [.ref 22, .ref 32])))) 20 (.inr (.inr (6, [.ref 21, .int 0, .null, .null, .int 0, .null, .null, .int 0, .null, .int 0, .int 0, .null, .int 0, .null, .int 0, .int 0, .int 0, .int 0])))) 37 (.inr (.inl (9, 161, fun _ => none)))) 20 (.inr (.inr (6, [.ref 21, .int 0, .ref 37, .null, .int 0, .null, .null, .int 0, .null, .int 0, .int 0, .null, .int 0, .null, .int 0, .int 0, .int 0, .int 0])))) 38 (.inl (0, 161, zI))) 20 (.inr (.inr (6, [.ref 21, .int 0, .ref 37, .ref 38, .int 0, .null, .null, .int 0, .null, .int 0, .int 0, .null, .int 0, .null, .int 0, .int 0, .int 0, .int 0])))) 39 (.inr (.inr (5, [.null, .int 0, .int 0])))) 40 (cI 60)) 39 (.inr (.inr (5, [.ref 40, .int 0, .int 0])))) 20 (.inr (.inr (6, [.ref 21, .int 0, .ref 37, .ref 38, .int 0, .ref 39, .null, .int 0, .null, .int 0, .int 0, .null, .int 0, .null, .int 0, .int 0, .int 0, .int 0])))) 41 (.inl (0, 100, zI))) 20 (.inr (.inr (6, [.ref 21, .int 0, .ref 37, .ref 38, .int 0, .ref 39, .ref 41, .int 0, .null, .int 0, .int 0, .null, .int 0, .null, .int 0, .int 0, .int 0, .int 0])))) 42 (.inl (0, 240, zI))) 20 (.inr (.inr (6, [.ref 21, .int 0, .ref 37, .ref 38, .int 0, .ref 39, .ref 41, .int 0, .ref 42, .int 0, .int 0, .null, .int 0, .null, .int 0, .int 0, .int 0, .int 0])))) 43 (.inl (0, 30, zI))) 20 (.inr (.inr (6, [.ref 21, .int 0, .ref 37, .ref 38, .int 0, .ref 39, .ref 41, .int 0, .ref 42, .int 0, .int 0, .ref 43, .int 0, .null, .int 0, .int 0, .int 0, .int 0])))) 44 (.inr (.inr (7, [.null, .null, .null, .null]))))) 8) 20 (.inr (.inr (6, [.ref 21, .int 0, .ref 37, .ref 38, .int 0, .ref 39, .ref 41, .int 0, .ref 42, .int 0, .int 0, .ref 43, .int 0, .ref 44, .int 0, .int 0, .int 0, .int 0])))) 20 (.inr (.inr (6, [.ref 21, .int x, .ref 37, .ref 38, .int 0, .ref 39, .ref 41, .int 0, .ref 42, .int 0, .int 0, .ref 43, .int 0, .ref 44, .int 0, .int 0, .int 0, .int 0])))
theorem srN_20 (F : Nat → bm_C) (x : Int32) : srN F x 20 = .inr (.inr (6, [.ref 21, .int x, .ref 37, .ref 38, .int 0, .ref 39, .ref 41, .int 0, .ref 42, .int 0, .int 0, .ref 43, .int 0, .ref 44, .int 0, .int 0, .int 0, .int 0])) := up_here
theorem srN_37 (F : Nat → bm_C) (x : Int32) : srN F x 37 = .inr (.inl (9, 161, fun _ => none)) := (up_old (up_old (sh_keep (up_old (up_old (up_old (up_old (up_old (up_old (up_old (up_old (up_old (up_old (up_old (up_old (up_old (up_old up_here (by decide)) (by decide)) (by decide)) (by decide)) (by decide)) (by decide)) (by decide)) (by decide)) (by decide)) (by decide)) (by decide)) (by decide)) (by decide)) (by decide)) (by decide)) (by decide)) (by decide))
theorem srN_21 (F : Nat → bm_C) (x : Int32) : srN F x 21 = .inr (.inr (3, [.ref 22, .ref 32])) := (up_old (up_old (sh_keep (up_old (up_old (up_old (up_old (up_old (up_old (up_old (up_old (up_old (up_old (up_old (up_old (up_old (up_old (up_old (up_old up_here (by decide)) (by decide)) (by decide)) (by decide)) (by decide)) (by decide)) (by decide)) (by decide)) (by decide)) (by decide)) (by decide)) (by decide)) (by decide)) (by decide)) (by decide)) (by decide)) (by decide)) (by decide)) (by decide))
theorem srN_keep {F : Nat → bm_C} {x : Int32} {a : Nat} {y : bm_C} (h : F a = y) (ha : a < 20) : srN F x a = y := by
  exact (up_old (up_old (sh_keep (up_old (up_old (up_old (up_old (up_old (up_old (up_old (up_old (up_old (up_old (up_old (up_old (up_old (up_old (up_old (up_old (up_old (up_old (up_old (up_old (up_old (up_old (up_old (up_old (up_old (up_old (up_old (up_old (up_old (up_old (up_old (up_old (up_old (up_old (up_old (up_old (up_old (up_old (up_old (up_old (up_old (up_old (up_old (up_old (up_old (up_old (up_old (up_old h (by omega)) (by omega)) (by omega)) (by omega)) (by omega)) (by omega)) (by omega)) (by omega)) (by omega)) (by omega)) (by omega)) (by omega)) (by omega)) (by omega)) (by omega)) (by omega)) (by omega)) (by omega)) (by omega)) (by omega)) (by omega)) (by omega)) (by omega)) (by omega)) (by omega)) (by omega)) (by omega)) (by omega)) (by omega)) (by omega)) (by omega)) (by omega)) (by omega)) (by omega)) (by omega)) (by omega)) (by omega)) (by omega)) (by omega)) (by omega)) (by omega)) (by omega)) (by omega)) (by omega)) (by omega)) (by omega)) (by omega)) (by omega)) (Or.inl (by omega))) (by omega)) (by omega))
theorem wy_keep {F : Nat → bm_C} {a : Nat} {y : bm_C} (h : F a = y) (ha : a < 37) : wy_F F 161 a = y := by
  unfold wy_F
  rw [if_neg (by omega), if_neg (by omega)]
  exact h
theorem k_Search (d : Nat) {s : Nat} {F : Nat → bm_C} {Q : bm_Q} {x : Int32} (hc : F 20 = .inr (.inr (6, [.null, .int 0, .null, .null, .int 0, .null, .null, .int 0, .null, .int 0, .int 0, .null, .int 0, .null, .int 0, .int 0, .int 0, .int 0]))) (hQ : Q none (1681, s + 2 + 10 + 594 + 5 + 32258 + 32258 + 32258 + 32258 + 161 + 161 + 3 + 60 + 100 + 240 + 30 + 4 + 8 + 8 + 4 + 181 + 4 + 181 + 33 * 8 + 359 * 161, wy_F (srN F x) 161)) : bm_M (d + 3) 94 [.ref 20, .int x] (21, s, F) Q := by
  refine bw_enter rfl rfl rfl rfl ?_
  refine w_aload_n (p := 1) (pI pM_94 rfl) rfl rfl ?_
  refine w_objinit (p := 4) (pI pM_94 rfl) rfl rfl rfl rfl rfl ?_
  refine w_aload_n (p := 5) (pI pM_94 rfl) rfl rfl ?_
  refine z_new (p := 8) (x := .inr (.inr (3, [.null, .null]))) (pI pM_94 rfl) rfl rfl rfl rfl rfl ?_
  refine w_dup (p := 9) (pI pM_94 rfl) rfl rfl ?_
  refine z_special (p := 12) (mj := 46) (a := 21) (pI pM_94 rfl) rfl rfl rfl rfl rfl rfl rfl rfl rfl rfl (by decide) (by decide) up_here ?_
  refine k_Machine _ (n := 22) (b := 21) (by decide) (by decide) up_here ?_
  refine z_putfield (p := 15) (a := 20) (fs := [.null, .int 0, .null, .null, .int 0, .null, .null, .int 0, .null, .int 0, .int 0, .null, .int 0, .null, .int 0, .int 0, .int 0, .int 0]) (fs2 := [.ref 21, .int 0, .null, .null, .int 0, .null, .null, .int 0, .null, .int 0, .int 0, .null, .int 0, .null, .int 0, .int 0, .int 0, .int 0]) (pI pM_94 rfl) rfl rfl rfl (by decide) (by decide) rfl (up_old (up_old (up_old (up_old (up_old (up_old (up_old (up_old (up_old (up_old (up_old (up_old (up_old (up_old (up_old (up_old (up_old (up_old (up_old (up_old (up_old (up_old (up_old (up_old (up_old (up_old (up_old (up_old (up_old (up_old (up_old (up_old hc (by decide)) (by decide)) (by decide)) (by decide)) (by decide)) (by decide)) (by decide)) (by decide)) (by decide)) (by decide)) (by decide)) (by decide)) (by decide)) (by decide)) (by decide)) (by decide)) (by decide)) (by decide)) (by decide)) (by decide)) (by decide)) (by decide)) (by decide)) (by decide)) (by decide)) (by decide)) (by decide)) (by decide)) (by decide)) (by decide)) (by decide)) (by decide)) rfl rfl rfl rfl (Or.inr ⟨rfl, rfl, rfl⟩) rfl ?_
  refine w_aload_n (p := 16) (pI pM_94 rfl) rfl rfl ?_
  refine w_sipush (p := 19) (v := 161) (pI pM_94 rfl) rfl (by decide) ?_
  refine z_anewarray (p := 22) (N := 161) (pI pM_94 rfl) rfl rfl rfl rfl rfl rfl ?_
  refine z_putfield (p := 25) (a := 20) (fs := [.ref 21, .int 0, .null, .null, .int 0, .null, .null, .int 0, .null, .int 0, .int 0, .null, .int 0, .null, .int 0, .int 0, .int 0, .int 0]) (fs2 := [.ref 21, .int 0, .ref 37, .null, .int 0, .null, .null, .int 0, .null, .int 0, .int 0, .null, .int 0, .null, .int 0, .int 0, .int 0, .int 0]) (pI pM_94 rfl) rfl rfl rfl (by decide) (by decide) rfl (up_old up_here (by decide)) rfl rfl rfl rfl (Or.inr ⟨rfl, rfl, rfl⟩) rfl ?_
  refine w_aload_n (p := 26) (pI pM_94 rfl) rfl rfl ?_
  refine w_sipush (p := 29) (v := 161) (pI pM_94 rfl) rfl (by decide) ?_
  refine z_newarray (p := 31) (N := 161) (t := 0) (pI pM_94 rfl) rfl rfl rfl rfl rfl ?_
  refine z_putfield (p := 34) (a := 20) (fs := [.ref 21, .int 0, .ref 37, .null, .int 0, .null, .null, .int 0, .null, .int 0, .int 0, .null, .int 0, .null, .int 0, .int 0, .int 0, .int 0]) (fs2 := [.ref 21, .int 0, .ref 37, .ref 38, .int 0, .null, .null, .int 0, .null, .int 0, .int 0, .null, .int 0, .null, .int 0, .int 0, .int 0, .int 0]) (pI pM_94 rfl) rfl rfl rfl (by decide) (by decide) rfl (up_old up_here (by decide)) rfl rfl rfl rfl (Or.inr ⟨rfl, rfl, rfl⟩) rfl ?_
  refine w_aload_n (p := 35) (pI pM_94 rfl) rfl rfl ?_
  refine z_new (p := 38) (x := .inr (.inr (5, [.null, .int 0, .int 0]))) (pI pM_94 rfl) rfl rfl rfl rfl rfl ?_
  refine w_dup (p := 39) (pI pM_94 rfl) rfl rfl ?_
  refine z_special (p := 42) (mj := 86) (a := 39) (pI pM_94 rfl) rfl rfl rfl rfl rfl rfl rfl rfl rfl rfl (by decide) (by decide) up_here ?_
  refine k_Row _ (n := 40) (b := 39) (by decide) (by decide) up_here ?_
  refine z_putfield (p := 45) (a := 20) (fs := [.ref 21, .int 0, .ref 37, .ref 38, .int 0, .null, .null, .int 0, .null, .int 0, .int 0, .null, .int 0, .null, .int 0, .int 0, .int 0, .int 0]) (fs2 := [.ref 21, .int 0, .ref 37, .ref 38, .int 0, .ref 39, .null, .int 0, .null, .int 0, .int 0, .null, .int 0, .null, .int 0, .int 0, .int 0, .int 0]) (pI pM_94 rfl) rfl rfl rfl (by decide) (by decide) rfl (up_old (up_old (up_old up_here (by decide)) (by decide)) (by decide)) rfl rfl rfl rfl (Or.inr ⟨rfl, rfl, rfl⟩) rfl ?_
  refine w_aload_n (p := 46) (pI pM_94 rfl) rfl rfl ?_
  refine w_bipush (p := 48) (v := 100) (pI pM_94 rfl) rfl (by decide) ?_
  refine z_newarray (p := 50) (N := 100) (t := 0) (pI pM_94 rfl) rfl rfl rfl rfl rfl ?_
  refine z_putfield (p := 53) (a := 20) (fs := [.ref 21, .int 0, .ref 37, .ref 38, .int 0, .ref 39, .null, .int 0, .null, .int 0, .int 0, .null, .int 0, .null, .int 0, .int 0, .int 0, .int 0]) (fs2 := [.ref 21, .int 0, .ref 37, .ref 38, .int 0, .ref 39, .ref 41, .int 0, .null, .int 0, .int 0, .null, .int 0, .null, .int 0, .int 0, .int 0, .int 0]) (pI pM_94 rfl) rfl rfl rfl (by decide) (by decide) rfl (up_old up_here (by decide)) rfl rfl rfl rfl (Or.inr ⟨rfl, rfl, rfl⟩) rfl ?_
  refine w_aload_n (p := 54) (pI pM_94 rfl) rfl rfl ?_
  refine w_sipush (p := 57) (v := 240) (pI pM_94 rfl) rfl (by decide) ?_
  refine z_newarray (p := 59) (N := 240) (t := 0) (pI pM_94 rfl) rfl rfl rfl rfl rfl ?_
  refine z_putfield (p := 62) (a := 20) (fs := [.ref 21, .int 0, .ref 37, .ref 38, .int 0, .ref 39, .ref 41, .int 0, .null, .int 0, .int 0, .null, .int 0, .null, .int 0, .int 0, .int 0, .int 0]) (fs2 := [.ref 21, .int 0, .ref 37, .ref 38, .int 0, .ref 39, .ref 41, .int 0, .ref 42, .int 0, .int 0, .null, .int 0, .null, .int 0, .int 0, .int 0, .int 0]) (pI pM_94 rfl) rfl rfl rfl (by decide) (by decide) rfl (up_old up_here (by decide)) rfl rfl rfl rfl (Or.inr ⟨rfl, rfl, rfl⟩) rfl ?_
  refine w_aload_n (p := 63) (pI pM_94 rfl) rfl rfl ?_
  refine w_bipush (p := 65) (v := 30) (pI pM_94 rfl) rfl (by decide) ?_
  refine z_newarray (p := 67) (N := 30) (t := 0) (pI pM_94 rfl) rfl rfl rfl rfl rfl ?_
  refine z_putfield (p := 70) (a := 20) (fs := [.ref 21, .int 0, .ref 37, .ref 38, .int 0, .ref 39, .ref 41, .int 0, .ref 42, .int 0, .int 0, .null, .int 0, .null, .int 0, .int 0, .int 0, .int 0]) (fs2 := [.ref 21, .int 0, .ref 37, .ref 38, .int 0, .ref 39, .ref 41, .int 0, .ref 42, .int 0, .int 0, .ref 43, .int 0, .null, .int 0, .int 0, .int 0, .int 0]) (pI pM_94 rfl) rfl rfl rfl (by decide) (by decide) rfl (up_old up_here (by decide)) rfl rfl rfl rfl (Or.inr ⟨rfl, rfl, rfl⟩) rfl ?_
  refine w_aload_n (p := 71) (pI pM_94 rfl) rfl rfl ?_
  refine z_new (p := 74) (x := .inr (.inr (7, [.null, .null, .null, .null]))) (pI pM_94 rfl) rfl rfl rfl rfl rfl ?_
  refine w_dup (p := 75) (pI pM_94 rfl) rfl rfl ?_
  refine z_special (p := 78) (mj := 104) (a := 44) (pI pM_94 rfl) rfl rfl rfl rfl rfl rfl rfl rfl rfl rfl (by decide) (by decide) up_here ?_
  refine k_Sharing _ up_here ?_
  refine z_putfield (p := 81) (a := 20) (fs := [.ref 21, .int 0, .ref 37, .ref 38, .int 0, .ref 39, .ref 41, .int 0, .ref 42, .int 0, .int 0, .ref 43, .int 0, .null, .int 0, .int 0, .int 0, .int 0]) (fs2 := [.ref 21, .int 0, .ref 37, .ref 38, .int 0, .ref 39, .ref 41, .int 0, .ref 42, .int 0, .int 0, .ref 43, .int 0, .ref 44, .int 0, .int 0, .int 0, .int 0]) (pI pM_94 rfl) rfl rfl rfl (by decide) (by decide) rfl (sh_keep (up_old up_here (by decide)) (by decide)) rfl rfl rfl rfl (Or.inr ⟨rfl, rfl, rfl⟩) rfl ?_
  refine w_aload_n (p := 82) (pI pM_94 rfl) rfl rfl ?_
  refine w_iload_n (p := 83) (pI pM_94 rfl) rfl rfl ?_
  refine z_putfield (p := 86) (a := 20) (fs := [.ref 21, .int 0, .ref 37, .ref 38, .int 0, .ref 39, .ref 41, .int 0, .ref 42, .int 0, .int 0, .ref 43, .int 0, .ref 44, .int 0, .int 0, .int 0, .int 0]) (fs2 := [.ref 21, .int x, .ref 37, .ref 38, .int 0, .ref 39, .ref 41, .int 0, .ref 42, .int 0, .int 0, .ref 43, .int 0, .ref 44, .int 0, .int 0, .int 0, .int 0]) (pI pM_94 rfl) rfl rfl rfl (by decide) (by decide) rfl up_here rfl rfl rfl rfl (Or.inr ⟨rfl, rfl, rfl⟩) rfl ?_
  refine w_iconst (p := 87) (v := nI 0) (pI pM_94 rfl) rfl rfl ?_
  refine w_istore_n (p := 88) (pI pM_94 rfl) rfl rfl rfl ?_
  have k := wy_loop d (s + 2 + 10 + 594 + 5 + 32258 + 32258 + 32258 + 32258 + 161 + 161 + 3 + 60 + 100 + 240 + 30 + 4 + 8 + 8 + 4 + 181 + 4 + 181 + 33 * 8) (F := srN F x) (x := x) (srN_20 F x) rfl hQ 161 0 rfl
  rw [wy_0 _ (srN_37 F x)] at k
  exact k
theorem way_keep {F : Nat → bm_C} {w a : Nat} {y : bm_C} (h : F a = y) (ha : a < w ∨ w + 10 ≤ a) : way_F F w a = y := by
  unfold way_F
  rw [if_neg (by omega)]
  exact h
def prN (F : Nat → bm_C) (x : Int32) : Nat → bm_C := va_up (va_up (va_up (va_up (wy_F (srN (va_up (va_up (va_up (va_up (va_up (va_up (va_up (va_up (va_up (va_up (va_up (va_up (va_up (va_up (way_F (va_up F 4 (.inr (.inr (9, [.null, .null, .null, .null, .int 0, .null, .null, .int 0, .null, .int 0, .null, .int 0, .int 0, .int 0, .int 0, .int 0, .int 0, .int 0])))) 4) 3 (.inr (.inr (0, [.null, .null, .null, .null, .ref 4, .null, .null, .int 0])))) 14 (.inr (.inr (8, [.null, .null, .null, .int 0])))) 15 (cI 60)) 14 (.inr (.inr (8, [.ref 15, .null, .null, .int 0])))) 16 (cI 61)) 14 (.inr (.inr (8, [.ref 15, .ref 16, .null, .int 0])))) 17 (cI 60)) 14 (.inr (.inr (8, [.ref 15, .ref 16, .ref 17, .int 0])))) 3 (.inr (.inr (0, [.null, .null, .null, .null, .ref 4, .ref 14, .null, .int 0])))) 18 (.inr (.inr (2, [.null])))) 19 (cI 32)) 18 (.inr (.inr (2, [.ref 19])))) 3 (.inr (.inr (0, [.null, .null, .null, .null, .ref 4, .ref 14, .ref 18, .int 0])))) 20 (.inr (.inr (6, [.null, .int 0, .null, .null, .int 0, .null, .null, .int 0, .null, .int 0, .int 0, .null, .int 0, .null, .int 0, .int 0, .int 0, .int 0])))) x) 161) 3 (.inr (.inr (0, [.ref 20, .null, .null, .null, .ref 4, .ref 14, .ref 18, .int 0])))) 3 (.inr (.inr (0, [.ref 20, .ref 21, .null, .null, .ref 4, .ref 14, .ref 18, .int 0])))) 3 (.inr (.inr (0, [.ref 20, .ref 21, .ref 22, .null, .ref 4, .ref 14, .ref 18, .int 0])))) 3 (.inr (.inr (0, [.ref 20, .ref 21, .ref 22, .ref 32, .ref 4, .ref 14, .ref 18, .int 0])))
theorem k_PathRunner (d : Nat) {s : Nat} {F : Nat → bm_C} {Q : bm_Q} {x : Int32} (hc : F 3 = .inr (.inr (0, [.null, .null, .null, .null, .null, .null, .null, .int 0]))) (hQ : Q none (1681, s + 18 + 341 + 4 + 181 + 1 + 32 + 18 + 2 + 10 + 594 + 5 + 32258 + 32258 + 32258 + 32258 + 161 + 161 + 3 + 60 + 100 + 240 + 30 + 4 + 8 + 8 + 4 + 181 + 4 + 181 + 33 * 8 + 359 * 161, prN F x)) : bm_M (d + 4) 0 [.ref 3, .int x] (4, s, F) Q := by
  refine bw_enter rfl rfl rfl rfl ?_
  refine w_aload_n (p := 1) (pI pM_0 rfl) rfl rfl ?_
  refine w_objinit (p := 4) (pI pM_0 rfl) rfl rfl rfl rfl rfl ?_
  refine w_aload_n (p := 5) (pI pM_0 rfl) rfl rfl ?_
  refine z_new (p := 8) (x := .inr (.inr (9, [.null, .null, .null, .null, .int 0, .null, .null, .int 0, .null, .int 0, .null, .int 0, .int 0, .int 0, .int 0, .int 0, .int 0, .int 0]))) (pI pM_0 rfl) rfl rfl rfl rfl rfl ?_
  refine w_dup (p := 9) (pI pM_0 rfl) rfl rfl ?_
  refine z_special (p := 12) (mj := 115) (a := 4) (pI pM_0 rfl) rfl rfl rfl rfl rfl rfl rfl rfl rfl rfl (by decide) (by decide) up_here ?_
  refine k_Way _ (w := 4) (by decide) up_here ?_
  refine z_putfield (p := 15) (a := 3) (fs := [.null, .null, .null, .null, .null, .null, .null, .int 0]) (fs2 := [.null, .null, .null, .null, .ref 4, .null, .null, .int 0]) (pI pM_0 rfl) rfl rfl rfl (by decide) (by decide) rfl (way_keep (up_old hc (by decide)) (by decide)) rfl rfl rfl rfl (Or.inr ⟨rfl, rfl, rfl⟩) rfl ?_
  refine w_aload_n (p := 16) (pI pM_0 rfl) rfl rfl ?_
  refine z_new (p := 19) (x := .inr (.inr (8, [.null, .null, .null, .int 0]))) (pI pM_0 rfl) rfl rfl rfl rfl rfl ?_
  refine w_dup (p := 20) (pI pM_0 rfl) rfl rfl ?_
  refine z_special (p := 23) (mj := 109) (a := 14) (pI pM_0 rfl) rfl rfl rfl rfl rfl rfl rfl rfl rfl rfl (by decide) (by decide) up_here ?_
  refine k_Tokens _ (n := 15) (b := 14) (by decide) (by decide) up_here ?_
  refine z_putfield (p := 26) (a := 3) (fs := [.null, .null, .null, .null, .ref 4, .null, .null, .int 0]) (fs2 := [.null, .null, .null, .null, .ref 4, .ref 14, .null, .int 0]) (pI pM_0 rfl) rfl rfl rfl (by decide) (by decide) rfl (up_old (up_old (up_old (up_old (up_old (up_old (up_old up_here (by decide)) (by decide)) (by decide)) (by decide)) (by decide)) (by decide)) (by decide)) rfl rfl rfl rfl (Or.inr ⟨rfl, rfl, rfl⟩) rfl ?_
  refine w_aload_n (p := 27) (pI pM_0 rfl) rfl rfl ?_
  refine z_new (p := 30) (x := .inr (.inr (2, [.null]))) (pI pM_0 rfl) rfl rfl rfl rfl rfl ?_
  refine w_dup (p := 31) (pI pM_0 rfl) rfl rfl ?_
  refine z_special (p := 34) (mj := 35) (a := 18) (pI pM_0 rfl) rfl rfl rfl rfl rfl rfl rfl rfl rfl rfl (by decide) (by decide) up_here ?_
  refine k_Inputs _ (n := 19) (b := 18) (by decide) (by decide) up_here ?_
  refine z_putfield (p := 37) (a := 3) (fs := [.null, .null, .null, .null, .ref 4, .ref 14, .null, .int 0]) (fs2 := [.null, .null, .null, .null, .ref 4, .ref 14, .ref 18, .int 0]) (pI pM_0 rfl) rfl rfl rfl (by decide) (by decide) rfl (up_old (up_old (up_old up_here (by decide)) (by decide)) (by decide)) rfl rfl rfl rfl (Or.inr ⟨rfl, rfl, rfl⟩) rfl ?_
  refine w_aload_n (p := 38) (pI pM_0 rfl) rfl rfl ?_
  refine z_new (p := 41) (x := .inr (.inr (6, [.null, .int 0, .null, .null, .int 0, .null, .null, .int 0, .null, .int 0, .int 0, .null, .int 0, .null, .int 0, .int 0, .int 0, .int 0]))) (pI pM_0 rfl) rfl rfl rfl rfl rfl ?_
  refine w_dup (p := 42) (pI pM_0 rfl) rfl rfl ?_
  refine w_iload_n (p := 43) (pI pM_0 rfl) rfl rfl ?_
  refine z_special (p := 46) (mj := 94) (a := 20) (pI pM_0 rfl) rfl rfl rfl rfl rfl rfl rfl rfl rfl rfl (by decide) (by decide) up_here ?_
  refine k_Search _ up_here ?_
  refine z_putfield (p := 49) (a := 3) (fs := [.null, .null, .null, .null, .ref 4, .ref 14, .ref 18, .int 0]) (fs2 := [.ref 20, .null, .null, .null, .ref 4, .ref 14, .ref 18, .int 0]) (pI pM_0 rfl) rfl rfl rfl (by decide) (by decide) rfl (wy_keep (srN_keep (up_old up_here (by decide)) (by decide)) (by decide)) rfl rfl rfl rfl (Or.inr ⟨rfl, rfl, rfl⟩) rfl ?_
  refine w_aload_n (p := 50) (pI pM_0 rfl) rfl rfl ?_
  refine w_aload_n (p := 51) (pI pM_0 rfl) rfl rfl ?_
  refine z_getfield (p := 54) (fs := [.ref 20, .null, .null, .null, .ref 4, .ref 14, .ref 18, .int 0]) (pI pM_0 rfl) rfl rfl rfl (by decide) (by decide) up_here rfl ?_
  refine z_getfield (p := 57) (fs := [.ref 21, .int x, .ref 37, .ref 38, .int 0, .ref 39, .ref 41, .int 0, .ref 42, .int 0, .int 0, .ref 43, .int 0, .ref 44, .int 0, .int 0, .int 0, .int 0]) (pI pM_0 rfl) rfl rfl rfl (by decide) (by decide) (up_old (wy_keep (srN_20 _ _) (by decide)) (by decide)) rfl ?_
  refine z_putfield (p := 60) (a := 3) (fs := [.ref 20, .null, .null, .null, .ref 4, .ref 14, .ref 18, .int 0]) (fs2 := [.ref 20, .ref 21, .null, .null, .ref 4, .ref 14, .ref 18, .int 0]) (pI pM_0 rfl) rfl rfl rfl (by decide) (by decide) rfl up_here rfl rfl rfl rfl (Or.inr ⟨rfl, rfl, rfl⟩) rfl ?_
  refine w_aload_n (p := 61) (pI pM_0 rfl) rfl rfl ?_
  refine w_aload_n (p := 62) (pI pM_0 rfl) rfl rfl ?_
  refine z_getfield (p := 65) (fs := [.ref 20, .ref 21, .null, .null, .ref 4, .ref 14, .ref 18, .int 0]) (pI pM_0 rfl) rfl rfl rfl (by decide) (by decide) up_here rfl ?_
  refine z_getfield (p := 68) (fs := [.ref 22, .ref 32]) (pI pM_0 rfl) rfl rfl rfl (by decide) (by decide) (up_old (up_old (wy_keep (srN_21 _ _) (by decide)) (by decide)) (by decide)) rfl ?_
  refine z_putfield (p := 71) (a := 3) (fs := [.ref 20, .ref 21, .null, .null, .ref 4, .ref 14, .ref 18, .int 0]) (fs2 := [.ref 20, .ref 21, .ref 22, .null, .ref 4, .ref 14, .ref 18, .int 0]) (pI pM_0 rfl) rfl rfl rfl (by decide) (by decide) rfl up_here rfl rfl rfl rfl (Or.inr ⟨rfl, rfl, rfl⟩) rfl ?_
  refine w_aload_n (p := 72) (pI pM_0 rfl) rfl rfl ?_
  refine w_aload_n (p := 73) (pI pM_0 rfl) rfl rfl ?_
  refine z_getfield (p := 76) (fs := [.ref 20, .ref 21, .ref 22, .null, .ref 4, .ref 14, .ref 18, .int 0]) (pI pM_0 rfl) rfl rfl rfl (by decide) (by decide) up_here rfl ?_
  refine z_getfield (p := 79) (fs := [.ref 22, .ref 32]) (pI pM_0 rfl) rfl rfl rfl (by decide) (by decide) (up_old (up_old (up_old (wy_keep (srN_21 _ _) (by decide)) (by decide)) (by decide)) (by decide)) rfl ?_
  refine z_putfield (p := 82) (a := 3) (fs := [.ref 20, .ref 21, .ref 22, .null, .ref 4, .ref 14, .ref 18, .int 0]) (fs2 := [.ref 20, .ref 21, .ref 22, .ref 32, .ref 4, .ref 14, .ref 18, .int 0]) (pI pM_0 rfl) rfl rfl rfl (by decide) (by decide) rfl up_here rfl rfl rfl rfl (Or.inr ⟨rfl, rfl, rfl⟩) rfl ?_
  exact w_return (pI pM_0 rfl) rfl hQ
