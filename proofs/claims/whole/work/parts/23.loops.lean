/-! the two loops that make rows of objects: 8 Inputs, 161 ways -/
theorem z_aastore {d mi : Nat} {Q : bm_Q} {pc p : Nat} {ls r : List Value} {n s : Nat} {F : Nat → bm_C} {a ci N v : Nat} {f f2 : Nat → Option Nat} {i : Int32} {fs : List Value} (hi : pm_ins mi pc = some (.aastore, 1)) (e : pc + 1 = p) (h3 : 3 ≤ a) (ha : a < n) (hv3 : 3 ≤ v) (hv : v < n) (hc : F a = .inr (.inl (ci, N, f))) (hin : vp_in i N) (hcv : F v = .inr (.inr (ci, fs))) (hf : va_up f i.toNatClampNeg (some v) = f2) (k : bm_W (bm_M d) mi Q p ls r (n, s, va_up F a (.inr (.inl (ci, N, f2))))) : bm_W (bm_M d) mi Q pc ls (.ref v :: .int i :: .ref a :: r) (n, s, F) := by
  subst hf
  exact w_aastore hi e h3 ha hv3 hv hc hin hcv k
def row_f (b w i : Nat) : Nat → Option Nat := fun j => if j < i then some (b + w * j) else none
theorem row_f_0 (b w : Nat) : row_f b w 0 = fun _ => none := by funext j; unfold row_f; rw [if_neg (by omega)]
theorem row_f_up {b w i : Nat} (hi : i < 2 ^ 31) : va_up (row_f b w i) (nI i).toNatClampNeg (some (b + w * i)) = row_f b w (i + 1) := by
  rw [nI_clamp hi]
  funext j
  unfold va_up row_f
  by_cases h : j = i
  · subst h; rw [if_pos rfl, if_pos (by omega)]
  · rw [if_neg h]
    by_cases h2 : j < i
    · rw [if_pos h2, if_pos (by omega)]
    · rw [if_neg h2, if_neg (by omega)]
def sh_F (F : Nat → bm_C) (i : Nat) : Nat → bm_C := fun k => if k = 45 then .inr (.inl (2, 8, row_f 55 2 i)) else if 55 ≤ k ∧ k < 55 + 2 * i then (if (k - 55) % 2 = 0 then .inr (.inr (2, [.ref (k + 1)])) else cI 32) else F k
theorem sh_step (F : Nat → bm_C) (i : Nat) : va_up (va_up (va_up (va_up (sh_F F i) (55 + 2 * i) (.inr (.inr (2, [.null])))) (55 + 2 * i + 1) (cI 32)) (55 + 2 * i) (.inr (.inr (2, [.ref (55 + 2 * i + 1)])))) 45 (.inr (.inl (2, 8, row_f 55 2 (i + 1)))) = sh_F F (i + 1) := by
  funext k
  unfold va_up sh_F
  by_cases h1 : k = 45
  · subst h1; rw [if_pos rfl, if_pos rfl]
  simp only [if_neg h1]
  by_cases h2 : k = 55 + 2 * i
  · subst h2; rw [if_pos rfl, if_pos (show 55 ≤ 55 + 2 * i ∧ 55 + 2 * i < 55 + 2 * (i + 1) by omega), if_pos (by omega)]
  rw [if_neg h2]
  by_cases h3 : k = 55 + 2 * i + 1
  · subst h3; rw [if_pos rfl, if_pos (show 55 ≤ 55 + 2 * i + 1 ∧ 55 + 2 * i + 1 < 55 + 2 * (i + 1) by omega), if_neg (by omega)]
  rw [if_neg h3, if_neg h2]
  by_cases h4 : 55 ≤ k ∧ k < 55 + 2 * i
  · rw [if_pos h4, if_pos (show 55 ≤ k ∧ k < 55 + 2 * (i + 1) by omega)]
  · rw [if_neg h4, if_neg (show ¬ (55 ≤ k ∧ k < 55 + 2 * (i + 1)) by omega)]
theorem sh_0 (F : Nat → bm_C) (h : F 45 = .inr (.inl (2, 8, fun _ => none))) : sh_F F 0 = F := by
  funext k
  unfold sh_F
  by_cases h1 : k = 45
  · subst h1; rw [if_pos rfl, row_f_0, h]
  · rw [if_neg h1, if_neg (by omega)]
theorem sh_loop (d s : Nat) {F : Nat → bm_C} {Q : bm_Q} (h44 : F 44 = .inr (.inr (7, [.ref 45, .ref 46, .ref 47, .ref 51]))) (hQ : Q none (71, s + 33 * 8, sh_F F 8)) : ∀ (m i : Nat), i + m = 8 → bm_W (bm_M (d + 1)) 104 Q 45 [.ref 44, .int (nI i)] [] (55 + 2 * i, s + 33 * i, sh_F F i) := by
  intro m
  induction m with
  | zero =>
    intro i hi
    obtain rfl : i = 8 := by omega
    refine w_iload_n (p := 46) (pI pM_104 rfl) rfl rfl ?_
    refine w_bipush (p := 48) (v := nI 8) (pI pM_104 rfl) rfl rfl ?_
    refine w_icmp_ge (p := 51) (q := 70) (pI pM_104 rfl) rfl rfl rfl (fun c_1 => ?_) (fun c_1 => ?_)
    · exact w_return (pI pM_104 rfl) rfl hQ
    · exact absurd (Int32.le_refl _) c_1
  | succ m ih =>
    intro i hi
    have hi8 : i < 8 := by omega
    refine w_iload_n (p := 46) (pI pM_104 rfl) rfl rfl ?_
    refine w_bipush (p := 48) (v := nI 8) (pI pM_104 rfl) rfl rfl ?_
    refine w_icmp_ge (p := 51) (q := 70) (pI pM_104 rfl) rfl rfl rfl (fun c_1 => ?_) (fun c_1 => ?_)
    · exact absurd c_1 (nI_ge hi8 (by decide))
    · have g44 : sh_F F i 44 = .inr (.inr (7, [.ref 45, .ref 46, .ref 47, .ref 51])) := by
        unfold sh_F; rw [if_neg (by decide), if_neg (by omega)]; exact h44
      have g45 : sh_F F i 45 = .inr (.inl (2, 8, row_f 55 2 i)) := by
        unfold sh_F; rw [if_pos rfl]
      refine w_aload_n (p := 52) (pI pM_104 rfl) rfl rfl ?_
      refine w_getfield (p := 55) (pI pM_104 rfl) rfl rfl rfl (by decide) (show 44 < 55 + 2 * i by omega) g44 rfl ?_
      refine w_iload_n (p := 56) (pI pM_104 rfl) rfl rfl ?_
      refine z_new (p := 59) (x := .inr (.inr (2, [.null]))) (pI pM_104 rfl) rfl rfl rfl rfl rfl ?_
      refine w_dup (p := 60) (pI pM_104 rfl) rfl rfl ?_
      refine z_special (p := 63) (mj := 35) (pI pM_104 rfl) rfl rfl rfl rfl rfl rfl rfl rfl rfl rfl (by omega) (by omega) up_here ?_
      refine k_Inputs _ (by omega) (by omega) up_here ?_
      refine z_aastore (p := 64) (pI pM_104 rfl) rfl (by decide) (by omega) (by omega) (by omega) (up_old (up_old (up_old g45 (by omega)) (by omega)) (by omega)) (vp_in_nI hi8 (by decide)) up_here (row_f_up (by omega)) ?_
      refine w_iinc (p := 67) (v := nI (i + 1)) (pI pM_104 rfl) rfl rfl (by rw [← nI_1]; rfl) rfl ?_
      refine w_goto (p := 45) (pI pM_104 rfl) rfl rfl ?_
      have k := ih (i + 1) (by omega)
      rw [← sh_step F i] at k
      have e1 : 55 + 2 * (i + 1) = 55 + 2 * i + 1 + 1 := by omega
      have e2 : s + 33 * (i + 1) = s + 33 * i + 1 + 32 := by omega
      rw [e1, e2] at k
      exact k
def wy_F (F : Nat → bm_C) (i : Nat) : Nat → bm_C := fun k => if k = 37 then .inr (.inl (9, 161, row_f 71 10 i)) else if 71 ≤ k ∧ k < 71 + 10 * i then hc (sk_wcell (k - (k - 71) % 10) ((k - 71) % 10)) zI zI else F k
theorem wy_step (F : Nat → bm_C) (i : Nat) (x : bm_C) : va_up (way_F (va_up (wy_F F i) (71 + 10 * i) x) (71 + 10 * i)) 37 (.inr (.inl (9, 161, row_f 71 10 (i + 1)))) = wy_F F (i + 1) := by
  funext k
  by_cases h1 : k = 37
  · subst h1
    unfold wy_F
    rw [va_up_self, if_pos rfl]
  rw [va_up_ne _ _ h1]
  unfold way_F
  by_cases h2 : 71 + 10 * i ≤ k ∧ k < 71 + 10 * i + 10
  · rw [if_pos h2]
    unfold wy_F
    rw [if_neg h1, if_pos (show 71 ≤ k ∧ k < 71 + 10 * (i + 1) by omega)]
    have e : (k - 71) % 10 = k - (71 + 10 * i) := by omega
    rw [e]
    have e2 : k - (k - (71 + 10 * i)) = 71 + 10 * i := by omega
    rw [e2]
  · rw [if_neg h2, va_up_ne _ _ (by omega)]
    unfold wy_F
    rw [if_neg h1, if_neg h1]
    by_cases h4 : 71 ≤ k ∧ k < 71 + 10 * i
    · rw [if_pos h4, if_pos (show 71 ≤ k ∧ k < 71 + 10 * (i + 1) by omega)]
    · rw [if_neg h4, if_neg (show ¬ (71 ≤ k ∧ k < 71 + 10 * (i + 1)) by omega)]
theorem wy_0 (F : Nat → bm_C) (h : F 37 = .inr (.inl (9, 161, fun _ => none))) : wy_F F 0 = F := by
  funext k
  unfold wy_F
  by_cases h1 : k = 37
  · subst h1; rw [if_pos rfl, row_f_0, h]
  · rw [if_neg h1, if_neg (by omega)]
theorem wy_loop (d s : Nat) {F : Nat → bm_C} {Q : bm_Q} {x : Int32} {fs : List Value} (h20 : F 20 = .inr (.inr (6, fs))) (hfs : fs[2]? = some (.ref 37)) (hQ : Q none (1681, s + 359 * 161, wy_F F 161)) : ∀ (m i : Nat), i + m = 161 → bm_W (bm_M (d + 2)) 94 Q 88 [.ref 20, .int x, .int (nI i)] [] (71 + 10 * i, s + 359 * i, wy_F F i) := by
  intro m
  induction m with
  | zero =>
    intro i hi
    obtain rfl : i = 161 := by omega
    refine w_iload_n (p := 89) (pI pM_94 rfl) rfl rfl ?_
    refine w_sipush (p := 92) (v := nI 161) (pI pM_94 rfl) rfl rfl ?_
    refine w_icmp_ge (p := 95) (q := 114) (pI pM_94 rfl) rfl rfl rfl (fun c_1 => ?_) (fun c_1 => ?_)
    · exact w_return (pI pM_94 rfl) rfl hQ
    · exact absurd (Int32.le_refl _) c_1
  | succ m ih =>
    intro i hi
    have hi8 : i < 161 := by omega
    refine w_iload_n (p := 89) (pI pM_94 rfl) rfl rfl ?_
    refine w_sipush (p := 92) (v := nI 161) (pI pM_94 rfl) rfl rfl ?_
    refine w_icmp_ge (p := 95) (q := 114) (pI pM_94 rfl) rfl rfl rfl (fun c_1 => ?_) (fun c_1 => ?_)
    · exact absurd c_1 (nI_ge hi8 (by decide))
    · have g20 : wy_F F i 20 = .inr (.inr (6, fs)) := by
        unfold wy_F; rw [if_neg (by decide), if_neg (by omega)]; exact h20
      have g37 : wy_F F i 37 = .inr (.inl (9, 161, row_f 71 10 i)) := by
        unfold wy_F; rw [if_pos rfl]
      refine w_aload_n (p := 96) (pI pM_94 rfl) rfl rfl ?_
      refine w_getfield (p := 99) (pI pM_94 rfl) rfl rfl rfl (by decide) (show 20 < 71 + 10 * i by omega) g20 hfs ?_
      refine w_iload_n (p := 100) (pI pM_94 rfl) rfl rfl ?_
      refine z_new (p := 103) (x := .inr (.inr (9, [.null, .null, .null, .null, .int 0, .null, .null, .int 0, .null, .int 0, .null, .int 0, .int 0, .int 0, .int 0, .int 0, .int 0, .int 0]))) (pI pM_94 rfl) rfl rfl rfl rfl rfl ?_
      refine w_dup (p := 104) (pI pM_94 rfl) rfl rfl ?_
      refine z_special (p := 107) (mj := 115) (pI pM_94 rfl) rfl rfl rfl rfl rfl rfl rfl rfl rfl rfl (by omega) (by omega) up_here ?_
      refine k_Way _ (by omega) up_here ?_
      have w37 : ∀ y, way_F (va_up (wy_F F i) (71 + 10 * i) y) (71 + 10 * i) 37 = .inr (.inl (9, 161, row_f 71 10 i)) := by
        intro y
        unfold way_F
        rw [if_neg (by omega), va_up_ne _ _ (by omega)]
        exact g37
      have wnew : ∀ y, way_F (va_up (wy_F F i) (71 + 10 * i) y) (71 + 10 * i) (71 + 10 * i) = .inr (.inr (9, sk_fs (sk_way (71 + 10 * i)) zI)) := by
        intro y
        unfold way_F
        rw [if_pos (by omega), Nat.sub_self]
        rfl
      refine z_aastore (p := 108) (pI pM_94 rfl) rfl (by decide) (by omega) (by omega) (by omega) (w37 _) (vp_in_nI hi8 (by decide)) (wnew _) (row_f_up (by omega)) ?_
      refine w_iinc (p := 111) (v := nI (i + 1)) (pI pM_94 rfl) rfl rfl (by rw [← nI_1]; rfl) rfl ?_
      refine w_goto (p := 88) (pI pM_94 rfl) rfl rfl ?_
      have k := ih (i + 1) (by omega)
      rw [← wy_step F i] at k
      have e1 : 71 + 10 * (i + 1) = 71 + 10 * i + 10 := by omega
      have e2 : s + 359 * (i + 1) = s + 359 * i + 18 + 341 := by omega
      rw [e1, e2] at k
      exact k
