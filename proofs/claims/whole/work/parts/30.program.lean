/-! Program: what it is asked; an operation more -/
/-- a number below M -/
def inR (m : Int32) (M : Nat) : Prop := ∃ j, j < M ∧ m = nI j
theorem inR_of {m : Int32} {M : Nat} (hM : M < 2 ^ 31) (h0 : ¬ m < 0) (h : ¬ nI M ≤ m) : inR m M := by
  obtain ⟨j, hj, e, -⟩ := pk_mu h0 h hM
  exact ⟨j, hj, e⟩
theorem inR_n0 {m : Int32} {M : Nat} (hM : M < 2 ^ 31) (h0 : m < 0) : ¬ inR m M := fun ⟨j, hj, e⟩ => by
  subst e
  exact nI_pos (by omega) h0
theorem inR_nM {m : Int32} {M : Nat} (hM : M < 2 ^ 31) (h : nI M ≤ m) : ¬ inR m M := fun ⟨j, hj, e⟩ => by
  subst e
  exact nI_ge hj hM h
set_option maxRecDepth 100000 in
theorem c_hasMethod (d : Nat) {L M : Nat} {A I : Nat → Nat → Int32} {Q : bm_Q} {m : Int32} (hM : I 22 0 = nI M) (hM6 : M ≤ 6) (h1 : inR m M → Q (some (.int 1)) (hp L A I)) (h0 : ¬ inR m M → Q (some (.int 0)) (hp L A I)) : bm_M (d + 1) 74 [.ref 22, .int m] (hp L A I) Q := by
  refine bw_enter rfl rfl rfl rfl ?_
  refine w_iload_n (p := 1) (pI pM_74 rfl) rfl rfl ?_
  refine w_if_lt (p := 4) (q := 16) (pI pM_74 rfl) rfl rfl rfl (fun c_1 => ?_) (fun c_1 => ?_)
  · refine w_iconst (p := 17) (v := nI 0) (pI pM_74 rfl) rfl rfl ?_
    exact w_ireturn (pI pM_74 rfl) rfl rfl rfl (by first | exact h1 (inR_of (by omega) c_1 c_2) | exact h0 (inR_n0 (by omega) c_1) | exact h0 (inR_nM (by omega) c_2))
  · refine w_iload_n (p := 5) (pI pM_74 rfl) rfl rfl ?_
    refine w_aload_n (p := 6) (pI pM_74 rfl) rfl rfl ?_
    refine v_getI (p := 9) (kf := 0) (x := nI M) (pI pM_74 rfl) rfl rfl rfl (by decide) (by decide) rfl rfl hM ?_
    refine w_icmp_ge (p := 12) (q := 16) (pI pM_74 rfl) rfl rfl rfl (fun c_2 => ?_) (fun c_2 => ?_)
    · refine w_iconst (p := 17) (v := nI 0) (pI pM_74 rfl) rfl rfl ?_
      exact w_ireturn (pI pM_74 rfl) rfl rfl rfl (by first | exact h1 (inR_of (by omega) c_1 c_2) | exact h0 (inR_n0 (by omega) c_1) | exact h0 (inR_nM (by omega) c_2))
    · refine w_iconst (p := 13) (v := nI 1) (pI pM_74 rfl) rfl rfl ?_
      refine w_goto (p := 17) (pI pM_74 rfl) rfl rfl ?_
      exact w_ireturn (pI pM_74 rfl) rfl rfl rfl (by first | exact h1 (inR_of (by omega) c_1 c_2) | exact h0 (inR_n0 (by omega) c_1) | exact h0 (inR_nM (by omega) c_2))
set_option maxRecDepth 100000 in
theorem c_hasOperation (d : Nat) {L M : Nat} {A I : Nat → Nat → Int32} {Q : bm_Q} {q n : Nat} {m : Int32} (hq : q < 6) (hl : A 24 q = nI n) (hn : n ≤ 40) (h1 : inR m n → Q (some (.int 1)) (hp L A I)) (h0 : ¬ inR m n → Q (some (.int 0)) (hp L A I)) : bm_M (d + 1) 83 [.ref 22, .int (nI q), .int m] (hp L A I) Q := by
  refine bw_enter rfl rfl rfl rfl ?_
  refine w_iload_n (p := 1) (pI pM_83 rfl) rfl rfl ?_
  refine w_if_lt (p := 4) (q := 18) (pI pM_83 rfl) rfl rfl rfl (fun c_1 => ?_) (fun c_1 => ?_)
  · refine w_iconst (p := 19) (v := nI 0) (pI pM_83 rfl) rfl rfl ?_
    exact w_ireturn (pI pM_83 rfl) rfl rfl rfl (by first | exact h1 (inR_of (by omega) c_1 c_2) | exact h0 (inR_n0 (by omega) c_1) | exact h0 (inR_nM (by omega) c_2))
  · refine w_iload_n (p := 5) (pI pM_83 rfl) rfl rfl ?_
    refine w_aload_n (p := 6) (pI pM_83 rfl) rfl rfl ?_
    refine v_getR (p := 9) (kf := 2) (pI pM_83 rfl) rfl rfl rfl (by decide) (by decide) rfl rfl ?_
    refine w_iload_n (p := 10) (pI pM_83 rfl) rfl rfl ?_
    refine v_iald (p := 11) (x := nI n) (pI pM_83 rfl) rfl (by decide) rfl (vp_in_nI hq (by decide)) (by rw [nI_clamp (by omega), hl]) ?_
    refine w_icmp_ge (p := 14) (q := 18) (pI pM_83 rfl) rfl rfl rfl (fun c_2 => ?_) (fun c_2 => ?_)
    · refine w_iconst (p := 19) (v := nI 0) (pI pM_83 rfl) rfl rfl ?_
      exact w_ireturn (pI pM_83 rfl) rfl rfl rfl (by first | exact h1 (inR_of (by omega) c_1 c_2) | exact h0 (inR_n0 (by omega) c_1) | exact h0 (inR_nM (by omega) c_2))
    · refine w_iconst (p := 15) (v := nI 1) (pI pM_83 rfl) rfl rfl ?_
      refine w_goto (p := 19) (pI pM_83 rfl) rfl rfl ?_
      exact w_ireturn (pI pM_83 rfl) rfl rfl rfl (by first | exact h1 (inR_of (by omega) c_1 c_2) | exact h0 (inR_n0 (by omega) c_1) | exact h0 (inR_nM (by omega) c_2))
set_option maxRecDepth 100000 in
theorem c_opAt (d : Nat) {L M : Nat} {A I : Nat → Nat → Int32} {Q : bm_Q} {q : Nat} (hq : q < 240) (hQ : Q (some (.int (A 25 q))) (hp L A I)) : bm_M (d + 1) 80 [.ref 22, .int (nI q)] (hp L A I) Q := by
  refine bw_enter rfl rfl rfl rfl ?_
  refine w_aload_n (p := 1) (pI pM_80 rfl) rfl rfl ?_
  refine v_getR (p := 4) (kf := 3) (pI pM_80 rfl) rfl rfl rfl (by decide) (by decide) rfl rfl ?_
  refine w_iload_n (p := 5) (pI pM_80 rfl) rfl rfl ?_
  refine v_iald (p := 6) (x := A 25 q) (pI pM_80 rfl) rfl (by decide) rfl (vp_in_nI hq (by decide)) (by rw [nI_clamp (by omega)]) ?_
  exact w_ireturn (pI pM_80 rfl) rfl rfl rfl hQ
set_option maxRecDepth 100000 in
theorem c_numberAt (d : Nat) {L M : Nat} {A I : Nat → Nat → Int32} {Q : bm_Q} {q : Nat} (hq : q < 240) (hQ : Q (some (.int (A 26 q))) (hp L A I)) : bm_M (d + 1) 81 [.ref 22, .int (nI q)] (hp L A I) Q := by
  refine bw_enter rfl rfl rfl rfl ?_
  refine w_aload_n (p := 1) (pI pM_81 rfl) rfl rfl ?_
  refine v_getR (p := 4) (kf := 4) (pI pM_81 rfl) rfl rfl rfl (by decide) (by decide) rfl rfl ?_
  refine w_iload_n (p := 5) (pI pM_81 rfl) rfl rfl ?_
  refine v_iald (p := 6) (x := A 26 q) (pI pM_81 rfl) rfl (by decide) rfl (vp_in_nI hq (by decide)) (by rw [nI_clamp (by omega)]) ?_
  exact w_ireturn (pI pM_81 rfl) rfl rfl rfl hQ
set_option maxRecDepth 100000 in
theorem c_argumentsOf (d : Nat) {L M : Nat} {A I : Nat → Nat → Int32} {Q : bm_Q} {q : Nat} (hq : q < 6) (hQ : Q (some (.int (A 23 q))) (hp L A I)) : bm_M (d + 1) 85 [.ref 22, .int (nI q)] (hp L A I) Q := by
  refine bw_enter rfl rfl rfl rfl ?_
  refine w_aload_n (p := 1) (pI pM_85 rfl) rfl rfl ?_
  refine v_getR (p := 4) (kf := 1) (pI pM_85 rfl) rfl rfl rfl (by decide) (by decide) rfl rfl ?_
  refine w_iload_n (p := 5) (pI pM_85 rfl) rfl rfl ?_
  refine v_iald (p := 6) (x := A 23 q) (pI pM_85 rfl) rfl (by decide) rfl (vp_in_nI hq (by decide)) (by rw [nI_clamp (by omega)]) ?_
  exact w_ireturn (pI pM_85 rfl) rfl rfl rfl hQ
set_option maxRecDepth 100000 in
theorem c_canBegin (d : Nat) {L M : Nat} {A I : Nat → Nat → Int32} {Q : bm_Q} {m : Int32} (hM : I 22 0 = nI M) (hM6 : M ≤ 6) (h1 : ∀ j, j < M → m = nI j → A 23 j = nI 2 → Q (some (.int 1)) (hp L A I)) (h0 : (∀ j, j < M → m = nI j → ¬ A 23 j = nI 2) → Q (some (.int 0)) (hp L A I)) : bm_M (d + 2) 79 [.ref 22, .int m] (hp L A I) Q := by
  refine bw_enter rfl rfl rfl rfl ?_
  refine w_aload_n (p := 1) (pI pM_79 rfl) rfl rfl ?_
  refine w_iload_n (p := 2) (pI pM_79 rfl) rfl rfl ?_
  refine v_virtual (p := 5) (mj := 74) (pI pM_79 rfl) rfl rfl rfl rfl rfl rfl rfl rfl rfl rfl (by decide) (by decide) rfl ?_
  refine c_hasMethod _ hM hM6 (fun hw => ?_) (fun hw => ?_)
  · refine w_if_eq (p := 8) (q := 22) (pI pM_79 rfl) rfl rfl rfl (fun c => absurd c (by decide)) (fun _ => ?_)
    obtain ⟨j, hj, rfl⟩ := hw
    refine w_aload_n (p := 9) (pI pM_79 rfl) rfl rfl ?_
    refine v_getR (p := 12) (kf := 1) (pI pM_79 rfl) rfl rfl rfl (by decide) (by decide) rfl rfl ?_
    refine w_iload_n (p := 13) (pI pM_79 rfl) rfl rfl ?_
    refine v_iald (p := 14) (x := A 23 j) (pI pM_79 rfl) rfl (by decide) rfl (vp_in_nI (by omega) (by decide)) (by rw [nI_clamp (by omega)]) ?_
    refine w_iconst (p := 15) (v := nI 2) (pI pM_79 rfl) rfl rfl ?_
    refine w_icmp_ne (p := 18) (q := 22) (pI pM_79 rfl) rfl rfl rfl (fun c_1 => ?_) (fun c_1 => ?_)
    · refine w_iconst (p := 23) (v := nI 0) (pI pM_79 rfl) rfl rfl ?_
      exact w_ireturn (pI pM_79 rfl) rfl rfl rfl (by first | exact h1 _ hj rfl c_1 | exact h1 _ hj rfl (Decidable.not_not.mp c_1) | exact h1 _ hj rfl (Int32.not_le.mp c_1) | exact h0 (fun i hi e z => by have := (nI_eq (by omega) (by omega)).mp e; subst this; exact c_1 z) | exact h0 (fun i hi e z => by have := (nI_eq (by omega) (by omega)).mp e; subst this; exact Int32.not_le.mpr z c_1) | exact h0 (fun i hi e z => hw ⟨i, hi, e⟩))
    · refine w_iconst (p := 19) (v := nI 1) (pI pM_79 rfl) rfl rfl ?_
      refine w_goto (p := 23) (pI pM_79 rfl) rfl rfl ?_
      exact w_ireturn (pI pM_79 rfl) rfl rfl rfl (by first | exact h1 _ hj rfl c_1 | exact h1 _ hj rfl (Decidable.not_not.mp c_1) | exact h1 _ hj rfl (Int32.not_le.mp c_1) | exact h0 (fun i hi e z => by have := (nI_eq (by omega) (by omega)).mp e; subst this; exact c_1 z) | exact h0 (fun i hi e z => by have := (nI_eq (by omega) (by omega)).mp e; subst this; exact Int32.not_le.mpr z c_1) | exact h0 (fun i hi e z => hw ⟨i, hi, e⟩))
  · refine w_if_eq (p := 8) (q := 22) (pI pM_79 rfl) rfl rfl rfl (fun _ => ?_) (fun c => absurd rfl c)
    refine w_iconst (p := 23) (v := nI 0) (pI pM_79 rfl) rfl rfl ?_
    exact w_ireturn (pI pM_79 rfl) rfl rfl rfl (by first | exact h1 _ hj rfl c_1 | exact h1 _ hj rfl (Decidable.not_not.mp c_1) | exact h1 _ hj rfl (Int32.not_le.mp c_1) | exact h0 (fun i hi e z => by have := (nI_eq (by omega) (by omega)).mp e; subst this; exact c_1 z) | exact h0 (fun i hi e z => by have := (nI_eq (by omega) (by omega)).mp e; subst this; exact Int32.not_le.mpr z c_1) | exact h0 (fun i hi e z => hw ⟨i, hi, e⟩))
set_option maxRecDepth 100000 in
theorem c_canBeCalled (d : Nat) {L M : Nat} {A I : Nat → Nat → Int32} {Q : bm_Q} {m : Int32} (hM : I 22 0 = nI M) (hM6 : M ≤ 6) (h1 : ∀ j, j < M → m = nI j → 0 < A 24 j → Q (some (.int 1)) (hp L A I)) (h0 : (∀ j, j < M → m = nI j → ¬ 0 < A 24 j) → Q (some (.int 0)) (hp L A I)) : bm_M (d + 2) 84 [.ref 22, .int m] (hp L A I) Q := by
  refine bw_enter rfl rfl rfl rfl ?_
  refine w_aload_n (p := 1) (pI pM_84 rfl) rfl rfl ?_
  refine w_iload_n (p := 2) (pI pM_84 rfl) rfl rfl ?_
  refine v_virtual (p := 5) (mj := 74) (pI pM_84 rfl) rfl rfl rfl rfl rfl rfl rfl rfl rfl rfl (by decide) (by decide) rfl ?_
  refine c_hasMethod _ hM hM6 (fun hw => ?_) (fun hw => ?_)
  · refine w_if_eq (p := 8) (q := 21) (pI pM_84 rfl) rfl rfl rfl (fun c => absurd c (by decide)) (fun _ => ?_)
    obtain ⟨j, hj, rfl⟩ := hw
    refine w_aload_n (p := 9) (pI pM_84 rfl) rfl rfl ?_
    refine v_getR (p := 12) (kf := 2) (pI pM_84 rfl) rfl rfl rfl (by decide) (by decide) rfl rfl ?_
    refine w_iload_n (p := 13) (pI pM_84 rfl) rfl rfl ?_
    refine v_iald (p := 14) (x := A 24 j) (pI pM_84 rfl) rfl (by decide) rfl (vp_in_nI (by omega) (by decide)) (by rw [nI_clamp (by omega)]) ?_
    refine w_if_le (p := 17) (q := 21) (pI pM_84 rfl) rfl rfl rfl (fun c_1 => ?_) (fun c_1 => ?_)
    · refine w_iconst (p := 22) (v := nI 0) (pI pM_84 rfl) rfl rfl ?_
      exact w_ireturn (pI pM_84 rfl) rfl rfl rfl (by first | exact h1 _ hj rfl c_1 | exact h1 _ hj rfl (Decidable.not_not.mp c_1) | exact h1 _ hj rfl (Int32.not_le.mp c_1) | exact h0 (fun i hi e z => by have := (nI_eq (by omega) (by omega)).mp e; subst this; exact c_1 z) | exact h0 (fun i hi e z => by have := (nI_eq (by omega) (by omega)).mp e; subst this; exact Int32.not_le.mpr z c_1) | exact h0 (fun i hi e z => hw ⟨i, hi, e⟩))
    · refine w_iconst (p := 18) (v := nI 1) (pI pM_84 rfl) rfl rfl ?_
      refine w_goto (p := 22) (pI pM_84 rfl) rfl rfl ?_
      exact w_ireturn (pI pM_84 rfl) rfl rfl rfl (by first | exact h1 _ hj rfl c_1 | exact h1 _ hj rfl (Decidable.not_not.mp c_1) | exact h1 _ hj rfl (Int32.not_le.mp c_1) | exact h0 (fun i hi e z => by have := (nI_eq (by omega) (by omega)).mp e; subst this; exact c_1 z) | exact h0 (fun i hi e z => by have := (nI_eq (by omega) (by omega)).mp e; subst this; exact Int32.not_le.mpr z c_1) | exact h0 (fun i hi e z => hw ⟨i, hi, e⟩))
  · refine w_if_eq (p := 8) (q := 21) (pI pM_84 rfl) rfl rfl rfl (fun _ => ?_) (fun c => absurd rfl c)
    refine w_iconst (p := 22) (v := nI 0) (pI pM_84 rfl) rfl rfl ?_
    exact w_ireturn (pI pM_84 rfl) rfl rfl rfl (by first | exact h1 _ hj rfl c_1 | exact h1 _ hj rfl (Decidable.not_not.mp c_1) | exact h1 _ hj rfl (Int32.not_le.mp c_1) | exact h0 (fun i hi e z => by have := (nI_eq (by omega) (by omega)).mp e; subst this; exact c_1 z) | exact h0 (fun i hi e z => by have := (nI_eq (by omega) (by omega)).mp e; subst this; exact Int32.not_le.mpr z c_1) | exact h0 (fun i hi e z => hw ⟨i, hi, e⟩))
set_option maxRecDepth 100000 in
theorem c_addOperation (d : Nat) {L M : Nat} {A I : Nat → Nat → Int32} {Q : bm_Q} {q n : Nat} {x y : Int32} (hq : q < 6) (hl : A 24 q = nI n) (hn : n ≤ 40) (hf : n = 40 → Q (some (.int (-4))) (hp L A I)) (ha : n < 40 → Q (some (.int (nI (n + 1)))) (hp L (va_up (va_up (va_up A 25 (upd (A 25) (q * 40 + n) x)) 26 (upd (A 26) (q * 40 + n) y)) 24 (upd (A 24) q (nI (n + 1)))) I)) : bm_M (d + 2) 76 [.ref 22, .int (nI q), .int x, .int y] (hp L A I) Q := by
  refine bw_enter rfl rfl rfl rfl ?_
  refine w_aload_n (p := 1) (pI pM_76 rfl) rfl rfl ?_
  refine v_getR (p := 4) (kf := 2) (pI pM_76 rfl) rfl rfl rfl (by decide) (by decide) rfl rfl ?_
  refine w_iload_n (p := 5) (pI pM_76 rfl) rfl rfl ?_
  refine v_iald (p := 6) (x := nI n) (pI pM_76 rfl) rfl (by decide) rfl (vp_in_nI hq (by decide)) (by rw [nI_clamp (by omega), hl]) ?_
  refine w_istore (p := 8) (pI pM_76 rfl) rfl rfl rfl ?_
  refine w_iload (p := 10) (pI pM_76 rfl) rfl rfl ?_
  refine w_bipush (p := 12) (v := nI 40) (pI pM_76 rfl) rfl rfl ?_
  refine w_icmp_lt (p := 15) (q := 18) (pI pM_76 rfl) rfl rfl rfl (fun c_1 => ?_) (fun c_1 => ?_)
  · have hlt : n < 40 := (nI_ltI (by omega) (by decide)).mp c_1
    refine w_aload_n (p := 19) (pI pM_76 rfl) rfl rfl ?_
    refine v_getR (p := 22) (kf := 3) (pI pM_76 rfl) rfl rfl rfl (by decide) (by decide) rfl rfl ?_
    refine w_iload_n (p := 23) (pI pM_76 rfl) rfl rfl ?_
    refine w_iload (p := 25) (pI pM_76 rfl) rfl rfl ?_
    refine w_static (p := 28) (mj := 77) (pI pM_76 rfl) rfl rfl rfl rfl rfl rfl rfl rfl rfl ?_
    refine c_slot _ ?_
    rw [pk_mul, nI_add]
    refine w_iload_n (p := 29) (pI pM_76 rfl) rfl rfl ?_
    refine v_iast (p := 30) (pI pM_76 rfl) rfl (by decide) (by decide) rfl (vp_in_nI (by omega) (by decide)) ?_
    rw [nI_clamp (by omega)]
    refine w_aload_n (p := 31) (pI pM_76 rfl) rfl rfl ?_
    refine v_getR (p := 34) (kf := 4) (pI pM_76 rfl) rfl rfl rfl (by decide) (by decide) rfl rfl ?_
    refine w_iload_n (p := 35) (pI pM_76 rfl) rfl rfl ?_
    refine w_iload (p := 37) (pI pM_76 rfl) rfl rfl ?_
    refine w_static (p := 40) (mj := 77) (pI pM_76 rfl) rfl rfl rfl rfl rfl rfl rfl rfl rfl ?_
    refine c_slot _ ?_
    rw [pk_mul, nI_add]
    refine w_iload_n (p := 41) (pI pM_76 rfl) rfl rfl ?_
    refine v_iast (p := 42) (pI pM_76 rfl) rfl (by decide) (by decide) rfl (vp_in_nI (by omega) (by decide)) ?_
    rw [nI_clamp (by omega), va_up_ne _ _ (by decide)]
    refine w_aload_n (p := 43) (pI pM_76 rfl) rfl rfl ?_
    refine v_getR (p := 46) (kf := 2) (pI pM_76 rfl) rfl rfl rfl (by decide) (by decide) rfl rfl ?_
    refine w_iload_n (p := 47) (pI pM_76 rfl) rfl rfl ?_
    refine w_iload (p := 49) (pI pM_76 rfl) rfl rfl ?_
    refine w_iconst (p := 50) (v := nI 1) (pI pM_76 rfl) rfl rfl ?_
    refine w_iadd (p := 51) (pI pM_76 rfl) rfl ?_
    rw [nI_add]
    refine v_iast (p := 52) (pI pM_76 rfl) rfl (by decide) (by decide) rfl (vp_in_nI hq (by decide)) ?_
    rw [nI_clamp (by omega), va_up_ne _ _ (by decide), va_up_ne _ _ (by decide)]
    refine w_iload (p := 54) (pI pM_76 rfl) rfl rfl ?_
    refine w_iconst (p := 55) (v := nI 1) (pI pM_76 rfl) rfl rfl ?_
    refine w_iadd (p := 56) (pI pM_76 rfl) rfl ?_
    rw [nI_add]
    exact w_ireturn (pI pM_76 rfl) rfl rfl rfl (ha hlt)
  · refine w_bipush (p := 17) (v := -4) (pI pM_76 rfl) rfl rfl ?_
    exact w_ireturn (pI pM_76 rfl) rfl rfl rfl (hf (Nat.le_antisymm hn (Nat.not_lt.mp (fun z => c_1 ((nI_ltI (b := 40) (by omega) (by decide)).mpr z)))))
