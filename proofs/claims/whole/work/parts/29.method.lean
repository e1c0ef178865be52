/-! PROMISE 2: method, on both sides -/
set_option maxRecDepth 100000 in
theorem c_addMethod (d : Nat) {L M : Nat} {A I : Nat → Nat → Int32} {Q : bm_Q} {n : Int32} (hM : I 22 0 = nI M) (hM6 : M ≤ 6) (hf : M = 6 → Q (some (.int (-4))) (hp L A I)) (ha : M < 6 → Q (some (.int (nI M))) (hp L (va_up A 23 (upd (A 23) M n)) (va_up I 22 (upd (I 22) 0 (nI (M + 1)))))) : bm_M (d + 1) 73 [.ref 22, .int n] (hp L A I) Q := by
  refine bw_enter rfl rfl rfl rfl ?_
  refine w_aload_n (p := 1) (pI pM_73 rfl) rfl rfl ?_
  refine v_getI (p := 4) (kf := 0) (x := nI M) (pI pM_73 rfl) rfl rfl rfl (by decide) (by decide) rfl rfl hM ?_
  refine w_bipush (p := 6) (v := nI 6) (pI pM_73 rfl) rfl rfl ?_
  refine w_icmp_lt (p := 9) (q := 12) (pI pM_73 rfl) rfl rfl rfl (fun c_1 => ?_) (fun c_1 => ?_)
  · have hlt : M < 6 := (nI_ltI (by omega) (by decide)).mp c_1
    refine w_aload_n (p := 13) (pI pM_73 rfl) rfl rfl ?_
    refine v_getR (p := 16) (kf := 1) (pI pM_73 rfl) rfl rfl rfl (by decide) (by decide) rfl rfl ?_
    refine w_aload_n (p := 17) (pI pM_73 rfl) rfl rfl ?_
    refine v_getI (p := 20) (kf := 0) (x := nI M) (pI pM_73 rfl) rfl rfl rfl (by decide) (by decide) rfl rfl hM ?_
    refine w_iload_n (p := 21) (pI pM_73 rfl) rfl rfl ?_
    refine v_iast (p := 22) (pI pM_73 rfl) rfl (by decide) (by decide) rfl (vp_in_nI hlt (by decide)) ?_
    rw [nI_clamp (by omega)]
    refine w_aload_n (p := 23) (pI pM_73 rfl) rfl rfl ?_
    refine w_dup (p := 24) (pI pM_73 rfl) rfl rfl ?_
    refine v_getI (p := 27) (kf := 0) (x := nI M) (pI pM_73 rfl) rfl rfl rfl (by decide) (by decide) rfl rfl hM ?_
    refine w_iconst (p := 28) (v := nI 1) (pI pM_73 rfl) rfl rfl ?_
    refine w_iadd (p := 29) (pI pM_73 rfl) rfl ?_
    rw [nI_add]
    refine v_putI (p := 32) (kf := 0) (pI pM_73 rfl) rfl rfl rfl (by decide) (by decide) rfl rfl rfl rfl rfl rfl ?_
    refine w_aload_n (p := 33) (pI pM_73 rfl) rfl rfl ?_
    refine v_getI (p := 36) (kf := 0) (x := nI (M + 1)) (pI pM_73 rfl) rfl rfl rfl (by decide) (by decide) rfl rfl (by rw [va_up_self, pk_us]) ?_
    refine w_iconst (p := 37) (v := nI 1) (pI pM_73 rfl) rfl rfl ?_
    refine w_isub (p := 38) (pI pM_73 rfl) rfl ?_
    rw [pk_sub (by omega), Nat.add_sub_cancel]
    exact w_ireturn (pI pM_73 rfl) rfl rfl rfl (ha hlt)
  · refine w_bipush (p := 11) (v := -4) (pI pM_73 rfl) rfl rfl ?_
    exact w_ireturn (pI pM_73 rfl) rfl rfl rfl (hf (Nat.le_antisymm hM6 (Nat.not_lt.mp (fun z => c_1 ((nI_ltI (b := 6) (by omega) (by decide)).mpr z)))))
set_option maxRecDepth 100000 in
theorem c_method (d : Nat) {L M : Nat} {A I : Nat → Nat → Int32} {Q : bm_Q} {n : Int32} (hM : I 22 0 = nI M) (hM6 : M ≤ 6) (hb : ¬ (nI 0 ≤ n ∧ n ≤ nI 3) → Q (some (.int (-2))) (hp L A I)) (hf : nI 0 ≤ n ∧ n ≤ nI 3 → M = 6 → Q (some (.int (-4))) (hp L A I)) (ha : nI 0 ≤ n ∧ n ≤ nI 3 → M < 6 → Q (some (.int (nI M))) (hp L (va_up A 23 (upd (A 23) M n)) (va_up I 22 (upd (I 22) 0 (nI (M + 1)))))) : bm_M (d + 2) 1 [.ref 3, .int n] (hp L A I) Q := by
  refine bw_enter rfl rfl rfl rfl ?_
  refine w_iload_n (p := 1) (pI pM_1 rfl) rfl rfl ?_
  refine w_iconst (p := 2) (v := nI 0) (pI pM_1 rfl) rfl rfl ?_
  refine w_iconst (p := 3) (v := nI 3) (pI pM_1 rfl) rfl rfl ?_
  refine w_static (p := 6) (mj := 2) (pI pM_1 rfl) rfl rfl rfl rfl rfl rfl rfl rfl rfl ?_
  refine c_within _ (fun hw => ?_) (fun hw => ?_)
  · refine w_if_ne (p := 9) (q := 12) (pI pM_1 rfl) rfl rfl rfl (fun _ => ?_) (fun c => absurd (by decide) c)
    refine w_aload_n (p := 13) (pI pM_1 rfl) rfl rfl ?_
    refine v_getR (p := 16) (kf := 2) (pI pM_1 rfl) rfl rfl rfl (by decide) (by decide) rfl rfl ?_
    refine w_iload_n (p := 17) (pI pM_1 rfl) rfl rfl ?_
    refine v_virtual (p := 20) (mj := 73) (pI pM_1 rfl) rfl rfl rfl rfl rfl rfl rfl rfl rfl rfl (by decide) (by decide) rfl ?_
    exact c_addMethod _ hM hM6 (fun z => w_ireturn (pI pM_1 rfl) rfl rfl rfl (hf hw z)) (fun z => w_ireturn (pI pM_1 rfl) rfl rfl rfl (ha hw z))
  · refine w_if_ne (p := 9) (q := 12) (pI pM_1 rfl) rfl rfl rfl (fun c => absurd rfl c) (fun _ => ?_)
    refine w_bipush (p := 11) (v := -2) (pI pM_1 rfl) rfl rfl ?_
    exact w_ireturn (pI pM_1 rfl) rfl rfl rfl (hb hw)
set_option maxRecDepth 100000 in
theorem c_mmethod (d : Nat) {L M : Nat} {A I : Nat → Nat → Int32} {Q : bm_Q} {n : Int32} (hM : I 1681 1 = nI M) (hM6 : M ≤ 6) (hb : ¬ (nI 0 ≤ n ∧ n ≤ nI 3) → Q (some (.int (-2))) (hp L A I)) (hf : nI 0 ≤ n ∧ n ≤ nI 3 → M = 6 → Q (some (.int (-4))) (hp L A I)) (ha : nI 0 ≤ n ∧ n ≤ nI 3 → M < 6 → Q (some (.int (nI M))) (hp L (va_up A 1682 (upd (A 1682) M n)) (va_up I 1681 (upd (I 1681) 1 (nI (M + 1)))))) : bm_M (d + 2) 148 [.ref 1681, .int n] (hp L A I) Q := by
  refine bw_enter rfl rfl rfl rfl ?_
  refine w_iload_n (p := 1) (pI pM_148 rfl) rfl rfl ?_
  refine w_iconst (p := 2) (v := nI 0) (pI pM_148 rfl) rfl rfl ?_
  refine w_iconst (p := 3) (v := nI 3) (pI pM_148 rfl) rfl rfl ?_
  refine w_static (p := 6) (mj := 149) (pI pM_148 rfl) rfl rfl rfl rfl rfl rfl rfl rfl rfl ?_
  refine c_isIn _ (fun hw => ?_) (fun hw => ?_)
  · refine w_if_ne (p := 9) (q := 12) (pI pM_148 rfl) rfl rfl rfl (fun _ => ?_) (fun c => absurd (by decide) c)
    refine w_aload_n (p := 13) (pI pM_148 rfl) rfl rfl ?_
    refine v_getI (p := 16) (kf := 1) (x := nI M) (pI pM_148 rfl) rfl rfl rfl (by decide) (by decide) rfl rfl hM ?_
    refine w_bipush (p := 18) (v := nI 6) (pI pM_148 rfl) rfl rfl ?_
    refine w_icmp_ne (p := 21) (q := 24) (pI pM_148 rfl) rfl rfl rfl (fun c_1 => ?_) (fun c_1 => ?_)
    · have hlt : M < 6 := (fun z => Nat.lt_of_le_of_ne hM6 (fun q => z ((nI_eq (b := 6) (by omega) (by decide)).mpr q))) c_1
      refine w_aload_n (p := 25) (pI pM_148 rfl) rfl rfl ?_
      refine v_getR (p := 28) (kf := 2) (pI pM_148 rfl) rfl rfl rfl (by decide) (by decide) rfl rfl ?_
      refine w_aload_n (p := 29) (pI pM_148 rfl) rfl rfl ?_
      refine v_getI (p := 32) (kf := 1) (x := nI M) (pI pM_148 rfl) rfl rfl rfl (by decide) (by decide) rfl rfl hM ?_
      refine w_iload_n (p := 33) (pI pM_148 rfl) rfl rfl ?_
      refine v_iast (p := 34) (pI pM_148 rfl) rfl (by decide) (by decide) rfl (vp_in_nI hlt (by decide)) ?_
      rw [nI_clamp (by omega)]
      refine w_aload_n (p := 35) (pI pM_148 rfl) rfl rfl ?_
      refine w_dup (p := 36) (pI pM_148 rfl) rfl rfl ?_
      refine v_getI (p := 39) (kf := 1) (x := nI M) (pI pM_148 rfl) rfl rfl rfl (by decide) (by decide) rfl rfl hM ?_
      refine w_iconst (p := 40) (v := nI 1) (pI pM_148 rfl) rfl rfl ?_
      refine w_iadd (p := 41) (pI pM_148 rfl) rfl ?_
      rw [nI_add]
      refine v_putI (p := 44) (kf := 1) (pI pM_148 rfl) rfl rfl rfl (by decide) (by decide) rfl rfl rfl rfl rfl rfl ?_
      refine w_aload_n (p := 45) (pI pM_148 rfl) rfl rfl ?_
      refine v_getI (p := 48) (kf := 1) (x := nI (M + 1)) (pI pM_148 rfl) rfl rfl rfl (by decide) (by decide) rfl rfl (by rw [va_up_self, pk_us]) ?_
      refine w_iconst (p := 49) (v := nI 1) (pI pM_148 rfl) rfl rfl ?_
      refine w_isub (p := 50) (pI pM_148 rfl) rfl ?_
      rw [pk_sub (by omega), Nat.add_sub_cancel]
      exact w_ireturn (pI pM_148 rfl) rfl rfl rfl (ha hw hlt)
    · refine w_bipush (p := 23) (v := -4) (pI pM_148 rfl) rfl rfl ?_
      exact w_ireturn (pI pM_148 rfl) rfl rfl rfl (hf hw ((nI_eq (by omega) (by decide)).mp (Decidable.not_not.mp c_1)))
  · refine w_if_ne (p := 9) (q := 12) (pI pM_148 rfl) rfl rfl rfl (fun c => absurd rfl c) (fun _ => ?_)
    refine w_bipush (p := 11) (v := -2) (pI pM_148 rfl) rfl rfl ?_
    exact w_ireturn (pI pM_148 rfl) rfl rfl rfl (hb hw)
