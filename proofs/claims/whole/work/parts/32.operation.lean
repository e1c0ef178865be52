/-! PROMISE 3: operation, on both sides -/
def fitsQ (op a : Int32) : Prop := ∃ k, k < 30 ∧ op = nI k ∧ rgP k a
theorem nI_m4 {x : Nat} (h : x < 2 ^ 31) : ¬ nI x = -4 := fun e => by
  have h1 := congrArg Int32.toInt e
  rw [nI_toInt h] at h1
  have h2 : (-4 : Int32).toInt = -4 := by decide
  rw [h2] at h1
  omega
theorem inM {m : Int32} {M : Nat} (hM : M ≤ 6) (h : nI 0 ≤ m ∧ m ≤ nI M - nI 1) : inR m M := by
  obtain ⟨j, hj, e⟩ := nI_of (x := m) (Int32.not_lt.mpr h.1)
  subst e
  have h2 := h.2
  rw [Int32.le_iff_toInt_le, nI_toInt hj, pk_sub_toInt (by omega) (by decide)] at h2
  exact ⟨j, by omega, rfl⟩
theorem inM' {m : Int32} {M : Nat} (hM : M ≤ 6) (h : inR m M) : nI 0 ≤ m ∧ m ≤ nI M - nI 1 := by
  obtain ⟨j, hj, e⟩ := h
  subst e
  refine ⟨nI_le (by omega) (by omega), ?_⟩
  rw [Int32.le_iff_toInt_le, nI_toInt (by omega), pk_sub_toInt (by omega) (by decide)]
  omega
set_option maxRecDepth 100000 in
theorem c_operation (d : Nat) {L M : Nat} {A I : Nat → Nat → Int32} {Q : bm_Q} {m op a : Int32} (hM : I 22 0 = nI M) (hM6 : M ≤ 6) (hlen : ∀ q, q < 6 → ∃ n, n ≤ 40 ∧ A 24 q = nI n) (hb : ¬ (inR m M ∧ fitsQ op a) → Q (some (.int (-2))) (hp L A I)) (hf : ∀ q, q < M → m = nI q → fitsQ op a → A 24 q = nI 40 → Q (some (.int (-4))) (hp L A I)) (ha : ∀ q n, q < M → m = nI q → fitsQ op a → A 24 q = nI n → n < 40 → Q (some (.int (nI (n + 1)))) (hp L (va_up (va_up (va_up A 25 (upd (A 25) (q * 40 + n) op)) 26 (upd (A 26) (q * 40 + n) a)) 24 (upd (A 24) q (nI (n + 1)))) (va_up I 3 (upd (I 3) 7 (nI 0))))) : bm_M (d + 3) 3 [.ref 3, .int m, .int op, .int a] (hp L A I) Q := by
  refine bw_enter rfl rfl rfl rfl ?_
  refine w_aload_n (p := 1) (pI pM_3 rfl) rfl rfl ?_
  refine v_getR (p := 4) (kf := 2) (pI pM_3 rfl) rfl rfl rfl (by decide) (by decide) rfl rfl ?_
  refine w_iload_n (p := 5) (pI pM_3 rfl) rfl rfl ?_
  refine v_virtual (p := 8) (mj := 74) (pI pM_3 rfl) rfl rfl rfl rfl rfl rfl rfl rfl rfl rfl (by decide) (by decide) rfl ?_
  refine c_hasMethod _ hM hM6 (fun hw => ?_) (fun hw => ?_)
  · refine w_if_eq (p := 11) (q := 19) (pI pM_3 rfl) rfl rfl rfl (fun c => absurd c (by decide)) (fun _ => ?_)
    refine w_iload_n (p := 12) (pI pM_3 rfl) rfl rfl ?_
    refine w_iload_n (p := 13) (pI pM_3 rfl) rfl rfl ?_
    refine w_static (p := 16) (mj := 75) (pI pM_3 rfl) rfl rfl rfl rfl rfl rfl rfl rfl rfl ?_
    refine c_fits _ (fun k hk e hr => ?_) (fun hn => ?_)
    · refine w_if_ne (p := 19) (q := 22) (pI pM_3 rfl) rfl rfl rfl (fun _ => ?_) (fun c => absurd (by decide) c)
      obtain ⟨q, hq, rfl⟩ := hw
      obtain ⟨n, hn40, hl⟩ := hlen q (by omega)
      refine w_aload_n (p := 23) (pI pM_3 rfl) rfl rfl ?_
      refine v_getR (p := 26) (kf := 2) (pI pM_3 rfl) rfl rfl rfl (by decide) (by decide) rfl rfl ?_
      refine w_iload_n (p := 27) (pI pM_3 rfl) rfl rfl ?_
      refine w_iload_n (p := 28) (pI pM_3 rfl) rfl rfl ?_
      refine w_iload_n (p := 29) (pI pM_3 rfl) rfl rfl ?_
      refine v_virtual (p := 32) (mj := 76) (pI pM_3 rfl) rfl rfl rfl rfl rfl rfl rfl rfl rfl rfl (by decide) (by decide) rfl ?_
      refine c_addOperation _ (M := 0) (by omega) hl hn40 (fun z => ?_) (fun z => ?_)
      · refine w_istore (p := 34) (pI pM_3 rfl) rfl rfl rfl ?_
        refine w_iload (p := 36) (pI pM_3 rfl) rfl rfl ?_
        refine w_bipush (p := 38) (v := -4) (pI pM_3 rfl) rfl rfl ?_
        refine w_icmp_eq (p := 41) (q := 46) (pI pM_3 rfl) rfl rfl rfl (fun c_1 => ?_) (fun c_1 => ?_)
        · refine w_iload (p := 48) (pI pM_3 rfl) rfl rfl ?_
          exact w_ireturn (pI pM_3 rfl) rfl rfl rfl (by first | exact hf _ hq rfl ⟨k, hk, e, hr⟩ (by rw [hl, z]) | exact absurd rfl c_1 | exact absurd c_2 (nI_m4 (by omega)) | exact ha _ _ hq rfl ⟨k, hk, e, hr⟩ hl z)
        · refine w_aload_n (p := 42) (pI pM_3 rfl) rfl rfl ?_
          refine w_iconst (p := 43) (v := nI 0) (pI pM_3 rfl) rfl rfl ?_
          refine v_putI (p := 46) (kf := 7) (pI pM_3 rfl) rfl rfl rfl (by decide) (by decide) rfl rfl rfl rfl rfl rfl ?_
          refine w_iload (p := 48) (pI pM_3 rfl) rfl rfl ?_
          exact w_ireturn (pI pM_3 rfl) rfl rfl rfl (by first | exact hf _ hq rfl ⟨k, hk, e, hr⟩ (by rw [hl, z]) | exact absurd rfl c_1 | exact absurd c_2 (nI_m4 (by omega)) | exact ha _ _ hq rfl ⟨k, hk, e, hr⟩ hl z)
      · refine w_istore (p := 34) (pI pM_3 rfl) rfl rfl rfl ?_
        refine w_iload (p := 36) (pI pM_3 rfl) rfl rfl ?_
        refine w_bipush (p := 38) (v := -4) (pI pM_3 rfl) rfl rfl ?_
        refine w_icmp_eq (p := 41) (q := 46) (pI pM_3 rfl) rfl rfl rfl (fun c_2 => ?_) (fun c_2 => ?_)
        · refine w_iload (p := 48) (pI pM_3 rfl) rfl rfl ?_
          exact w_ireturn (pI pM_3 rfl) rfl rfl rfl (by first | exact hf _ hq rfl ⟨k, hk, e, hr⟩ (by rw [hl, z]) | exact absurd rfl c_1 | exact absurd c_2 (nI_m4 (by omega)) | exact ha _ _ hq rfl ⟨k, hk, e, hr⟩ hl z)
        · refine w_aload_n (p := 42) (pI pM_3 rfl) rfl rfl ?_
          refine w_iconst (p := 43) (v := nI 0) (pI pM_3 rfl) rfl rfl ?_
          refine v_putI (p := 46) (kf := 7) (pI pM_3 rfl) rfl rfl rfl (by decide) (by decide) rfl rfl rfl rfl rfl rfl ?_
          refine w_iload (p := 48) (pI pM_3 rfl) rfl rfl ?_
          exact w_ireturn (pI pM_3 rfl) rfl rfl rfl (by first | exact hf _ hq rfl ⟨k, hk, e, hr⟩ (by rw [hl, z]) | exact absurd rfl c_1 | exact absurd c_2 (nI_m4 (by omega)) | exact ha _ _ hq rfl ⟨k, hk, e, hr⟩ hl z)
    · refine w_if_ne (p := 19) (q := 22) (pI pM_3 rfl) rfl rfl rfl (fun c => absurd rfl c) (fun _ => ?_)
      refine w_bipush (p := 21) (v := -2) (pI pM_3 rfl) rfl rfl ?_
      exact w_ireturn (pI pM_3 rfl) rfl rfl rfl (hb (by first | exact fun z => hw z.1 | exact fun z => z.2.elim (fun k2 q2 => hn k2 q2.1 q2.2.1 q2.2.2)))
  · refine w_if_eq (p := 11) (q := 19) (pI pM_3 rfl) rfl rfl rfl (fun _ => ?_) (fun c => absurd rfl c)
    refine w_bipush (p := 21) (v := -2) (pI pM_3 rfl) rfl rfl ?_
    exact w_ireturn (pI pM_3 rfl) rfl rfl rfl (hb (by first | exact fun z => hw z.1 | exact fun z => z.2.elim (fun k2 q2 => hn k2 q2.1 q2.2.1 q2.2.2)))
set_option maxRecDepth 100000 in
theorem c_forget (d : Nat) {L : Nat} {A I : Nat → Nat → Int32} {Q : bm_Q} (hQ : Q none (hp L A (va_up I 1681 (upd (I 1681) 16 (nI 0))))) : bm_M (d + 1) 152 [.ref 1681] (hp L A I) Q := by
  refine bw_enter rfl rfl rfl rfl ?_
  refine w_aload_n (p := 1) (pI pM_152 rfl) rfl rfl ?_
  refine w_iconst (p := 2) (v := nI 0) (pI pM_152 rfl) rfl rfl ?_
  refine v_putI (p := 5) (kf := 16) (pI pM_152 rfl) rfl rfl rfl (by decide) (by decide) rfl rfl rfl rfl rfl rfl ?_
  exact w_return (pI pM_152 rfl) rfl hQ
set_option maxRecDepth 100000 in
theorem c_moperation (d : Nat) {L M : Nat} {A I : Nat → Nat → Int32} {Q : bm_Q} {m op a : Int32} (hM : I 1681 1 = nI M) (hM6 : M ≤ 6) (hlen : ∀ q, q < 6 → ∃ n, n ≤ 40 ∧ A 1683 q = nI n) (hb : ¬ (inR m M ∧ fitsQ op a) → Q (some (.int (-2))) (hp L A I)) (hf : ∀ q, q < M → m = nI q → fitsQ op a → A 1683 q = nI 40 → Q (some (.int (-4))) (hp L A I)) (ha : ∀ q n, q < M → m = nI q → fitsQ op a → A 1683 q = nI n → n < 40 → Q (some (.int (nI (n + 1)))) (hp L (va_up (va_up (va_up A 1684 (upd (A 1684) (40 * q + n) op)) 1685 (upd (A 1685) (40 * q + n) a)) 1683 (upd (A 1683) q (nI (n + 1)))) (va_up I 1681 (upd (I 1681) 16 (nI 0))))) : bm_M (d + 3) 150 [.ref 1681, .int m, .int op, .int a] (hp L A I) Q := by
  refine bw_enter rfl rfl rfl rfl ?_
  refine w_iload_n (p := 1) (pI pM_150 rfl) rfl rfl ?_
  refine w_iconst (p := 2) (v := nI 0) (pI pM_150 rfl) rfl rfl ?_
  refine w_aload_n (p := 3) (pI pM_150 rfl) rfl rfl ?_
  refine v_getI (p := 6) (kf := 1) (x := nI M) (pI pM_150 rfl) rfl rfl rfl (by decide) (by decide) rfl rfl hM ?_
  refine w_iconst (p := 7) (v := nI 1) (pI pM_150 rfl) rfl rfl ?_
  refine w_isub (p := 8) (pI pM_150 rfl) rfl ?_
  refine w_static (p := 11) (mj := 149) (pI pM_150 rfl) rfl rfl rfl rfl rfl rfl rfl rfl rfl ?_
  refine c_isIn _ (fun hw => ?_) (fun hw => ?_)
  · refine w_if_eq (p := 14) (q := 32) (pI pM_150 rfl) rfl rfl rfl (fun c => absurd c (by decide)) (fun _ => ?_)
    have hm := inM hM6 hw
    refine w_iload_n (p := 15) (pI pM_150 rfl) rfl rfl ?_
    refine w_iconst (p := 16) (v := nI 0) (pI pM_150 rfl) rfl rfl ?_
    refine w_bipush (p := 18) (v := nI 29) (pI pM_150 rfl) rfl rfl ?_
    refine w_static (p := 21) (mj := 149) (pI pM_150 rfl) rfl rfl rfl rfl rfl rfl rfl rfl rfl ?_
    refine c_isIn _ (fun hv => ?_) (fun hv => ?_)
    · refine w_if_eq (p := 24) (q := 32) (pI pM_150 rfl) rfl rfl rfl (fun c => absurd c (by decide)) (fun _ => ?_)
      have hop : inR op 30 := by
        by_cases z : inR op 30
        · exact z
        · exact absurd hv (out30 z)
      refine w_iload_n (p := 25) (pI pM_150 rfl) rfl rfl ?_
      refine w_iload_n (p := 26) (pI pM_150 rfl) rfl rfl ?_
      refine w_static (p := 29) (mj := 151) (pI pM_150 rfl) rfl rfl rfl rfl rfl rfl rfl rfl rfl ?_
      refine c_mayBe _ hop (fun k hk e hr => ?_) (fun hn => ?_)
      · refine w_if_ne (p := 32) (q := 35) (pI pM_150 rfl) rfl rfl rfl (fun _ => ?_) (fun c => absurd (by decide) c)
        obtain ⟨q, hq, rfl⟩ := hm
        obtain ⟨n, hn40, hl⟩ := hlen q (by omega)
        refine w_aload_n (p := 36) (pI pM_150 rfl) rfl rfl ?_
        refine v_getR (p := 39) (kf := 3) (pI pM_150 rfl) rfl rfl rfl (by decide) (by decide) rfl rfl ?_
        refine w_iload_n (p := 40) (pI pM_150 rfl) rfl rfl ?_
        refine v_iald (p := 41) (x := nI n) (pI pM_150 rfl) rfl (by decide) rfl (vp_in_nI (by omega) (by decide)) (by rw [nI_clamp (by omega), hl]) ?_
        refine w_bipush (p := 43) (v := nI 40) (pI pM_150 rfl) rfl rfl ?_
        refine w_icmp_ne (p := 46) (q := 49) (pI pM_150 rfl) rfl rfl rfl (fun c_1 => ?_) (fun c_1 => ?_)
        · have hlt : n < 40 := Nat.lt_of_le_of_ne hn40 (fun z => c_1 (by rw [z]))
          refine w_aload_n (p := 50) (pI pM_150 rfl) rfl rfl ?_
          refine v_getR (p := 53) (kf := 4) (pI pM_150 rfl) rfl rfl rfl (by decide) (by decide) rfl rfl ?_
          refine w_bipush (p := 55) (v := nI 40) (pI pM_150 rfl) rfl rfl ?_
          refine w_iload_n (p := 56) (pI pM_150 rfl) rfl rfl ?_
          refine w_imul (p := 57) (pI pM_150 rfl) rfl ?_
          rw [pk_mul]
          refine w_aload_n (p := 58) (pI pM_150 rfl) rfl rfl ?_
          refine v_getR (p := 61) (kf := 3) (pI pM_150 rfl) rfl rfl rfl (by decide) (by decide) rfl rfl ?_
          refine w_iload_n (p := 62) (pI pM_150 rfl) rfl rfl ?_
          refine v_iald (p := 63) (x := nI n) (pI pM_150 rfl) rfl (by decide) rfl (vp_in_nI (by omega) (by decide)) (by rw [nI_clamp (by omega), hl]) ?_
          refine w_iadd (p := 64) (pI pM_150 rfl) rfl ?_
          rw [nI_add]
          refine w_iload_n (p := 65) (pI pM_150 rfl) rfl rfl ?_
          refine v_iast (p := 66) (pI pM_150 rfl) rfl (by decide) (by decide) rfl (vp_in_nI (by omega) (by decide)) ?_
          rw [nI_clamp (by omega)]
          refine w_aload_n (p := 67) (pI pM_150 rfl) rfl rfl ?_
          refine v_getR (p := 70) (kf := 5) (pI pM_150 rfl) rfl rfl rfl (by decide) (by decide) rfl rfl ?_
          refine w_bipush (p := 72) (v := nI 40) (pI pM_150 rfl) rfl rfl ?_
          refine w_iload_n (p := 73) (pI pM_150 rfl) rfl rfl ?_
          refine w_imul (p := 74) (pI pM_150 rfl) rfl ?_
          rw [pk_mul]
          refine w_aload_n (p := 75) (pI pM_150 rfl) rfl rfl ?_
          refine v_getR (p := 78) (kf := 3) (pI pM_150 rfl) rfl rfl rfl (by decide) (by decide) rfl rfl ?_
          refine w_iload_n (p := 79) (pI pM_150 rfl) rfl rfl ?_
          refine v_iald (p := 80) (x := nI n) (pI pM_150 rfl) rfl (by decide) rfl (vp_in_nI (by omega) (by decide)) (by rw [nI_clamp (by omega), va_up_ne _ _ (by decide), hl]) ?_
          refine w_iadd (p := 81) (pI pM_150 rfl) rfl ?_
          rw [nI_add]
          refine w_iload_n (p := 82) (pI pM_150 rfl) rfl rfl ?_
          refine v_iast (p := 83) (pI pM_150 rfl) rfl (by decide) (by decide) rfl (vp_in_nI (by omega) (by decide)) ?_
          rw [nI_clamp (by omega), va_up_ne _ _ (by decide)]
          refine w_aload_n (p := 84) (pI pM_150 rfl) rfl rfl ?_
          refine v_getR (p := 87) (kf := 3) (pI pM_150 rfl) rfl rfl rfl (by decide) (by decide) rfl rfl ?_
          refine w_iload_n (p := 88) (pI pM_150 rfl) rfl rfl ?_
          refine w_dup2 (p := 89) (pI pM_150 rfl) rfl rfl rfl ?_
          refine v_iald (p := 90) (x := nI n) (pI pM_150 rfl) rfl (by decide) rfl (vp_in_nI (by omega) (by decide)) (by rw [nI_clamp (by omega), va_up_ne _ _ (by decide), va_up_ne _ _ (by decide), hl]) ?_
          refine w_iconst (p := 91) (v := nI 1) (pI pM_150 rfl) rfl rfl ?_
          refine w_iadd (p := 92) (pI pM_150 rfl) rfl ?_
          rw [nI_add]
          refine v_iast (p := 93) (pI pM_150 rfl) rfl (by decide) (by decide) rfl (vp_in_nI (by omega) (by decide)) ?_
          rw [nI_clamp (by omega), va_up_ne _ _ (by decide), va_up_ne _ _ (by decide)]
          refine w_aload_n (p := 94) (pI pM_150 rfl) rfl rfl ?_
          refine v_virtual (p := 97) (mj := 152) (pI pM_150 rfl) rfl rfl rfl rfl rfl rfl rfl rfl rfl rfl (by decide) (by decide) rfl ?_
          refine c_forget _ ?_
          refine w_aload_n (p := 98) (pI pM_150 rfl) rfl rfl ?_
          refine v_getR (p := 101) (kf := 3) (pI pM_150 rfl) rfl rfl rfl (by decide) (by decide) rfl rfl ?_
          refine w_iload_n (p := 102) (pI pM_150 rfl) rfl rfl ?_
          refine v_iald (p := 103) (x := nI (n + 1)) (pI pM_150 rfl) rfl (by decide) rfl (vp_in_nI (by omega) (by decide)) (by rw [nI_clamp (by omega), va_up_self, pk_us]) ?_
          exact w_ireturn (pI pM_150 rfl) rfl rfl rfl (ha _ _ hq rfl ⟨k, hk, e, hr⟩ hl hlt)
        · refine w_bipush (p := 48) (v := -4) (pI pM_150 rfl) rfl rfl ?_
          exact w_ireturn (pI pM_150 rfl) rfl rfl rfl (hf _ hq rfl ⟨k, hk, e, hr⟩ (by rw [hl]; exact Decidable.not_not.mp c_1))
      · refine w_if_ne (p := 32) (q := 35) (pI pM_150 rfl) rfl rfl rfl (fun c => absurd rfl c) (fun _ => ?_)
        refine w_bipush (p := 34) (v := -2) (pI pM_150 rfl) rfl rfl ?_
        exact w_ireturn (pI pM_150 rfl) rfl rfl rfl (hb (by first | exact fun z => hw (inM' hM6 z.1) | exact fun z => z.2.elim (fun k2 q2 => hn k2 q2.1 q2.2.1 q2.2.2) | exact fun z => z.2.elim (fun k2 q2 => hv (by rw [q2.2.1]; exact in30 q2.1))))
    · refine w_if_eq (p := 24) (q := 32) (pI pM_150 rfl) rfl rfl rfl (fun _ => ?_) (fun c => absurd rfl c)
      refine w_bipush (p := 34) (v := -2) (pI pM_150 rfl) rfl rfl ?_
      exact w_ireturn (pI pM_150 rfl) rfl rfl rfl (hb (by first | exact fun z => hw (inM' hM6 z.1) | exact fun z => z.2.elim (fun k2 q2 => hn k2 q2.1 q2.2.1 q2.2.2) | exact fun z => z.2.elim (fun k2 q2 => hv (by rw [q2.2.1]; exact in30 q2.1))))
  · refine w_if_eq (p := 14) (q := 32) (pI pM_150 rfl) rfl rfl rfl (fun _ => ?_) (fun c => absurd rfl c)
    refine w_bipush (p := 34) (v := -2) (pI pM_150 rfl) rfl rfl ?_
    exact w_ireturn (pI pM_150 rfl) rfl rfl rfl (hb (by first | exact fun z => hw (inM' hM6 z.1) | exact fun z => z.2.elim (fun k2 q2 => hn k2 q2.1 q2.2.1 q2.2.2) | exact fun z => z.2.elim (fun k2 q2 => hv (by rw [q2.2.1]; exact in30 q2.1))))
