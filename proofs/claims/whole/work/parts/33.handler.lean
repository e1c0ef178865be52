/-! PROMISE 4: handler, on both sides -/
def hdP (f t g k : Int32) : Prop := (nI 0 ≤ f ∧ f ≤ nI 40) ∧ (nI 0 ≤ t ∧ t ≤ nI 40) ∧ ¬ t ≤ f ∧ (nI 0 ≤ g ∧ g ≤ nI 39) ∧ (nI 0 ≤ k ∧ k ≤ nI 12)
set_option maxRecDepth 100000 in
theorem c_addHandler (d : Nat) {L q n : Nat} {A I : Nat → Nat → Int32} {Q : bm_Q} {f t g k : Int32} (hq : q < 6) (hl : A 27 q = nI n) (hn : n ≤ 4) (hf : n = 4 → Q (some (.int (-4))) (hp L A I)) (ha : n < 4 → Q (some (.int (nI (n + 1)))) (hp L (va_up (va_up (va_up (va_up (va_up A 28 (upd (A 28) (q * 4 + n) f)) 29 (upd (A 29) (q * 4 + n) t)) 30 (upd (A 30) (q * 4 + n) g)) 31 (upd (A 31) (q * 4 + n) k)) 27 (upd (A 27) q (nI (n + 1)))) I)) : bm_M (d + 1) 78 [.ref 22, .int (nI q), .int f, .int t, .int g, .int k] (hp L A I) Q := by
  refine bw_enter rfl rfl rfl rfl ?_
  refine w_aload_n (p := 1) (pI pM_78 rfl) rfl rfl ?_
  refine v_getR (p := 4) (kf := 5) (pI pM_78 rfl) rfl rfl rfl (by decide) (by decide) rfl rfl ?_
  refine w_iload_n (p := 5) (pI pM_78 rfl) rfl rfl ?_
  refine v_iald (p := 6) (x := nI n) (pI pM_78 rfl) rfl (by decide) rfl (vp_in_nI (by omega) (by decide)) (by rw [nI_clamp (by omega), hl]) ?_
  refine w_istore (p := 8) (pI pM_78 rfl) rfl rfl rfl ?_
  refine w_iload (p := 10) (pI pM_78 rfl) rfl rfl ?_
  refine w_iconst (p := 11) (v := nI 4) (pI pM_78 rfl) rfl rfl ?_
  refine w_icmp_lt (p := 14) (q := 17) (pI pM_78 rfl) rfl rfl rfl (fun c_1 => ?_) (fun c_1 => ?_)
  · have hlt : n < 4 := (nI_ltI (by omega) (by decide)).mp c_1
    refine w_iload_n (p := 18) (pI pM_78 rfl) rfl rfl ?_
    refine w_iconst (p := 19) (v := nI 4) (pI pM_78 rfl) rfl rfl ?_
    refine w_imul (p := 20) (pI pM_78 rfl) rfl ?_
    rw [pk_mul]
    refine w_iload (p := 22) (pI pM_78 rfl) rfl rfl ?_
    refine w_iadd (p := 23) (pI pM_78 rfl) rfl ?_
    rw [nI_add]
    refine w_istore (p := 25) (pI pM_78 rfl) rfl rfl rfl ?_
    refine w_aload_n (p := 26) (pI pM_78 rfl) rfl rfl ?_
    refine v_getR (p := 29) (kf := 6) (pI pM_78 rfl) rfl rfl rfl (by decide) (by decide) rfl rfl ?_
    refine w_iload (p := 31) (pI pM_78 rfl) rfl rfl ?_
    refine w_iload_n (p := 32) (pI pM_78 rfl) rfl rfl ?_
    refine v_iast (p := 33) (pI pM_78 rfl) rfl (by decide) (by decide) rfl (vp_in_nI (by omega) (by decide)) ?_
    rw [nI_clamp (by omega)]
    refine w_aload_n (p := 34) (pI pM_78 rfl) rfl rfl ?_
    refine v_getR (p := 37) (kf := 7) (pI pM_78 rfl) rfl rfl rfl (by decide) (by decide) rfl rfl ?_
    refine w_iload (p := 39) (pI pM_78 rfl) rfl rfl ?_
    refine w_iload_n (p := 40) (pI pM_78 rfl) rfl rfl ?_
    refine v_iast (p := 41) (pI pM_78 rfl) rfl (by decide) (by decide) rfl (vp_in_nI (by omega) (by decide)) ?_
    rw [nI_clamp (by omega), va_up_ne _ _ (by decide)]
    refine w_aload_n (p := 42) (pI pM_78 rfl) rfl rfl ?_
    refine v_getR (p := 45) (kf := 8) (pI pM_78 rfl) rfl rfl rfl (by decide) (by decide) rfl rfl ?_
    refine w_iload (p := 47) (pI pM_78 rfl) rfl rfl ?_
    refine w_iload (p := 49) (pI pM_78 rfl) rfl rfl ?_
    refine v_iast (p := 50) (pI pM_78 rfl) rfl (by decide) (by decide) rfl (vp_in_nI (by omega) (by decide)) ?_
    rw [nI_clamp (by omega), va_up_ne _ _ (by decide), va_up_ne _ _ (by decide)]
    refine w_aload_n (p := 51) (pI pM_78 rfl) rfl rfl ?_
    refine v_getR (p := 54) (kf := 9) (pI pM_78 rfl) rfl rfl rfl (by decide) (by decide) rfl rfl ?_
    refine w_iload (p := 56) (pI pM_78 rfl) rfl rfl ?_
    refine w_iload (p := 58) (pI pM_78 rfl) rfl rfl ?_
    refine v_iast (p := 59) (pI pM_78 rfl) rfl (by decide) (by decide) rfl (vp_in_nI (by omega) (by decide)) ?_
    rw [nI_clamp (by omega), va_up_ne _ _ (by decide), va_up_ne _ _ (by decide), va_up_ne _ _ (by decide)]
    refine w_aload_n (p := 60) (pI pM_78 rfl) rfl rfl ?_
    refine v_getR (p := 63) (kf := 5) (pI pM_78 rfl) rfl rfl rfl (by decide) (by decide) rfl rfl ?_
    refine w_iload_n (p := 64) (pI pM_78 rfl) rfl rfl ?_
    refine w_iload (p := 66) (pI pM_78 rfl) rfl rfl ?_
    refine w_iconst (p := 67) (v := nI 1) (pI pM_78 rfl) rfl rfl ?_
    refine w_iadd (p := 68) (pI pM_78 rfl) rfl ?_
    rw [nI_add]
    refine v_iast (p := 69) (pI pM_78 rfl) rfl (by decide) (by decide) rfl (vp_in_nI (by omega) (by decide)) ?_
    rw [nI_clamp (by omega), va_up_ne _ _ (by decide), va_up_ne _ _ (by decide), va_up_ne _ _ (by decide), va_up_ne _ _ (by decide)]
    refine w_iload (p := 71) (pI pM_78 rfl) rfl rfl ?_
    refine w_iconst (p := 72) (v := nI 1) (pI pM_78 rfl) rfl rfl ?_
    refine w_iadd (p := 73) (pI pM_78 rfl) rfl ?_
    rw [nI_add]
    exact w_ireturn (pI pM_78 rfl) rfl rfl rfl (ha hlt)
  · refine w_bipush (p := 16) (v := -4) (pI pM_78 rfl) rfl rfl ?_
    exact w_ireturn (pI pM_78 rfl) rfl rfl rfl (hf (Nat.le_antisymm hn (Nat.not_lt.mp (fun z => c_1 ((nI_ltI (b := 4) (by omega) (by decide)).mpr z)))))
set_option maxRecDepth 100000 in
theorem c_handler (d : Nat) {L M : Nat} {A I : Nat → Nat → Int32} {Q : bm_Q} {m f t g k : Int32} (hM : I 22 0 = nI M) (hM6 : M ≤ 6) (hlen : ∀ q, q < 6 → ∃ n, n ≤ 4 ∧ A 27 q = nI n) (hb : ¬ (inR m M ∧ hdP f t g k) → Q (some (.int (-2))) (hp L A I)) (hf : ∀ q, q < M → m = nI q → hdP f t g k → A 27 q = nI 4 → Q (some (.int (-4))) (hp L A I)) (ha : ∀ q n, q < M → m = nI q → hdP f t g k → A 27 q = nI n → n < 4 → Q (some (.int (nI (n + 1)))) (hp L (va_up (va_up (va_up (va_up (va_up A 28 (upd (A 28) (q * 4 + n) f)) 29 (upd (A 29) (q * 4 + n) t)) 30 (upd (A 30) (q * 4 + n) g)) 31 (upd (A 31) (q * 4 + n) k)) 27 (upd (A 27) q (nI (n + 1)))) (va_up I 3 (upd (I 3) 7 (nI 0))))) : bm_M (d + 2) 4 [.ref 3, .int m, .int f, .int t, .int g, .int k] (hp L A I) Q := by
  refine bw_enter rfl rfl rfl rfl ?_
  refine w_aload_n (p := 1) (pI pM_4 rfl) rfl rfl ?_
  refine v_getR (p := 4) (kf := 2) (pI pM_4 rfl) rfl rfl rfl (by decide) (by decide) rfl rfl ?_
  refine w_iload_n (p := 5) (pI pM_4 rfl) rfl rfl ?_
  refine v_virtual (p := 8) (mj := 74) (pI pM_4 rfl) rfl rfl rfl rfl rfl rfl rfl rfl rfl rfl (by decide) (by decide) rfl ?_
  refine c_hasMethod _ hM hM6 (fun hw => ?_) (fun hw => ?_)
  · refine w_if_eq (p := 11) (q := 58) (pI pM_4 rfl) rfl rfl rfl (fun c => absurd c (by decide)) (fun _ => ?_)
    refine w_iload_n (p := 12) (pI pM_4 rfl) rfl rfl ?_
    refine w_iconst (p := 13) (v := nI 0) (pI pM_4 rfl) rfl rfl ?_
    refine w_bipush (p := 15) (v := nI 40) (pI pM_4 rfl) rfl rfl ?_
    refine w_static (p := 18) (mj := 2) (pI pM_4 rfl) rfl rfl rfl rfl rfl rfl rfl rfl rfl ?_
    refine c_within _ (fun w1 => ?_) (fun w1 => ?_)
    · refine w_if_eq (p := 21) (q := 58) (pI pM_4 rfl) rfl rfl rfl (fun c => absurd c (by decide)) (fun _ => ?_)
      refine w_iload_n (p := 22) (pI pM_4 rfl) rfl rfl ?_
      refine w_iconst (p := 23) (v := nI 0) (pI pM_4 rfl) rfl rfl ?_
      refine w_bipush (p := 25) (v := nI 40) (pI pM_4 rfl) rfl rfl ?_
      refine w_static (p := 28) (mj := 2) (pI pM_4 rfl) rfl rfl rfl rfl rfl rfl rfl rfl rfl ?_
      refine c_within _ (fun w2 => ?_) (fun w2 => ?_)
      · refine w_if_eq (p := 31) (q := 58) (pI pM_4 rfl) rfl rfl rfl (fun c => absurd c (by decide)) (fun _ => ?_)
        refine w_iload_n (p := 32) (pI pM_4 rfl) rfl rfl ?_
        refine w_iload_n (p := 33) (pI pM_4 rfl) rfl rfl ?_
        refine w_icmp_ge (p := 36) (q := 58) (pI pM_4 rfl) rfl rfl rfl (fun c_1 => ?_) (fun c_1 => ?_)
        · refine w_bipush (p := 60) (v := -2) (pI pM_4 rfl) rfl rfl ?_
          exact w_ireturn (pI pM_4 rfl) rfl rfl rfl (hb (by first | exact fun z => hw z.1 | exact fun z => w1 z.2.1 | exact fun z => w2 z.2.2.1 | exact fun z => z.2.2.2.1 c_1 | exact fun z => w3 z.2.2.2.2.1 | exact fun z => w4 z.2.2.2.2.2))
        · refine w_iload (p := 38) (pI pM_4 rfl) rfl rfl ?_
          refine w_iconst (p := 39) (v := nI 0) (pI pM_4 rfl) rfl rfl ?_
          refine w_bipush (p := 41) (v := nI 39) (pI pM_4 rfl) rfl rfl ?_
          refine w_static (p := 44) (mj := 2) (pI pM_4 rfl) rfl rfl rfl rfl rfl rfl rfl rfl rfl ?_
          refine c_within _ (fun w3 => ?_) (fun w3 => ?_)
          · refine w_if_eq (p := 47) (q := 58) (pI pM_4 rfl) rfl rfl rfl (fun c => absurd c (by decide)) (fun _ => ?_)
            refine w_iload (p := 49) (pI pM_4 rfl) rfl rfl ?_
            refine w_iconst (p := 50) (v := nI 0) (pI pM_4 rfl) rfl rfl ?_
            refine w_bipush (p := 52) (v := nI 12) (pI pM_4 rfl) rfl rfl ?_
            refine w_static (p := 55) (mj := 2) (pI pM_4 rfl) rfl rfl rfl rfl rfl rfl rfl rfl rfl ?_
            refine c_within _ (fun w4 => ?_) (fun w4 => ?_)
            · refine w_if_ne (p := 58) (q := 61) (pI pM_4 rfl) rfl rfl rfl (fun _ => ?_) (fun c => absurd (by decide) c)
              obtain ⟨q, hq, rfl⟩ := hw
              obtain ⟨n, hn4, hl⟩ := hlen q (by omega)
              refine w_aload_n (p := 62) (pI pM_4 rfl) rfl rfl ?_
              refine v_getR (p := 65) (kf := 2) (pI pM_4 rfl) rfl rfl rfl (by decide) (by decide) rfl rfl ?_
              refine w_iload_n (p := 66) (pI pM_4 rfl) rfl rfl ?_
              refine w_iload_n (p := 67) (pI pM_4 rfl) rfl rfl ?_
              refine w_iload_n (p := 68) (pI pM_4 rfl) rfl rfl ?_
              refine w_iload (p := 70) (pI pM_4 rfl) rfl rfl ?_
              refine w_iload (p := 72) (pI pM_4 rfl) rfl rfl ?_
              refine v_virtual (p := 75) (mj := 78) (pI pM_4 rfl) rfl rfl rfl rfl rfl rfl rfl rfl rfl rfl (by decide) (by decide) rfl ?_
              refine c_addHandler _ (by omega) hl hn4 (fun z => ?_) (fun z => ?_)
              · refine w_istore (p := 77) (pI pM_4 rfl) rfl rfl rfl ?_
                refine w_iload (p := 79) (pI pM_4 rfl) rfl rfl ?_
                refine w_bipush (p := 81) (v := -4) (pI pM_4 rfl) rfl rfl ?_
                refine w_icmp_eq (p := 84) (q := 89) (pI pM_4 rfl) rfl rfl rfl (fun c_2 => ?_) (fun c_2 => ?_)
                · refine w_iload (p := 91) (pI pM_4 rfl) rfl rfl ?_
                  exact w_ireturn (pI pM_4 rfl) rfl rfl rfl (by first | exact hf _ hq rfl ⟨w1, w2, c_1, w3, w4⟩ (by rw [hl, z]) | exact absurd rfl c_2 | exact absurd c_3 (nI_m4 (by omega)) | exact ha _ _ hq rfl ⟨w1, w2, c_1, w3, w4⟩ hl z)
                · refine w_aload_n (p := 85) (pI pM_4 rfl) rfl rfl ?_
                  refine w_iconst (p := 86) (v := nI 0) (pI pM_4 rfl) rfl rfl ?_
                  refine v_putI (p := 89) (kf := 7) (pI pM_4 rfl) rfl rfl rfl (by decide) (by decide) rfl rfl rfl rfl rfl rfl ?_
                  refine w_iload (p := 91) (pI pM_4 rfl) rfl rfl ?_
                  exact w_ireturn (pI pM_4 rfl) rfl rfl rfl (by first | exact hf _ hq rfl ⟨w1, w2, c_1, w3, w4⟩ (by rw [hl, z]) | exact absurd rfl c_2 | exact absurd c_3 (nI_m4 (by omega)) | exact ha _ _ hq rfl ⟨w1, w2, c_1, w3, w4⟩ hl z)
              · refine w_istore (p := 77) (pI pM_4 rfl) rfl rfl rfl ?_
                refine w_iload (p := 79) (pI pM_4 rfl) rfl rfl ?_
                refine w_bipush (p := 81) (v := -4) (pI pM_4 rfl) rfl rfl ?_
                refine w_icmp_eq (p := 84) (q := 89) (pI pM_4 rfl) rfl rfl rfl (fun c_3 => ?_) (fun c_3 => ?_)
                · refine w_iload (p := 91) (pI pM_4 rfl) rfl rfl ?_
                  exact w_ireturn (pI pM_4 rfl) rfl rfl rfl (by first | exact hf _ hq rfl ⟨w1, w2, c_1, w3, w4⟩ (by rw [hl, z]) | exact absurd rfl c_2 | exact absurd c_3 (nI_m4 (by omega)) | exact ha _ _ hq rfl ⟨w1, w2, c_1, w3, w4⟩ hl z)
                · refine w_aload_n (p := 85) (pI pM_4 rfl) rfl rfl ?_
                  refine w_iconst (p := 86) (v := nI 0) (pI pM_4 rfl) rfl rfl ?_
                  refine v_putI (p := 89) (kf := 7) (pI pM_4 rfl) rfl rfl rfl (by decide) (by decide) rfl rfl rfl rfl rfl rfl ?_
                  refine w_iload (p := 91) (pI pM_4 rfl) rfl rfl ?_
                  exact w_ireturn (pI pM_4 rfl) rfl rfl rfl (by first | exact hf _ hq rfl ⟨w1, w2, c_1, w3, w4⟩ (by rw [hl, z]) | exact absurd rfl c_2 | exact absurd c_3 (nI_m4 (by omega)) | exact ha _ _ hq rfl ⟨w1, w2, c_1, w3, w4⟩ hl z)
            · refine w_if_ne (p := 58) (q := 61) (pI pM_4 rfl) rfl rfl rfl (fun c => absurd rfl c) (fun _ => ?_)
              refine w_bipush (p := 60) (v := -2) (pI pM_4 rfl) rfl rfl ?_
              exact w_ireturn (pI pM_4 rfl) rfl rfl rfl (hb (by first | exact fun z => hw z.1 | exact fun z => w1 z.2.1 | exact fun z => w2 z.2.2.1 | exact fun z => z.2.2.2.1 c_1 | exact fun z => w3 z.2.2.2.2.1 | exact fun z => w4 z.2.2.2.2.2))
          · refine w_if_eq (p := 47) (q := 58) (pI pM_4 rfl) rfl rfl rfl (fun _ => ?_) (fun c => absurd rfl c)
            refine w_bipush (p := 60) (v := -2) (pI pM_4 rfl) rfl rfl ?_
            exact w_ireturn (pI pM_4 rfl) rfl rfl rfl (hb (by first | exact fun z => hw z.1 | exact fun z => w1 z.2.1 | exact fun z => w2 z.2.2.1 | exact fun z => z.2.2.2.1 c_1 | exact fun z => w3 z.2.2.2.2.1 | exact fun z => w4 z.2.2.2.2.2))
      · refine w_if_eq (p := 31) (q := 58) (pI pM_4 rfl) rfl rfl rfl (fun _ => ?_) (fun c => absurd rfl c)
        refine w_bipush (p := 60) (v := -2) (pI pM_4 rfl) rfl rfl ?_
        exact w_ireturn (pI pM_4 rfl) rfl rfl rfl (hb (by first | exact fun z => hw z.1 | exact fun z => w1 z.2.1 | exact fun z => w2 z.2.2.1 | exact fun z => z.2.2.2.1 c_1 | exact fun z => w3 z.2.2.2.2.1 | exact fun z => w4 z.2.2.2.2.2))
    · refine w_if_eq (p := 21) (q := 58) (pI pM_4 rfl) rfl rfl rfl (fun _ => ?_) (fun c => absurd rfl c)
      refine w_bipush (p := 60) (v := -2) (pI pM_4 rfl) rfl rfl ?_
      exact w_ireturn (pI pM_4 rfl) rfl rfl rfl (hb (by first | exact fun z => hw z.1 | exact fun z => w1 z.2.1 | exact fun z => w2 z.2.2.1 | exact fun z => z.2.2.2.1 c_1 | exact fun z => w3 z.2.2.2.2.1 | exact fun z => w4 z.2.2.2.2.2))
  · refine w_if_eq (p := 11) (q := 58) (pI pM_4 rfl) rfl rfl rfl (fun _ => ?_) (fun c => absurd rfl c)
    refine w_bipush (p := 60) (v := -2) (pI pM_4 rfl) rfl rfl ?_
    exact w_ireturn (pI pM_4 rfl) rfl rfl rfl (hb (by first | exact fun z => hw z.1 | exact fun z => w1 z.2.1 | exact fun z => w2 z.2.2.1 | exact fun z => z.2.2.2.1 c_1 | exact fun z => w3 z.2.2.2.2.1 | exact fun z => w4 z.2.2.2.2.2))
set_option maxRecDepth 100000 in
theorem c_mhandler (d : Nat) {L M : Nat} {A I : Nat → Nat → Int32} {Q : bm_Q} {m f t g k : Int32} (hM : I 1681 1 = nI M) (hM6 : M ≤ 6) (hlen : ∀ q, q < 6 → ∃ n, n ≤ 4 ∧ A 1686 q = nI n) (hb : ¬ (inR m M ∧ hdP f t g k) → Q (some (.int (-2))) (hp L A I)) (hf : ∀ q, q < M → m = nI q → hdP f t g k → A 1686 q = nI 4 → Q (some (.int (-4))) (hp L A I)) (ha : ∀ q n, q < M → m = nI q → hdP f t g k → A 1686 q = nI n → n < 4 → Q (some (.int (nI (n + 1)))) (hp L (va_up (va_up A 1687 (upd (upd (upd (upd (A 1687) (16 * q + 4 * n) f) (16 * q + 4 * n + 1) t) (16 * q + 4 * n + 2) g) (16 * q + 4 * n + 3) k)) 1686 (upd (A 1686) q (nI (n + 1)))) (va_up I 1681 (upd (I 1681) 16 (nI 0))))) : bm_M (d + 2) 153 [.ref 1681, .int m, .int f, .int t, .int g, .int k] (hp L A I) Q := by
  refine bw_enter rfl rfl rfl rfl ?_
  refine w_iload_n (p := 1) (pI pM_153 rfl) rfl rfl ?_
  refine w_iconst (p := 2) (v := nI 0) (pI pM_153 rfl) rfl rfl ?_
  refine w_aload_n (p := 3) (pI pM_153 rfl) rfl rfl ?_
  refine v_getI (p := 6) (kf := 1) (x := nI M) (pI pM_153 rfl) rfl rfl rfl (by decide) (by decide) rfl rfl hM ?_
  refine w_iconst (p := 7) (v := nI 1) (pI pM_153 rfl) rfl rfl ?_
  refine w_isub (p := 8) (pI pM_153 rfl) rfl ?_
  refine w_static (p := 11) (mj := 149) (pI pM_153 rfl) rfl rfl rfl rfl rfl rfl rfl rfl rfl ?_
  refine c_isIn _ (fun hw => ?_) (fun hw => ?_)
  · refine w_if_eq (p := 14) (q := 61) (pI pM_153 rfl) rfl rfl rfl (fun c => absurd c (by decide)) (fun _ => ?_)
    refine w_iload_n (p := 15) (pI pM_153 rfl) rfl rfl ?_
    refine w_iconst (p := 16) (v := nI 0) (pI pM_153 rfl) rfl rfl ?_
    refine w_bipush (p := 18) (v := nI 40) (pI pM_153 rfl) rfl rfl ?_
    refine w_static (p := 21) (mj := 149) (pI pM_153 rfl) rfl rfl rfl rfl rfl rfl rfl rfl rfl ?_
    refine c_isIn _ (fun w1 => ?_) (fun w1 => ?_)
    · refine w_if_eq (p := 24) (q := 61) (pI pM_153 rfl) rfl rfl rfl (fun c => absurd c (by decide)) (fun _ => ?_)
      refine w_iload_n (p := 25) (pI pM_153 rfl) rfl rfl ?_
      refine w_iconst (p := 26) (v := nI 0) (pI pM_153 rfl) rfl rfl ?_
      refine w_bipush (p := 28) (v := nI 40) (pI pM_153 rfl) rfl rfl ?_
      refine w_static (p := 31) (mj := 149) (pI pM_153 rfl) rfl rfl rfl rfl rfl rfl rfl rfl rfl ?_
      refine c_isIn _ (fun w2 => ?_) (fun w2 => ?_)
      · refine w_if_eq (p := 34) (q := 61) (pI pM_153 rfl) rfl rfl rfl (fun c => absurd c (by decide)) (fun _ => ?_)
        refine w_iload_n (p := 35) (pI pM_153 rfl) rfl rfl ?_
        refine w_iload_n (p := 36) (pI pM_153 rfl) rfl rfl ?_
        refine w_icmp_ge (p := 39) (q := 61) (pI pM_153 rfl) rfl rfl rfl (fun c_1 => ?_) (fun c_1 => ?_)
        · refine w_bipush (p := 63) (v := -2) (pI pM_153 rfl) rfl rfl ?_
          exact w_ireturn (pI pM_153 rfl) rfl rfl rfl (hb (by first | exact fun z => hw (inM' hM6 z.1) | exact fun z => w1 z.2.1 | exact fun z => w2 z.2.2.1 | exact fun z => z.2.2.2.1 c_1 | exact fun z => w3 z.2.2.2.2.1 | exact fun z => w4 z.2.2.2.2.2))
        · refine w_iload (p := 41) (pI pM_153 rfl) rfl rfl ?_
          refine w_iconst (p := 42) (v := nI 0) (pI pM_153 rfl) rfl rfl ?_
          refine w_bipush (p := 44) (v := nI 39) (pI pM_153 rfl) rfl rfl ?_
          refine w_static (p := 47) (mj := 149) (pI pM_153 rfl) rfl rfl rfl rfl rfl rfl rfl rfl rfl ?_
          refine c_isIn _ (fun w3 => ?_) (fun w3 => ?_)
          · refine w_if_eq (p := 50) (q := 61) (pI pM_153 rfl) rfl rfl rfl (fun c => absurd c (by decide)) (fun _ => ?_)
            refine w_iload (p := 52) (pI pM_153 rfl) rfl rfl ?_
            refine w_iconst (p := 53) (v := nI 0) (pI pM_153 rfl) rfl rfl ?_
            refine w_bipush (p := 55) (v := nI 12) (pI pM_153 rfl) rfl rfl ?_
            refine w_static (p := 58) (mj := 149) (pI pM_153 rfl) rfl rfl rfl rfl rfl rfl rfl rfl rfl ?_
            refine c_isIn _ (fun w4 => ?_) (fun w4 => ?_)
            · refine w_if_ne (p := 61) (q := 64) (pI pM_153 rfl) rfl rfl rfl (fun _ => ?_) (fun c => absurd (by decide) c)
              obtain ⟨q, hq, rfl⟩ := inM hM6 hw
              obtain ⟨n, hn4, hl⟩ := hlen q (by omega)
              refine w_aload_n (p := 65) (pI pM_153 rfl) rfl rfl ?_
              refine v_getR (p := 68) (kf := 6) (pI pM_153 rfl) rfl rfl rfl (by decide) (by decide) rfl rfl ?_
              refine w_iload_n (p := 69) (pI pM_153 rfl) rfl rfl ?_
              refine v_iald (p := 70) (x := nI n) (pI pM_153 rfl) rfl (by decide) rfl (vp_in_nI (by omega) (by decide)) (by rw [nI_clamp (by omega), hl]) ?_
              refine w_iconst (p := 71) (v := nI 4) (pI pM_153 rfl) rfl rfl ?_
              refine w_icmp_ne (p := 74) (q := 77) (pI pM_153 rfl) rfl rfl rfl (fun c_2 => ?_) (fun c_2 => ?_)
              · have hlt : n < 4 := Nat.lt_of_le_of_ne hn4 (fun z => c_2 (by rw [z]))
                refine w_bipush (p := 79) (v := nI 16) (pI pM_153 rfl) rfl rfl ?_
                refine w_iload_n (p := 80) (pI pM_153 rfl) rfl rfl ?_
                refine w_imul (p := 81) (pI pM_153 rfl) rfl ?_
                rw [pk_mul]
                refine w_iconst (p := 82) (v := nI 4) (pI pM_153 rfl) rfl rfl ?_
                refine w_aload_n (p := 83) (pI pM_153 rfl) rfl rfl ?_
                refine v_getR (p := 86) (kf := 6) (pI pM_153 rfl) rfl rfl rfl (by decide) (by decide) rfl rfl ?_
                refine w_iload_n (p := 87) (pI pM_153 rfl) rfl rfl ?_
                refine v_iald (p := 88) (x := nI n) (pI pM_153 rfl) rfl (by decide) rfl (vp_in_nI (by omega) (by decide)) (by rw [nI_clamp (by omega), hl]) ?_
                refine w_imul (p := 89) (pI pM_153 rfl) rfl ?_
                rw [pk_mul]
                refine w_iadd (p := 90) (pI pM_153 rfl) rfl ?_
                rw [nI_add]
                refine w_istore (p := 92) (pI pM_153 rfl) rfl rfl rfl ?_
                refine w_aload_n (p := 93) (pI pM_153 rfl) rfl rfl ?_
                refine v_getR (p := 96) (kf := 7) (pI pM_153 rfl) rfl rfl rfl (by decide) (by decide) rfl rfl ?_
                refine w_iload (p := 98) (pI pM_153 rfl) rfl rfl ?_
                refine w_iload_n (p := 99) (pI pM_153 rfl) rfl rfl ?_
                refine v_iast (p := 100) (pI pM_153 rfl) rfl (by decide) (by decide) rfl (vp_in_nI (by omega) (by decide)) ?_
                rw [nI_clamp (by omega)]
                refine w_aload_n (p := 101) (pI pM_153 rfl) rfl rfl ?_
                refine v_getR (p := 104) (kf := 7) (pI pM_153 rfl) rfl rfl rfl (by decide) (by decide) rfl rfl ?_
                refine w_iload (p := 106) (pI pM_153 rfl) rfl rfl ?_
                refine w_iconst (p := 107) (v := nI 1) (pI pM_153 rfl) rfl rfl ?_
                refine w_iadd (p := 108) (pI pM_153 rfl) rfl ?_
                rw [nI_add]
                refine w_iload_n (p := 109) (pI pM_153 rfl) rfl rfl ?_
                refine v_iast (p := 110) (pI pM_153 rfl) rfl (by decide) (by decide) rfl (vp_in_nI (by omega) (by decide)) ?_
                rw [nI_clamp (by omega), va_up_self, bx_uu]
                refine w_aload_n (p := 111) (pI pM_153 rfl) rfl rfl ?_
                refine v_getR (p := 114) (kf := 7) (pI pM_153 rfl) rfl rfl rfl (by decide) (by decide) rfl rfl ?_
                refine w_iload (p := 116) (pI pM_153 rfl) rfl rfl ?_
                refine w_iconst (p := 117) (v := nI 2) (pI pM_153 rfl) rfl rfl ?_
                refine w_iadd (p := 118) (pI pM_153 rfl) rfl ?_
                rw [nI_add]
                refine w_iload (p := 120) (pI pM_153 rfl) rfl rfl ?_
                refine v_iast (p := 121) (pI pM_153 rfl) rfl (by decide) (by decide) rfl (vp_in_nI (by omega) (by decide)) ?_
                rw [nI_clamp (by omega), va_up_self, bx_uu]
                refine w_aload_n (p := 122) (pI pM_153 rfl) rfl rfl ?_
                refine v_getR (p := 125) (kf := 7) (pI pM_153 rfl) rfl rfl rfl (by decide) (by decide) rfl rfl ?_
                refine w_iload (p := 127) (pI pM_153 rfl) rfl rfl ?_
                refine w_iconst (p := 128) (v := nI 3) (pI pM_153 rfl) rfl rfl ?_
                refine w_iadd (p := 129) (pI pM_153 rfl) rfl ?_
                rw [nI_add]
                refine w_iload (p := 131) (pI pM_153 rfl) rfl rfl ?_
                refine v_iast (p := 132) (pI pM_153 rfl) rfl (by decide) (by decide) rfl (vp_in_nI (by omega) (by decide)) ?_
                rw [nI_clamp (by omega), va_up_self, bx_uu]
                refine w_aload_n (p := 133) (pI pM_153 rfl) rfl rfl ?_
                refine v_getR (p := 136) (kf := 6) (pI pM_153 rfl) rfl rfl rfl (by decide) (by decide) rfl rfl ?_
                refine w_iload_n (p := 137) (pI pM_153 rfl) rfl rfl ?_
                refine w_dup2 (p := 138) (pI pM_153 rfl) rfl rfl rfl ?_
                refine v_iald (p := 139) (x := nI n) (pI pM_153 rfl) rfl (by decide) rfl (vp_in_nI (by omega) (by decide)) (by rw [nI_clamp (by omega), va_up_ne _ _ (by decide), hl]) ?_
                refine w_iconst (p := 140) (v := nI 1) (pI pM_153 rfl) rfl rfl ?_
                refine w_iadd (p := 141) (pI pM_153 rfl) rfl ?_
                rw [nI_add]
                refine v_iast (p := 142) (pI pM_153 rfl) rfl (by decide) (by decide) rfl (vp_in_nI (by omega) (by decide)) ?_
                rw [nI_clamp (by omega), va_up_ne _ _ (by decide)]
                refine w_aload_n (p := 143) (pI pM_153 rfl) rfl rfl ?_
                refine v_virtual (p := 146) (mj := 152) (pI pM_153 rfl) rfl rfl rfl rfl rfl rfl rfl rfl rfl rfl (by decide) (by decide) rfl ?_
                refine c_forget _ ?_
                refine w_aload_n (p := 147) (pI pM_153 rfl) rfl rfl ?_
                refine v_getR (p := 150) (kf := 6) (pI pM_153 rfl) rfl rfl rfl (by decide) (by decide) rfl rfl ?_
                refine w_iload_n (p := 151) (pI pM_153 rfl) rfl rfl ?_
                refine v_iald (p := 152) (x := nI (n + 1)) (pI pM_153 rfl) rfl (by decide) rfl (vp_in_nI (by omega) (by decide)) (by rw [nI_clamp (by omega), va_up_self, pk_us]) ?_
                exact w_ireturn (pI pM_153 rfl) rfl rfl rfl (ha _ _ hq rfl ⟨w1, w2, c_1, w3, w4⟩ hl hlt)
              · refine w_bipush (p := 76) (v := -4) (pI pM_153 rfl) rfl rfl ?_
                exact w_ireturn (pI pM_153 rfl) rfl rfl rfl (hf _ hq rfl ⟨w1, w2, c_1, w3, w4⟩ (by rw [hl]; exact Decidable.not_not.mp c_2))
            · refine w_if_ne (p := 61) (q := 64) (pI pM_153 rfl) rfl rfl rfl (fun c => absurd rfl c) (fun _ => ?_)
              refine w_bipush (p := 63) (v := -2) (pI pM_153 rfl) rfl rfl ?_
              exact w_ireturn (pI pM_153 rfl) rfl rfl rfl (hb (by first | exact fun z => hw (inM' hM6 z.1) | exact fun z => w1 z.2.1 | exact fun z => w2 z.2.2.1 | exact fun z => z.2.2.2.1 c_1 | exact fun z => w3 z.2.2.2.2.1 | exact fun z => w4 z.2.2.2.2.2))
          · refine w_if_eq (p := 50) (q := 61) (pI pM_153 rfl) rfl rfl rfl (fun _ => ?_) (fun c => absurd rfl c)
            refine w_bipush (p := 63) (v := -2) (pI pM_153 rfl) rfl rfl ?_
            exact w_ireturn (pI pM_153 rfl) rfl rfl rfl (hb (by first | exact fun z => hw (inM' hM6 z.1) | exact fun z => w1 z.2.1 | exact fun z => w2 z.2.2.1 | exact fun z => z.2.2.2.1 c_1 | exact fun z => w3 z.2.2.2.2.1 | exact fun z => w4 z.2.2.2.2.2))
      · refine w_if_eq (p := 34) (q := 61) (pI pM_153 rfl) rfl rfl rfl (fun _ => ?_) (fun c => absurd rfl c)
        refine w_bipush (p := 63) (v := -2) (pI pM_153 rfl) rfl rfl ?_
        exact w_ireturn (pI pM_153 rfl) rfl rfl rfl (hb (by first | exact fun z => hw (inM' hM6 z.1) | exact fun z => w1 z.2.1 | exact fun z => w2 z.2.2.1 | exact fun z => z.2.2.2.1 c_1 | exact fun z => w3 z.2.2.2.2.1 | exact fun z => w4 z.2.2.2.2.2))
    · refine w_if_eq (p := 24) (q := 61) (pI pM_153 rfl) rfl rfl rfl (fun _ => ?_) (fun c => absurd rfl c)
      refine w_bipush (p := 63) (v := -2) (pI pM_153 rfl) rfl rfl ?_
      exact w_ireturn (pI pM_153 rfl) rfl rfl rfl (hb (by first | exact fun z => hw (inM' hM6 z.1) | exact fun z => w1 z.2.1 | exact fun z => w2 z.2.2.1 | exact fun z => z.2.2.2.1 c_1 | exact fun z => w3 z.2.2.2.2.1 | exact fun z => w4 z.2.2.2.2.2))
  · refine w_if_eq (p := 14) (q := 61) (pI pM_153 rfl) rfl rfl rfl (fun _ => ?_) (fun c => absurd rfl c)
    refine w_bipush (p := 63) (v := -2) (pI pM_153 rfl) rfl rfl ?_
    exact w_ireturn (pI pM_153 rfl) rfl rfl rfl (hb (by first | exact fun z => hw (inM' hM6 z.1) | exact fun z => w1 z.2.1 | exact fun z => w2 z.2.2.1 | exact fun z => z.2.2.2.1 c_1 | exact fun z => w3 z.2.2.2.2.1 | exact fun z => w4 z.2.2.2.2.2))
