/-! WAYS: finish -/
theorem up3 {α : Type} (A : Nat → α) {a b : Nat} (h : a ≠ b) (x y z : α) : va_up (va_up (va_up A a x) b y) a z = va_up (va_up A b y) a z := by
  funext k
  by_cases h1 : k = a
  · subst h1; rw [va_up_self, va_up_self]
  · rw [va_up_ne _ _ h1, va_up_ne _ _ h1]
    by_cases h2 : k = b
    · subst h2; rw [va_up_self, va_up_self]
    · rw [va_up_ne _ _ h2, va_up_ne _ _ h2, va_up_ne _ _ h1]
theorem upd_u (f : Nat → Int32) (k : Nat) (x y : Int32) : upd (upd f k x) k y = upd f k y := by
  funext j
  by_cases h : j = k
  · subst h; rw [pk_us, pk_us]
  · rw [pk_un h, pk_un h, pk_un h]
set_option maxRecDepth 100000 in
theorem c_finish (d : Nat) {L w t : Nat} {A I : Nat → Nat → Int32} {Q : bm_Q} (hW_w : isW w) (hT : wTop A I w t) {h : Nat} (hH : A (w + 3) t = nI h) (hh : h ≤ 12) {c : Nat} {x : Int32} (hc : c ≤ 12) (hs : h - c < 12) (hQ : Q none (hp L (va_up (va_up (va_up A (w + 4) (upd (A (w + 4)) (t * 18 + 6 + (h - c)) x)) (w + 3) (upd (A (w + 3)) t (nI (h - c + 1)))) (w + 2) (upd (A (w + 2)) t (A (w + 2) t + nI 1))) I)) : bm_M (d + 2) 125 [.ref w, .int (nI c), .int x] (hp L A I) Q := by
  refine bw_enter rfl rfl rfl rfl ?_
  refine w_aload_n (p := 1) (pI pM_125 rfl) rfl rfl ?_
  refine w_iload_n (p := 2) (pI pM_125 rfl) rfl rfl ?_
  refine v_virtual (p := 5) (mj := 120) (pI pM_125 rfl) rfl rfl rfl rfl rfl rfl rfl rfl rfl rfl (hW_w.ge 0) (hW_w.lt 0 (by decide)) (hW_w.sk 0 (by decide)) ?_
  refine c_drop _ hW_w hT hH hh hc ?_
  refine w_aload_n (p := 6) (pI pM_125 rfl) rfl rfl ?_
  refine w_iload_n (p := 7) (pI pM_125 rfl) rfl rfl ?_
  refine v_virtual (p := 10) (mj := 126) (pI pM_125 rfl) rfl rfl rfl rfl rfl rfl rfl rfl rfl rfl (hW_w.ge 0) (hW_w.lt 0 (by decide)) (hW_w.sk 0 (by decide)) ?_
  refine c_push _ (A := va_up A (w + 3) (upd (A (w + 3)) t (nI (h - c)))) hW_w (t := t) hT (h := h - c) (by rw [va_up_self, pk_us]) hs ?_
  rw [va_up_self, upd_u, va_up_ne _ _ (by omega : w + 4 ≠ w + 3), up3 _ (by omega : w + 3 ≠ w + 4)]
  refine w_aload_n (p := 11) (pI pM_125 rfl) rfl rfl ?_
  refine v_getR (p := 14) (kf := 1) (pI pM_125 rfl) rfl rfl rfl (hW_w.ge 0) (hW_w.lt 0 (by decide)) (hW_w.sk 0 (by decide)) rfl ?_
  refine w_aload_n (p := 15) (pI pM_125 rfl) rfl rfl ?_
  refine v_getI (p := 18) (kf := 4) (x := nI t) (pI pM_125 rfl) rfl rfl rfl (hW_w.ge 0) (hW_w.lt 0 (by decide)) (hW_w.sk 0 (by decide)) rfl hT.2 ?_
  refine w_dup2 (p := 19) (pI pM_125 rfl) rfl rfl rfl ?_
  refine v_iald (p := 20) (x := A (w + 2) t) (pI pM_125 rfl) rfl (hW_w.lt 2 (by decide)) (hW_w.sk 2 (by decide)) (vp_in_nI (by have := hT.1; omega) (by decide)) (by rw [nI_clamp (by have := hT.1; omega), va_up_ne _ _ (by omega), va_up_ne _ _ (by omega)]) ?_
  refine w_iconst (p := 21) (v := nI 1) (pI pM_125 rfl) rfl rfl ?_
  refine w_iadd (p := 22) (pI pM_125 rfl) rfl ?_
  refine v_iast (p := 23) (pI pM_125 rfl) rfl (hW_w.ge 2) (hW_w.lt 2 (by decide)) (hW_w.sk 2 (by decide)) (vp_in_nI (by have := hT.1; omega) (by decide)) ?_
  rw [nI_clamp (by have := hT.1; omega), va_up_ne _ _ (by omega : w + 2 ≠ w + 3), va_up_ne _ _ (by omega : w + 2 ≠ w + 4)]
  exact w_return (pI pM_125 rfl) rfl hQ
