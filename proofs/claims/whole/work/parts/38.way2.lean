/-! WAYS: more of their methods -/
set_option maxRecDepth 100000 in
theorem c_placeNow (d : Nat) {L w t : Nat} {A I : Nat → Nat → Int32} {Q : bm_Q} (hW_w : isW w) (hT : wTop A I w t) (hQ : Q (some (.int (nI 100 * A (w + 1) t + A (w + 2) t))) (hp L A I)) : bm_M (d + 1) 123 [.ref w] (hp L A I) Q := by
  refine bw_enter rfl rfl rfl rfl ?_
  refine w_bipush (p := 2) (v := nI 100) (pI pM_123 rfl) rfl rfl ?_
  refine w_aload_n (p := 3) (pI pM_123 rfl) rfl rfl ?_
  refine v_getR (p := 6) (kf := 0) (pI pM_123 rfl) rfl rfl rfl (hW_w.ge 0) (hW_w.lt 0 (by decide)) (hW_w.sk 0 (by decide)) rfl ?_
  refine w_aload_n (p := 7) (pI pM_123 rfl) rfl rfl ?_
  refine v_getI (p := 10) (kf := 4) (x := nI t) (pI pM_123 rfl) rfl rfl rfl (hW_w.ge 0) (hW_w.lt 0 (by decide)) (hW_w.sk 0 (by decide)) rfl hT.2 ?_
  refine v_iald (p := 11) (x := A (w + 1) t) (pI pM_123 rfl) rfl (hW_w.lt 1 (by decide)) (hW_w.sk 1 (by decide)) (vp_in_nI (by have := hT.1; omega) (by decide)) (by rw [nI_clamp (by have := hT.1; omega)]) ?_
  refine w_imul (p := 12) (pI pM_123 rfl) rfl ?_
  refine w_aload_n (p := 13) (pI pM_123 rfl) rfl rfl ?_
  refine v_getR (p := 16) (kf := 1) (pI pM_123 rfl) rfl rfl rfl (hW_w.ge 0) (hW_w.lt 0 (by decide)) (hW_w.sk 0 (by decide)) rfl ?_
  refine w_aload_n (p := 17) (pI pM_123 rfl) rfl rfl ?_
  refine v_getI (p := 20) (kf := 4) (x := nI t) (pI pM_123 rfl) rfl rfl rfl (hW_w.ge 0) (hW_w.lt 0 (by decide)) (hW_w.sk 0 (by decide)) rfl hT.2 ?_
  refine v_iald (p := 21) (x := A (w + 2) t) (pI pM_123 rfl) rfl (hW_w.lt 2 (by decide)) (hW_w.sk 2 (by decide)) (vp_in_nI (by have := hT.1; omega) (by decide)) (by rw [nI_clamp (by have := hT.1; omega)]) ?_
  refine w_iadd (p := 22) (pI pM_123 rfl) rfl ?_
  exact w_ireturn (pI pM_123 rfl) rfl rfl rfl hQ
set_option maxRecDepth 100000 in
theorem c_slotNow (d : Nat) {L w t : Nat} {A I : Nat → Nat → Int32} {Q : bm_Q} (hW_w : isW w) (hT : wTop A I w t) (hQ : Q (some (.int (A (w + 1) t * nI 40 + A (w + 2) t))) (hp L A I)) : bm_M (d + 1) 118 [.ref w] (hp L A I) Q := by
  refine bw_enter rfl rfl rfl rfl ?_
  refine w_aload_n (p := 1) (pI pM_118 rfl) rfl rfl ?_
  refine v_getR (p := 4) (kf := 0) (pI pM_118 rfl) rfl rfl rfl (hW_w.ge 0) (hW_w.lt 0 (by decide)) (hW_w.sk 0 (by decide)) rfl ?_
  refine w_aload_n (p := 5) (pI pM_118 rfl) rfl rfl ?_
  refine v_getI (p := 8) (kf := 4) (x := nI t) (pI pM_118 rfl) rfl rfl rfl (hW_w.ge 0) (hW_w.lt 0 (by decide)) (hW_w.sk 0 (by decide)) rfl hT.2 ?_
  refine v_iald (p := 9) (x := A (w + 1) t) (pI pM_118 rfl) rfl (hW_w.lt 1 (by decide)) (hW_w.sk 1 (by decide)) (vp_in_nI (by have := hT.1; omega) (by decide)) (by rw [nI_clamp (by have := hT.1; omega)]) ?_
  refine w_bipush (p := 11) (v := nI 40) (pI pM_118 rfl) rfl rfl ?_
  refine w_imul (p := 12) (pI pM_118 rfl) rfl ?_
  refine w_aload_n (p := 13) (pI pM_118 rfl) rfl rfl ?_
  refine v_getR (p := 16) (kf := 1) (pI pM_118 rfl) rfl rfl rfl (hW_w.ge 0) (hW_w.lt 0 (by decide)) (hW_w.sk 0 (by decide)) rfl ?_
  refine w_aload_n (p := 17) (pI pM_118 rfl) rfl rfl ?_
  refine v_getI (p := 20) (kf := 4) (x := nI t) (pI pM_118 rfl) rfl rfl rfl (hW_w.ge 0) (hW_w.lt 0 (by decide)) (hW_w.sk 0 (by decide)) rfl hT.2 ?_
  refine v_iald (p := 21) (x := A (w + 2) t) (pI pM_118 rfl) rfl (hW_w.lt 2 (by decide)) (hW_w.sk 2 (by decide)) (vp_in_nI (by have := hT.1; omega) (by decide)) (by rw [nI_clamp (by have := hT.1; omega)]) ?_
  refine w_iadd (p := 22) (pI pM_118 rfl) rfl ?_
  exact w_ireturn (pI pM_118 rfl) rfl rfl rfl hQ
set_option maxRecDepth 100000 in
theorem c_jump (d : Nat) {L w t : Nat} {A I : Nat → Nat → Int32} {Q : bm_Q} (hW_w : isW w) (hT : wTop A I w t) {x : Int32} (hQ : Q none (hp L (va_up A (w + 2) (upd (A (w + 2)) t x)) I)) : bm_M (d + 1) 121 [.ref w, .int x] (hp L A I) Q := by
  refine bw_enter rfl rfl rfl rfl ?_
  refine w_aload_n (p := 1) (pI pM_121 rfl) rfl rfl ?_
  refine v_getR (p := 4) (kf := 1) (pI pM_121 rfl) rfl rfl rfl (hW_w.ge 0) (hW_w.lt 0 (by decide)) (hW_w.sk 0 (by decide)) rfl ?_
  refine w_aload_n (p := 5) (pI pM_121 rfl) rfl rfl ?_
  refine v_getI (p := 8) (kf := 4) (x := nI t) (pI pM_121 rfl) rfl rfl rfl (hW_w.ge 0) (hW_w.lt 0 (by decide)) (hW_w.sk 0 (by decide)) rfl hT.2 ?_
  refine w_iload_n (p := 9) (pI pM_121 rfl) rfl rfl ?_
  refine v_iast (p := 10) (pI pM_121 rfl) rfl (hW_w.ge 2) (hW_w.lt 2 (by decide)) (hW_w.sk 2 (by decide)) (vp_in_nI (by have := hT.1; omega) (by decide)) ?_
  rw [nI_clamp (by have := hT.1; omega)]
  exact w_return (pI pM_121 rfl) rfl hQ
set_option maxRecDepth 100000 in
theorem c_next (d : Nat) {L w t : Nat} {A I : Nat → Nat → Int32} {Q : bm_Q} (hW_w : isW w) (hT : wTop A I w t) (hQ : Q none (hp L (va_up A (w + 2) (upd (A (w + 2)) t (A (w + 2) t + nI 1))) I)) : bm_M (d + 1) 134 [.ref w] (hp L A I) Q := by
  refine bw_enter rfl rfl rfl rfl ?_
  refine w_aload_n (p := 1) (pI pM_134 rfl) rfl rfl ?_
  refine v_getR (p := 4) (kf := 1) (pI pM_134 rfl) rfl rfl rfl (hW_w.ge 0) (hW_w.lt 0 (by decide)) (hW_w.sk 0 (by decide)) rfl ?_
  refine w_aload_n (p := 5) (pI pM_134 rfl) rfl rfl ?_
  refine v_getI (p := 8) (kf := 4) (x := nI t) (pI pM_134 rfl) rfl rfl rfl (hW_w.ge 0) (hW_w.lt 0 (by decide)) (hW_w.sk 0 (by decide)) rfl hT.2 ?_
  refine w_dup2 (p := 9) (pI pM_134 rfl) rfl rfl rfl ?_
  refine v_iald (p := 10) (x := A (w + 2) t) (pI pM_134 rfl) rfl (hW_w.lt 2 (by decide)) (hW_w.sk 2 (by decide)) (vp_in_nI (by have := hT.1; omega) (by decide)) (by rw [nI_clamp (by have := hT.1; omega)]) ?_
  refine w_iconst (p := 11) (v := nI 1) (pI pM_134 rfl) rfl rfl ?_
  refine w_iadd (p := 12) (pI pM_134 rfl) rfl ?_
  refine v_iast (p := 13) (pI pM_134 rfl) rfl (hW_w.ge 2) (hW_w.lt 2 (by decide)) (hW_w.sk 2 (by decide)) (vp_in_nI (by have := hT.1; omega) (by decide)) ?_
  rw [nI_clamp (by have := hT.1; omega)]
  exact w_return (pI pM_134 rfl) rfl hQ
set_option maxRecDepth 100000 in
theorem c_isDeepest (d : Nat) {L w t : Nat} {A I : Nat → Nat → Int32} {Q : bm_Q} (hW_w : isW w) (hT : wTop A I w t) (h1 : t = 3 → Q (some (.int 1)) (hp L A I)) (h0 : t < 3 → Q (some (.int 0)) (hp L A I)) : bm_M (d + 1) 139 [.ref w] (hp L A I) Q := by
  refine bw_enter rfl rfl rfl rfl ?_
  refine w_aload_n (p := 1) (pI pM_139 rfl) rfl rfl ?_
  refine v_getI (p := 4) (kf := 4) (x := nI t) (pI pM_139 rfl) rfl rfl rfl (hW_w.ge 0) (hW_w.lt 0 (by decide)) (hW_w.sk 0 (by decide)) rfl hT.2 ?_
  refine w_iconst (p := 5) (v := nI 3) (pI pM_139 rfl) rfl rfl ?_
  refine w_icmp_lt (p := 8) (q := 12) (pI pM_139 rfl) rfl rfl rfl (fun c_1 => ?_) (fun c_1 => ?_)
  · refine w_iconst (p := 13) (v := nI 0) (pI pM_139 rfl) rfl rfl ?_
    exact w_ireturn (pI pM_139 rfl) rfl rfl rfl (by have ht := hT.1; first | exact h0 ((nI_ltI (by omega) (by decide)).mp c_1) | exact h1 (by have := fun z => c_1 ((nI_ltI (b := 3) (by omega) (by decide)).mpr z); have := Nat.not_lt.mp this; omega))
  · refine w_iconst (p := 9) (v := nI 1) (pI pM_139 rfl) rfl rfl ?_
    refine w_goto (p := 13) (pI pM_139 rfl) rfl rfl ?_
    exact w_ireturn (pI pM_139 rfl) rfl rfl rfl (by have ht := hT.1; first | exact h0 ((nI_ltI (by omega) (by decide)).mp c_1) | exact h1 (by have := fun z => c_1 ((nI_ltI (b := 3) (by omega) (by decide)).mpr z); have := Nat.not_lt.mp this; omega))
set_option maxRecDepth 100000 in
theorem c_end (d : Nat) {L w : Nat} {A I : Nat → Nat → Int32} {Q : bm_Q} (hW_w : isW w) {x y : Int32} (hQ : Q none (hp L A (va_up I w (upd (upd (I w) 12 x) 13 y)))) : bm_M (d + 1) 124 [.ref w, .int x, .int y] (hp L A I) Q := by
  refine bw_enter rfl rfl rfl rfl ?_
  refine w_aload_n (p := 1) (pI pM_124 rfl) rfl rfl ?_
  refine w_iload_n (p := 2) (pI pM_124 rfl) rfl rfl ?_
  refine v_putI (p := 5) (kf := 12) (pI pM_124 rfl) rfl rfl rfl (hW_w.ge 0) (hW_w.lt 0 (by decide)) (hW_w.sk 0 (by decide)) rfl rfl rfl rfl rfl ?_
  refine w_aload_n (p := 6) (pI pM_124 rfl) rfl rfl ?_
  refine w_iload_n (p := 7) (pI pM_124 rfl) rfl rfl ?_
  refine v_putI (p := 10) (kf := 13) (pI pM_124 rfl) rfl rfl rfl (hW_w.ge 0) (hW_w.lt 0 (by decide)) (hW_w.sk 0 (by decide)) rfl rfl rfl rfl rfl ?_
  rw [va_up_self, bx_uu]
  exact w_return (pI pM_124 rfl) rfl hQ
