/-! WAYS: where they lie; what is read of one -/
theorem isW.ge {w : Nat} (h : isW w) (o : Nat) : 3 ≤ w + o := by
  rcases h with rfl | ⟨i, hi, rfl⟩ <;> omega
theorem isW.lt {w : Nat} (h : isW w) (o : Nat) (ho : o < 10) : w + o < 1704 := by
  rcases h with rfl | ⟨i, hi, rfl⟩ <;> omega
theorem isW.sk {L w : Nat} (h : isW w) (o : Nat) (ho : o < 10) : sk L (w + o) = sk_wcell w o := by
  rcases h with rfl | ⟨i, hi, rfl⟩
  · rcases (show o = 0 ∨ o = 1 ∨ o = 2 ∨ o = 3 ∨ o = 4 ∨ o = 5 ∨ o = 6 ∨ o = 7 ∨ o = 8 ∨ o = 9 by omega) with rfl | rfl | rfl | rfl | rfl | rfl | rfl | rfl | rfl | rfl <;> rfl
  · rw [sk_mid (by omega) (by omega)]
    have e1 : (71 + 10 * i + o - 71) % 10 = o := by omega
    rw [e1]
    have e2 : 71 + 10 * i + o - o = 71 + 10 * i := by omega
    rw [e2]
/-- the numbers of a way's frames: how deep it is -/
def wTop (A I : Nat → Nat → Int32) (w t : Nat) : Prop := t ≤ 3 ∧ I w 4 = nI t
set_option maxRecDepth 100000 in
theorem c_methodNow (d : Nat) {L w t : Nat} {A I : Nat → Nat → Int32} {Q : bm_Q} (hW_w : isW w) (hT : wTop A I w t) (hQ : Q (some (.int (A (w + 1) t))) (hp L A I)) : bm_M (d + 1) 127 [.ref w] (hp L A I) Q := by
  refine bw_enter rfl rfl rfl rfl ?_
  refine w_aload_n (p := 1) (pI pM_127 rfl) rfl rfl ?_
  refine v_getR (p := 4) (kf := 0) (pI pM_127 rfl) rfl rfl rfl (hW_w.ge 0) (hW_w.lt 0 (by decide)) (hW_w.sk 0 (by decide)) rfl ?_
  refine w_aload_n (p := 5) (pI pM_127 rfl) rfl rfl ?_
  refine v_getI (p := 8) (kf := 4) (x := nI t) (pI pM_127 rfl) rfl rfl rfl (hW_w.ge 0) (hW_w.lt 0 (by decide)) (hW_w.sk 0 (by decide)) rfl hT.2 ?_
  refine v_iald (p := 9) (x := A (w + 1) t) (pI pM_127 rfl) rfl (hW_w.lt 1 (by decide)) (hW_w.sk 1 (by decide)) (vp_in_nI (by have := hT.1; omega) (by decide)) (by rw [nI_clamp (by have := hT.1; omega)]) ?_
  exact w_ireturn (pI pM_127 rfl) rfl rfl rfl hQ
set_option maxRecDepth 100000 in
theorem c_operationNow (d : Nat) {L w t : Nat} {A I : Nat → Nat → Int32} {Q : bm_Q} (hW_w : isW w) (hT : wTop A I w t) (hQ : Q (some (.int (A (w + 2) t))) (hp L A I)) : bm_M (d + 1) 119 [.ref w] (hp L A I) Q := by
  refine bw_enter rfl rfl rfl rfl ?_
  refine w_aload_n (p := 1) (pI pM_119 rfl) rfl rfl ?_
  refine v_getR (p := 4) (kf := 1) (pI pM_119 rfl) rfl rfl rfl (hW_w.ge 0) (hW_w.lt 0 (by decide)) (hW_w.sk 0 (by decide)) rfl ?_
  refine w_aload_n (p := 5) (pI pM_119 rfl) rfl rfl ?_
  refine v_getI (p := 8) (kf := 4) (x := nI t) (pI pM_119 rfl) rfl rfl rfl (hW_w.ge 0) (hW_w.lt 0 (by decide)) (hW_w.sk 0 (by decide)) rfl hT.2 ?_
  refine v_iald (p := 9) (x := A (w + 2) t) (pI pM_119 rfl) rfl (hW_w.lt 2 (by decide)) (hW_w.sk 2 (by decide)) (vp_in_nI (by have := hT.1; omega) (by decide)) (by rw [nI_clamp (by have := hT.1; omega)]) ?_
  exact w_ireturn (pI pM_119 rfl) rfl rfl rfl hQ
set_option maxRecDepth 100000 in
theorem c_height (d : Nat) {L w t : Nat} {A I : Nat → Nat → Int32} {Q : bm_Q} (hW_w : isW w) (hT : wTop A I w t) (hQ : Q (some (.int (A (w + 3) t))) (hp L A I)) : bm_M (d + 1) 136 [.ref w] (hp L A I) Q := by
  refine bw_enter rfl rfl rfl rfl ?_
  refine w_aload_n (p := 1) (pI pM_136 rfl) rfl rfl ?_
  refine v_getR (p := 4) (kf := 2) (pI pM_136 rfl) rfl rfl rfl (hW_w.ge 0) (hW_w.lt 0 (by decide)) (hW_w.sk 0 (by decide)) rfl ?_
  refine w_aload_n (p := 5) (pI pM_136 rfl) rfl rfl ?_
  refine v_getI (p := 8) (kf := 4) (x := nI t) (pI pM_136 rfl) rfl rfl rfl (hW_w.ge 0) (hW_w.lt 0 (by decide)) (hW_w.sk 0 (by decide)) rfl hT.2 ?_
  refine v_iald (p := 9) (x := A (w + 3) t) (pI pM_136 rfl) rfl (hW_w.lt 3 (by decide)) (hW_w.sk 3 (by decide)) (vp_in_nI (by have := hT.1; omega) (by decide)) (by rw [nI_clamp (by have := hT.1; omega)]) ?_
  exact w_ireturn (pI pM_136 rfl) rfl rfl rfl hQ
