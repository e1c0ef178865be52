/-! WAYS: the top of the stack -/
set_option maxRecDepth 100000 in
theorem c_peek (d : Nat) {L w t : Nat} {A I : Nat → Nat → Int32} {Q : bm_Q} (hW_w : isW w) (hT : wTop A I w t) {h : Nat} (hH : A (w + 3) t = nI h) (hh : h ≤ 12) {b : Nat} (hb : b < h) (hQ : Q (some (.int (A (w + 4) (t * 18 + 6 + (h - 1 - b))))) (hp L A I)) : bm_M (d + 1) 122 [.ref w, .int (nI b)] (hp L A I) Q := by
  refine bw_enter rfl rfl rfl rfl ?_
  refine w_aload_n (p := 1) (pI pM_122 rfl) rfl rfl ?_
  refine v_getR (p := 4) (kf := 2) (pI pM_122 rfl) rfl rfl rfl (hW_w.ge 0) (hW_w.lt 0 (by decide)) (hW_w.sk 0 (by decide)) rfl ?_
  refine w_aload_n (p := 5) (pI pM_122 rfl) rfl rfl ?_
  refine v_getI (p := 8) (kf := 4) (x := nI t) (pI pM_122 rfl) rfl rfl rfl (hW_w.ge 0) (hW_w.lt 0 (by decide)) (hW_w.sk 0 (by decide)) rfl hT.2 ?_
  refine v_iald (p := 9) (x := nI h) (pI pM_122 rfl) rfl (hW_w.lt 3 (by decide)) (hW_w.sk 3 (by decide)) (vp_in_nI (by have := hT.1; omega) (by decide)) (by rw [nI_clamp (by have := hT.1; omega), hH]) ?_
  refine w_iconst (p := 10) (v := nI 1) (pI pM_122 rfl) rfl rfl ?_
  refine w_isub (p := 11) (pI pM_122 rfl) rfl ?_
  rw [pk_sub (by omega)]
  refine w_iload_n (p := 12) (pI pM_122 rfl) rfl rfl ?_
  refine w_isub (p := 13) (pI pM_122 rfl) rfl ?_
  rw [pk_sub (by omega)]
  refine w_istore_n (p := 14) (pI pM_122 rfl) rfl rfl rfl ?_
  refine w_iload_n (p := 15) (pI pM_122 rfl) rfl rfl ?_
  refine w_if_ge (p := 18) (q := 23) (pI pM_122 rfl) rfl rfl rfl (fun c_1 => ?_) (fun c_1 => ?_)
  · refine w_aload_n (p := 24) (pI pM_122 rfl) rfl rfl ?_
    refine v_getR (p := 27) (kf := 3) (pI pM_122 rfl) rfl rfl rfl (hW_w.ge 0) (hW_w.lt 0 (by decide)) (hW_w.sk 0 (by decide)) rfl ?_
    refine w_aload_n (p := 28) (pI pM_122 rfl) rfl rfl ?_
    refine v_getI (p := 31) (kf := 4) (x := nI t) (pI pM_122 rfl) rfl rfl rfl (hW_w.ge 0) (hW_w.lt 0 (by decide)) (hW_w.sk 0 (by decide)) rfl hT.2 ?_
    refine w_bipush (p := 33) (v := nI 18) (pI pM_122 rfl) rfl rfl ?_
    refine w_imul (p := 34) (pI pM_122 rfl) rfl ?_
    rw [pk_mul]
    refine w_bipush (p := 36) (v := nI 6) (pI pM_122 rfl) rfl rfl ?_
    refine w_iadd (p := 37) (pI pM_122 rfl) rfl ?_
    rw [nI_add]
    refine w_iload_n (p := 38) (pI pM_122 rfl) rfl rfl ?_
    refine w_iadd (p := 39) (pI pM_122 rfl) rfl ?_
    rw [nI_add]
    refine v_iald (p := 40) (x := A (w + 4) (t * 18 + 6 + (h - 1 - b))) (pI pM_122 rfl) rfl (hW_w.lt 4 (by decide)) (hW_w.sk 4 (by decide)) (vp_in_nI (by have := hT.1; omega) (by decide)) (by rw [nI_clamp (by have := hT.1; omega)]) ?_
    first | exact absurd (nI_pos' (by omega)) c_1 | exact w_ireturn (pI pM_122 rfl) rfl rfl rfl hQ
  · refine w_bipush (p := 20) (v := -100) (pI pM_122 rfl) rfl rfl ?_
    refine w_goto (p := 40) (pI pM_122 rfl) rfl rfl ?_
    first | exact absurd (nI_pos' (by omega)) c_1 | exact w_ireturn (pI pM_122 rfl) rfl rfl rfl hQ
set_option maxRecDepth 100000 in
theorem c_peekE (d : Nat) {L w t : Nat} {A I : Nat → Nat → Int32} {Q : bm_Q} (hW_w : isW w) (hT : wTop A I w t) {h : Nat} (hH : A (w + 3) t = nI h) (hh : h ≤ 12) {b : Nat} (hb : h ≤ b) (hb2 : b ≤ 12) (hQ : Q (some (.int (-100))) (hp L A I)) : bm_M (d + 1) 122 [.ref w, .int (nI b)] (hp L A I) Q := by
  refine bw_enter rfl rfl rfl rfl ?_
  refine w_aload_n (p := 1) (pI pM_122 rfl) rfl rfl ?_
  refine v_getR (p := 4) (kf := 2) (pI pM_122 rfl) rfl rfl rfl (hW_w.ge 0) (hW_w.lt 0 (by decide)) (hW_w.sk 0 (by decide)) rfl ?_
  refine w_aload_n (p := 5) (pI pM_122 rfl) rfl rfl ?_
  refine v_getI (p := 8) (kf := 4) (x := nI t) (pI pM_122 rfl) rfl rfl rfl (hW_w.ge 0) (hW_w.lt 0 (by decide)) (hW_w.sk 0 (by decide)) rfl hT.2 ?_
  refine v_iald (p := 9) (x := nI h) (pI pM_122 rfl) rfl (hW_w.lt 3 (by decide)) (hW_w.sk 3 (by decide)) (vp_in_nI (by have := hT.1; omega) (by decide)) (by rw [nI_clamp (by have := hT.1; omega), hH]) ?_
  refine w_iconst (p := 10) (v := nI 1) (pI pM_122 rfl) rfl rfl ?_
  refine w_isub (p := 11) (pI pM_122 rfl) rfl ?_
  refine w_iload_n (p := 12) (pI pM_122 rfl) rfl rfl ?_
  refine w_isub (p := 13) (pI pM_122 rfl) rfl ?_
  refine w_istore_n (p := 14) (pI pM_122 rfl) rfl rfl rfl ?_
  refine w_iload_n (p := 15) (pI pM_122 rfl) rfl rfl ?_
  refine w_if_ge (p := 18) (q := 23) (pI pM_122 rfl) rfl rfl rfl (fun c_1 => ?_) (fun c_1 => ?_)
  · have e1 : (nI h - nI 1 - nI b).toInt < 0 := by
        rw [Int32.toInt_sub, pk_sub_toInt (by omega) (by decide), nI_toInt (by omega)]
        have e2 : (((h : Int) - ((1 : Nat) : Int)) - (b : Int)).bmod (2 ^ 32) = ((h : Int) - ((1 : Nat) : Int)) - (b : Int) := by
          unfold Int.bmod
          simp only [Nat.reducePow]
          split <;> omega
        rw [e2]
        omega
    exact absurd c_1 (by rw [Int32.le_iff_toInt_le]; exact Int.not_le.mpr (by simpa using e1))
  · refine w_bipush (p := 20) (v := -100) (pI pM_122 rfl) rfl rfl ?_
    refine w_goto (p := 40) (pI pM_122 rfl) rfl rfl ?_
    exact w_ireturn (pI pM_122 rfl) rfl rfl rfl hQ
set_option maxRecDepth 100000 in
theorem c_push (d : Nat) {L w t : Nat} {A I : Nat → Nat → Int32} {Q : bm_Q} (hW_w : isW w) (hT : wTop A I w t) {h : Nat} (hH : A (w + 3) t = nI h) (hh : h < 12) {x : Int32} (hQ : Q none (hp L (va_up (va_up A (w + 4) (upd (A (w + 4)) (t * 18 + 6 + h) x)) (w + 3) (upd (A (w + 3)) t (nI (h + 1)))) I)) : bm_M (d + 1) 126 [.ref w, .int x] (hp L A I) Q := by
  refine bw_enter rfl rfl rfl rfl ?_
  refine w_aload_n (p := 1) (pI pM_126 rfl) rfl rfl ?_
  refine v_getR (p := 4) (kf := 2) (pI pM_126 rfl) rfl rfl rfl (hW_w.ge 0) (hW_w.lt 0 (by decide)) (hW_w.sk 0 (by decide)) rfl ?_
  refine w_aload_n (p := 5) (pI pM_126 rfl) rfl rfl ?_
  refine v_getI (p := 8) (kf := 4) (x := nI t) (pI pM_126 rfl) rfl rfl rfl (hW_w.ge 0) (hW_w.lt 0 (by decide)) (hW_w.sk 0 (by decide)) rfl hT.2 ?_
  refine v_iald (p := 9) (x := nI h) (pI pM_126 rfl) rfl (hW_w.lt 3 (by decide)) (hW_w.sk 3 (by decide)) (vp_in_nI (by have := hT.1; omega) (by decide)) (by rw [nI_clamp (by have := hT.1; omega), hH]) ?_
  refine w_bipush (p := 11) (v := nI 12) (pI pM_126 rfl) rfl rfl ?_
  refine w_icmp_ge (p := 14) (q := 53) (pI pM_126 rfl) rfl rfl rfl (fun c_1 => ?_) (fun c_1 => ?_)
  · try rw [nI_clamp (by have := hT.1; omega), va_up_ne _ _ (by omega)]
    first | exact absurd c_1 (nI_ge hh (by decide)) | exact w_return (pI pM_126 rfl) rfl hQ
  · refine w_aload_n (p := 15) (pI pM_126 rfl) rfl rfl ?_
    refine v_getR (p := 18) (kf := 3) (pI pM_126 rfl) rfl rfl rfl (hW_w.ge 0) (hW_w.lt 0 (by decide)) (hW_w.sk 0 (by decide)) rfl ?_
    refine w_aload_n (p := 19) (pI pM_126 rfl) rfl rfl ?_
    refine v_getI (p := 22) (kf := 4) (x := nI t) (pI pM_126 rfl) rfl rfl rfl (hW_w.ge 0) (hW_w.lt 0 (by decide)) (hW_w.sk 0 (by decide)) rfl hT.2 ?_
    refine w_bipush (p := 24) (v := nI 18) (pI pM_126 rfl) rfl rfl ?_
    refine w_imul (p := 25) (pI pM_126 rfl) rfl ?_
    rw [pk_mul]
    refine w_bipush (p := 27) (v := nI 6) (pI pM_126 rfl) rfl rfl ?_
    refine w_iadd (p := 28) (pI pM_126 rfl) rfl ?_
    rw [nI_add]
    refine w_aload_n (p := 29) (pI pM_126 rfl) rfl rfl ?_
    refine v_getR (p := 32) (kf := 2) (pI pM_126 rfl) rfl rfl rfl (hW_w.ge 0) (hW_w.lt 0 (by decide)) (hW_w.sk 0 (by decide)) rfl ?_
    refine w_aload_n (p := 33) (pI pM_126 rfl) rfl rfl ?_
    refine v_getI (p := 36) (kf := 4) (x := nI t) (pI pM_126 rfl) rfl rfl rfl (hW_w.ge 0) (hW_w.lt 0 (by decide)) (hW_w.sk 0 (by decide)) rfl hT.2 ?_
    refine v_iald (p := 37) (x := nI h) (pI pM_126 rfl) rfl (hW_w.lt 3 (by decide)) (hW_w.sk 3 (by decide)) (vp_in_nI (by have := hT.1; omega) (by decide)) (by rw [nI_clamp (by have := hT.1; omega), hH]) ?_
    refine w_iadd (p := 38) (pI pM_126 rfl) rfl ?_
    rw [nI_add]
    refine w_iload_n (p := 39) (pI pM_126 rfl) rfl rfl ?_
    refine v_iast (p := 40) (pI pM_126 rfl) rfl (hW_w.ge 4) (hW_w.lt 4 (by decide)) (hW_w.sk 4 (by decide)) (vp_in_nI (by have := hT.1; omega) (by decide)) ?_
    rw [nI_clamp (by have := hT.1; omega)]
    refine w_aload_n (p := 41) (pI pM_126 rfl) rfl rfl ?_
    refine v_getR (p := 44) (kf := 2) (pI pM_126 rfl) rfl rfl rfl (hW_w.ge 0) (hW_w.lt 0 (by decide)) (hW_w.sk 0 (by decide)) rfl ?_
    refine w_aload_n (p := 45) (pI pM_126 rfl) rfl rfl ?_
    refine v_getI (p := 48) (kf := 4) (x := nI t) (pI pM_126 rfl) rfl rfl rfl (hW_w.ge 0) (hW_w.lt 0 (by decide)) (hW_w.sk 0 (by decide)) rfl hT.2 ?_
    refine w_dup2 (p := 49) (pI pM_126 rfl) rfl rfl rfl ?_
    refine v_iald (p := 50) (x := nI h) (pI pM_126 rfl) rfl (hW_w.lt 3 (by decide)) (hW_w.sk 3 (by decide)) (vp_in_nI (by have := hT.1; omega) (by decide)) (by rw [nI_clamp (by have := hT.1; omega), va_up_ne _ _ (by omega), hH]) ?_
    refine w_iconst (p := 51) (v := nI 1) (pI pM_126 rfl) rfl rfl ?_
    refine w_iadd (p := 52) (pI pM_126 rfl) rfl ?_
    rw [nI_add]
    refine v_iast (p := 53) (pI pM_126 rfl) rfl (hW_w.ge 3) (hW_w.lt 3 (by decide)) (hW_w.sk 3 (by decide)) (vp_in_nI (by have := hT.1; omega) (by decide)) ?_
    try rw [nI_clamp (by have := hT.1; omega), va_up_ne _ _ (by omega)]
    first | exact absurd c_1 (nI_ge hh (by decide)) | exact w_return (pI pM_126 rfl) rfl hQ
