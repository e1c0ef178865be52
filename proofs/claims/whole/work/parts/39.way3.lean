/-! WAYS: locals and the stack -/
set_option maxRecDepth 100000 in
theorem c_localAt (d : Nat) {L w t : Nat} {A I : Nat → Nat → Int32} {Q : bm_Q} (hW_w : isW w) (hT : wTop A I w t) {i : Nat} (hi : i < 6) (hQ : Q (some (.int (A (w + 4) (t * 18 + i)))) (hp L A I)) : bm_M (d + 1) 137 [.ref w, .int (nI i)] (hp L A I) Q := by
  refine bw_enter rfl rfl rfl rfl ?_
  refine w_aload_n (p := 1) (pI pM_137 rfl) rfl rfl ?_
  refine v_getR (p := 4) (kf := 3) (pI pM_137 rfl) rfl rfl rfl (hW_w.ge 0) (hW_w.lt 0 (by decide)) (hW_w.sk 0 (by decide)) rfl ?_
  refine w_aload_n (p := 5) (pI pM_137 rfl) rfl rfl ?_
  refine v_getI (p := 8) (kf := 4) (x := nI t) (pI pM_137 rfl) rfl rfl rfl (hW_w.ge 0) (hW_w.lt 0 (by decide)) (hW_w.sk 0 (by decide)) rfl hT.2 ?_
  refine w_bipush (p := 10) (v := nI 18) (pI pM_137 rfl) rfl rfl ?_
  refine w_imul (p := 11) (pI pM_137 rfl) rfl ?_
  rw [pk_mul]
  refine w_iload_n (p := 12) (pI pM_137 rfl) rfl rfl ?_
  refine w_iadd (p := 13) (pI pM_137 rfl) rfl ?_
  rw [nI_add]
  refine v_iald (p := 14) (x := A (w + 4) (t * 18 + i)) (pI pM_137 rfl) rfl (hW_w.lt 4 (by decide)) (hW_w.sk 4 (by decide)) (vp_in_nI (by have := hT.1; omega) (by decide)) (by rw [nI_clamp (by have := hT.1; omega)]) ?_
  exact w_ireturn (pI pM_137 rfl) rfl rfl rfl hQ
set_option maxRecDepth 100000 in
theorem c_keepLocal (d : Nat) {L w t : Nat} {A I : Nat → Nat → Int32} {Q : bm_Q} (hW_w : isW w) (hT : wTop A I w t) {i : Nat} {x : Int32} (hi : i < 6) (hQ : Q none (hp L (va_up A (w + 4) (upd (A (w + 4)) (t * 18 + i) x)) I)) : bm_M (d + 1) 138 [.ref w, .int (nI i), .int x] (hp L A I) Q := by
  refine bw_enter rfl rfl rfl rfl ?_
  refine w_aload_n (p := 1) (pI pM_138 rfl) rfl rfl ?_
  refine v_getR (p := 4) (kf := 3) (pI pM_138 rfl) rfl rfl rfl (hW_w.ge 0) (hW_w.lt 0 (by decide)) (hW_w.sk 0 (by decide)) rfl ?_
  refine w_aload_n (p := 5) (pI pM_138 rfl) rfl rfl ?_
  refine v_getI (p := 8) (kf := 4) (x := nI t) (pI pM_138 rfl) rfl rfl rfl (hW_w.ge 0) (hW_w.lt 0 (by decide)) (hW_w.sk 0 (by decide)) rfl hT.2 ?_
  refine w_bipush (p := 10) (v := nI 18) (pI pM_138 rfl) rfl rfl ?_
  refine w_imul (p := 11) (pI pM_138 rfl) rfl ?_
  rw [pk_mul]
  refine w_iload_n (p := 12) (pI pM_138 rfl) rfl rfl ?_
  refine w_iadd (p := 13) (pI pM_138 rfl) rfl ?_
  rw [nI_add]
  refine w_iload_n (p := 14) (pI pM_138 rfl) rfl rfl ?_
  refine v_iast (p := 15) (pI pM_138 rfl) rfl (hW_w.ge 4) (hW_w.lt 4 (by decide)) (hW_w.sk 4 (by decide)) (vp_in_nI (by have := hT.1; omega) (by decide)) ?_
  rw [nI_clamp (by have := hT.1; omega)]
  exact w_return (pI pM_138 rfl) rfl hQ
set_option maxRecDepth 100000 in
theorem c_drop (d : Nat) {L w t : Nat} {A I : Nat → Nat → Int32} {Q : bm_Q} (hW_w : isW w) (hT : wTop A I w t) {h : Nat} (hH : A (w + 3) t = nI h) (hh : h ≤ 12) {c : Nat} (hc : c ≤ 12) (hQ : Q none (hp L (va_up A (w + 3) (upd (A (w + 3)) t (nI (h - c)))) I)) : bm_M (d + 1) 120 [.ref w, .int (nI c)] (hp L A I) Q := by
  refine bw_enter rfl rfl rfl rfl ?_
  refine w_aload_n (p := 1) (pI pM_120 rfl) rfl rfl ?_
  refine v_getR (p := 4) (kf := 2) (pI pM_120 rfl) rfl rfl rfl (hW_w.ge 0) (hW_w.lt 0 (by decide)) (hW_w.sk 0 (by decide)) rfl ?_
  refine w_aload_n (p := 5) (pI pM_120 rfl) rfl rfl ?_
  refine v_getI (p := 8) (kf := 4) (x := nI t) (pI pM_120 rfl) rfl rfl rfl (hW_w.ge 0) (hW_w.lt 0 (by decide)) (hW_w.sk 0 (by decide)) rfl hT.2 ?_
  refine w_aload_n (p := 9) (pI pM_120 rfl) rfl rfl ?_
  refine v_getR (p := 12) (kf := 2) (pI pM_120 rfl) rfl rfl rfl (hW_w.ge 0) (hW_w.lt 0 (by decide)) (hW_w.sk 0 (by decide)) rfl ?_
  refine w_aload_n (p := 13) (pI pM_120 rfl) rfl rfl ?_
  refine v_getI (p := 16) (kf := 4) (x := nI t) (pI pM_120 rfl) rfl rfl rfl (hW_w.ge 0) (hW_w.lt 0 (by decide)) (hW_w.sk 0 (by decide)) rfl hT.2 ?_
  refine v_iald (p := 17) (x := nI h) (pI pM_120 rfl) rfl (hW_w.lt 3 (by decide)) (hW_w.sk 3 (by decide)) (vp_in_nI (by have := hT.1; omega) (by decide)) (by rw [nI_clamp (by have := hT.1; omega), hH]) ?_
  refine w_iload_n (p := 18) (pI pM_120 rfl) rfl rfl ?_
  refine w_icmp_le (p := 21) (q := 35) (pI pM_120 rfl) rfl rfl rfl (fun c_1 => ?_) (fun c_1 => ?_)
  · have hle : h - c = 0 := Nat.sub_eq_zero_of_le ((nI_leI (by omega) (by omega)).mp c_1)
    rw [hle] at hQ
    refine w_iconst (p := 36) (v := nI 0) (pI pM_120 rfl) rfl rfl ?_
    refine v_iast (p := 37) (pI pM_120 rfl) rfl (hW_w.ge 3) (hW_w.lt 3 (by decide)) (hW_w.sk 3 (by decide)) (vp_in_nI (by have := hT.1; omega) (by decide)) ?_
    rw [nI_clamp (by have := hT.1; omega)]
    exact w_return (pI pM_120 rfl) rfl hQ
  · have hlt : c < h := Nat.lt_of_not_le (fun z => c_1 (nI_le z (by omega)))
    refine w_aload_n (p := 22) (pI pM_120 rfl) rfl rfl ?_
    refine v_getR (p := 25) (kf := 2) (pI pM_120 rfl) rfl rfl rfl (hW_w.ge 0) (hW_w.lt 0 (by decide)) (hW_w.sk 0 (by decide)) rfl ?_
    refine w_aload_n (p := 26) (pI pM_120 rfl) rfl rfl ?_
    refine v_getI (p := 29) (kf := 4) (x := nI t) (pI pM_120 rfl) rfl rfl rfl (hW_w.ge 0) (hW_w.lt 0 (by decide)) (hW_w.sk 0 (by decide)) rfl hT.2 ?_
    refine v_iald (p := 30) (x := nI h) (pI pM_120 rfl) rfl (hW_w.lt 3 (by decide)) (hW_w.sk 3 (by decide)) (vp_in_nI (by have := hT.1; omega) (by decide)) (by rw [nI_clamp (by have := hT.1; omega), hH]) ?_
    refine w_iload_n (p := 31) (pI pM_120 rfl) rfl rfl ?_
    refine w_isub (p := 32) (pI pM_120 rfl) rfl ?_
    rw [pk_sub (by omega)]
    refine w_goto (p := 36) (pI pM_120 rfl) rfl rfl ?_
    refine v_iast (p := 37) (pI pM_120 rfl) rfl (hW_w.ge 3) (hW_w.lt 3 (by decide)) (hW_w.sk 3 (by decide)) (vp_in_nI (by have := hT.1; omega) (by decide)) ?_
    rw [nI_clamp (by have := hT.1; omega)]
    exact w_return (pI pM_120 rfl) rfl hQ
set_option maxRecDepth 100000 in
theorem c_leave (d : Nat) {L w t : Nat} {A I : Nat → Nat → Int32} {Q : bm_Q} (hW_w : isW w) (hT : wTop A I w t) (h0 : t = 0 → Q (some (.int 0)) (hp L A I)) (h1 : 0 < t → Q (some (.int 1)) (hp L A (va_up I w (upd (I w) 4 (nI (t - 1)))))) : bm_M (d + 1) 128 [.ref w] (hp L A I) Q := by
  refine bw_enter rfl rfl rfl rfl ?_
  refine w_aload_n (p := 1) (pI pM_128 rfl) rfl rfl ?_
  refine v_getI (p := 4) (kf := 4) (x := nI t) (pI pM_128 rfl) rfl rfl rfl (hW_w.ge 0) (hW_w.lt 0 (by decide)) (hW_w.sk 0 (by decide)) rfl hT.2 ?_
  refine w_if_ne (p := 7) (q := 9) (pI pM_128 rfl) rfl rfl rfl (fun c_1 => ?_) (fun c_1 => ?_)
  · have hpos : 0 < t := Nat.pos_of_ne_zero (fun z => c_1 (by rw [z]; rfl))
    refine w_aload_n (p := 10) (pI pM_128 rfl) rfl rfl ?_
    refine w_dup (p := 11) (pI pM_128 rfl) rfl rfl ?_
    refine v_getI (p := 14) (kf := 4) (x := nI t) (pI pM_128 rfl) rfl rfl rfl (hW_w.ge 0) (hW_w.lt 0 (by decide)) (hW_w.sk 0 (by decide)) rfl hT.2 ?_
    refine w_iconst (p := 15) (v := nI 1) (pI pM_128 rfl) rfl rfl ?_
    refine w_isub (p := 16) (pI pM_128 rfl) rfl ?_
    rw [pk_sub (by omega)]
    refine v_putI (p := 19) (kf := 4) (pI pM_128 rfl) rfl rfl rfl (hW_w.ge 0) (hW_w.lt 0 (by decide)) (hW_w.sk 0 (by decide)) rfl rfl rfl rfl rfl ?_
    refine w_iconst (p := 20) (v := nI 1) (pI pM_128 rfl) rfl rfl ?_
    exact w_ireturn (pI pM_128 rfl) rfl rfl rfl (h1 hpos)
  · refine w_iconst (p := 8) (v := nI 0) (pI pM_128 rfl) rfl rfl ?_
    exact w_ireturn (pI pM_128 rfl) rfl rfl rfl (h0 ((nI_eq (a := t) (b := 0) (by have := hT.1; omega) (by decide)).mp (Decidable.not_not.mp c_1)))
set_option maxRecDepth 100000 in
theorem c_hasEnded (d : Nat) {L w : Nat} {A I : Nat → Nat → Int32} {Q : bm_Q} (hW_w : isW w) (h0 : I w 12 = 0 → Q (some (.int 0)) (hp L A I)) (h1 : ¬ I w 12 = 0 → Q (some (.int 1)) (hp L A I)) : bm_M (d + 1) 135 [.ref w] (hp L A I) Q := by
  refine bw_enter rfl rfl rfl rfl ?_
  refine w_aload_n (p := 1) (pI pM_135 rfl) rfl rfl ?_
  refine v_getI (p := 4) (kf := 12) (pI pM_135 rfl) rfl rfl rfl (hW_w.ge 0) (hW_w.lt 0 (by decide)) (hW_w.sk 0 (by decide)) rfl rfl ?_
  refine w_if_eq (p := 7) (q := 11) (pI pM_135 rfl) rfl rfl rfl (fun c_1 => ?_) (fun c_1 => ?_)
  · refine w_iconst (p := 12) (v := nI 0) (pI pM_135 rfl) rfl rfl ?_
    exact w_ireturn (pI pM_135 rfl) rfl rfl rfl (by first | exact h0 c_1 | exact h1 c_1)
  · refine w_iconst (p := 8) (v := nI 1) (pI pM_135 rfl) rfl rfl ?_
    refine w_goto (p := 12) (pI pM_135 rfl) rfl rfl ?_
    exact w_ireturn (pI pM_135 rfl) rfl rfl rfl (by first | exact h0 c_1 | exact h1 c_1)
