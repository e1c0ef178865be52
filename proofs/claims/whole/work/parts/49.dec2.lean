/-! each method runs as its formula says (written by wip/gen/dec.py) -/
set_option maxRecDepth 100000 in
set_option maxHeartbeats 4000000 in
theorem d2_within {d L : Nat} {x : Int32} {y : Int32} {z : Int32} {A I : HA} {Q : bm_Q} (k : D2_within x y z (fun v => Q (some (.int v)) (hp L A I))) : bm_M (d + 1) 2 [.int x, .int y, .int z] (hp L A I) Q := by
  unfold D2_within at k
  refine bw_enter rfl rfl rfl rfl ?_
  refine w_iload_n (p := 1) (pI pM_2 rfl) rfl rfl ?_
  refine w_iload_n (p := 2) (pI pM_2 rfl) rfl rfl ?_
  refine w_icmp_lt (p := 5) (q := 14) (pI pM_2 rfl) rfl rfl rfl (fun c => ?_) (fun c => ?_)
  · replace k := itp c k
    refine w_iconst (p := 15) (v := nI 0) (pI pM_2 rfl) rfl rfl ?_
    exact w_ireturn (pI pM_2 rfl) rfl rfl rfl k
  · replace k := itn c k
    refine w_iload_n (p := 6) (pI pM_2 rfl) rfl rfl ?_
    refine w_iload_n (p := 7) (pI pM_2 rfl) rfl rfl ?_
    refine w_icmp_gt (p := 10) (q := 14) (pI pM_2 rfl) rfl rfl rfl (fun c => ?_) (fun c => ?_)
    · replace k := itp c k
      refine w_iconst (p := 15) (v := nI 0) (pI pM_2 rfl) rfl rfl ?_
      exact w_ireturn (pI pM_2 rfl) rfl rfl rfl k
    · replace k := itn c k
      refine w_iconst (p := 11) (v := nI 1) (pI pM_2 rfl) rfl rfl ?_
      refine w_goto (p := 15) (pI pM_2 rfl) rfl rfl ?_
      exact w_ireturn (pI pM_2 rfl) rfl rfl rfl k
set_option maxRecDepth 100000 in
set_option maxHeartbeats 4000000 in
theorem d74_hasMethod {d L : Nat} {x : Int32} {A I : HA} {Q : bm_Q} (k : D74_hasMethod x A I (fun v => Q (some (.int v)) (hp L A I))) : bm_M (d + 1) 74 [.ref 22, .int x] (hp L A I) Q := by
  unfold D74_hasMethod at k
  refine bw_enter rfl rfl rfl rfl ?_
  refine w_iload_n (p := 1) (pI pM_74 rfl) rfl rfl ?_
  refine w_if_lt (p := 4) (q := 16) (pI pM_74 rfl) rfl rfl rfl (fun c => ?_) (fun c => ?_)
  · replace k := itp c k
    refine w_iconst (p := 17) (v := nI 0) (pI pM_74 rfl) rfl rfl ?_
    exact w_ireturn (pI pM_74 rfl) rfl rfl rfl k
  · replace k := itn c k
    refine w_iload_n (p := 5) (pI pM_74 rfl) rfl rfl ?_
    refine w_aload_n (p := 6) (pI pM_74 rfl) rfl rfl ?_
    refine v_getI (p := 9) (kf := 0) (pI pM_74 rfl) rfl rfl rfl (by decide) (by decide) rfl rfl rfl ?_
    refine w_icmp_ge (p := 12) (q := 16) (pI pM_74 rfl) rfl rfl rfl (fun c => ?_) (fun c => ?_)
    · replace k := itn (Int32.not_lt.mpr c) k
      refine w_iconst (p := 17) (v := nI 0) (pI pM_74 rfl) rfl rfl ?_
      exact w_ireturn (pI pM_74 rfl) rfl rfl rfl k
    · replace k := itp (Int32.not_le.mp c) k
      refine w_iconst (p := 13) (v := nI 1) (pI pM_74 rfl) rfl rfl ?_
      refine w_goto (p := 17) (pI pM_74 rfl) rfl rfl ?_
      exact w_ireturn (pI pM_74 rfl) rfl rfl rfl k
set_option maxRecDepth 100000 in
set_option maxHeartbeats 4000000 in
theorem d79_canBegin {d L : Nat} {x : Int32} {A I : HA} {Q : bm_Q} (k : D79_canBegin x A I (fun v => Q (some (.int v)) (hp L A I))) : bm_M (d + 2) 79 [.ref 22, .int x] (hp L A I) Q := by
  unfold D79_canBegin at k
  refine bw_enter rfl rfl rfl rfl ?_
  refine w_aload_n (p := 1) (pI pM_79 rfl) rfl rfl ?_
  refine w_iload_n (p := 2) (pI pM_79 rfl) rfl rfl ?_
  refine v_virtual (p := 5) (mj := 74) (pI pM_79 rfl) rfl rfl rfl rfl rfl rfl rfl rfl rfl rfl (by decide) (by decide) rfl ?_
  refine d74_hasMethod (D74_hasMethod_mono k (fun v1 k => ?_))
  refine w_if_eq (p := 8) (q := 22) (pI pM_79 rfl) rfl rfl rfl (fun c => ?_) (fun c => ?_)
  · replace k := itp c k
    refine w_iconst (p := 23) (v := nI 0) (pI pM_79 rfl) rfl rfl ?_
    exact w_ireturn (pI pM_79 rfl) rfl rfl rfl k
  · replace k := itn c k
    refine w_aload_n (p := 9) (pI pM_79 rfl) rfl rfl ?_
    refine v_getR (p := 12) (kf := 1) (pI pM_79 rfl) rfl rfl rfl (by decide) (by decide) rfl rfl ?_
    refine w_iload_n (p := 13) (pI pM_79 rfl) rfl rfl ?_
    obtain ⟨s2, k⟩ := k
    refine v_iald (p := 14) (pI pM_79 rfl) rfl (by decide) rfl s2 rfl ?_
    refine w_iconst (p := 15) (v := nI 2) (pI pM_79 rfl) rfl rfl ?_
    refine w_icmp_ne (p := 18) (q := 22) (pI pM_79 rfl) rfl rfl rfl (fun c => ?_) (fun c => ?_)
    · replace k := itn c k
      refine w_iconst (p := 23) (v := nI 0) (pI pM_79 rfl) rfl rfl ?_
      exact w_ireturn (pI pM_79 rfl) rfl rfl rfl k
    · replace k := itp (Decidable.not_not.mp c) k
      refine w_iconst (p := 19) (v := nI 1) (pI pM_79 rfl) rfl rfl ?_
      refine w_goto (p := 23) (pI pM_79 rfl) rfl rfl ?_
      exact w_ireturn (pI pM_79 rfl) rfl rfl rfl k
set_option maxRecDepth 100000 in
set_option maxHeartbeats 4000000 in
theorem d23_forget {d L : Nat} {A I : HA} {Q : bm_Q} (k : D23_forget A I (fun A I => Q none (hp L A I))) : bm_M (d + 1) 23 [.ref 32] (hp L A I) Q := by
  unfold D23_forget at k
  refine bw_enter rfl rfl rfl rfl ?_
  refine w_aload_n (p := 1) (pI pM_23 rfl) rfl rfl ?_
  refine w_sipush (p := 4) (v := nI 258) (pI pM_23 rfl) rfl rfl ?_
  refine s_putI (p := 7) (kf := 4) (pI pM_23 rfl) rfl rfl rfl (by decide) (by decide) rfl rfl rfl rfl rfl rfl ?_
  exact w_return (pI pM_23 rfl) rfl k
set_option maxRecDepth 100000 in
set_option maxHeartbeats 4000000 in
theorem d87_begin {d L : Nat} {x : Int32} {A I : HA} {Q : bm_Q} (k : D87_begin x A I (fun A I => Q none (hp L A I))) : bm_M (d + 1) 87 [.ref 39, .int x] (hp L A I) Q := by
  unfold D87_begin at k
  refine bw_enter rfl rfl rfl rfl ?_
  refine w_aload_n (p := 1) (pI pM_87 rfl) rfl rfl ?_
  refine w_iconst (p := 2) (v := nI 0) (pI pM_87 rfl) rfl rfl ?_
  refine s_putI (p := 5) (kf := 1) (pI pM_87 rfl) rfl rfl rfl (by decide) (by decide) rfl rfl rfl rfl rfl rfl ?_
  refine w_aload_n (p := 6) (pI pM_87 rfl) rfl rfl ?_
  refine w_iload_n (p := 7) (pI pM_87 rfl) rfl rfl ?_
  refine s_putI (p := 10) (kf := 2) (pI pM_87 rfl) rfl rfl rfl (by decide) (by decide) rfl rfl rfl rfl rfl rfl ?_
  exact w_return (pI pM_87 rfl) rfl k
set_option maxRecDepth 100000 in
set_option maxHeartbeats 4000000 in
theorem d88_add {d L : Nat} {x : Int32} {A I : HA} {Q : bm_Q} (k : D88_add x A I (fun A I => Q none (hp L A I))) : bm_M (d + 1) 88 [.ref 39, .int x] (hp L A I) Q := by
  unfold D88_add at k
  refine bw_enter rfl rfl rfl rfl ?_
  refine w_aload_n (p := 1) (pI pM_88 rfl) rfl rfl ?_
  refine v_getI (p := 4) (kf := 1) (pI pM_88 rfl) rfl rfl rfl (by decide) (by decide) rfl rfl rfl ?_
  refine w_bipush (p := 6) (v := nI 60) (pI pM_88 rfl) rfl rfl ?_
  refine w_icmp_ge (p := 9) (q := 29) (pI pM_88 rfl) rfl rfl rfl (fun c => ?_) (fun c => ?_)
  · replace k := itn (Int32.not_lt.mpr c) k
    exact w_return (pI pM_88 rfl) rfl k
  · replace k := itp (Int32.not_le.mp c) k
    refine w_aload_n (p := 10) (pI pM_88 rfl) rfl rfl ?_
    refine v_getR (p := 13) (kf := 0) (pI pM_88 rfl) rfl rfl rfl (by decide) (by decide) rfl rfl ?_
    refine w_aload_n (p := 14) (pI pM_88 rfl) rfl rfl ?_
    refine v_getI (p := 17) (kf := 1) (pI pM_88 rfl) rfl rfl rfl (by decide) (by decide) rfl rfl rfl ?_
    refine w_iload_n (p := 18) (pI pM_88 rfl) rfl rfl ?_
    obtain ⟨s1, k⟩ := k
    refine s_iast (p := 19) (pI pM_88 rfl) rfl (by decide) (by decide) rfl s1 ?_
    refine w_aload_n (p := 20) (pI pM_88 rfl) rfl rfl ?_
    refine w_dup (p := 21) (pI pM_88 rfl) rfl rfl ?_
    refine v_getI (p := 24) (kf := 1) (pI pM_88 rfl) rfl rfl rfl (by decide) (by decide) rfl rfl rfl ?_
    refine w_iconst (p := 25) (v := nI 1) (pI pM_88 rfl) rfl rfl ?_
    refine w_iadd (p := 26) (pI pM_88 rfl) rfl ?_
    refine s_putI (p := 29) (kf := 1) (pI pM_88 rfl) rfl rfl rfl (by decide) (by decide) rfl rfl rfl rfl rfl rfl ?_
    exact w_return (pI pM_88 rfl) rfl k
set_option maxRecDepth 100000 in
set_option maxHeartbeats 4000000 in
theorem d117_openFrame {d L : Nat} {w : Nat} {x : Int32} {A I : HA} {Q : bm_Q} (h_w : isW w) (k : D117_openFrame w x A I (fun A I => Q none (hp L A I))) : bm_M (d + 1) 117 [.ref w, .int x] (hp L A I) Q := by
  unfold D117_openFrame at k
  refine bw_enter rfl rfl rfl rfl ?_
  refine w_aload_n (p := 1) (pI pM_117 rfl) rfl rfl ?_
  refine v_getR (p := 4) (kf := 0) (pI pM_117 rfl) rfl rfl rfl (isW.ge h_w 0) (isW.lt h_w 0 (by decide)) (isW.sk h_w 0 (by decide)) rfl ?_
  refine w_aload_n (p := 5) (pI pM_117 rfl) rfl rfl ?_
  refine v_getI (p := 8) (kf := 4) (pI pM_117 rfl) rfl rfl rfl (isW.ge h_w 0) (isW.lt h_w 0 (by decide)) (isW.sk h_w 0 (by decide)) rfl rfl ?_
  refine w_iload_n (p := 9) (pI pM_117 rfl) rfl rfl ?_
  obtain ⟨s1, k⟩ := k
  refine s_iast (p := 10) (pI pM_117 rfl) rfl (isW.ge h_w 1) (isW.lt h_w 1 (by decide)) (isW.sk h_w 1 (by decide)) s1 ?_
  refine w_aload_n (p := 11) (pI pM_117 rfl) rfl rfl ?_
  refine v_getR (p := 14) (kf := 1) (pI pM_117 rfl) rfl rfl rfl (isW.ge h_w 0) (isW.lt h_w 0 (by decide)) (isW.sk h_w 0 (by decide)) rfl ?_
  refine w_aload_n (p := 15) (pI pM_117 rfl) rfl rfl ?_
  refine v_getI (p := 18) (kf := 4) (pI pM_117 rfl) rfl rfl rfl (isW.ge h_w 0) (isW.lt h_w 0 (by decide)) (isW.sk h_w 0 (by decide)) rfl rfl ?_
  refine w_iconst (p := 19) (v := nI 0) (pI pM_117 rfl) rfl rfl ?_
  obtain ⟨s2, k⟩ := k
  refine s_iast (p := 20) (pI pM_117 rfl) rfl (isW.ge h_w 2) (isW.lt h_w 2 (by decide)) (isW.sk h_w 2 (by decide)) s2 ?_
  refine w_aload_n (p := 21) (pI pM_117 rfl) rfl rfl ?_
  refine v_getR (p := 24) (kf := 2) (pI pM_117 rfl) rfl rfl rfl (isW.ge h_w 0) (isW.lt h_w 0 (by decide)) (isW.sk h_w 0 (by decide)) rfl ?_
  refine w_aload_n (p := 25) (pI pM_117 rfl) rfl rfl ?_
  refine v_getI (p := 28) (kf := 4) (pI pM_117 rfl) rfl rfl rfl (isW.ge h_w 0) (isW.lt h_w 0 (by decide)) (isW.sk h_w 0 (by decide)) rfl rfl ?_
  refine w_iconst (p := 29) (v := nI 0) (pI pM_117 rfl) rfl rfl ?_
  obtain ⟨s3, k⟩ := k
  refine s_iast (p := 30) (pI pM_117 rfl) rfl (isW.ge h_w 3) (isW.lt h_w 3 (by decide)) (isW.sk h_w 3 (by decide)) s3 ?_
  refine w_iconst (p := 31) (v := nI 0) (pI pM_117 rfl) rfl rfl ?_
  refine w_istore_n (p := 32) (pI pM_117 rfl) rfl rfl rfl ?_
  refine k (fun a5 A7 I8 => ∀ u6 : Value, bm_W (bm_M (d + 0)) 117 Q 32 [.ref w, u6, .int a5] [] (hp L A7 I8)) (fun a5 A7 I8 k => ?_) _
  intro u6
  refine w_iload_n (p := 33) (pI pM_117 rfl) rfl rfl ?_
  refine w_bipush (p := 35) (v := nI 6) (pI pM_117 rfl) rfl rfl ?_
  refine w_icmp_ge (p := 38) (q := 60) (pI pM_117 rfl) rfl rfl rfl (fun c => ?_) (fun c => ?_)
  · replace k := itn (Int32.not_lt.mpr c) k
    exact w_return (pI pM_117 rfl) rfl k
  · replace k := itp (Int32.not_le.mp c) k
    refine w_aload_n (p := 39) (pI pM_117 rfl) rfl rfl ?_
    refine v_getR (p := 42) (kf := 3) (pI pM_117 rfl) rfl rfl rfl (isW.ge h_w 0) (isW.lt h_w 0 (by decide)) (isW.sk h_w 0 (by decide)) rfl ?_
    refine w_aload_n (p := 43) (pI pM_117 rfl) rfl rfl ?_
    refine v_getI (p := 46) (kf := 4) (pI pM_117 rfl) rfl rfl rfl (isW.ge h_w 0) (isW.lt h_w 0 (by decide)) (isW.sk h_w 0 (by decide)) rfl rfl ?_
    refine w_bipush (p := 48) (v := nI 18) (pI pM_117 rfl) rfl rfl ?_
    refine w_imul (p := 49) (pI pM_117 rfl) rfl ?_
    refine w_iload_n (p := 50) (pI pM_117 rfl) rfl rfl ?_
    refine w_iadd (p := 51) (pI pM_117 rfl) rfl ?_
    refine w_bipush (p := 53) (v := -100) (pI pM_117 rfl) rfl rfl ?_
    obtain ⟨s10, k⟩ := k
    refine s_iast (p := 54) (pI pM_117 rfl) rfl (isW.ge h_w 4) (isW.lt h_w 4 (by decide)) (isW.sk h_w 4 (by decide)) s10 ?_
    refine w_iinc (p := 57) (v := (a5 + nI 1)) (pI pM_117 rfl) rfl rfl rfl rfl ?_
    refine w_goto (p := 32) (pI pM_117 rfl) rfl rfl ?_
    exact k _
set_option maxRecDepth 100000 in
set_option maxHeartbeats 4000000 in
theorem d36_addAll {d L : Nat} {n : Nat} {A I : HA} {Q : bm_Q} (h_n : isN n) (k : D36_addAll n A I (fun A I => Q none (hp L A I))) : bm_M (d + 2) 36 [.ref n] (hp L A I) Q := by
  unfold D36_addAll at k
  refine bw_enter rfl rfl rfl rfl ?_
  refine w_aload_n (p := 1) (pI pM_36 rfl) rfl rfl ?_
  refine v_getR (p := 4) (kf := 0) (pI pM_36 rfl) rfl rfl rfl (isN.ge h_n 0) (isN.lt h_n 0 (by decide)) (isN.sk h_n 0 (by decide)) rfl ?_
  refine w_iconst (p := 5) (v := -1) (pI pM_36 rfl) rfl rfl ?_
  refine w_static (p := 8) (mj := 213) (pI pM_36 rfl) rfl rfl rfl rfl rfl rfl rfl rfl rfl ?_
  refine c_fill _ (isN.ge h_n 1) (isN.lt h_n 1 (by decide)) (isN.sk h_n 1 (by decide)) (by decide) ?_
  exact w_return (pI pM_36 rfl) rfl k
set_option maxRecDepth 100000 in
set_option maxHeartbeats 4000000 in
theorem d116_begin {d L : Nat} {w : Nat} {x : Int32} {y : Int32} {z : Int32} {A I : HA} {Q : bm_Q} (h_w : isW w) (k : D116_begin w x y z A I (fun A I => Q none (hp L A I))) : bm_M (d + 3) 116 [.ref w, .int x, .int y, .int z] (hp L A I) Q := by
  unfold D116_begin at k
  refine bw_enter rfl rfl rfl rfl ?_
  refine w_aload_n (p := 1) (pI pM_116 rfl) rfl rfl ?_
  refine w_iconst (p := 2) (v := nI 0) (pI pM_116 rfl) rfl rfl ?_
  refine s_putI (p := 5) (kf := 4) (pI pM_116 rfl) rfl rfl rfl (isW.ge h_w 0) (isW.lt h_w 0 (by decide)) (isW.sk h_w 0 (by decide)) rfl rfl rfl rfl rfl ?_
  refine w_aload_n (p := 6) (pI pM_116 rfl) rfl rfl ?_
  refine w_iload_n (p := 7) (pI pM_116 rfl) rfl rfl ?_
  refine v_virtual (p := 10) (mj := 117) (pI pM_116 rfl) rfl rfl rfl rfl rfl rfl rfl rfl rfl rfl (isW.ge h_w 0) (isW.lt h_w 0 (by decide)) (isW.sk h_w 0 (by decide)) ?_
  refine d117_openFrame h_w (D117_openFrame_mono k (fun A1 I2 k => ?_))
  refine w_aload_n (p := 11) (pI pM_116 rfl) rfl rfl ?_
  refine v_getR (p := 14) (kf := 3) (pI pM_116 rfl) rfl rfl rfl (isW.ge h_w 0) (isW.lt h_w 0 (by decide)) (isW.sk h_w 0 (by decide)) rfl ?_
  refine w_iconst (p := 15) (v := nI 0) (pI pM_116 rfl) rfl rfl ?_
  refine w_iload_n (p := 16) (pI pM_116 rfl) rfl rfl ?_
  obtain ⟨s3, k⟩ := k
  refine s_iast (p := 17) (pI pM_116 rfl) rfl (isW.ge h_w 4) (isW.lt h_w 4 (by decide)) (isW.sk h_w 4 (by decide)) s3 ?_
  refine w_aload_n (p := 18) (pI pM_116 rfl) rfl rfl ?_
  refine v_getR (p := 21) (kf := 3) (pI pM_116 rfl) rfl rfl rfl (isW.ge h_w 0) (isW.lt h_w 0 (by decide)) (isW.sk h_w 0 (by decide)) rfl ?_
  refine w_iconst (p := 22) (v := nI 1) (pI pM_116 rfl) rfl rfl ?_
  refine w_iload_n (p := 23) (pI pM_116 rfl) rfl rfl ?_
  obtain ⟨s4, k⟩ := k
  refine s_iast (p := 24) (pI pM_116 rfl) rfl (isW.ge h_w 4) (isW.lt h_w 4 (by decide)) (isW.sk h_w 4 (by decide)) s4 ?_
  refine w_aload_n (p := 25) (pI pM_116 rfl) rfl rfl ?_
  refine w_iconst (p := 26) (v := nI 0) (pI pM_116 rfl) rfl rfl ?_
  refine s_putI (p := 29) (kf := 7) (pI pM_116 rfl) rfl rfl rfl (isW.ge h_w 0) (isW.lt h_w 0 (by decide)) (isW.sk h_w 0 (by decide)) rfl rfl rfl rfl rfl ?_
  refine w_aload_n (p := 30) (pI pM_116 rfl) rfl rfl ?_
  refine w_iconst (p := 31) (v := nI 0) (pI pM_116 rfl) rfl rfl ?_
  refine s_putI (p := 34) (kf := 9) (pI pM_116 rfl) rfl rfl rfl (isW.ge h_w 0) (isW.lt h_w 0 (by decide)) (isW.sk h_w 0 (by decide)) rfl rfl rfl rfl rfl ?_
  refine w_aload_n (p := 35) (pI pM_116 rfl) rfl rfl ?_
  refine v_getR (p := 38) (kf := 10) (pI pM_116 rfl) rfl rfl rfl (isW.ge h_w 0) (isW.lt h_w 0 (by decide)) (isW.sk h_w 0 (by decide)) rfl ?_
  refine v_virtual (p := 41) (mj := 36) (pI pM_116 rfl) rfl rfl rfl rfl rfl rfl rfl rfl rfl rfl (isN.ge (isN_w h_w) 0) (isN.lt (isN_w h_w) 0 (by decide)) (isN.sk (isN_w h_w) 0 (by decide)) ?_
  refine d36_addAll (isN_w h_w) (D36_addAll_mono k (fun A5 I6 k => ?_))
  refine w_aload_n (p := 42) (pI pM_116 rfl) rfl rfl ?_
  refine w_iconst (p := 43) (v := nI 0) (pI pM_116 rfl) rfl rfl ?_
  refine s_putI (p := 46) (kf := 11) (pI pM_116 rfl) rfl rfl rfl (isW.ge h_w 0) (isW.lt h_w 0 (by decide)) (isW.sk h_w 0 (by decide)) rfl rfl rfl rfl rfl ?_
  refine w_aload_n (p := 47) (pI pM_116 rfl) rfl rfl ?_
  refine w_iconst (p := 48) (v := nI 0) (pI pM_116 rfl) rfl rfl ?_
  refine s_putI (p := 51) (kf := 12) (pI pM_116 rfl) rfl rfl rfl (isW.ge h_w 0) (isW.lt h_w 0 (by decide)) (isW.sk h_w 0 (by decide)) rfl rfl rfl rfl rfl ?_
  refine w_aload_n (p := 52) (pI pM_116 rfl) rfl rfl ?_
  refine w_iconst (p := 53) (v := nI 0) (pI pM_116 rfl) rfl rfl ?_
  refine s_putI (p := 56) (kf := 13) (pI pM_116 rfl) rfl rfl rfl (isW.ge h_w 0) (isW.lt h_w 0 (by decide)) (isW.sk h_w 0 (by decide)) rfl rfl rfl rfl rfl ?_
  refine w_aload_n (p := 57) (pI pM_116 rfl) rfl rfl ?_
  refine w_iconst (p := 58) (v := nI 0) (pI pM_116 rfl) rfl rfl ?_
  refine s_putI (p := 61) (kf := 14) (pI pM_116 rfl) rfl rfl rfl (isW.ge h_w 0) (isW.lt h_w 0 (by decide)) (isW.sk h_w 0 (by decide)) rfl rfl rfl rfl rfl ?_
  refine w_aload_n (p := 62) (pI pM_116 rfl) rfl rfl ?_
  refine w_iconst (p := 63) (v := nI 0) (pI pM_116 rfl) rfl rfl ?_
  refine s_putI (p := 66) (kf := 15) (pI pM_116 rfl) rfl rfl rfl (isW.ge h_w 0) (isW.lt h_w 0 (by decide)) (isW.sk h_w 0 (by decide)) rfl rfl rfl rfl rfl ?_
  refine w_aload_n (p := 67) (pI pM_116 rfl) rfl rfl ?_
  refine w_iconst (p := 68) (v := -1) (pI pM_116 rfl) rfl rfl ?_
  refine s_putI (p := 71) (kf := 16) (pI pM_116 rfl) rfl rfl rfl (isW.ge h_w 0) (isW.lt h_w 0 (by decide)) (isW.sk h_w 0 (by decide)) rfl rfl rfl rfl rfl ?_
  refine w_aload_n (p := 72) (pI pM_116 rfl) rfl rfl ?_
  refine w_iconst (p := 73) (v := nI 0) (pI pM_116 rfl) rfl rfl ?_
  refine s_putI (p := 76) (kf := 17) (pI pM_116 rfl) rfl rfl rfl (isW.ge h_w 0) (isW.lt h_w 0 (by decide)) (isW.sk h_w 0 (by decide)) rfl rfl rfl rfl rfl ?_
  exact w_return (pI pM_116 rfl) rfl k
set_option maxRecDepth 100000 in
set_option maxHeartbeats 4000000 in
theorem d95_begin {d L : Nat} {x : Int32} {y : Int32} {z : Int32} {A I : HA} {Q : bm_Q} (k : D95_begin x y z A I (fun A I => Q none (hp L A I))) : bm_M (d + 4) 95 [.ref 20, .int x, .int y, .int z] (hp L A I) Q := by
  unfold D95_begin at k
  refine bw_enter rfl rfl rfl rfl ?_
  refine w_aload_n (p := 1) (pI pM_95 rfl) rfl rfl ?_
  refine w_iload_n (p := 2) (pI pM_95 rfl) rfl rfl ?_
  refine s_putI (p := 5) (kf := 14) (pI pM_95 rfl) rfl rfl rfl (by decide) (by decide) rfl rfl rfl rfl rfl rfl ?_
  refine w_aload_n (p := 6) (pI pM_95 rfl) rfl rfl ?_
  refine w_iload_n (p := 7) (pI pM_95 rfl) rfl rfl ?_
  refine s_putI (p := 10) (kf := 15) (pI pM_95 rfl) rfl rfl rfl (by decide) (by decide) rfl rfl rfl rfl rfl rfl ?_
  refine w_aload_n (p := 11) (pI pM_95 rfl) rfl rfl ?_
  refine w_iload_n (p := 12) (pI pM_95 rfl) rfl rfl ?_
  refine s_putI (p := 15) (kf := 16) (pI pM_95 rfl) rfl rfl rfl (by decide) (by decide) rfl rfl rfl rfl rfl rfl ?_
  refine w_iconst (p := 16) (v := nI 0) (pI pM_95 rfl) rfl rfl ?_
  refine w_istore (p := 18) (pI pM_95 rfl) rfl rfl rfl ?_
  refine k (fun a2 A6 I7 => ∀ u3 u4 u5 : Value, bm_W (bm_M (d + 3)) 95 Q 18 [.ref 20, u3, u4, u5, .int a2] [] (hp L A6 I7)) (fun a2 A6 I7 k => ?_) _ _ _
  intro u3 u4 u5
  refine w_iload (p := 20) (pI pM_95 rfl) rfl rfl ?_
  refine w_sipush (p := 23) (v := nI 161) (pI pM_95 rfl) rfl rfl ?_
  refine w_icmp_ge (p := 26) (q := 41) (pI pM_95 rfl) rfl rfl rfl (fun c => ?_) (fun c => ?_)
  · replace k := itn (Int32.not_lt.mpr c) k
    refine w_aload_n (p := 42) (pI pM_95 rfl) rfl rfl ?_
    refine w_sipush (p := 45) (v := nI 161) (pI pM_95 rfl) rfl rfl ?_
    refine s_putI (p := 48) (kf := 4) (pI pM_95 rfl) rfl rfl rfl (by decide) (by decide) rfl rfl rfl rfl rfl rfl ?_
    refine w_aload_n (p := 49) (pI pM_95 rfl) rfl rfl ?_
    refine w_iconst (p := 50) (v := nI 0) (pI pM_95 rfl) rfl rfl ?_
    refine s_putI (p := 53) (kf := 7) (pI pM_95 rfl) rfl rfl rfl (by decide) (by decide) rfl rfl rfl rfl rfl rfl ?_
    refine w_aload_n (p := 54) (pI pM_95 rfl) rfl rfl ?_
    refine v_getR (p := 57) (kf := 8) (pI pM_95 rfl) rfl rfl rfl (by decide) (by decide) rfl rfl ?_
    refine w_iconst (p := 58) (v := nI 0) (pI pM_95 rfl) rfl rfl ?_
    refine w_static (p := 61) (mj := 213) (pI pM_95 rfl) rfl rfl rfl rfl rfl rfl rfl rfl rfl ?_
    refine c_fill _ (by decide) (by decide) rfl (by decide) ?_
    refine w_aload_n (p := 62) (pI pM_95 rfl) rfl rfl ?_
    refine w_iconst (p := 63) (v := nI 0) (pI pM_95 rfl) rfl rfl ?_
    refine s_putI (p := 66) (kf := 9) (pI pM_95 rfl) rfl rfl rfl (by decide) (by decide) rfl rfl rfl rfl rfl rfl ?_
    refine w_aload_n (p := 67) (pI pM_95 rfl) rfl rfl ?_
    refine w_iconst (p := 68) (v := nI 0) (pI pM_95 rfl) rfl rfl ?_
    refine s_putI (p := 71) (kf := 10) (pI pM_95 rfl) rfl rfl rfl (by decide) (by decide) rfl rfl rfl rfl rfl rfl ?_
    refine w_aload_n (p := 72) (pI pM_95 rfl) rfl rfl ?_
    refine w_iconst (p := 73) (v := nI 0) (pI pM_95 rfl) rfl rfl ?_
    refine s_putI (p := 76) (kf := 12) (pI pM_95 rfl) rfl rfl rfl (by decide) (by decide) rfl rfl rfl rfl rfl rfl ?_
    refine w_aload_n (p := 77) (pI pM_95 rfl) rfl rfl ?_
    refine w_iconst (p := 78) (v := nI 0) (pI pM_95 rfl) rfl rfl ?_
    refine s_putI (p := 81) (kf := 17) (pI pM_95 rfl) rfl rfl rfl (by decide) (by decide) rfl rfl rfl rfl rfl rfl ?_
    refine w_aload_n (p := 82) (pI pM_95 rfl) rfl rfl ?_
    refine v_getR (p := 85) (kf := 0) (pI pM_95 rfl) rfl rfl rfl (by decide) (by decide) rfl rfl ?_
    refine v_getR (p := 88) (kf := 1) (pI pM_95 rfl) rfl rfl rfl (by decide) (by decide) rfl rfl ?_
    refine v_virtual (p := 91) (mj := 23) (pI pM_95 rfl) rfl rfl rfl rfl rfl rfl rfl rfl rfl rfl (by decide) (by decide) rfl ?_
    refine d23_forget (D23_forget_mono k (fun A9 I10 k => ?_))
    refine w_aload_n (p := 92) (pI pM_95 rfl) rfl rfl ?_
    refine v_getR (p := 95) (kf := 5) (pI pM_95 rfl) rfl rfl rfl (by decide) (by decide) rfl rfl ?_
    refine w_aload_n (p := 96) (pI pM_95 rfl) rfl rfl ?_
    refine v_getI (p := 99) (kf := 1) (pI pM_95 rfl) rfl rfl rfl (by decide) (by decide) rfl rfl rfl ?_
    refine v_virtual (p := 102) (mj := 87) (pI pM_95 rfl) rfl rfl rfl rfl rfl rfl rfl rfl rfl rfl (by decide) (by decide) rfl ?_
    refine d87_begin (D87_begin_mono k (fun A11 I12 k => ?_))
    refine w_aload_n (p := 103) (pI pM_95 rfl) rfl rfl ?_
    refine w_dup (p := 104) (pI pM_95 rfl) rfl rfl ?_
    refine v_getI (p := 107) (kf := 4) (pI pM_95 rfl) rfl rfl rfl (by decide) (by decide) rfl rfl rfl ?_
    refine w_iconst (p := 108) (v := nI 1) (pI pM_95 rfl) rfl rfl ?_
    refine w_isub (p := 109) (pI pM_95 rfl) rfl ?_
    refine s_putI (p := 112) (kf := 4) (pI pM_95 rfl) rfl rfl rfl (by decide) (by decide) rfl rfl rfl rfl rfl rfl ?_
    refine w_aload_n (p := 113) (pI pM_95 rfl) rfl rfl ?_
    refine v_getR (p := 116) (kf := 5) (pI pM_95 rfl) rfl rfl rfl (by decide) (by decide) rfl rfl ?_
    refine w_aload_n (p := 117) (pI pM_95 rfl) rfl rfl ?_
    refine v_getR (p := 120) (kf := 3) (pI pM_95 rfl) rfl rfl rfl (by decide) (by decide) rfl rfl ?_
    refine w_aload_n (p := 121) (pI pM_95 rfl) rfl rfl ?_
    refine v_getI (p := 124) (kf := 4) (pI pM_95 rfl) rfl rfl rfl (by decide) (by decide) rfl rfl rfl ?_
    obtain ⟨s13, k⟩ := k
    refine v_iald (p := 125) (pI pM_95 rfl) rfl (by decide) rfl s13 rfl ?_
    refine v_virtual (p := 128) (mj := 88) (pI pM_95 rfl) rfl rfl rfl rfl rfl rfl rfl rfl rfl rfl (by decide) (by decide) rfl ?_
    refine d88_add (D88_add_mono k (fun A14 I15 k => ?_))
    refine w_aload_n (p := 129) (pI pM_95 rfl) rfl rfl ?_
    refine v_getR (p := 132) (kf := 2) (pI pM_95 rfl) rfl rfl rfl (by decide) (by decide) rfl rfl ?_
    refine w_aload_n (p := 133) (pI pM_95 rfl) rfl rfl ?_
    refine v_getR (p := 136) (kf := 3) (pI pM_95 rfl) rfl rfl rfl (by decide) (by decide) rfl rfl ?_
    refine w_aload_n (p := 137) (pI pM_95 rfl) rfl rfl ?_
    refine v_getI (p := 140) (kf := 4) (pI pM_95 rfl) rfl rfl rfl (by decide) (by decide) rfl rfl rfl ?_
    obtain ⟨s16, k⟩ := k
    refine v_iald (p := 141) (pI pM_95 rfl) rfl (by decide) rfl s16 rfl ?_
    obtain ⟨s17, k⟩ := k
    refine v_aald (p := 142) (pI pM_95 rfl) rfl (by decide) (by decide) rfl s17 (if_pos (vp_lt s17)) ?_
    refine w_aload_n (p := 143) (pI pM_95 rfl) rfl rfl ?_
    refine v_getI (p := 146) (kf := 14) (pI pM_95 rfl) rfl rfl rfl (by decide) (by decide) rfl rfl rfl ?_
    refine w_sipush (p := 149) (v := nI 256) (pI pM_95 rfl) rfl rfl ?_
    refine w_sipush (p := 152) (v := nI 257) (pI pM_95 rfl) rfl rfl ?_
    refine v_virtual (p := 155) (mj := 116) (pI pM_95 rfl) rfl rfl rfl rfl rfl rfl rfl rfl rfl rfl (isW.ge (isW_mk (vp_lt s17)) 0) (isW.lt (isW_mk (vp_lt s17)) 0 (by decide)) (isW.sk (isW_mk (vp_lt s17)) 0 (by decide)) ?_
    refine d116_begin (isW_mk (vp_lt s17)) (D116_begin_mono k (fun A18 I19 k => ?_))
    exact w_return (pI pM_95 rfl) rfl k
  · replace k := itp (Int32.not_le.mp c) k
    refine w_aload_n (p := 27) (pI pM_95 rfl) rfl rfl ?_
    refine v_getR (p := 30) (kf := 3) (pI pM_95 rfl) rfl rfl rfl (by decide) (by decide) rfl rfl ?_
    refine w_iload (p := 32) (pI pM_95 rfl) rfl rfl ?_
    refine w_iload (p := 34) (pI pM_95 rfl) rfl rfl ?_
    obtain ⟨s20, k⟩ := k
    refine s_iast (p := 35) (pI pM_95 rfl) rfl (by decide) (by decide) rfl s20 ?_
    refine w_iinc (p := 38) (v := (a2 + nI 1)) (pI pM_95 rfl) rfl rfl rfl rfl ?_
    refine w_goto (p := 18) (pI pM_95 rfl) rfl rfl ?_
    exact k _ _ _
set_option maxRecDepth 100000 in
set_option maxHeartbeats 4000000 in
theorem d91_firstOfLastSplit {d L : Nat} {A I : HA} {Q : bm_Q} (k : D91_firstOfLastSplit A I (fun v => Q (some (.int v)) (hp L A I))) : bm_M (d + 1) 91 [.ref 39, .ref 37] (hp L A I) Q := by
  unfold D91_firstOfLastSplit at k
  refine bw_enter rfl rfl rfl rfl ?_
  refine w_aload_n (p := 1) (pI pM_91 rfl) rfl rfl ?_
  refine v_getI (p := 4) (kf := 1) (pI pM_91 rfl) rfl rfl rfl (by decide) (by decide) rfl rfl rfl ?_
  refine w_iconst (p := 5) (v := nI 1) (pI pM_91 rfl) rfl rfl ?_
  refine w_isub (p := 6) (pI pM_91 rfl) rfl ?_
  refine w_istore_n (p := 7) (pI pM_91 rfl) rfl rfl rfl ?_
  refine w_aload_n (p := 8) (pI pM_91 rfl) rfl rfl ?_
  refine w_aload_n (p := 9) (pI pM_91 rfl) rfl rfl ?_
  refine v_getR (p := 12) (kf := 0) (pI pM_91 rfl) rfl rfl rfl (by decide) (by decide) rfl rfl ?_
  refine w_iload_n (p := 13) (pI pM_91 rfl) rfl rfl ?_
  obtain ⟨s1, k⟩ := k
  refine v_iald (p := 14) (pI pM_91 rfl) rfl (by decide) rfl s1 rfl ?_
  obtain ⟨s2, k⟩ := k
  refine v_aald (p := 15) (pI pM_91 rfl) rfl (by decide) (by decide) rfl s2 (if_pos (vp_lt s2)) ?_
  refine v_getI (p := 18) (kf := 17) (pI pM_91 rfl) rfl rfl rfl (isW.ge (isW_mk (vp_lt s2)) 0) (isW.lt (isW_mk (vp_lt s2)) 0 (by decide)) (isW.sk (isW_mk (vp_lt s2)) 0 (by decide)) rfl rfl ?_
  refine w_istore_n (p := 19) (pI pM_91 rfl) rfl rfl rfl ?_
  refine w_aload_n (p := 20) (pI pM_91 rfl) rfl rfl ?_
  refine v_getI (p := 23) (kf := 1) (pI pM_91 rfl) rfl rfl rfl (by decide) (by decide) rfl rfl rfl ?_
  refine w_iconst (p := 24) (v := nI 1) (pI pM_91 rfl) rfl rfl ?_
  refine w_isub (p := 25) (pI pM_91 rfl) rfl ?_
  refine w_istore (p := 27) (pI pM_91 rfl) rfl rfl rfl ?_
  refine k (fun a4 a5 => bm_W (bm_M (d + 0)) 91 Q 27 [.ref 39, .ref 37, .int a4, .int (I (71 + 10 * (A 40 ((I 39 1) - (nI 1)).toNatClampNeg).toNatClampNeg) 17), .int a5] [] (hp L A I)) (fun a4 a5 k => ?_)
  refine w_iload (p := 29) (pI pM_91 rfl) rfl rfl ?_
  refine w_if_lt (p := 32) (q := 57) (pI pM_91 rfl) rfl rfl rfl (fun c => ?_) (fun c => ?_)
  · replace k := itp c k
    refine w_iload_n (p := 58) (pI pM_91 rfl) rfl rfl ?_
    exact w_ireturn (pI pM_91 rfl) rfl rfl rfl k
  · replace k := itn c k
    refine w_aload_n (p := 33) (pI pM_91 rfl) rfl rfl ?_
    refine w_aload_n (p := 34) (pI pM_91 rfl) rfl rfl ?_
    refine v_getR (p := 37) (kf := 0) (pI pM_91 rfl) rfl rfl rfl (by decide) (by decide) rfl rfl ?_
    refine w_iload (p := 39) (pI pM_91 rfl) rfl rfl ?_
    obtain ⟨s7, k⟩ := k
    refine v_iald (p := 40) (pI pM_91 rfl) rfl (by decide) rfl s7 rfl ?_
    obtain ⟨s8, k⟩ := k
    refine v_aald (p := 41) (pI pM_91 rfl) rfl (by decide) (by decide) rfl s8 (if_pos (vp_lt s8)) ?_
    refine v_getI (p := 44) (kf := 17) (pI pM_91 rfl) rfl rfl rfl (isW.ge (isW_mk (vp_lt s8)) 0) (isW.lt (isW_mk (vp_lt s8)) 0 (by decide)) (isW.sk (isW_mk (vp_lt s8)) 0 (by decide)) rfl rfl ?_
    refine w_iload_n (p := 45) (pI pM_91 rfl) rfl rfl ?_
    refine w_icmp_ne (p := 48) (q := 57) (pI pM_91 rfl) rfl rfl rfl (fun c => ?_) (fun c => ?_)
    · replace k := itn c k
      refine w_iload_n (p := 58) (pI pM_91 rfl) rfl rfl ?_
      exact w_ireturn (pI pM_91 rfl) rfl rfl rfl k
    · replace k := itp (Decidable.not_not.mp c) k
      refine w_iload (p := 50) (pI pM_91 rfl) rfl rfl ?_
      refine w_istore_n (p := 51) (pI pM_91 rfl) rfl rfl rfl ?_
      refine w_iinc (p := 54) (v := (a5 + (-1))) (pI pM_91 rfl) rfl rfl rfl rfl ?_
      refine w_goto (p := 27) (pI pM_91 rfl) rfl rfl ?_
      exact k
set_option maxRecDepth 100000 in
set_option maxHeartbeats 4000000 in
theorem d118_slotNow {d L : Nat} {w : Nat} {A I : HA} {Q : bm_Q} (h_w : isW w) (k : D118_slotNow w A I (fun v => Q (some (.int v)) (hp L A I))) : bm_M (d + 1) 118 [.ref w] (hp L A I) Q := by
  unfold D118_slotNow at k
  refine bw_enter rfl rfl rfl rfl ?_
  refine w_aload_n (p := 1) (pI pM_118 rfl) rfl rfl ?_
  refine v_getR (p := 4) (kf := 0) (pI pM_118 rfl) rfl rfl rfl (isW.ge h_w 0) (isW.lt h_w 0 (by decide)) (isW.sk h_w 0 (by decide)) rfl ?_
  refine w_aload_n (p := 5) (pI pM_118 rfl) rfl rfl ?_
  refine v_getI (p := 8) (kf := 4) (pI pM_118 rfl) rfl rfl rfl (isW.ge h_w 0) (isW.lt h_w 0 (by decide)) (isW.sk h_w 0 (by decide)) rfl rfl ?_
  obtain ⟨s1, k⟩ := k
  refine v_iald (p := 9) (pI pM_118 rfl) rfl (isW.lt h_w 1 (by decide)) (isW.sk h_w 1 (by decide)) s1 rfl ?_
  refine w_bipush (p := 11) (v := nI 40) (pI pM_118 rfl) rfl rfl ?_
  refine w_imul (p := 12) (pI pM_118 rfl) rfl ?_
  refine w_aload_n (p := 13) (pI pM_118 rfl) rfl rfl ?_
  refine v_getR (p := 16) (kf := 1) (pI pM_118 rfl) rfl rfl rfl (isW.ge h_w 0) (isW.lt h_w 0 (by decide)) (isW.sk h_w 0 (by decide)) rfl ?_
  refine w_aload_n (p := 17) (pI pM_118 rfl) rfl rfl ?_
  refine v_getI (p := 20) (kf := 4) (pI pM_118 rfl) rfl rfl rfl (isW.ge h_w 0) (isW.lt h_w 0 (by decide)) (isW.sk h_w 0 (by decide)) rfl rfl ?_
  obtain ⟨s2, k⟩ := k
  refine v_iald (p := 21) (pI pM_118 rfl) rfl (isW.lt h_w 2 (by decide)) (isW.sk h_w 2 (by decide)) s2 rfl ?_
  refine w_iadd (p := 22) (pI pM_118 rfl) rfl ?_
  exact w_ireturn (pI pM_118 rfl) rfl rfl rfl k
set_option maxRecDepth 100000 in
set_option maxHeartbeats 4000000 in
theorem d92_mostSeldom {d L : Nat} {A I : HA} {Q : bm_Q} (k : D92_mostSeldom A I (fun v => Q (some (.int v)) (hp L A I))) : bm_M (d + 2) 92 [.ref 39, .ref 37, .ref 42] (hp L A I) Q := by
  unfold D92_mostSeldom at k
  refine bw_enter rfl rfl rfl rfl ?_
  refine w_iconst (p := 1) (v := nI 0) (pI pM_92 rfl) rfl rfl ?_
  refine w_istore_n (p := 2) (pI pM_92 rfl) rfl rfl rfl ?_
  refine w_iconst (p := 3) (v := nI 1) (pI pM_92 rfl) rfl rfl ?_
  refine w_istore (p := 5) (pI pM_92 rfl) rfl rfl rfl ?_
  refine k (fun a2 a3 => bm_W (bm_M (d + 1)) 92 Q 5 [.ref 39, .ref 37, .ref 42, .int a2, .int a3] [] (hp L A I)) (fun a2 a3 k => ?_)
  refine w_iload (p := 7) (pI pM_92 rfl) rfl rfl ?_
  refine w_aload_n (p := 8) (pI pM_92 rfl) rfl rfl ?_
  refine v_getI (p := 11) (kf := 1) (pI pM_92 rfl) rfl rfl rfl (by decide) (by decide) rfl rfl rfl ?_
  refine w_icmp_ge (p := 14) (q := 53) (pI pM_92 rfl) rfl rfl rfl (fun c => ?_) (fun c => ?_)
  · replace k := itn (Int32.not_lt.mpr c) k
    refine w_iload_n (p := 54) (pI pM_92 rfl) rfl rfl ?_
    exact w_ireturn (pI pM_92 rfl) rfl rfl rfl k
  · replace k := itp (Int32.not_le.mp c) k
    refine w_aload_n (p := 15) (pI pM_92 rfl) rfl rfl ?_
    refine w_aload_n (p := 16) (pI pM_92 rfl) rfl rfl ?_
    refine w_aload_n (p := 17) (pI pM_92 rfl) rfl rfl ?_
    refine v_getR (p := 20) (kf := 0) (pI pM_92 rfl) rfl rfl rfl (by decide) (by decide) rfl rfl ?_
    refine w_iload (p := 22) (pI pM_92 rfl) rfl rfl ?_
    obtain ⟨s5, k⟩ := k
    refine v_iald (p := 23) (pI pM_92 rfl) rfl (by decide) rfl s5 rfl ?_
    obtain ⟨s6, k⟩ := k
    refine v_aald (p := 24) (pI pM_92 rfl) rfl (by decide) (by decide) rfl s6 (if_pos (vp_lt s6)) ?_
    refine v_virtual (p := 27) (mj := 118) (pI pM_92 rfl) rfl rfl rfl rfl rfl rfl rfl rfl rfl rfl (isW.ge (isW_mk (vp_lt s6)) 0) (isW.lt (isW_mk (vp_lt s6)) 0 (by decide)) (isW.sk (isW_mk (vp_lt s6)) 0 (by decide)) ?_
    refine d118_slotNow (isW_mk (vp_lt s6)) (D118_slotNow_mono k (fun v7 k => ?_))
    obtain ⟨s8, k⟩ := k
    refine v_iald (p := 28) (pI pM_92 rfl) rfl (by decide) rfl s8 rfl ?_
    refine w_aload_n (p := 29) (pI pM_92 rfl) rfl rfl ?_
    refine w_aload_n (p := 30) (pI pM_92 rfl) rfl rfl ?_
    refine w_aload_n (p := 31) (pI pM_92 rfl) rfl rfl ?_
    refine v_getR (p := 34) (kf := 0) (pI pM_92 rfl) rfl rfl rfl (by decide) (by decide) rfl rfl ?_
    refine w_iload_n (p := 35) (pI pM_92 rfl) rfl rfl ?_
    obtain ⟨s9, k⟩ := k
    refine v_iald (p := 36) (pI pM_92 rfl) rfl (by decide) rfl s9 rfl ?_
    obtain ⟨s10, k⟩ := k
    refine v_aald (p := 37) (pI pM_92 rfl) rfl (by decide) (by decide) rfl s10 (if_pos (vp_lt s10)) ?_
    refine v_virtual (p := 40) (mj := 118) (pI pM_92 rfl) rfl rfl rfl rfl rfl rfl rfl rfl rfl rfl (isW.ge (isW_mk (vp_lt s10)) 0) (isW.lt (isW_mk (vp_lt s10)) 0 (by decide)) (isW.sk (isW_mk (vp_lt s10)) 0 (by decide)) ?_
    refine d118_slotNow (isW_mk (vp_lt s10)) (D118_slotNow_mono k (fun v11 k => ?_))
    obtain ⟨s12, k⟩ := k
    refine v_iald (p := 41) (pI pM_92 rfl) rfl (by decide) rfl s12 rfl ?_
    refine w_icmp_ge (p := 44) (q := 47) (pI pM_92 rfl) rfl rfl rfl (fun c => ?_) (fun c => ?_)
    · replace k := itn (Int32.not_lt.mpr c) k
      refine w_iinc (p := 50) (v := (a3 + nI 1)) (pI pM_92 rfl) rfl rfl rfl rfl ?_
      refine w_goto (p := 5) (pI pM_92 rfl) rfl rfl ?_
      exact k
    · replace k := itp (Int32.not_le.mp c) k
      refine w_iload (p := 46) (pI pM_92 rfl) rfl rfl ?_
      refine w_istore_n (p := 47) (pI pM_92 rfl) rfl rfl rfl ?_
      refine w_iinc (p := 50) (v := (a3 + nI 1)) (pI pM_92 rfl) rfl rfl rfl rfl ?_
      refine w_goto (p := 5) (pI pM_92 rfl) rfl rfl ?_
      exact k
set_option maxRecDepth 100000 in
set_option maxHeartbeats 4000000 in
theorem d90_choosePlace {d L : Nat} {x : Int32} {A I : HA} {Q : bm_Q} (k : D90_choosePlace x A I (fun v A I => Q (some (.int v)) (hp L A I))) : bm_M (d + 3) 90 [.ref 39, .int x, .ref 37, .ref 42] (hp L A I) Q := by
  unfold D90_choosePlace at k
  refine bw_enter rfl rfl rfl rfl ?_
  refine w_iload_n (p := 1) (pI pM_90 rfl) rfl rfl ?_
  by_cases c1_0 : x = nI 0
  · replace k := itp c1_0 k
    refine w_table (p := 32) (off := 31) (pI pM_90 rfl) (sw_at c1_0 (by decide)) rfl rfl ?_
    refine w_aload_n (p := 33) (pI pM_90 rfl) rfl rfl ?_
    refine w_aload_n (p := 34) (pI pM_90 rfl) rfl rfl ?_
    refine v_virtual (p := 37) (mj := 91) (pI pM_90 rfl) rfl rfl rfl rfl rfl rfl rfl rfl rfl rfl (by decide) (by decide) rfl ?_
    refine d91_firstOfLastSplit (D91_firstOfLastSplit_mono k (fun v1 k => ?_))
    exact w_ireturn (pI pM_90 rfl) rfl rfl rfl k
  · replace k := itn c1_0 k
    by_cases c1_2 : x = nI 2
    · replace k := itp c1_2 k
      refine w_table (p := 38) (off := 37) (pI pM_90 rfl) (sw_at c1_2 (by decide)) rfl rfl ?_
      refine w_aload_n (p := 39) (pI pM_90 rfl) rfl rfl ?_
      refine w_aload_n (p := 40) (pI pM_90 rfl) rfl rfl ?_
      refine v_getI (p := 43) (kf := 2) (pI pM_90 rfl) rfl rfl rfl (by decide) (by decide) rfl rfl rfl ?_
      refine w_ldc (p := 45) (v := nI 1664525) (pI pM_90 rfl) rfl rfl rfl ?_
      refine w_imul (p := 46) (pI pM_90 rfl) rfl ?_
      refine w_ldc (p := 48) (v := nI 1013904223) (pI pM_90 rfl) rfl rfl rfl ?_
      refine w_iadd (p := 49) (pI pM_90 rfl) rfl ?_
      refine s_putI (p := 52) (kf := 2) (pI pM_90 rfl) rfl rfl rfl (by decide) (by decide) rfl rfl rfl rfl rfl rfl ?_
      refine w_aload_n (p := 53) (pI pM_90 rfl) rfl rfl ?_
      refine v_getI (p := 56) (kf := 1) (pI pM_90 rfl) rfl rfl rfl (by decide) (by decide) rfl rfl rfl ?_
      refine w_if_le (p := 59) (q := 74) (pI pM_90 rfl) rfl rfl rfl (fun c => ?_) (fun c => ?_)
      · replace k := itn (Int32.not_lt.mpr c) k
        refine w_iconst (p := 75) (v := nI 0) (pI pM_90 rfl) rfl rfl ?_
        exact w_ireturn (pI pM_90 rfl) rfl rfl rfl k
      · replace k := itp (Int32.not_le.mp c) k
        refine w_aload_n (p := 60) (pI pM_90 rfl) rfl rfl ?_
        refine v_getI (p := 63) (kf := 2) (pI pM_90 rfl) rfl rfl rfl (by decide) (by decide) rfl rfl rfl ?_
        refine w_bipush (p := 65) (v := nI 8) (pI pM_90 rfl) rfl rfl ?_
        refine w_iushr (p := 66) (pI pM_90 rfl) rfl ?_
        refine w_aload_n (p := 67) (pI pM_90 rfl) rfl rfl ?_
        refine v_getI (p := 70) (kf := 1) (pI pM_90 rfl) rfl rfl rfl (by decide) (by decide) rfl rfl rfl ?_
        obtain ⟨s2, k⟩ := k
        refine w_irem (p := 71) (pI pM_90 rfl) rfl s2 ?_
        refine w_goto (p := 75) (pI pM_90 rfl) rfl rfl ?_
        exact w_ireturn (pI pM_90 rfl) rfl rfl rfl k
    · replace k := itn c1_2 k
      by_cases c1_3 : x = nI 3
      · replace k := itp c1_3 k
        refine w_table (p := 76) (off := 75) (pI pM_90 rfl) (sw_at c1_3 (by decide)) rfl rfl ?_
        refine w_aload_n (p := 77) (pI pM_90 rfl) rfl rfl ?_
        refine w_aload_n (p := 78) (pI pM_90 rfl) rfl rfl ?_
        refine w_aload_n (p := 79) (pI pM_90 rfl) rfl rfl ?_
        refine v_virtual (p := 82) (mj := 92) (pI pM_90 rfl) rfl rfl rfl rfl rfl rfl rfl rfl rfl rfl (by decide) (by decide) rfl ?_
        refine d92_mostSeldom (D92_mostSeldom_mono k (fun v3 k => ?_))
        exact w_ireturn (pI pM_90 rfl) rfl rfl rfl k
      · replace k := itn c1_3 k
        refine w_table (p := 83) (off := 82) (pI pM_90 rfl) (by have e0 := neT 0 (by decide) c1_0; have e2 := neT 2 (by decide) c1_2; have e3 := neT 3 (by decide) c1_3; exact sw_df (fun h1 h2 => by rcases (show (x).toInt = 1 by omega) with e <;> rw [e] <;> decide)) rfl rfl ?_
        refine w_iconst (p := 84) (v := nI 0) (pI pM_90 rfl) rfl rfl ?_
        exact w_ireturn (pI pM_90 rfl) rfl rfl rfl k
set_option maxRecDepth 100000 in
set_option maxHeartbeats 4000000 in
theorem d89_take {d L : Nat} {x : Int32} {A I : HA} {Q : bm_Q} (k : D89_take x A I (fun v A I => Q (some (.int v)) (hp L A I))) : bm_M (d + 4) 89 [.ref 39, .int x, .ref 37, .ref 42] (hp L A I) Q := by
  unfold D89_take at k
  refine bw_enter rfl rfl rfl rfl ?_
  refine w_aload_n (p := 1) (pI pM_89 rfl) rfl rfl ?_
  refine v_getI (p := 4) (kf := 1) (pI pM_89 rfl) rfl rfl rfl (by decide) (by decide) rfl rfl rfl ?_
  refine w_if_gt (p := 7) (q := 9) (pI pM_89 rfl) rfl rfl rfl (fun c => ?_) (fun c => ?_)
  · replace k := itp c k
    refine w_aload_n (p := 10) (pI pM_89 rfl) rfl rfl ?_
    refine w_iload_n (p := 11) (pI pM_89 rfl) rfl rfl ?_
    refine w_aload_n (p := 12) (pI pM_89 rfl) rfl rfl ?_
    refine w_aload_n (p := 13) (pI pM_89 rfl) rfl rfl ?_
    refine v_virtual (p := 16) (mj := 90) (pI pM_89 rfl) rfl rfl rfl rfl rfl rfl rfl rfl rfl rfl (by decide) (by decide) rfl ?_
    refine d90_choosePlace (D90_choosePlace_mono k (fun v1 A2 I3 k => ?_))
    refine w_istore (p := 18) (pI pM_89 rfl) rfl rfl rfl ?_
    refine w_aload_n (p := 19) (pI pM_89 rfl) rfl rfl ?_
    refine v_getR (p := 22) (kf := 0) (pI pM_89 rfl) rfl rfl rfl (by decide) (by decide) rfl rfl ?_
    refine w_iload (p := 24) (pI pM_89 rfl) rfl rfl ?_
    obtain ⟨s4, k⟩ := k
    refine v_iald (p := 25) (pI pM_89 rfl) rfl (by decide) rfl s4 rfl ?_
    refine w_istore (p := 27) (pI pM_89 rfl) rfl rfl rfl ?_
    refine w_aload_n (p := 28) (pI pM_89 rfl) rfl rfl ?_
    refine w_dup (p := 29) (pI pM_89 rfl) rfl rfl ?_
    refine v_getI (p := 32) (kf := 1) (pI pM_89 rfl) rfl rfl rfl (by decide) (by decide) rfl rfl rfl ?_
    refine w_iconst (p := 33) (v := nI 1) (pI pM_89 rfl) rfl rfl ?_
    refine w_isub (p := 34) (pI pM_89 rfl) rfl ?_
    refine s_putI (p := 37) (kf := 1) (pI pM_89 rfl) rfl rfl rfl (by decide) (by decide) rfl rfl rfl rfl rfl rfl ?_
    refine w_iload (p := 39) (pI pM_89 rfl) rfl rfl ?_
    refine w_istore (p := 41) (pI pM_89 rfl) rfl rfl rfl ?_
    refine k (fun a6 A11 I12 => ∀ u7 u8 u9 u10 : Value, bm_W (bm_M (d + 3)) 89 Q 41 [.ref 39, u7, u8, u9, u10, .int (A2 40 v1.toNatClampNeg), .int a6] [] (hp L A11 I12)) (fun a6 A11 I12 k => ?_) _ _ _ _
    intro u7 u8 u9 u10
    refine w_iload (p := 43) (pI pM_89 rfl) rfl rfl ?_
    refine w_aload_n (p := 44) (pI pM_89 rfl) rfl rfl ?_
    refine v_getI (p := 47) (kf := 1) (pI pM_89 rfl) rfl rfl rfl (by decide) (by decide) rfl rfl rfl ?_
    refine w_icmp_ge (p := 50) (q := 72) (pI pM_89 rfl) rfl rfl rfl (fun c => ?_) (fun c => ?_)
    · replace k := itn (Int32.not_lt.mpr c) k
      refine w_iload (p := 74) (pI pM_89 rfl) rfl rfl ?_
      exact w_ireturn (pI pM_89 rfl) rfl rfl rfl k
    · replace k := itp (Int32.not_le.mp c) k
      refine w_aload_n (p := 51) (pI pM_89 rfl) rfl rfl ?_
      refine v_getR (p := 54) (kf := 0) (pI pM_89 rfl) rfl rfl rfl (by decide) (by decide) rfl rfl ?_
      refine w_iload (p := 56) (pI pM_89 rfl) rfl rfl ?_
      refine w_aload_n (p := 57) (pI pM_89 rfl) rfl rfl ?_
      refine v_getR (p := 60) (kf := 0) (pI pM_89 rfl) rfl rfl rfl (by decide) (by decide) rfl rfl ?_
      refine w_iload (p := 62) (pI pM_89 rfl) rfl rfl ?_
      refine w_iconst (p := 63) (v := nI 1) (pI pM_89 rfl) rfl rfl ?_
      refine w_iadd (p := 64) (pI pM_89 rfl) rfl ?_
      obtain ⟨s14, k⟩ := k
      refine v_iald (p := 65) (pI pM_89 rfl) rfl (by decide) rfl s14 rfl ?_
      obtain ⟨s15, k⟩ := k
      refine s_iast (p := 66) (pI pM_89 rfl) rfl (by decide) (by decide) rfl s15 ?_
      refine w_iinc (p := 69) (v := (a6 + nI 1)) (pI pM_89 rfl) rfl rfl rfl rfl ?_
      refine w_goto (p := 41) (pI pM_89 rfl) rfl rfl ?_
      exact k _ _ _ _
  · replace k := itn c k
    refine w_iconst (p := 8) (v := -1) (pI pM_89 rfl) rfl rfl ?_
    exact w_ireturn (pI pM_89 rfl) rfl rfl rfl k
set_option maxRecDepth 100000 in
set_option maxHeartbeats 4000000 in
theorem d80_opAt {d L : Nat} {x : Int32} {A I : HA} {Q : bm_Q} (k : D80_opAt x A I (fun v => Q (some (.int v)) (hp L A I))) : bm_M (d + 1) 80 [.ref 22, .int x] (hp L A I) Q := by
  unfold D80_opAt at k
  refine bw_enter rfl rfl rfl rfl ?_
  refine w_aload_n (p := 1) (pI pM_80 rfl) rfl rfl ?_
  refine v_getR (p := 4) (kf := 3) (pI pM_80 rfl) rfl rfl rfl (by decide) (by decide) rfl rfl ?_
  refine w_iload_n (p := 5) (pI pM_80 rfl) rfl rfl ?_
  obtain ⟨s1, k⟩ := k
  refine v_iald (p := 6) (pI pM_80 rfl) rfl (by decide) rfl s1 rfl ?_
  exact w_ireturn (pI pM_80 rfl) rfl rfl rfl k
set_option maxRecDepth 100000 in
set_option maxHeartbeats 4000000 in
theorem d47_opOf {d L : Nat} {w : Nat} {A I : HA} {Q : bm_Q} (h_w : isW w) (k : D47_opOf w A I (fun v => Q (some (.int v)) (hp L A I))) : bm_M (d + 2) 47 [.ref 21, .ref w] (hp L A I) Q := by
  unfold D47_opOf at k
  refine bw_enter rfl rfl rfl rfl ?_
  refine w_aload_n (p := 1) (pI pM_47 rfl) rfl rfl ?_
  refine v_getR (p := 4) (kf := 0) (pI pM_47 rfl) rfl rfl rfl (by decide) (by decide) rfl rfl ?_
  refine w_aload_n (p := 5) (pI pM_47 rfl) rfl rfl ?_
  refine v_virtual (p := 8) (mj := 118) (pI pM_47 rfl) rfl rfl rfl rfl rfl rfl rfl rfl rfl rfl (isW.ge h_w 0) (isW.lt h_w 0 (by decide)) (isW.sk h_w 0 (by decide)) ?_
  refine d118_slotNow h_w (D118_slotNow_mono k (fun v1 k => ?_))
  refine v_virtual (p := 11) (mj := 80) (pI pM_47 rfl) rfl rfl rfl rfl rfl rfl rfl rfl rfl rfl (by decide) (by decide) rfl ?_
  refine d80_opAt (D80_opAt_mono k (fun v2 k => ?_))
  exact w_ireturn (pI pM_47 rfl) rfl rfl rfl k
set_option maxRecDepth 100000 in
set_option maxHeartbeats 4000000 in
theorem d81_numberAt {d L : Nat} {x : Int32} {A I : HA} {Q : bm_Q} (k : D81_numberAt x A I (fun v => Q (some (.int v)) (hp L A I))) : bm_M (d + 1) 81 [.ref 22, .int x] (hp L A I) Q := by
  unfold D81_numberAt at k
  refine bw_enter rfl rfl rfl rfl ?_
  refine w_aload_n (p := 1) (pI pM_81 rfl) rfl rfl ?_
  refine v_getR (p := 4) (kf := 4) (pI pM_81 rfl) rfl rfl rfl (by decide) (by decide) rfl rfl ?_
  refine w_iload_n (p := 5) (pI pM_81 rfl) rfl rfl ?_
  obtain ⟨s1, k⟩ := k
  refine v_iald (p := 6) (pI pM_81 rfl) rfl (by decide) rfl s1 rfl ?_
  exact w_ireturn (pI pM_81 rfl) rfl rfl rfl k
set_option maxRecDepth 100000 in
set_option maxHeartbeats 4000000 in
theorem d49_numberOf {d L : Nat} {w : Nat} {A I : HA} {Q : bm_Q} (h_w : isW w) (k : D49_numberOf w A I (fun v => Q (some (.int v)) (hp L A I))) : bm_M (d + 2) 49 [.ref 21, .ref w] (hp L A I) Q := by
  unfold D49_numberOf at k
  refine bw_enter rfl rfl rfl rfl ?_
  refine w_aload_n (p := 1) (pI pM_49 rfl) rfl rfl ?_
  refine v_getR (p := 4) (kf := 0) (pI pM_49 rfl) rfl rfl rfl (by decide) (by decide) rfl rfl ?_
  refine w_aload_n (p := 5) (pI pM_49 rfl) rfl rfl ?_
  refine v_virtual (p := 8) (mj := 118) (pI pM_49 rfl) rfl rfl rfl rfl rfl rfl rfl rfl rfl rfl (isW.ge h_w 0) (isW.lt h_w 0 (by decide)) (isW.sk h_w 0 (by decide)) ?_
  refine d118_slotNow h_w (D118_slotNow_mono k (fun v1 k => ?_))
  refine v_virtual (p := 11) (mj := 81) (pI pM_49 rfl) rfl rfl rfl rfl rfl rfl rfl rfl rfl rfl (by decide) (by decide) rfl ?_
  refine d81_numberAt (D81_numberAt_mono k (fun v2 k => ?_))
  exact w_ireturn (pI pM_49 rfl) rfl rfl rfl k
set_option maxRecDepth 100000 in
set_option maxHeartbeats 4000000 in
theorem d119_operationNow {d L : Nat} {w : Nat} {A I : HA} {Q : bm_Q} (h_w : isW w) (k : D119_operationNow w A I (fun v => Q (some (.int v)) (hp L A I))) : bm_M (d + 1) 119 [.ref w] (hp L A I) Q := by
  unfold D119_operationNow at k
  refine bw_enter rfl rfl rfl rfl ?_
  refine w_aload_n (p := 1) (pI pM_119 rfl) rfl rfl ?_
  refine v_getR (p := 4) (kf := 1) (pI pM_119 rfl) rfl rfl rfl (isW.ge h_w 0) (isW.lt h_w 0 (by decide)) (isW.sk h_w 0 (by decide)) rfl ?_
  refine w_aload_n (p := 5) (pI pM_119 rfl) rfl rfl ?_
  refine v_getI (p := 8) (kf := 4) (pI pM_119 rfl) rfl rfl rfl (isW.ge h_w 0) (isW.lt h_w 0 (by decide)) (isW.sk h_w 0 (by decide)) rfl rfl ?_
  obtain ⟨s1, k⟩ := k
  refine v_iald (p := 9) (pI pM_119 rfl) rfl (isW.lt h_w 2 (by decide)) (isW.sk h_w 2 (by decide)) s1 rfl ?_
  exact w_ireturn (pI pM_119 rfl) rfl rfl rfl k
set_option maxRecDepth 100000 in
set_option maxHeartbeats 4000000 in
theorem d120_drop {d L : Nat} {w : Nat} {x : Int32} {A I : HA} {Q : bm_Q} (h_w : isW w) (k : D120_drop w x A I (fun A I => Q none (hp L A I))) : bm_M (d + 1) 120 [.ref w, .int x] (hp L A I) Q := by
  unfold D120_drop at k
  refine bw_enter rfl rfl rfl rfl ?_
  refine w_aload_n (p := 1) (pI pM_120 rfl) rfl rfl ?_
  refine v_getR (p := 4) (kf := 2) (pI pM_120 rfl) rfl rfl rfl (isW.ge h_w 0) (isW.lt h_w 0 (by decide)) (isW.sk h_w 0 (by decide)) rfl ?_
  refine w_aload_n (p := 5) (pI pM_120 rfl) rfl rfl ?_
  refine v_getI (p := 8) (kf := 4) (pI pM_120 rfl) rfl rfl rfl (isW.ge h_w 0) (isW.lt h_w 0 (by decide)) (isW.sk h_w 0 (by decide)) rfl rfl ?_
  refine w_aload_n (p := 9) (pI pM_120 rfl) rfl rfl ?_
  refine v_getR (p := 12) (kf := 2) (pI pM_120 rfl) rfl rfl rfl (isW.ge h_w 0) (isW.lt h_w 0 (by decide)) (isW.sk h_w 0 (by decide)) rfl ?_
  refine w_aload_n (p := 13) (pI pM_120 rfl) rfl rfl ?_
  refine v_getI (p := 16) (kf := 4) (pI pM_120 rfl) rfl rfl rfl (isW.ge h_w 0) (isW.lt h_w 0 (by decide)) (isW.sk h_w 0 (by decide)) rfl rfl ?_
  obtain ⟨s1, k⟩ := k
  refine v_iald (p := 17) (pI pM_120 rfl) rfl (isW.lt h_w 3 (by decide)) (isW.sk h_w 3 (by decide)) s1 rfl ?_
  refine w_iload_n (p := 18) (pI pM_120 rfl) rfl rfl ?_
  refine w_icmp_le (p := 21) (q := 35) (pI pM_120 rfl) rfl rfl rfl (fun c => ?_) (fun c => ?_)
  · replace k := itn (Int32.not_lt.mpr c) k
    refine w_iconst (p := 36) (v := nI 0) (pI pM_120 rfl) rfl rfl ?_
    obtain ⟨s2, k⟩ := k
    refine s_iast (p := 37) (pI pM_120 rfl) rfl (isW.ge h_w 3) (isW.lt h_w 3 (by decide)) (isW.sk h_w 3 (by decide)) s2 ?_
    exact w_return (pI pM_120 rfl) rfl k
  · replace k := itp (Int32.not_le.mp c) k
    refine w_aload_n (p := 22) (pI pM_120 rfl) rfl rfl ?_
    refine v_getR (p := 25) (kf := 2) (pI pM_120 rfl) rfl rfl rfl (isW.ge h_w 0) (isW.lt h_w 0 (by decide)) (isW.sk h_w 0 (by decide)) rfl ?_
    refine w_aload_n (p := 26) (pI pM_120 rfl) rfl rfl ?_
    refine v_getI (p := 29) (kf := 4) (pI pM_120 rfl) rfl rfl rfl (isW.ge h_w 0) (isW.lt h_w 0 (by decide)) (isW.sk h_w 0 (by decide)) rfl rfl ?_
    obtain ⟨s3, k⟩ := k
    refine v_iald (p := 30) (pI pM_120 rfl) rfl (isW.lt h_w 3 (by decide)) (isW.sk h_w 3 (by decide)) s3 rfl ?_
    refine w_iload_n (p := 31) (pI pM_120 rfl) rfl rfl ?_
    refine w_isub (p := 32) (pI pM_120 rfl) rfl ?_
    refine w_goto (p := 36) (pI pM_120 rfl) rfl rfl ?_
    obtain ⟨s4, k⟩ := k
    refine s_iast (p := 37) (pI pM_120 rfl) rfl (isW.ge h_w 3) (isW.lt h_w 3 (by decide)) (isW.sk h_w 3 (by decide)) s4 ?_
    exact w_return (pI pM_120 rfl) rfl k
set_option maxRecDepth 100000 in
set_option maxHeartbeats 4000000 in
theorem d121_jump {d L : Nat} {w : Nat} {x : Int32} {A I : HA} {Q : bm_Q} (h_w : isW w) (k : D121_jump w x A I (fun A I => Q none (hp L A I))) : bm_M (d + 1) 121 [.ref w, .int x] (hp L A I) Q := by
  unfold D121_jump at k
  refine bw_enter rfl rfl rfl rfl ?_
  refine w_aload_n (p := 1) (pI pM_121 rfl) rfl rfl ?_
  refine v_getR (p := 4) (kf := 1) (pI pM_121 rfl) rfl rfl rfl (isW.ge h_w 0) (isW.lt h_w 0 (by decide)) (isW.sk h_w 0 (by decide)) rfl ?_
  refine w_aload_n (p := 5) (pI pM_121 rfl) rfl rfl ?_
  refine v_getI (p := 8) (kf := 4) (pI pM_121 rfl) rfl rfl rfl (isW.ge h_w 0) (isW.lt h_w 0 (by decide)) (isW.sk h_w 0 (by decide)) rfl rfl ?_
  refine w_iload_n (p := 9) (pI pM_121 rfl) rfl rfl ?_
  obtain ⟨s1, k⟩ := k
  refine s_iast (p := 10) (pI pM_121 rfl) rfl (isW.ge h_w 2) (isW.lt h_w 2 (by decide)) (isW.sk h_w 2 (by decide)) s1 ?_
  exact w_return (pI pM_121 rfl) rfl k
set_option maxRecDepth 100000 in
set_option maxHeartbeats 4000000 in
theorem d122_peek {d L : Nat} {w : Nat} {x : Int32} {A I : HA} {Q : bm_Q} (h_w : isW w) (k : D122_peek w x A I (fun v => Q (some (.int v)) (hp L A I))) : bm_M (d + 1) 122 [.ref w, .int x] (hp L A I) Q := by
  unfold D122_peek at k
  refine bw_enter rfl rfl rfl rfl ?_
  refine w_aload_n (p := 1) (pI pM_122 rfl) rfl rfl ?_
  refine v_getR (p := 4) (kf := 2) (pI pM_122 rfl) rfl rfl rfl (isW.ge h_w 0) (isW.lt h_w 0 (by decide)) (isW.sk h_w 0 (by decide)) rfl ?_
  refine w_aload_n (p := 5) (pI pM_122 rfl) rfl rfl ?_
  refine v_getI (p := 8) (kf := 4) (pI pM_122 rfl) rfl rfl rfl (isW.ge h_w 0) (isW.lt h_w 0 (by decide)) (isW.sk h_w 0 (by decide)) rfl rfl ?_
  obtain ⟨s1, k⟩ := k
  refine v_iald (p := 9) (pI pM_122 rfl) rfl (isW.lt h_w 3 (by decide)) (isW.sk h_w 3 (by decide)) s1 rfl ?_
  refine w_iconst (p := 10) (v := nI 1) (pI pM_122 rfl) rfl rfl ?_
  refine w_isub (p := 11) (pI pM_122 rfl) rfl ?_
  refine w_iload_n (p := 12) (pI pM_122 rfl) rfl rfl ?_
  refine w_isub (p := 13) (pI pM_122 rfl) rfl ?_
  refine w_istore_n (p := 14) (pI pM_122 rfl) rfl rfl rfl ?_
  refine w_iload_n (p := 15) (pI pM_122 rfl) rfl rfl ?_
  refine w_if_ge (p := 18) (q := 23) (pI pM_122 rfl) rfl rfl rfl (fun c => ?_) (fun c => ?_)
  · replace k := itn (Int32.not_lt.mpr c) k
    refine w_aload_n (p := 24) (pI pM_122 rfl) rfl rfl ?_
    refine v_getR (p := 27) (kf := 3) (pI pM_122 rfl) rfl rfl rfl (isW.ge h_w 0) (isW.lt h_w 0 (by decide)) (isW.sk h_w 0 (by decide)) rfl ?_
    refine w_aload_n (p := 28) (pI pM_122 rfl) rfl rfl ?_
    refine v_getI (p := 31) (kf := 4) (pI pM_122 rfl) rfl rfl rfl (isW.ge h_w 0) (isW.lt h_w 0 (by decide)) (isW.sk h_w 0 (by decide)) rfl rfl ?_
    refine w_bipush (p := 33) (v := nI 18) (pI pM_122 rfl) rfl rfl ?_
    refine w_imul (p := 34) (pI pM_122 rfl) rfl ?_
    refine w_bipush (p := 36) (v := nI 6) (pI pM_122 rfl) rfl rfl ?_
    refine w_iadd (p := 37) (pI pM_122 rfl) rfl ?_
    refine w_iload_n (p := 38) (pI pM_122 rfl) rfl rfl ?_
    refine w_iadd (p := 39) (pI pM_122 rfl) rfl ?_
    obtain ⟨s2, k⟩ := k
    refine v_iald (p := 40) (pI pM_122 rfl) rfl (isW.lt h_w 4 (by decide)) (isW.sk h_w 4 (by decide)) s2 rfl ?_
    exact w_ireturn (pI pM_122 rfl) rfl rfl rfl k
  · replace k := itp (Int32.not_le.mp c) k
    refine w_bipush (p := 20) (v := -100) (pI pM_122 rfl) rfl rfl ?_
    refine w_goto (p := 40) (pI pM_122 rfl) rfl rfl ?_
    exact w_ireturn (pI pM_122 rfl) rfl rfl rfl k
set_option maxRecDepth 100000 in
set_option maxHeartbeats 4000000 in
theorem d25_isNumber {d L : Nat} {x : Int32} {A I : HA} {Q : bm_Q} (k : D25_isNumber x (fun v => Q (some (.int v)) (hp L A I))) : bm_M (d + 1) 25 [.int x] (hp L A I) Q := by
  unfold D25_isNumber at k
  refine bw_enter rfl rfl rfl rfl ?_
  refine w_iload_n (p := 1) (pI pM_25 rfl) rfl rfl ?_
  refine w_if_lt (p := 4) (q := 15) (pI pM_25 rfl) rfl rfl rfl (fun c => ?_) (fun c => ?_)
  · replace k := itp c k
    refine w_iconst (p := 16) (v := nI 0) (pI pM_25 rfl) rfl rfl ?_
    exact w_ireturn (pI pM_25 rfl) rfl rfl rfl k
  · replace k := itn c k
    refine w_iload_n (p := 5) (pI pM_25 rfl) rfl rfl ?_
    refine w_sipush (p := 8) (v := nI 256) (pI pM_25 rfl) rfl rfl ?_
    refine w_icmp_ge (p := 11) (q := 15) (pI pM_25 rfl) rfl rfl rfl (fun c => ?_) (fun c => ?_)
    · replace k := itn (Int32.not_lt.mpr c) k
      refine w_iconst (p := 16) (v := nI 0) (pI pM_25 rfl) rfl rfl ?_
      exact w_ireturn (pI pM_25 rfl) rfl rfl rfl k
    · replace k := itp (Int32.not_le.mp c) k
      refine w_iconst (p := 12) (v := nI 1) (pI pM_25 rfl) rfl rfl ?_
      refine w_goto (p := 16) (pI pM_25 rfl) rfl rfl ?_
      exact w_ireturn (pI pM_25 rfl) rfl rfl rfl k
set_option maxRecDepth 100000 in
set_option maxHeartbeats 4000000 in
theorem d26_numberIn {d L : Nat} {x : Int32} {A I : HA} {Q : bm_Q} (k : D26_numberIn x (fun v => Q (some (.int v)) (hp L A I))) : bm_M (d + 1) 26 [.int x] (hp L A I) Q := by
  unfold D26_numberIn at k
  refine bw_enter rfl rfl rfl rfl ?_
  refine w_iload_n (p := 1) (pI pM_26 rfl) rfl rfl ?_
  refine w_bipush (p := 3) (v := -128) (pI pM_26 rfl) rfl rfl ?_
  refine w_iadd (p := 4) (pI pM_26 rfl) rfl ?_
  exact w_ireturn (pI pM_26 rfl) rfl rfl rfl k
set_option maxRecDepth 100000 in
set_option maxHeartbeats 4000000 in
theorem d209_ofOne {d L : Nat} {x : Int32} {y : Int32} {A I : HA} {Q : bm_Q} (k : D209_ofOne x y (fun v => Q (some (.int v)) (hp L A I))) : bm_M (d + 1) 209 [.int x, .int y] (hp L A I) Q := by
  unfold D209_ofOne at k
  refine bw_enter rfl rfl rfl rfl ?_
  refine w_iload_n (p := 1) (pI pM_209 rfl) rfl rfl ?_
  refine w_bipush (p := 3) (v := nI 11) (pI pM_209 rfl) rfl rfl ?_
  refine w_icmp_eq (p := 6) (q := 10) (pI pM_209 rfl) rfl rfl rfl (fun c => ?_) (fun c => ?_)
  · replace k := itp c k
    refine w_iload_n (p := 11) (pI pM_209 rfl) rfl rfl ?_
    refine w_ineg (p := 12) (pI pM_209 rfl) rfl ?_
    refine w_i2b (p := 13) (pI pM_209 rfl) rfl ?_
    refine w_goto (p := 17) (pI pM_209 rfl) rfl rfl ?_
    exact w_ireturn (pI pM_209 rfl) rfl rfl rfl k
  · replace k := itn c k
    refine w_iload_n (p := 7) (pI pM_209 rfl) rfl rfl ?_
    refine w_if_ge (p := 10) (q := 16) (pI pM_209 rfl) rfl rfl rfl (fun c => ?_) (fun c => ?_)
    · replace k := itn (Int32.not_lt.mpr c) k
      refine w_iload_n (p := 17) (pI pM_209 rfl) rfl rfl ?_
      exact w_ireturn (pI pM_209 rfl) rfl rfl rfl k
    · replace k := itp (Int32.not_le.mp c) k
      refine w_iload_n (p := 11) (pI pM_209 rfl) rfl rfl ?_
      refine w_ineg (p := 12) (pI pM_209 rfl) rfl ?_
      refine w_i2b (p := 13) (pI pM_209 rfl) rfl ?_
      refine w_goto (p := 17) (pI pM_209 rfl) rfl rfl ?_
      exact w_ireturn (pI pM_209 rfl) rfl rfl rfl k
set_option maxRecDepth 100000 in
set_option maxHeartbeats 4000000 in
theorem d27_number {d L : Nat} {x : Int32} {A I : HA} {Q : bm_Q} (k : D27_number x (fun v => Q (some (.int v)) (hp L A I))) : bm_M (d + 1) 27 [.int x] (hp L A I) Q := by
  unfold D27_number at k
  refine bw_enter rfl rfl rfl rfl ?_
  refine w_iload_n (p := 1) (pI pM_27 rfl) rfl rfl ?_
  refine w_bipush (p := 3) (v := -128) (pI pM_27 rfl) rfl rfl ?_
  refine w_isub (p := 4) (pI pM_27 rfl) rfl ?_
  exact w_ireturn (pI pM_27 rfl) rfl rfl rfl k
set_option maxRecDepth 100000 in
set_option maxHeartbeats 4000000 in
theorem d28_sizeOf {d L : Nat} {x : Int32} {A I : HA} {Q : bm_Q} (k : D28_sizeOf x A I (fun v => Q (some (.int v)) (hp L A I))) : bm_M (d + 1) 28 [.ref 32, .int x] (hp L A I) Q := by
  unfold D28_sizeOf at k
  refine bw_enter rfl rfl rfl rfl ?_
  refine w_iload_n (p := 1) (pI pM_28 rfl) rfl rfl ?_
  refine w_sipush (p := 4) (v := nI 258) (pI pM_28 rfl) rfl rfl ?_
  refine w_icmp_lt (p := 7) (q := 24) (pI pM_28 rfl) rfl rfl rfl (fun c => ?_) (fun c => ?_)
  · replace k := itp c k
    refine w_iconst (p := 25) (v := nI 1) (pI pM_28 rfl) rfl rfl ?_
    exact w_ireturn (pI pM_28 rfl) rfl rfl rfl k
  · replace k := itn c k
    refine w_iload_n (p := 8) (pI pM_28 rfl) rfl rfl ?_
    refine w_aload_n (p := 9) (pI pM_28 rfl) rfl rfl ?_
    refine v_getI (p := 12) (kf := 4) (pI pM_28 rfl) rfl rfl rfl (by decide) (by decide) rfl rfl rfl ?_
    refine w_icmp_ge (p := 15) (q := 24) (pI pM_28 rfl) rfl rfl rfl (fun c => ?_) (fun c => ?_)
    · replace k := itn (Int32.not_lt.mpr c) k
      refine w_iconst (p := 25) (v := nI 1) (pI pM_28 rfl) rfl rfl ?_
      exact w_ireturn (pI pM_28 rfl) rfl rfl rfl k
    · replace k := itp (Int32.not_le.mp c) k
      refine w_aload_n (p := 16) (pI pM_28 rfl) rfl rfl ?_
      refine v_getR (p := 19) (kf := 3) (pI pM_28 rfl) rfl rfl rfl (by decide) (by decide) rfl rfl ?_
      refine w_iload_n (p := 20) (pI pM_28 rfl) rfl rfl ?_
      obtain ⟨s1, k⟩ := k
      refine v_iald (p := 21) (pI pM_28 rfl) rfl (by decide) rfl s1 rfl ?_
      refine w_goto (p := 25) (pI pM_28 rfl) rfl rfl ?_
      exact w_ireturn (pI pM_28 rfl) rfl rfl rfl k
set_option maxRecDepth 100000 in
set_option maxHeartbeats 4000000 in
theorem d29_make {d L : Nat} {x : Int32} {y : Int32} {z : Int32} {u1 : Int32} {A I : HA} {Q : bm_Q} (k : D29_make x y z u1 A I (fun v A I => Q (some (.int v)) (hp L A I))) : bm_M (d + 1) 29 [.ref 32, .int x, .int y, .int z, .int u1] (hp L A I) Q := by
  unfold D29_make at k
  refine bw_enter rfl rfl rfl rfl ?_
  refine w_iload (p := 2) (pI pM_29 rfl) rfl rfl ?_
  refine w_bipush (p := 4) (v := nI 60) (pI pM_29 rfl) rfl rfl ?_
  refine w_icmp_gt (p := 7) (q := 17) (pI pM_29 rfl) rfl rfl rfl (fun c => ?_) (fun c => ?_)
  · replace k := itp c k
    refine w_iconst (p := 18) (v := -1) (pI pM_29 rfl) rfl rfl ?_
    exact w_ireturn (pI pM_29 rfl) rfl rfl rfl k
  · replace k := itn c k
    refine w_aload_n (p := 8) (pI pM_29 rfl) rfl rfl ?_
    refine v_getI (p := 11) (kf := 4) (pI pM_29 rfl) rfl rfl rfl (by decide) (by decide) rfl rfl rfl ?_
    refine w_sipush (p := 14) (v := nI 32258) (pI pM_29 rfl) rfl rfl ?_
    refine w_icmp_lt (p := 17) (q := 19) (pI pM_29 rfl) rfl rfl rfl (fun c => ?_) (fun c => ?_)
    · replace k := itp c k
      refine w_aload_n (p := 20) (pI pM_29 rfl) rfl rfl ?_
      refine v_getR (p := 23) (kf := 0) (pI pM_29 rfl) rfl rfl rfl (by decide) (by decide) rfl rfl ?_
      refine w_aload_n (p := 24) (pI pM_29 rfl) rfl rfl ?_
      refine v_getI (p := 27) (kf := 4) (pI pM_29 rfl) rfl rfl rfl (by decide) (by decide) rfl rfl rfl ?_
      refine w_iload_n (p := 28) (pI pM_29 rfl) rfl rfl ?_
      obtain ⟨s1, k⟩ := k
      refine s_iast (p := 29) (pI pM_29 rfl) rfl (by decide) (by decide) rfl s1 ?_
      refine w_aload_n (p := 30) (pI pM_29 rfl) rfl rfl ?_
      refine v_getR (p := 33) (kf := 1) (pI pM_29 rfl) rfl rfl rfl (by decide) (by decide) rfl rfl ?_
      refine w_aload_n (p := 34) (pI pM_29 rfl) rfl rfl ?_
      refine v_getI (p := 37) (kf := 4) (pI pM_29 rfl) rfl rfl rfl (by decide) (by decide) rfl rfl rfl ?_
      refine w_iload_n (p := 38) (pI pM_29 rfl) rfl rfl ?_
      obtain ⟨s2, k⟩ := k
      refine s_iast (p := 39) (pI pM_29 rfl) rfl (by decide) (by decide) rfl s2 ?_
      refine w_aload_n (p := 40) (pI pM_29 rfl) rfl rfl ?_
      refine v_getR (p := 43) (kf := 2) (pI pM_29 rfl) rfl rfl rfl (by decide) (by decide) rfl rfl ?_
      refine w_aload_n (p := 44) (pI pM_29 rfl) rfl rfl ?_
      refine v_getI (p := 47) (kf := 4) (pI pM_29 rfl) rfl rfl rfl (by decide) (by decide) rfl rfl rfl ?_
      refine w_iload_n (p := 48) (pI pM_29 rfl) rfl rfl ?_
      obtain ⟨s3, k⟩ := k
      refine s_iast (p := 49) (pI pM_29 rfl) rfl (by decide) (by decide) rfl s3 ?_
      refine w_aload_n (p := 50) (pI pM_29 rfl) rfl rfl ?_
      refine v_getR (p := 53) (kf := 3) (pI pM_29 rfl) rfl rfl rfl (by decide) (by decide) rfl rfl ?_
      refine w_aload_n (p := 54) (pI pM_29 rfl) rfl rfl ?_
      refine v_getI (p := 57) (kf := 4) (pI pM_29 rfl) rfl rfl rfl (by decide) (by decide) rfl rfl rfl ?_
      refine w_iload (p := 59) (pI pM_29 rfl) rfl rfl ?_
      obtain ⟨s4, k⟩ := k
      refine s_iast (p := 60) (pI pM_29 rfl) rfl (by decide) (by decide) rfl s4 ?_
      refine w_aload_n (p := 61) (pI pM_29 rfl) rfl rfl ?_
      refine w_dup (p := 62) (pI pM_29 rfl) rfl rfl ?_
      refine v_getI (p := 65) (kf := 4) (pI pM_29 rfl) rfl rfl rfl (by decide) (by decide) rfl rfl rfl ?_
      refine w_iconst (p := 66) (v := nI 1) (pI pM_29 rfl) rfl rfl ?_
      refine w_iadd (p := 67) (pI pM_29 rfl) rfl ?_
      refine s_putI (p := 70) (kf := 4) (pI pM_29 rfl) rfl rfl rfl (by decide) (by decide) rfl rfl rfl rfl rfl rfl ?_
      refine w_aload_n (p := 71) (pI pM_29 rfl) rfl rfl ?_
      refine v_getI (p := 74) (kf := 4) (pI pM_29 rfl) rfl rfl rfl (by decide) (by decide) rfl rfl rfl ?_
      refine w_iconst (p := 75) (v := nI 1) (pI pM_29 rfl) rfl rfl ?_
      refine w_isub (p := 76) (pI pM_29 rfl) rfl ?_
      exact w_ireturn (pI pM_29 rfl) rfl rfl rfl k
    · replace k := itn c k
      refine w_iconst (p := 18) (v := -1) (pI pM_29 rfl) rfl rfl ?_
      exact w_ireturn (pI pM_29 rfl) rfl rfl rfl k
set_option maxRecDepth 100000 in
set_option maxHeartbeats 4000000 in
theorem d24_ofOne {d L : Nat} {x : Int32} {y : Int32} {A I : HA} {Q : bm_Q} (k : D24_ofOne x y A I (fun v A I => Q (some (.int v)) (hp L A I))) : bm_M (d + 2) 24 [.ref 32, .int x, .int y] (hp L A I) Q := by
  unfold D24_ofOne at k
  refine bw_enter rfl rfl rfl rfl ?_
  refine w_iload_n (p := 1) (pI pM_24 rfl) rfl rfl ?_
  refine w_static (p := 4) (mj := 25) (pI pM_24 rfl) rfl rfl rfl rfl rfl rfl rfl rfl rfl ?_
  refine d25_isNumber (D25_isNumber_mono k (fun v1 k => ?_))
  refine w_if_eq (p := 7) (q := 19) (pI pM_24 rfl) rfl rfl rfl (fun c => ?_) (fun c => ?_)
  · replace k := itp c k
    refine w_aload_n (p := 20) (pI pM_24 rfl) rfl rfl ?_
    refine w_iload_n (p := 21) (pI pM_24 rfl) rfl rfl ?_
    refine w_iload_n (p := 22) (pI pM_24 rfl) rfl rfl ?_
    refine w_iconst (p := 23) (v := -1) (pI pM_24 rfl) rfl rfl ?_
    refine w_aload_n (p := 24) (pI pM_24 rfl) rfl rfl ?_
    refine w_iload_n (p := 25) (pI pM_24 rfl) rfl rfl ?_
    refine v_virtual (p := 28) (mj := 28) (pI pM_24 rfl) rfl rfl rfl rfl rfl rfl rfl rfl rfl rfl (by decide) (by decide) rfl ?_
    refine d28_sizeOf (D28_sizeOf_mono k (fun v2 k => ?_))
    refine w_iconst (p := 29) (v := nI 1) (pI pM_24 rfl) rfl rfl ?_
    refine w_iadd (p := 30) (pI pM_24 rfl) rfl ?_
    refine v_virtual (p := 33) (mj := 29) (pI pM_24 rfl) rfl rfl rfl rfl rfl rfl rfl rfl rfl rfl (by decide) (by decide) rfl ?_
    refine d29_make (D29_make_mono k (fun v3 A4 I5 k => ?_))
    exact w_ireturn (pI pM_24 rfl) rfl rfl rfl k
  · replace k := itn c k
    refine w_iload_n (p := 8) (pI pM_24 rfl) rfl rfl ?_
    refine w_iload_n (p := 9) (pI pM_24 rfl) rfl rfl ?_
    refine w_static (p := 12) (mj := 26) (pI pM_24 rfl) rfl rfl rfl rfl rfl rfl rfl rfl rfl ?_
    refine d26_numberIn (D26_numberIn_mono k (fun v6 k => ?_))
    refine w_static (p := 15) (mj := 209) (pI pM_24 rfl) rfl rfl rfl rfl rfl rfl rfl rfl rfl ?_
    refine d209_ofOne (D209_ofOne_mono k (fun v7 k => ?_))
    refine w_static (p := 18) (mj := 27) (pI pM_24 rfl) rfl rfl rfl rfl rfl rfl rfl rfl rfl ?_
    refine d27_number (D27_number_mono k (fun v8 k => ?_))
    exact w_ireturn (pI pM_24 rfl) rfl rfl rfl k
set_option maxRecDepth 100000 in
set_option maxHeartbeats 4000000 in
theorem d210_ofTwo {d L : Nat} {x : Int32} {y : Int32} {z : Int32} {A I : HA} {Q : bm_Q} (k : D210_ofTwo x y z (fun v => Q (some (.int v)) (hp L A I))) : bm_M (d + 1) 210 [.int x, .int y, .int z] (hp L A I) Q := by
  unfold D210_ofTwo at k
  refine bw_enter rfl rfl rfl rfl ?_
  refine w_iload_n (p := 1) (pI pM_210 rfl) rfl rfl ?_
  by_cases c1_6 : x = nI 6
  · replace k := itp c1_6 k
    refine w_table (p := 56) (off := 55) (pI pM_210 rfl) (sw_at c1_6 (by decide)) rfl rfl ?_
    refine w_iload_n (p := 57) (pI pM_210 rfl) rfl rfl ?_
    refine w_iload_n (p := 58) (pI pM_210 rfl) rfl rfl ?_
    refine w_iadd (p := 59) (pI pM_210 rfl) rfl ?_
    refine w_i2b (p := 60) (pI pM_210 rfl) rfl ?_
    exact w_ireturn (pI pM_210 rfl) rfl rfl rfl k
  · replace k := itn c1_6 k
    by_cases c1_7 : x = nI 7
    · replace k := itp c1_7 k
      refine w_table (p := 61) (off := 60) (pI pM_210 rfl) (sw_at c1_7 (by decide)) rfl rfl ?_
      refine w_iload_n (p := 62) (pI pM_210 rfl) rfl rfl ?_
      refine w_iload_n (p := 63) (pI pM_210 rfl) rfl rfl ?_
      refine w_isub (p := 64) (pI pM_210 rfl) rfl ?_
      refine w_i2b (p := 65) (pI pM_210 rfl) rfl ?_
      exact w_ireturn (pI pM_210 rfl) rfl rfl rfl k
    · replace k := itn c1_7 k
      by_cases c1_8 : x = nI 8
      · replace k := itp c1_8 k
        refine w_table (p := 66) (off := 65) (pI pM_210 rfl) (sw_at c1_8 (by decide)) rfl rfl ?_
        refine w_iload_n (p := 67) (pI pM_210 rfl) rfl rfl ?_
        refine w_iload_n (p := 68) (pI pM_210 rfl) rfl rfl ?_
        refine w_imul (p := 69) (pI pM_210 rfl) rfl ?_
        refine w_i2b (p := 70) (pI pM_210 rfl) rfl ?_
        exact w_ireturn (pI pM_210 rfl) rfl rfl rfl k
      · replace k := itn c1_8 k
        by_cases c1_9 : x = nI 9
        · replace k := itp c1_9 k
          refine w_table (p := 71) (off := 70) (pI pM_210 rfl) (sw_at c1_9 (by decide)) rfl rfl ?_
          refine w_iload_n (p := 72) (pI pM_210 rfl) rfl rfl ?_
          refine w_if_ne (p := 75) (q := 79) (pI pM_210 rfl) rfl rfl rfl (fun c => ?_) (fun c => ?_)
          · replace k := itn c k
            refine w_iload_n (p := 80) (pI pM_210 rfl) rfl rfl ?_
            refine w_iload_n (p := 81) (pI pM_210 rfl) rfl rfl ?_
            obtain ⟨s1, k⟩ := k
            refine w_idiv (p := 82) (pI pM_210 rfl) rfl s1 ?_
            refine w_i2b (p := 83) (pI pM_210 rfl) rfl ?_
            exact w_ireturn (pI pM_210 rfl) rfl rfl rfl k
          · replace k := itp (Decidable.not_not.mp c) k
            refine w_iconst (p := 76) (v := nI 0) (pI pM_210 rfl) rfl rfl ?_
            refine w_goto (p := 83) (pI pM_210 rfl) rfl rfl ?_
            exact w_ireturn (pI pM_210 rfl) rfl rfl rfl k
        · replace k := itn c1_9 k
          by_cases c1_10 : x = nI 10
          · replace k := itp c1_10 k
            refine w_table (p := 84) (off := 83) (pI pM_210 rfl) (sw_at c1_10 (by decide)) rfl rfl ?_
            refine w_iload_n (p := 85) (pI pM_210 rfl) rfl rfl ?_
            refine w_if_ne (p := 88) (q := 92) (pI pM_210 rfl) rfl rfl rfl (fun c => ?_) (fun c => ?_)
            · replace k := itn c k
              refine w_iload_n (p := 93) (pI pM_210 rfl) rfl rfl ?_
              refine w_iload_n (p := 94) (pI pM_210 rfl) rfl rfl ?_
              obtain ⟨s2, k⟩ := k
              refine w_irem (p := 95) (pI pM_210 rfl) rfl s2 ?_
              refine w_i2b (p := 96) (pI pM_210 rfl) rfl ?_
              exact w_ireturn (pI pM_210 rfl) rfl rfl rfl k
            · replace k := itp (Decidable.not_not.mp c) k
              refine w_iconst (p := 89) (v := nI 0) (pI pM_210 rfl) rfl rfl ?_
              refine w_goto (p := 96) (pI pM_210 rfl) rfl rfl ?_
              exact w_ireturn (pI pM_210 rfl) rfl rfl rfl k
          · replace k := itn c1_10 k
            by_cases c1_12 : x = nI 12
            · replace k := itp c1_12 k
              refine w_table (p := 97) (off := 96) (pI pM_210 rfl) (sw_at c1_12 (by decide)) rfl rfl ?_
              refine w_iload_n (p := 98) (pI pM_210 rfl) rfl rfl ?_
              refine w_iload_n (p := 99) (pI pM_210 rfl) rfl rfl ?_
              refine w_iand (p := 100) (pI pM_210 rfl) rfl ?_
              exact w_ireturn (pI pM_210 rfl) rfl rfl rfl k
            · replace k := itn c1_12 k
              by_cases c1_13 : x = nI 13
              · replace k := itp c1_13 k
                refine w_table (p := 101) (off := 100) (pI pM_210 rfl) (sw_at c1_13 (by decide)) rfl rfl ?_
                refine w_iload_n (p := 102) (pI pM_210 rfl) rfl rfl ?_
                refine w_iload_n (p := 103) (pI pM_210 rfl) rfl rfl ?_
                refine w_ior (p := 104) (pI pM_210 rfl) rfl ?_
                exact w_ireturn (pI pM_210 rfl) rfl rfl rfl k
              · replace k := itn c1_13 k
                by_cases c1_14 : x = nI 14
                · replace k := itp c1_14 k
                  refine w_table (p := 105) (off := 104) (pI pM_210 rfl) (sw_at c1_14 (by decide)) rfl rfl ?_
                  refine w_iload_n (p := 106) (pI pM_210 rfl) rfl rfl ?_
                  refine w_iload_n (p := 107) (pI pM_210 rfl) rfl rfl ?_
                  refine w_ixor (p := 108) (pI pM_210 rfl) rfl ?_
                  exact w_ireturn (pI pM_210 rfl) rfl rfl rfl k
                · replace k := itn c1_14 k
                  by_cases c1_15 : x = nI 15
                  · replace k := itp c1_15 k
                    refine w_table (p := 109) (off := 108) (pI pM_210 rfl) (sw_at c1_15 (by decide)) rfl rfl ?_
                    refine w_iload_n (p := 110) (pI pM_210 rfl) rfl rfl ?_
                    refine w_iload_n (p := 111) (pI pM_210 rfl) rfl rfl ?_
                    refine w_bipush (p := 113) (v := nI 7) (pI pM_210 rfl) rfl rfl ?_
                    refine w_iand (p := 114) (pI pM_210 rfl) rfl ?_
                    refine w_ishl (p := 115) (pI pM_210 rfl) rfl ?_
                    refine w_i2b (p := 116) (pI pM_210 rfl) rfl ?_
                    exact w_ireturn (pI pM_210 rfl) rfl rfl rfl k
                  · replace k := itn c1_15 k
                    refine w_table (p := 117) (off := 116) (pI pM_210 rfl) (by have e6 := neT 6 (by decide) c1_6; have e7 := neT 7 (by decide) c1_7; have e8 := neT 8 (by decide) c1_8; have e9 := neT 9 (by decide) c1_9; have e10 := neT 10 (by decide) c1_10; have e12 := neT 12 (by decide) c1_12; have e13 := neT 13 (by decide) c1_13; have e14 := neT 14 (by decide) c1_14; have e15 := neT 15 (by decide) c1_15; exact sw_df (fun h1 h2 => by rcases (show (x).toInt = 11 by omega) with e <;> rw [e] <;> decide)) rfl rfl ?_
                    refine w_iload_n (p := 118) (pI pM_210 rfl) rfl rfl ?_
                    refine w_iload_n (p := 119) (pI pM_210 rfl) rfl rfl ?_
                    refine w_bipush (p := 121) (v := nI 7) (pI pM_210 rfl) rfl rfl ?_
                    refine w_iand (p := 122) (pI pM_210 rfl) rfl ?_
                    refine w_ishr (p := 123) (pI pM_210 rfl) rfl ?_
                    exact w_ireturn (pI pM_210 rfl) rfl rfl rfl k
set_option maxRecDepth 100000 in
set_option maxHeartbeats 4000000 in
theorem d30_ofTwo {d L : Nat} {x : Int32} {y : Int32} {z : Int32} {A I : HA} {Q : bm_Q} (k : D30_ofTwo x y z A I (fun v A I => Q (some (.int v)) (hp L A I))) : bm_M (d + 2) 30 [.ref 32, .int x, .int y, .int z] (hp L A I) Q := by
  unfold D30_ofTwo at k
  refine bw_enter rfl rfl rfl rfl ?_
  refine w_iload_n (p := 1) (pI pM_30 rfl) rfl rfl ?_
  refine w_static (p := 4) (mj := 25) (pI pM_30 rfl) rfl rfl rfl rfl rfl rfl rfl rfl rfl ?_
  refine d25_isNumber (D25_isNumber_mono k (fun v1 k => ?_))
  refine w_if_eq (p := 7) (q := 30) (pI pM_30 rfl) rfl rfl rfl (fun c => ?_) (fun c => ?_)
  · replace k := itp c k
    refine w_aload_n (p := 31) (pI pM_30 rfl) rfl rfl ?_
    refine w_iload_n (p := 32) (pI pM_30 rfl) rfl rfl ?_
    refine w_iload_n (p := 33) (pI pM_30 rfl) rfl rfl ?_
    refine w_iload_n (p := 34) (pI pM_30 rfl) rfl rfl ?_
    refine w_aload_n (p := 35) (pI pM_30 rfl) rfl rfl ?_
    refine w_iload_n (p := 36) (pI pM_30 rfl) rfl rfl ?_
    refine v_virtual (p := 39) (mj := 28) (pI pM_30 rfl) rfl rfl rfl rfl rfl rfl rfl rfl rfl rfl (by decide) (by decide) rfl ?_
    refine d28_sizeOf (D28_sizeOf_mono k (fun v2 k => ?_))
    refine w_aload_n (p := 40) (pI pM_30 rfl) rfl rfl ?_
    refine w_iload_n (p := 41) (pI pM_30 rfl) rfl rfl ?_
    refine v_virtual (p := 44) (mj := 28) (pI pM_30 rfl) rfl rfl rfl rfl rfl rfl rfl rfl rfl rfl (by decide) (by decide) rfl ?_
    refine d28_sizeOf (D28_sizeOf_mono k (fun v3 k => ?_))
    refine w_iadd (p := 45) (pI pM_30 rfl) rfl ?_
    refine w_iconst (p := 46) (v := nI 1) (pI pM_30 rfl) rfl rfl ?_
    refine w_iadd (p := 47) (pI pM_30 rfl) rfl ?_
    refine v_virtual (p := 50) (mj := 29) (pI pM_30 rfl) rfl rfl rfl rfl rfl rfl rfl rfl rfl rfl (by decide) (by decide) rfl ?_
    refine d29_make (D29_make_mono k (fun v4 A5 I6 k => ?_))
    exact w_ireturn (pI pM_30 rfl) rfl rfl rfl k
  · replace k := itn c k
    refine w_iload_n (p := 8) (pI pM_30 rfl) rfl rfl ?_
    refine w_static (p := 11) (mj := 25) (pI pM_30 rfl) rfl rfl rfl rfl rfl rfl rfl rfl rfl ?_
    refine d25_isNumber (D25_isNumber_mono k (fun v7 k => ?_))
    refine w_if_eq (p := 14) (q := 30) (pI pM_30 rfl) rfl rfl rfl (fun c => ?_) (fun c => ?_)
    · replace k := itp c k
      refine w_aload_n (p := 31) (pI pM_30 rfl) rfl rfl ?_
      refine w_iload_n (p := 32) (pI pM_30 rfl) rfl rfl ?_
      refine w_iload_n (p := 33) (pI pM_30 rfl) rfl rfl ?_
      refine w_iload_n (p := 34) (pI pM_30 rfl) rfl rfl ?_
      refine w_aload_n (p := 35) (pI pM_30 rfl) rfl rfl ?_
      refine w_iload_n (p := 36) (pI pM_30 rfl) rfl rfl ?_
      refine v_virtual (p := 39) (mj := 28) (pI pM_30 rfl) rfl rfl rfl rfl rfl rfl rfl rfl rfl rfl (by decide) (by decide) rfl ?_
      refine d28_sizeOf (D28_sizeOf_mono k (fun v8 k => ?_))
      refine w_aload_n (p := 40) (pI pM_30 rfl) rfl rfl ?_
      refine w_iload_n (p := 41) (pI pM_30 rfl) rfl rfl ?_
      refine v_virtual (p := 44) (mj := 28) (pI pM_30 rfl) rfl rfl rfl rfl rfl rfl rfl rfl rfl rfl (by decide) (by decide) rfl ?_
      refine d28_sizeOf (D28_sizeOf_mono k (fun v9 k => ?_))
      refine w_iadd (p := 45) (pI pM_30 rfl) rfl ?_
      refine w_iconst (p := 46) (v := nI 1) (pI pM_30 rfl) rfl rfl ?_
      refine w_iadd (p := 47) (pI pM_30 rfl) rfl ?_
      refine v_virtual (p := 50) (mj := 29) (pI pM_30 rfl) rfl rfl rfl rfl rfl rfl rfl rfl rfl rfl (by decide) (by decide) rfl ?_
      refine d29_make (D29_make_mono k (fun v10 A11 I12 k => ?_))
      exact w_ireturn (pI pM_30 rfl) rfl rfl rfl k
    · replace k := itn c k
      refine w_iload_n (p := 15) (pI pM_30 rfl) rfl rfl ?_
      refine w_iload_n (p := 16) (pI pM_30 rfl) rfl rfl ?_
      refine w_static (p := 19) (mj := 26) (pI pM_30 rfl) rfl rfl rfl rfl rfl rfl rfl rfl rfl ?_
      refine d26_numberIn (D26_numberIn_mono k (fun v13 k => ?_))
      refine w_iload_n (p := 20) (pI pM_30 rfl) rfl rfl ?_
      refine w_static (p := 23) (mj := 26) (pI pM_30 rfl) rfl rfl rfl rfl rfl rfl rfl rfl rfl ?_
      refine d26_numberIn (D26_numberIn_mono k (fun v14 k => ?_))
      refine w_static (p := 26) (mj := 210) (pI pM_30 rfl) rfl rfl rfl rfl rfl rfl rfl rfl rfl ?_
      refine d210_ofTwo (D210_ofTwo_mono k (fun v15 k => ?_))
      refine w_static (p := 29) (mj := 27) (pI pM_30 rfl) rfl rfl rfl rfl rfl rfl rfl rfl rfl ?_
      refine d27_number (D27_number_mono k (fun v16 k => ?_))
      exact w_ireturn (pI pM_30 rfl) rfl rfl rfl k
set_option maxRecDepth 100000 in
set_option maxHeartbeats 4000000 in
theorem d123_placeNow {d L : Nat} {w : Nat} {A I : HA} {Q : bm_Q} (h_w : isW w) (k : D123_placeNow w A I (fun v => Q (some (.int v)) (hp L A I))) : bm_M (d + 1) 123 [.ref w] (hp L A I) Q := by
  unfold D123_placeNow at k
  refine bw_enter rfl rfl rfl rfl ?_
  refine w_bipush (p := 2) (v := nI 100) (pI pM_123 rfl) rfl rfl ?_
  refine w_aload_n (p := 3) (pI pM_123 rfl) rfl rfl ?_
  refine v_getR (p := 6) (kf := 0) (pI pM_123 rfl) rfl rfl rfl (isW.ge h_w 0) (isW.lt h_w 0 (by decide)) (isW.sk h_w 0 (by decide)) rfl ?_
  refine w_aload_n (p := 7) (pI pM_123 rfl) rfl rfl ?_
  refine v_getI (p := 10) (kf := 4) (pI pM_123 rfl) rfl rfl rfl (isW.ge h_w 0) (isW.lt h_w 0 (by decide)) (isW.sk h_w 0 (by decide)) rfl rfl ?_
  obtain ⟨s1, k⟩ := k
  refine v_iald (p := 11) (pI pM_123 rfl) rfl (isW.lt h_w 1 (by decide)) (isW.sk h_w 1 (by decide)) s1 rfl ?_
  refine w_imul (p := 12) (pI pM_123 rfl) rfl ?_
  refine w_aload_n (p := 13) (pI pM_123 rfl) rfl rfl ?_
  refine v_getR (p := 16) (kf := 1) (pI pM_123 rfl) rfl rfl rfl (isW.ge h_w 0) (isW.lt h_w 0 (by decide)) (isW.sk h_w 0 (by decide)) rfl ?_
  refine w_aload_n (p := 17) (pI pM_123 rfl) rfl rfl ?_
  refine v_getI (p := 20) (kf := 4) (pI pM_123 rfl) rfl rfl rfl (isW.ge h_w 0) (isW.lt h_w 0 (by decide)) (isW.sk h_w 0 (by decide)) rfl rfl ?_
  obtain ⟨s2, k⟩ := k
  refine v_iald (p := 21) (pI pM_123 rfl) rfl (isW.lt h_w 2 (by decide)) (isW.sk h_w 2 (by decide)) s2 rfl ?_
  refine w_iadd (p := 22) (pI pM_123 rfl) rfl ?_
  exact w_ireturn (pI pM_123 rfl) rfl rfl rfl k
set_option maxRecDepth 100000 in
set_option maxHeartbeats 4000000 in
theorem d124_end {d L : Nat} {w : Nat} {x : Int32} {y : Int32} {A I : HA} {Q : bm_Q} (h_w : isW w) (k : D124_end w x y A I (fun A I => Q none (hp L A I))) : bm_M (d + 1) 124 [.ref w, .int x, .int y] (hp L A I) Q := by
  unfold D124_end at k
  refine bw_enter rfl rfl rfl rfl ?_
  refine w_aload_n (p := 1) (pI pM_124 rfl) rfl rfl ?_
  refine w_iload_n (p := 2) (pI pM_124 rfl) rfl rfl ?_
  refine s_putI (p := 5) (kf := 12) (pI pM_124 rfl) rfl rfl rfl (isW.ge h_w 0) (isW.lt h_w 0 (by decide)) (isW.sk h_w 0 (by decide)) rfl rfl rfl rfl rfl ?_
  refine w_aload_n (p := 6) (pI pM_124 rfl) rfl rfl ?_
  refine w_iload_n (p := 7) (pI pM_124 rfl) rfl rfl ?_
  refine s_putI (p := 10) (kf := 13) (pI pM_124 rfl) rfl rfl rfl (isW.ge h_w 0) (isW.lt h_w 0 (by decide)) (isW.sk h_w 0 (by decide)) rfl rfl rfl rfl rfl ?_
  exact w_return (pI pM_124 rfl) rfl k
set_option maxRecDepth 100000 in
set_option maxHeartbeats 4000000 in
theorem d126_push {d L : Nat} {w : Nat} {x : Int32} {A I : HA} {Q : bm_Q} (h_w : isW w) (k : D126_push w x A I (fun A I => Q none (hp L A I))) : bm_M (d + 1) 126 [.ref w, .int x] (hp L A I) Q := by
  unfold D126_push at k
  refine bw_enter rfl rfl rfl rfl ?_
  refine w_aload_n (p := 1) (pI pM_126 rfl) rfl rfl ?_
  refine v_getR (p := 4) (kf := 2) (pI pM_126 rfl) rfl rfl rfl (isW.ge h_w 0) (isW.lt h_w 0 (by decide)) (isW.sk h_w 0 (by decide)) rfl ?_
  refine w_aload_n (p := 5) (pI pM_126 rfl) rfl rfl ?_
  refine v_getI (p := 8) (kf := 4) (pI pM_126 rfl) rfl rfl rfl (isW.ge h_w 0) (isW.lt h_w 0 (by decide)) (isW.sk h_w 0 (by decide)) rfl rfl ?_
  obtain ⟨s1, k⟩ := k
  refine v_iald (p := 9) (pI pM_126 rfl) rfl (isW.lt h_w 3 (by decide)) (isW.sk h_w 3 (by decide)) s1 rfl ?_
  refine w_bipush (p := 11) (v := nI 12) (pI pM_126 rfl) rfl rfl ?_
  refine w_icmp_ge (p := 14) (q := 53) (pI pM_126 rfl) rfl rfl rfl (fun c => ?_) (fun c => ?_)
  · replace k := itn (Int32.not_lt.mpr c) k
    exact w_return (pI pM_126 rfl) rfl k
  · replace k := itp (Int32.not_le.mp c) k
    refine w_aload_n (p := 15) (pI pM_126 rfl) rfl rfl ?_
    refine v_getR (p := 18) (kf := 3) (pI pM_126 rfl) rfl rfl rfl (isW.ge h_w 0) (isW.lt h_w 0 (by decide)) (isW.sk h_w 0 (by decide)) rfl ?_
    refine w_aload_n (p := 19) (pI pM_126 rfl) rfl rfl ?_
    refine v_getI (p := 22) (kf := 4) (pI pM_126 rfl) rfl rfl rfl (isW.ge h_w 0) (isW.lt h_w 0 (by decide)) (isW.sk h_w 0 (by decide)) rfl rfl ?_
    refine w_bipush (p := 24) (v := nI 18) (pI pM_126 rfl) rfl rfl ?_
    refine w_imul (p := 25) (pI pM_126 rfl) rfl ?_
    refine w_bipush (p := 27) (v := nI 6) (pI pM_126 rfl) rfl rfl ?_
    refine w_iadd (p := 28) (pI pM_126 rfl) rfl ?_
    refine w_aload_n (p := 29) (pI pM_126 rfl) rfl rfl ?_
    refine v_getR (p := 32) (kf := 2) (pI pM_126 rfl) rfl rfl rfl (isW.ge h_w 0) (isW.lt h_w 0 (by decide)) (isW.sk h_w 0 (by decide)) rfl ?_
    refine w_aload_n (p := 33) (pI pM_126 rfl) rfl rfl ?_
    refine v_getI (p := 36) (kf := 4) (pI pM_126 rfl) rfl rfl rfl (isW.ge h_w 0) (isW.lt h_w 0 (by decide)) (isW.sk h_w 0 (by decide)) rfl rfl ?_
    obtain ⟨s2, k⟩ := k
    refine v_iald (p := 37) (pI pM_126 rfl) rfl (isW.lt h_w 3 (by decide)) (isW.sk h_w 3 (by decide)) s2 rfl ?_
    refine w_iadd (p := 38) (pI pM_126 rfl) rfl ?_
    refine w_iload_n (p := 39) (pI pM_126 rfl) rfl rfl ?_
    obtain ⟨s3, k⟩ := k
    refine s_iast (p := 40) (pI pM_126 rfl) rfl (isW.ge h_w 4) (isW.lt h_w 4 (by decide)) (isW.sk h_w 4 (by decide)) s3 ?_
    refine w_aload_n (p := 41) (pI pM_126 rfl) rfl rfl ?_
    refine v_getR (p := 44) (kf := 2) (pI pM_126 rfl) rfl rfl rfl (isW.ge h_w 0) (isW.lt h_w 0 (by decide)) (isW.sk h_w 0 (by decide)) rfl ?_
    refine w_aload_n (p := 45) (pI pM_126 rfl) rfl rfl ?_
    refine v_getI (p := 48) (kf := 4) (pI pM_126 rfl) rfl rfl rfl (isW.ge h_w 0) (isW.lt h_w 0 (by decide)) (isW.sk h_w 0 (by decide)) rfl rfl ?_
    refine w_dup2 (p := 49) (pI pM_126 rfl) rfl rfl rfl ?_
    obtain ⟨s4, k⟩ := k
    refine v_iald (p := 50) (pI pM_126 rfl) rfl (isW.lt h_w 3 (by decide)) (isW.sk h_w 3 (by decide)) s4 rfl ?_
    refine w_iconst (p := 51) (v := nI 1) (pI pM_126 rfl) rfl rfl ?_
    refine w_iadd (p := 52) (pI pM_126 rfl) rfl ?_
    obtain ⟨s5, k⟩ := k
    refine s_iast (p := 53) (pI pM_126 rfl) rfl (isW.ge h_w 3) (isW.lt h_w 3 (by decide)) (isW.sk h_w 3 (by decide)) s5 ?_
    exact w_return (pI pM_126 rfl) rfl k
set_option maxRecDepth 100000 in
set_option maxHeartbeats 4000000 in
theorem d125_finish {d L : Nat} {w : Nat} {x : Int32} {y : Int32} {A I : HA} {Q : bm_Q} (h_w : isW w) (k : D125_finish w x y A I (fun A I => Q none (hp L A I))) : bm_M (d + 2) 125 [.ref w, .int x, .int y] (hp L A I) Q := by
  unfold D125_finish at k
  refine bw_enter rfl rfl rfl rfl ?_
  refine w_aload_n (p := 1) (pI pM_125 rfl) rfl rfl ?_
  refine w_iload_n (p := 2) (pI pM_125 rfl) rfl rfl ?_
  refine v_virtual (p := 5) (mj := 120) (pI pM_125 rfl) rfl rfl rfl rfl rfl rfl rfl rfl rfl rfl (isW.ge h_w 0) (isW.lt h_w 0 (by decide)) (isW.sk h_w 0 (by decide)) ?_
  refine d120_drop h_w (D120_drop_mono k (fun A1 I2 k => ?_))
  refine w_aload_n (p := 6) (pI pM_125 rfl) rfl rfl ?_
  refine w_iload_n (p := 7) (pI pM_125 rfl) rfl rfl ?_
  refine v_virtual (p := 10) (mj := 126) (pI pM_125 rfl) rfl rfl rfl rfl rfl rfl rfl rfl rfl rfl (isW.ge h_w 0) (isW.lt h_w 0 (by decide)) (isW.sk h_w 0 (by decide)) ?_
  refine d126_push h_w (D126_push_mono k (fun A3 I4 k => ?_))
  refine w_aload_n (p := 11) (pI pM_125 rfl) rfl rfl ?_
  refine v_getR (p := 14) (kf := 1) (pI pM_125 rfl) rfl rfl rfl (isW.ge h_w 0) (isW.lt h_w 0 (by decide)) (isW.sk h_w 0 (by decide)) rfl ?_
  refine w_aload_n (p := 15) (pI pM_125 rfl) rfl rfl ?_
  refine v_getI (p := 18) (kf := 4) (pI pM_125 rfl) rfl rfl rfl (isW.ge h_w 0) (isW.lt h_w 0 (by decide)) (isW.sk h_w 0 (by decide)) rfl rfl ?_
  refine w_dup2 (p := 19) (pI pM_125 rfl) rfl rfl rfl ?_
  obtain ⟨s5, k⟩ := k
  refine v_iald (p := 20) (pI pM_125 rfl) rfl (isW.lt h_w 2 (by decide)) (isW.sk h_w 2 (by decide)) s5 rfl ?_
  refine w_iconst (p := 21) (v := nI 1) (pI pM_125 rfl) rfl rfl ?_
  refine w_iadd (p := 22) (pI pM_125 rfl) rfl ?_
  obtain ⟨s6, k⟩ := k
  refine s_iast (p := 23) (pI pM_125 rfl) rfl (isW.ge h_w 2) (isW.lt h_w 2 (by decide)) (isW.sk h_w 2 (by decide)) s6 ?_
  exact w_return (pI pM_125 rfl) rfl k
set_option maxRecDepth 100000 in
set_option maxHeartbeats 4000000 in
theorem d50_compute {d L : Nat} {w : Nat} {x : Int32} {A I : HA} {Q : bm_Q} (h_w : isW w) (k : D50_compute w x A I (fun A I => Q none (hp L A I))) : bm_M (d + 3) 50 [.ref 21, .ref w, .int x] (hp L A I) Q := by
  unfold D50_compute at k
  refine bw_enter rfl rfl rfl rfl ?_
  refine w_getstatic (p := 3) (x := 1) (pI pM_50 rfl) rfl rfl rfl ?_
  refine w_iload_n (p := 4) (pI pM_50 rfl) rfl rfl ?_
  obtain ⟨s1, k⟩ := k
  refine v_iald (p := 5) (pI pM_50 rfl) rfl (by decide) rfl s1 rfl ?_
  refine w_istore_n (p := 6) (pI pM_50 rfl) rfl rfl rfl ?_
  refine w_iload_n (p := 7) (pI pM_50 rfl) rfl rfl ?_
  refine w_iconst (p := 8) (v := nI 1) (pI pM_50 rfl) rfl rfl ?_
  refine w_icmp_ne (p := 11) (q := 27) (pI pM_50 rfl) rfl rfl rfl (fun c => ?_) (fun c => ?_)
  · replace k := itn c k
    refine w_aload_n (p := 28) (pI pM_50 rfl) rfl rfl ?_
    refine v_getR (p := 31) (kf := 1) (pI pM_50 rfl) rfl rfl rfl (by decide) (by decide) rfl rfl ?_
    refine w_iload_n (p := 32) (pI pM_50 rfl) rfl rfl ?_
    refine w_aload_n (p := 33) (pI pM_50 rfl) rfl rfl ?_
    refine w_iconst (p := 34) (v := nI 1) (pI pM_50 rfl) rfl rfl ?_
    refine v_virtual (p := 37) (mj := 122) (pI pM_50 rfl) rfl rfl rfl rfl rfl rfl rfl rfl rfl rfl (isW.ge h_w 0) (isW.lt h_w 0 (by decide)) (isW.sk h_w 0 (by decide)) ?_
    refine d122_peek h_w (D122_peek_mono k (fun v2 k => ?_))
    refine w_aload_n (p := 38) (pI pM_50 rfl) rfl rfl ?_
    refine w_iconst (p := 39) (v := nI 0) (pI pM_50 rfl) rfl rfl ?_
    refine v_virtual (p := 42) (mj := 122) (pI pM_50 rfl) rfl rfl rfl rfl rfl rfl rfl rfl rfl rfl (isW.ge h_w 0) (isW.lt h_w 0 (by decide)) (isW.sk h_w 0 (by decide)) ?_
    refine d122_peek h_w (D122_peek_mono k (fun v3 k => ?_))
    refine v_virtual (p := 45) (mj := 30) (pI pM_50 rfl) rfl rfl rfl rfl rfl rfl rfl rfl rfl rfl (by decide) (by decide) rfl ?_
    refine d30_ofTwo (D30_ofTwo_mono k (fun v4 A5 I6 k => ?_))
    refine w_istore (p := 47) (pI pM_50 rfl) rfl rfl rfl ?_
    refine w_iload (p := 49) (pI pM_50 rfl) rfl rfl ?_
    refine w_iconst (p := 50) (v := -1) (pI pM_50 rfl) rfl rfl ?_
    refine w_icmp_ne (p := 53) (q := 66) (pI pM_50 rfl) rfl rfl rfl (fun c => ?_) (fun c => ?_)
    · replace k := itn c k
      refine w_aload_n (p := 67) (pI pM_50 rfl) rfl rfl ?_
      refine w_iload_n (p := 68) (pI pM_50 rfl) rfl rfl ?_
      refine w_iload (p := 70) (pI pM_50 rfl) rfl rfl ?_
      refine v_virtual (p := 73) (mj := 125) (pI pM_50 rfl) rfl rfl rfl rfl rfl rfl rfl rfl rfl rfl (isW.ge h_w 0) (isW.lt h_w 0 (by decide)) (isW.sk h_w 0 (by decide)) ?_
      refine d125_finish h_w (D125_finish_mono k (fun A7 I8 k => ?_))
      exact w_return (pI pM_50 rfl) rfl k
    · replace k := itp (Decidable.not_not.mp c) k
      refine w_aload_n (p := 54) (pI pM_50 rfl) rfl rfl ?_
      refine w_bipush (p := 56) (v := nI 7) (pI pM_50 rfl) rfl rfl ?_
      refine w_aload_n (p := 57) (pI pM_50 rfl) rfl rfl ?_
      refine v_virtual (p := 60) (mj := 123) (pI pM_50 rfl) rfl rfl rfl rfl rfl rfl rfl rfl rfl rfl (isW.ge h_w 0) (isW.lt h_w 0 (by decide)) (isW.sk h_w 0 (by decide)) ?_
      refine d123_placeNow h_w (D123_placeNow_mono k (fun v9 k => ?_))
      refine v_virtual (p := 63) (mj := 124) (pI pM_50 rfl) rfl rfl rfl rfl rfl rfl rfl rfl rfl rfl (isW.ge h_w 0) (isW.lt h_w 0 (by decide)) (isW.sk h_w 0 (by decide)) ?_
      refine d124_end h_w (D124_end_mono k (fun A10 I11 k => ?_))
      refine w_goto (p := 73) (pI pM_50 rfl) rfl rfl ?_
      exact w_return (pI pM_50 rfl) rfl k
  · replace k := itp (Decidable.not_not.mp c) k
    refine w_aload_n (p := 12) (pI pM_50 rfl) rfl rfl ?_
    refine v_getR (p := 15) (kf := 1) (pI pM_50 rfl) rfl rfl rfl (by decide) (by decide) rfl rfl ?_
    refine w_iload_n (p := 16) (pI pM_50 rfl) rfl rfl ?_
    refine w_aload_n (p := 17) (pI pM_50 rfl) rfl rfl ?_
    refine w_iconst (p := 18) (v := nI 0) (pI pM_50 rfl) rfl rfl ?_
    refine v_virtual (p := 21) (mj := 122) (pI pM_50 rfl) rfl rfl rfl rfl rfl rfl rfl rfl rfl rfl (isW.ge h_w 0) (isW.lt h_w 0 (by decide)) (isW.sk h_w 0 (by decide)) ?_
    refine d122_peek h_w (D122_peek_mono k (fun v12 k => ?_))
    refine v_virtual (p := 24) (mj := 24) (pI pM_50 rfl) rfl rfl rfl rfl rfl rfl rfl rfl rfl rfl (by decide) (by decide) rfl ?_
    refine d24_ofOne (D24_ofOne_mono k (fun v13 A14 I15 k => ?_))
    refine w_goto (p := 45) (pI pM_50 rfl) rfl rfl ?_
    refine w_istore (p := 47) (pI pM_50 rfl) rfl rfl rfl ?_
    refine w_iload (p := 49) (pI pM_50 rfl) rfl rfl ?_
    refine w_iconst (p := 50) (v := -1) (pI pM_50 rfl) rfl rfl ?_
    refine w_icmp_ne (p := 53) (q := 66) (pI pM_50 rfl) rfl rfl rfl (fun c => ?_) (fun c => ?_)
    · replace k := itn c k
      refine w_aload_n (p := 67) (pI pM_50 rfl) rfl rfl ?_
      refine w_iload_n (p := 68) (pI pM_50 rfl) rfl rfl ?_
      refine w_iload (p := 70) (pI pM_50 rfl) rfl rfl ?_
      refine v_virtual (p := 73) (mj := 125) (pI pM_50 rfl) rfl rfl rfl rfl rfl rfl rfl rfl rfl rfl (isW.ge h_w 0) (isW.lt h_w 0 (by decide)) (isW.sk h_w 0 (by decide)) ?_
      refine d125_finish h_w (D125_finish_mono k (fun A16 I17 k => ?_))
      exact w_return (pI pM_50 rfl) rfl k
    · replace k := itp (Decidable.not_not.mp c) k
      refine w_aload_n (p := 54) (pI pM_50 rfl) rfl rfl ?_
      refine w_bipush (p := 56) (v := nI 7) (pI pM_50 rfl) rfl rfl ?_
      refine w_aload_n (p := 57) (pI pM_50 rfl) rfl rfl ?_
      refine v_virtual (p := 60) (mj := 123) (pI pM_50 rfl) rfl rfl rfl rfl rfl rfl rfl rfl rfl rfl (isW.ge h_w 0) (isW.lt h_w 0 (by decide)) (isW.sk h_w 0 (by decide)) ?_
      refine d123_placeNow h_w (D123_placeNow_mono k (fun v18 k => ?_))
      refine v_virtual (p := 63) (mj := 124) (pI pM_50 rfl) rfl rfl rfl rfl rfl rfl rfl rfl rfl rfl (isW.ge h_w 0) (isW.lt h_w 0 (by decide)) (isW.sk h_w 0 (by decide)) ?_
      refine d124_end h_w (D124_end_mono k (fun A19 I20 k => ?_))
      refine w_goto (p := 73) (pI pM_50 rfl) rfl rfl ?_
      exact w_return (pI pM_50 rfl) rfl k
set_option maxRecDepth 100000 in
set_option maxHeartbeats 4000000 in
theorem d127_methodNow {d L : Nat} {w : Nat} {A I : HA} {Q : bm_Q} (h_w : isW w) (k : D127_methodNow w A I (fun v => Q (some (.int v)) (hp L A I))) : bm_M (d + 1) 127 [.ref w] (hp L A I) Q := by
  unfold D127_methodNow at k
  refine bw_enter rfl rfl rfl rfl ?_
  refine w_aload_n (p := 1) (pI pM_127 rfl) rfl rfl ?_
  refine v_getR (p := 4) (kf := 0) (pI pM_127 rfl) rfl rfl rfl (isW.ge h_w 0) (isW.lt h_w 0 (by decide)) (isW.sk h_w 0 (by decide)) rfl ?_
  refine w_aload_n (p := 5) (pI pM_127 rfl) rfl rfl ?_
  refine v_getI (p := 8) (kf := 4) (pI pM_127 rfl) rfl rfl rfl (isW.ge h_w 0) (isW.lt h_w 0 (by decide)) (isW.sk h_w 0 (by decide)) rfl rfl ?_
  obtain ⟨s1, k⟩ := k
  refine v_iald (p := 9) (pI pM_127 rfl) rfl (isW.lt h_w 1 (by decide)) (isW.sk h_w 1 (by decide)) s1 rfl ?_
  exact w_ireturn (pI pM_127 rfl) rfl rfl rfl k
set_option maxRecDepth 100000 in
set_option maxHeartbeats 4000000 in
theorem d82_handlerTarget {d L : Nat} {x : Int32} {y : Int32} {z : Int32} {A I : HA} {Q : bm_Q} (k : D82_handlerTarget x y z A I (fun v => Q (some (.int v)) (hp L A I))) : bm_M (d + 1) 82 [.ref 22, .int x, .int y, .int z] (hp L A I) Q := by
  unfold D82_handlerTarget at k
  refine bw_enter rfl rfl rfl rfl ?_
  refine w_iload_n (p := 1) (pI pM_82 rfl) rfl rfl ?_
  refine w_iconst (p := 2) (v := nI 4) (pI pM_82 rfl) rfl rfl ?_
  refine w_imul (p := 3) (pI pM_82 rfl) rfl ?_
  refine w_istore (p := 5) (pI pM_82 rfl) rfl rfl rfl ?_
  refine w_iload (p := 7) (pI pM_82 rfl) rfl rfl ?_
  refine w_istore (p := 9) (pI pM_82 rfl) rfl rfl rfl ?_
  refine k (fun a2 => ∀ u3 : Value, bm_W (bm_M (d + 0)) 82 Q 9 [.ref 22, .int x, .int y, .int z, .int (x * (nI 4)), .int a2, u3] [] (hp L A I)) (fun a2 k => ?_) _
  intro u3
  refine w_iload (p := 11) (pI pM_82 rfl) rfl rfl ?_
  refine w_iload (p := 13) (pI pM_82 rfl) rfl rfl ?_
  refine w_aload_n (p := 14) (pI pM_82 rfl) rfl rfl ?_
  refine v_getR (p := 17) (kf := 5) (pI pM_82 rfl) rfl rfl rfl (by decide) (by decide) rfl rfl ?_
  refine w_iload_n (p := 18) (pI pM_82 rfl) rfl rfl ?_
  obtain ⟨s5, k⟩ := k
  refine v_iald (p := 19) (pI pM_82 rfl) rfl (by decide) rfl s5 rfl ?_
  refine w_iadd (p := 20) (pI pM_82 rfl) rfl ?_
  refine w_icmp_ge (p := 23) (q := 92) (pI pM_82 rfl) rfl rfl rfl (fun c => ?_) (fun c => ?_)
  · replace k := itn (Int32.not_lt.mpr c) k
    refine w_iconst (p := 93) (v := -1) (pI pM_82 rfl) rfl rfl ?_
    exact w_ireturn (pI pM_82 rfl) rfl rfl rfl k
  · replace k := itp (Int32.not_le.mp c) k
    refine w_aload_n (p := 24) (pI pM_82 rfl) rfl rfl ?_
    refine v_getR (p := 27) (kf := 9) (pI pM_82 rfl) rfl rfl rfl (by decide) (by decide) rfl rfl ?_
    refine w_iload (p := 29) (pI pM_82 rfl) rfl rfl ?_
    obtain ⟨s6, k⟩ := k
    refine v_iald (p := 30) (pI pM_82 rfl) rfl (by decide) rfl s6 rfl ?_
    refine w_if_eq (p := 33) (q := 44) (pI pM_82 rfl) rfl rfl rfl (fun c => ?_) (fun c => ?_)
    · replace k := itp c k
      refine w_iconst (p := 45) (v := nI 1) (pI pM_82 rfl) rfl rfl ?_
      refine w_goto (p := 49) (pI pM_82 rfl) rfl rfl ?_
      refine w_istore (p := 51) (pI pM_82 rfl) rfl rfl rfl ?_
      refine w_iload (p := 53) (pI pM_82 rfl) rfl rfl ?_
      refine w_if_eq (p := 56) (q := 86) (pI pM_82 rfl) rfl rfl rfl (fun c => absurd c (by decide)) (fun _ => ?_)
      refine w_iload_n (p := 57) (pI pM_82 rfl) rfl rfl ?_
      refine w_aload_n (p := 58) (pI pM_82 rfl) rfl rfl ?_
      refine v_getR (p := 61) (kf := 6) (pI pM_82 rfl) rfl rfl rfl (by decide) (by decide) rfl rfl ?_
      refine w_iload (p := 63) (pI pM_82 rfl) rfl rfl ?_
      obtain ⟨s7, k⟩ := k
      refine v_iald (p := 64) (pI pM_82 rfl) rfl (by decide) rfl s7 rfl ?_
      refine w_icmp_lt (p := 67) (q := 86) (pI pM_82 rfl) rfl rfl rfl (fun c => ?_) (fun c => ?_)
      · replace k := itp c k
        refine w_iinc (p := 89) (v := (a2 + nI 1)) (pI pM_82 rfl) rfl rfl rfl rfl ?_
        refine w_goto (p := 9) (pI pM_82 rfl) rfl rfl ?_
        exact k _
      · replace k := itn c k
        refine w_iload_n (p := 68) (pI pM_82 rfl) rfl rfl ?_
        refine w_aload_n (p := 69) (pI pM_82 rfl) rfl rfl ?_
        refine v_getR (p := 72) (kf := 7) (pI pM_82 rfl) rfl rfl rfl (by decide) (by decide) rfl rfl ?_
        refine w_iload (p := 74) (pI pM_82 rfl) rfl rfl ?_
        obtain ⟨s8, k⟩ := k
        refine v_iald (p := 75) (pI pM_82 rfl) rfl (by decide) rfl s8 rfl ?_
        refine w_icmp_ge (p := 78) (q := 86) (pI pM_82 rfl) rfl rfl rfl (fun c => ?_) (fun c => ?_)
        · replace k := itn (Int32.not_lt.mpr c) k
          refine w_iinc (p := 89) (v := (a2 + nI 1)) (pI pM_82 rfl) rfl rfl rfl rfl ?_
          refine w_goto (p := 9) (pI pM_82 rfl) rfl rfl ?_
          exact k _
        · replace k := itp (Int32.not_le.mp c) k
          refine w_aload_n (p := 79) (pI pM_82 rfl) rfl rfl ?_
          refine v_getR (p := 82) (kf := 8) (pI pM_82 rfl) rfl rfl rfl (by decide) (by decide) rfl rfl ?_
          refine w_iload (p := 84) (pI pM_82 rfl) rfl rfl ?_
          obtain ⟨s9, k⟩ := k
          refine v_iald (p := 85) (pI pM_82 rfl) rfl (by decide) rfl s9 rfl ?_
          exact w_ireturn (pI pM_82 rfl) rfl rfl rfl k
    · replace k := itn c k
      refine w_aload_n (p := 34) (pI pM_82 rfl) rfl rfl ?_
      refine v_getR (p := 37) (kf := 9) (pI pM_82 rfl) rfl rfl rfl (by decide) (by decide) rfl rfl ?_
      refine w_iload (p := 39) (pI pM_82 rfl) rfl rfl ?_
      obtain ⟨s10, k⟩ := k
      refine v_iald (p := 40) (pI pM_82 rfl) rfl (by decide) rfl s10 rfl ?_
      refine w_iload_n (p := 41) (pI pM_82 rfl) rfl rfl ?_
      refine w_icmp_ne (p := 44) (q := 48) (pI pM_82 rfl) rfl rfl rfl (fun c => ?_) (fun c => ?_)
      · replace k := itn c k
        refine w_iconst (p := 49) (v := nI 0) (pI pM_82 rfl) rfl rfl ?_
        refine w_istore (p := 51) (pI pM_82 rfl) rfl rfl rfl ?_
        refine w_iload (p := 53) (pI pM_82 rfl) rfl rfl ?_
        refine w_if_eq (p := 56) (q := 86) (pI pM_82 rfl) rfl rfl rfl (fun _ => ?_) (fun c => absurd (by decide) c)
        refine w_iinc (p := 89) (v := (a2 + nI 1)) (pI pM_82 rfl) rfl rfl rfl rfl ?_
        refine w_goto (p := 9) (pI pM_82 rfl) rfl rfl ?_
        exact k _
      · replace k := itp (Decidable.not_not.mp c) k
        refine w_iconst (p := 45) (v := nI 1) (pI pM_82 rfl) rfl rfl ?_
        refine w_goto (p := 49) (pI pM_82 rfl) rfl rfl ?_
        refine w_istore (p := 51) (pI pM_82 rfl) rfl rfl rfl ?_
        refine w_iload (p := 53) (pI pM_82 rfl) rfl rfl ?_
        refine w_if_eq (p := 56) (q := 86) (pI pM_82 rfl) rfl rfl rfl (fun c => absurd c (by decide)) (fun _ => ?_)
        refine w_iload_n (p := 57) (pI pM_82 rfl) rfl rfl ?_
        refine w_aload_n (p := 58) (pI pM_82 rfl) rfl rfl ?_
        refine v_getR (p := 61) (kf := 6) (pI pM_82 rfl) rfl rfl rfl (by decide) (by decide) rfl rfl ?_
        refine w_iload (p := 63) (pI pM_82 rfl) rfl rfl ?_
        obtain ⟨s11, k⟩ := k
        refine v_iald (p := 64) (pI pM_82 rfl) rfl (by decide) rfl s11 rfl ?_
        refine w_icmp_lt (p := 67) (q := 86) (pI pM_82 rfl) rfl rfl rfl (fun c => ?_) (fun c => ?_)
        · replace k := itp c k
          refine w_iinc (p := 89) (v := (a2 + nI 1)) (pI pM_82 rfl) rfl rfl rfl rfl ?_
          refine w_goto (p := 9) (pI pM_82 rfl) rfl rfl ?_
          exact k _
        · replace k := itn c k
          refine w_iload_n (p := 68) (pI pM_82 rfl) rfl rfl ?_
          refine w_aload_n (p := 69) (pI pM_82 rfl) rfl rfl ?_
          refine v_getR (p := 72) (kf := 7) (pI pM_82 rfl) rfl rfl rfl (by decide) (by decide) rfl rfl ?_
          refine w_iload (p := 74) (pI pM_82 rfl) rfl rfl ?_
          obtain ⟨s12, k⟩ := k
          refine v_iald (p := 75) (pI pM_82 rfl) rfl (by decide) rfl s12 rfl ?_
          refine w_icmp_ge (p := 78) (q := 86) (pI pM_82 rfl) rfl rfl rfl (fun c => ?_) (fun c => ?_)
          · replace k := itn (Int32.not_lt.mpr c) k
            refine w_iinc (p := 89) (v := (a2 + nI 1)) (pI pM_82 rfl) rfl rfl rfl rfl ?_
            refine w_goto (p := 9) (pI pM_82 rfl) rfl rfl ?_
            exact k _
          · replace k := itp (Int32.not_le.mp c) k
            refine w_aload_n (p := 79) (pI pM_82 rfl) rfl rfl ?_
            refine v_getR (p := 82) (kf := 8) (pI pM_82 rfl) rfl rfl rfl (by decide) (by decide) rfl rfl ?_
            refine w_iload (p := 84) (pI pM_82 rfl) rfl rfl ?_
            obtain ⟨s13, k⟩ := k
            refine v_iald (p := 85) (pI pM_82 rfl) rfl (by decide) rfl s13 rfl ?_
            exact w_ireturn (pI pM_82 rfl) rfl rfl rfl k
set_option maxRecDepth 100000 in
set_option maxHeartbeats 4000000 in
theorem d128_leave {d L : Nat} {w : Nat} {A I : HA} {Q : bm_Q} (h_w : isW w) (k : D128_leave w A I (fun v A I => Q (some (.int v)) (hp L A I))) : bm_M (d + 1) 128 [.ref w] (hp L A I) Q := by
  unfold D128_leave at k
  refine bw_enter rfl rfl rfl rfl ?_
  refine w_aload_n (p := 1) (pI pM_128 rfl) rfl rfl ?_
  refine v_getI (p := 4) (kf := 4) (pI pM_128 rfl) rfl rfl rfl (isW.ge h_w 0) (isW.lt h_w 0 (by decide)) (isW.sk h_w 0 (by decide)) rfl rfl ?_
  refine w_if_ne (p := 7) (q := 9) (pI pM_128 rfl) rfl rfl rfl (fun c => ?_) (fun c => ?_)
  · replace k := itn c k
    refine w_aload_n (p := 10) (pI pM_128 rfl) rfl rfl ?_
    refine w_dup (p := 11) (pI pM_128 rfl) rfl rfl ?_
    refine v_getI (p := 14) (kf := 4) (pI pM_128 rfl) rfl rfl rfl (isW.ge h_w 0) (isW.lt h_w 0 (by decide)) (isW.sk h_w 0 (by decide)) rfl rfl ?_
    refine w_iconst (p := 15) (v := nI 1) (pI pM_128 rfl) rfl rfl ?_
    refine w_isub (p := 16) (pI pM_128 rfl) rfl ?_
    refine s_putI (p := 19) (kf := 4) (pI pM_128 rfl) rfl rfl rfl (isW.ge h_w 0) (isW.lt h_w 0 (by decide)) (isW.sk h_w 0 (by decide)) rfl rfl rfl rfl rfl ?_
    refine w_iconst (p := 20) (v := nI 1) (pI pM_128 rfl) rfl rfl ?_
    exact w_ireturn (pI pM_128 rfl) rfl rfl rfl k
  · replace k := itp (Decidable.not_not.mp c) k
    refine w_iconst (p := 8) (v := nI 0) (pI pM_128 rfl) rfl rfl ?_
    exact w_ireturn (pI pM_128 rfl) rfl rfl rfl k
set_option maxRecDepth 100000 in
set_option maxHeartbeats 4000000 in
theorem d51_raise {d L : Nat} {w : Nat} {x : Int32} {A I : HA} {Q : bm_Q} (h_w : isW w) (k : D51_raise w x A I (fun A I => Q none (hp L A I))) : bm_M (d + 2) 51 [.ref 21, .ref w, .int x] (hp L A I) Q := by
  unfold D51_raise at k
  refine bw_enter rfl rfl rfl rfl ?_
  refine w_aload_n (p := 1) (pI pM_51 rfl) rfl rfl ?_
  refine v_virtual (p := 4) (mj := 123) (pI pM_51 rfl) rfl rfl rfl rfl rfl rfl rfl rfl rfl rfl (isW.ge h_w 0) (isW.lt h_w 0 (by decide)) (isW.sk h_w 0 (by decide)) ?_
  refine d123_placeNow h_w (D123_placeNow_mono k (fun v1 k => ?_))
  refine w_istore_n (p := 5) (pI pM_51 rfl) rfl rfl rfl ?_
  refine w_iconst (p := 6) (v := nI 0) (pI pM_51 rfl) rfl rfl ?_
  refine w_istore (p := 8) (pI pM_51 rfl) rfl rfl rfl ?_
  refine k (fun a3 A5 I6 => ∀ u4 : Value, bm_W (bm_M (d + 1)) 51 Q 8 [.ref 21, .ref w, .int x, .int v1, .int a3, u4] [] (hp L A5 I6)) (fun a3 A5 I6 k => ?_) _
  intro u4
  refine w_iload (p := 10) (pI pM_51 rfl) rfl rfl ?_
  refine w_iconst (p := 11) (v := nI 4) (pI pM_51 rfl) rfl rfl ?_
  refine w_icmp_ge (p := 14) (q := 84) (pI pM_51 rfl) rfl rfl rfl (fun c => ?_) (fun c => ?_)
  · replace k := itn (Int32.not_lt.mpr c) k
    exact w_return (pI pM_51 rfl) rfl k
  · replace k := itp (Int32.not_le.mp c) k
    refine w_aload_n (p := 15) (pI pM_51 rfl) rfl rfl ?_
    refine v_getR (p := 18) (kf := 0) (pI pM_51 rfl) rfl rfl rfl (by decide) (by decide) rfl rfl ?_
    refine w_aload_n (p := 19) (pI pM_51 rfl) rfl rfl ?_
    refine v_virtual (p := 22) (mj := 127) (pI pM_51 rfl) rfl rfl rfl rfl rfl rfl rfl rfl rfl rfl (isW.ge h_w 0) (isW.lt h_w 0 (by decide)) (isW.sk h_w 0 (by decide)) ?_
    refine d127_methodNow h_w (D127_methodNow_mono k (fun v8 k => ?_))
    refine w_aload_n (p := 23) (pI pM_51 rfl) rfl rfl ?_
    refine v_virtual (p := 26) (mj := 119) (pI pM_51 rfl) rfl rfl rfl rfl rfl rfl rfl rfl rfl rfl (isW.ge h_w 0) (isW.lt h_w 0 (by decide)) (isW.sk h_w 0 (by decide)) ?_
    refine d119_operationNow h_w (D119_operationNow_mono k (fun v9 k => ?_))
    refine w_iload_n (p := 27) (pI pM_51 rfl) rfl rfl ?_
    refine v_virtual (p := 30) (mj := 82) (pI pM_51 rfl) rfl rfl rfl rfl rfl rfl rfl rfl rfl rfl (by decide) (by decide) rfl ?_
    refine d82_handlerTarget (D82_handlerTarget_mono k (fun v10 k => ?_))
    refine w_istore (p := 32) (pI pM_51 rfl) rfl rfl rfl ?_
    refine w_iload (p := 34) (pI pM_51 rfl) rfl rfl ?_
    refine w_iconst (p := 35) (v := -1) (pI pM_51 rfl) rfl rfl ?_
    refine w_icmp_eq (p := 38) (q := 59) (pI pM_51 rfl) rfl rfl rfl (fun c => ?_) (fun c => ?_)
    · replace k := itp c k
      refine w_aload_n (p := 60) (pI pM_51 rfl) rfl rfl ?_
      refine v_virtual (p := 63) (mj := 128) (pI pM_51 rfl) rfl rfl rfl rfl rfl rfl rfl rfl rfl rfl (isW.ge h_w 0) (isW.lt h_w 0 (by decide)) (isW.sk h_w 0 (by decide)) ?_
      refine d128_leave h_w (D128_leave_mono k (fun v11 A12 I13 k => ?_))
      refine w_if_ne (p := 66) (q := 78) (pI pM_51 rfl) rfl rfl rfl (fun c => ?_) (fun c => ?_)
      · replace k := itn c k
        refine w_iinc (p := 81) (v := (a3 + nI 1)) (pI pM_51 rfl) rfl rfl rfl rfl ?_
        refine w_goto (p := 8) (pI pM_51 rfl) rfl rfl ?_
        exact k _
      · replace k := itp (Decidable.not_not.mp c) k
        refine w_aload_n (p := 67) (pI pM_51 rfl) rfl rfl ?_
        refine w_iload_n (p := 68) (pI pM_51 rfl) rfl rfl ?_
        refine s_putI (p := 71) (kf := 14) (pI pM_51 rfl) rfl rfl rfl (isW.ge h_w 0) (isW.lt h_w 0 (by decide)) (isW.sk h_w 0 (by decide)) rfl rfl rfl rfl rfl ?_
        refine w_aload_n (p := 72) (pI pM_51 rfl) rfl rfl ?_
        refine w_iconst (p := 73) (v := nI 3) (pI pM_51 rfl) rfl rfl ?_
        refine w_iload_n (p := 74) (pI pM_51 rfl) rfl rfl ?_
        refine v_virtual (p := 77) (mj := 124) (pI pM_51 rfl) rfl rfl rfl rfl rfl rfl rfl rfl rfl rfl (isW.ge h_w 0) (isW.lt h_w 0 (by decide)) (isW.sk h_w 0 (by decide)) ?_
        refine d124_end h_w (D124_end_mono k (fun A14 I15 k => ?_))
        exact w_return (pI pM_51 rfl) rfl k
    · replace k := itn c k
      refine w_aload_n (p := 39) (pI pM_51 rfl) rfl rfl ?_
      refine w_bipush (p := 41) (v := nI 12) (pI pM_51 rfl) rfl rfl ?_
      refine v_virtual (p := 44) (mj := 120) (pI pM_51 rfl) rfl rfl rfl rfl rfl rfl rfl rfl rfl rfl (isW.ge h_w 0) (isW.lt h_w 0 (by decide)) (isW.sk h_w 0 (by decide)) ?_
      refine d120_drop h_w (D120_drop_mono k (fun A16 I17 k => ?_))
      refine w_aload_n (p := 45) (pI pM_51 rfl) rfl rfl ?_
      refine w_iload_n (p := 46) (pI pM_51 rfl) rfl rfl ?_
      refine w_static (p := 49) (mj := 27) (pI pM_51 rfl) rfl rfl rfl rfl rfl rfl rfl rfl rfl ?_
      refine d27_number (D27_number_mono k (fun v18 k => ?_))
      refine v_virtual (p := 52) (mj := 126) (pI pM_51 rfl) rfl rfl rfl rfl rfl rfl rfl rfl rfl rfl (isW.ge h_w 0) (isW.lt h_w 0 (by decide)) (isW.sk h_w 0 (by decide)) ?_
      refine d126_push h_w (D126_push_mono k (fun A19 I20 k => ?_))
      refine w_aload_n (p := 53) (pI pM_51 rfl) rfl rfl ?_
      refine w_iload (p := 55) (pI pM_51 rfl) rfl rfl ?_
      refine v_virtual (p := 58) (mj := 121) (pI pM_51 rfl) rfl rfl rfl rfl rfl rfl rfl rfl rfl rfl (isW.ge h_w 0) (isW.lt h_w 0 (by decide)) (isW.sk h_w 0 (by decide)) ?_
      refine d121_jump h_w (D121_jump_mono k (fun A21 I22 k => ?_))
      exact w_return (pI pM_51 rfl) rfl k
set_option maxRecDepth 100000 in
set_option maxHeartbeats 4000000 in
theorem d129_hasAllArrays {d L : Nat} {w : Nat} {A I : HA} {Q : bm_Q} (h_w : isW w) (k : D129_hasAllArrays w A I (fun v => Q (some (.int v)) (hp L A I))) : bm_M (d + 1) 129 [.ref w] (hp L A I) Q := by
  unfold D129_hasAllArrays at k
  refine bw_enter rfl rfl rfl rfl ?_
  refine w_aload_n (p := 1) (pI pM_129 rfl) rfl rfl ?_
  refine v_getI (p := 4) (kf := 7) (pI pM_129 rfl) rfl rfl rfl (isW.ge h_w 0) (isW.lt h_w 0 (by decide)) (isW.sk h_w 0 (by decide)) rfl rfl ?_
  refine w_iconst (p := 5) (v := nI 4) (pI pM_129 rfl) rfl rfl ?_
  refine w_icmp_lt (p := 8) (q := 12) (pI pM_129 rfl) rfl rfl rfl (fun c => ?_) (fun c => ?_)
  · replace k := itp c k
    refine w_iconst (p := 13) (v := nI 0) (pI pM_129 rfl) rfl rfl ?_
    exact w_ireturn (pI pM_129 rfl) rfl rfl rfl k
  · replace k := itn c k
    refine w_iconst (p := 9) (v := nI 1) (pI pM_129 rfl) rfl rfl ?_
    refine w_goto (p := 13) (pI pM_129 rfl) rfl rfl ?_
    exact w_ireturn (pI pM_129 rfl) rfl rfl rfl k
set_option maxRecDepth 100000 in
set_option maxHeartbeats 4000000 in
theorem d130_addArray {d L : Nat} {w : Nat} {x : Int32} {A I : HA} {Q : bm_Q} (h_w : isW w) (k : D130_addArray w x A I (fun v A I => Q (some (.int v)) (hp L A I))) : bm_M (d + 2) 130 [.ref w, .int x] (hp L A I) Q := by
  unfold D130_addArray at k
  refine bw_enter rfl rfl rfl rfl ?_
  refine w_aload_n (p := 1) (pI pM_130 rfl) rfl rfl ?_
  refine v_getR (p := 4) (kf := 5) (pI pM_130 rfl) rfl rfl rfl (isW.ge h_w 0) (isW.lt h_w 0 (by decide)) (isW.sk h_w 0 (by decide)) rfl ?_
  refine w_aload_n (p := 5) (pI pM_130 rfl) rfl rfl ?_
  refine v_getI (p := 8) (kf := 7) (pI pM_130 rfl) rfl rfl rfl (isW.ge h_w 0) (isW.lt h_w 0 (by decide)) (isW.sk h_w 0 (by decide)) rfl rfl ?_
  refine w_iload_n (p := 9) (pI pM_130 rfl) rfl rfl ?_
  obtain ⟨s1, k⟩ := k
  refine s_iast (p := 10) (pI pM_130 rfl) rfl (isW.ge h_w 5) (isW.lt h_w 5 (by decide)) (isW.sk h_w 5 (by decide)) s1 ?_
  refine w_aload_n (p := 11) (pI pM_130 rfl) rfl rfl ?_
  refine v_getI (p := 14) (kf := 7) (pI pM_130 rfl) rfl rfl rfl (isW.ge h_w 0) (isW.lt h_w 0 (by decide)) (isW.sk h_w 0 (by decide)) rfl rfl ?_
  refine w_iconst (p := 15) (v := nI 5) (pI pM_130 rfl) rfl rfl ?_
  refine w_imul (p := 16) (pI pM_130 rfl) rfl ?_
  refine w_istore_n (p := 17) (pI pM_130 rfl) rfl rfl rfl ?_
  refine w_iconst (p := 18) (v := nI 0) (pI pM_130 rfl) rfl rfl ?_
  refine w_istore_n (p := 19) (pI pM_130 rfl) rfl rfl rfl ?_
  refine k (fun a3 A4 I5 => bm_W (bm_M (d + 1)) 130 Q 19 [.ref w, .int x, .int ((I w 7) * (nI 5)), .int a3] [] (hp L A4 I5)) (fun a3 A4 I5 k => ?_)
  refine w_iload_n (p := 20) (pI pM_130 rfl) rfl rfl ?_
  refine w_iload_n (p := 21) (pI pM_130 rfl) rfl rfl ?_
  refine w_icmp_ge (p := 24) (q := 42) (pI pM_130 rfl) rfl rfl rfl (fun c => ?_) (fun c => ?_)
  · replace k := itn (Int32.not_lt.mpr c) k
    refine w_aload_n (p := 43) (pI pM_130 rfl) rfl rfl ?_
    refine w_dup (p := 44) (pI pM_130 rfl) rfl rfl ?_
    refine v_getI (p := 47) (kf := 7) (pI pM_130 rfl) rfl rfl rfl (isW.ge h_w 0) (isW.lt h_w 0 (by decide)) (isW.sk h_w 0 (by decide)) rfl rfl ?_
    refine w_iconst (p := 48) (v := nI 1) (pI pM_130 rfl) rfl rfl ?_
    refine w_iadd (p := 49) (pI pM_130 rfl) rfl ?_
    refine s_putI (p := 52) (kf := 7) (pI pM_130 rfl) rfl rfl rfl (isW.ge h_w 0) (isW.lt h_w 0 (by decide)) (isW.sk h_w 0 (by decide)) rfl rfl rfl rfl rfl ?_
    refine w_bipush (p := 54) (v := -2) (pI pM_130 rfl) rfl rfl ?_
    refine w_aload_n (p := 55) (pI pM_130 rfl) rfl rfl ?_
    refine v_getI (p := 58) (kf := 7) (pI pM_130 rfl) rfl rfl rfl (isW.ge h_w 0) (isW.lt h_w 0 (by decide)) (isW.sk h_w 0 (by decide)) rfl rfl ?_
    refine w_iconst (p := 59) (v := nI 1) (pI pM_130 rfl) rfl rfl ?_
    refine w_isub (p := 60) (pI pM_130 rfl) rfl ?_
    refine w_isub (p := 61) (pI pM_130 rfl) rfl ?_
    exact w_ireturn (pI pM_130 rfl) rfl rfl rfl k
  · replace k := itp (Int32.not_le.mp c) k
    refine w_aload_n (p := 25) (pI pM_130 rfl) rfl rfl ?_
    refine v_getR (p := 28) (kf := 6) (pI pM_130 rfl) rfl rfl rfl (isW.ge h_w 0) (isW.lt h_w 0 (by decide)) (isW.sk h_w 0 (by decide)) rfl ?_
    refine w_iload_n (p := 29) (pI pM_130 rfl) rfl rfl ?_
    refine w_iload_n (p := 30) (pI pM_130 rfl) rfl rfl ?_
    refine w_iadd (p := 31) (pI pM_130 rfl) rfl ?_
    refine w_iconst (p := 32) (v := nI 0) (pI pM_130 rfl) rfl rfl ?_
    refine w_static (p := 35) (mj := 27) (pI pM_130 rfl) rfl rfl rfl rfl rfl rfl rfl rfl rfl ?_
    refine d27_number (D27_number_mono k (fun v7 k => ?_))
    obtain ⟨s8, k⟩ := k
    refine s_iast (p := 36) (pI pM_130 rfl) rfl (isW.ge h_w 6) (isW.lt h_w 6 (by decide)) (isW.sk h_w 6 (by decide)) s8 ?_
    refine w_iinc (p := 39) (v := (a3 + nI 1)) (pI pM_130 rfl) rfl rfl rfl rfl ?_
    refine w_goto (p := 19) (pI pM_130 rfl) rfl rfl ?_
    exact k
set_option maxRecDepth 100000 in
set_option maxHeartbeats 4000000 in
theorem d52_makeArray {d L : Nat} {w : Nat} {x : Int32} {A I : HA} {Q : bm_Q} (h_w : isW w) (k : D52_makeArray w x A I (fun A I => Q none (hp L A I))) : bm_M (d + 3) 52 [.ref 21, .ref w, .int x] (hp L A I) Q := by
  unfold D52_makeArray at k
  refine bw_enter rfl rfl rfl rfl ?_
  refine w_iload_n (p := 1) (pI pM_52 rfl) rfl rfl ?_
  refine w_bipush (p := 3) (v := nI 6) (pI pM_52 rfl) rfl rfl ?_
  refine w_icmp_ne (p := 6) (q := 15) (pI pM_52 rfl) rfl rfl rfl (fun c => ?_) (fun c => ?_)
  · replace k := itn c k
    refine w_iload_n (p := 16) (pI pM_52 rfl) rfl rfl ?_
    refine w_iconst (p := 17) (v := nI 5) (pI pM_52 rfl) rfl rfl ?_
    refine w_icmp_gt (p := 20) (q := 27) (pI pM_52 rfl) rfl rfl rfl (fun c => ?_) (fun c => ?_)
    · replace k := itp c k
      refine w_aload_n (p := 28) (pI pM_52 rfl) rfl rfl ?_
      refine w_aload_n (p := 29) (pI pM_52 rfl) rfl rfl ?_
      refine w_iconst (p := 30) (v := nI 4) (pI pM_52 rfl) rfl rfl ?_
      refine v_virtual (p := 33) (mj := 51) (pI pM_52 rfl) rfl rfl rfl rfl rfl rfl rfl rfl rfl rfl (by decide) (by decide) rfl ?_
      refine d51_raise h_w (D51_raise_mono k (fun A1 I2 k => ?_))
      refine w_goto (p := 46) (pI pM_52 rfl) rfl rfl ?_
      exact w_return (pI pM_52 rfl) rfl k
    · replace k := itn c k
      refine w_aload_n (p := 21) (pI pM_52 rfl) rfl rfl ?_
      refine v_virtual (p := 24) (mj := 129) (pI pM_52 rfl) rfl rfl rfl rfl rfl rfl rfl rfl rfl rfl (isW.ge h_w 0) (isW.lt h_w 0 (by decide)) (isW.sk h_w 0 (by decide)) ?_
      refine d129_hasAllArrays h_w (D129_hasAllArrays_mono k (fun v3 k => ?_))
      refine w_if_eq (p := 27) (q := 36) (pI pM_52 rfl) rfl rfl rfl (fun c => ?_) (fun c => ?_)
      · replace k := itp c k
        refine w_aload_n (p := 37) (pI pM_52 rfl) rfl rfl ?_
        refine w_iconst (p := 38) (v := nI 1) (pI pM_52 rfl) rfl rfl ?_
        refine w_aload_n (p := 39) (pI pM_52 rfl) rfl rfl ?_
        refine w_iload_n (p := 40) (pI pM_52 rfl) rfl rfl ?_
        refine v_virtual (p := 43) (mj := 130) (pI pM_52 rfl) rfl rfl rfl rfl rfl rfl rfl rfl rfl rfl (isW.ge h_w 0) (isW.lt h_w 0 (by decide)) (isW.sk h_w 0 (by decide)) ?_
        refine d130_addArray h_w (D130_addArray_mono k (fun v4 A5 I6 k => ?_))
        refine v_virtual (p := 46) (mj := 125) (pI pM_52 rfl) rfl rfl rfl rfl rfl rfl rfl rfl rfl rfl (isW.ge h_w 0) (isW.lt h_w 0 (by decide)) (isW.sk h_w 0 (by decide)) ?_
        refine d125_finish h_w (D125_finish_mono k (fun A7 I8 k => ?_))
        exact w_return (pI pM_52 rfl) rfl k
      · replace k := itn c k
        refine w_aload_n (p := 28) (pI pM_52 rfl) rfl rfl ?_
        refine w_aload_n (p := 29) (pI pM_52 rfl) rfl rfl ?_
        refine w_iconst (p := 30) (v := nI 4) (pI pM_52 rfl) rfl rfl ?_
        refine v_virtual (p := 33) (mj := 51) (pI pM_52 rfl) rfl rfl rfl rfl rfl rfl rfl rfl rfl rfl (by decide) (by decide) rfl ?_
        refine d51_raise h_w (D51_raise_mono k (fun A9 I10 k => ?_))
        refine w_goto (p := 46) (pI pM_52 rfl) rfl rfl ?_
        exact w_return (pI pM_52 rfl) rfl k
  · replace k := itp (Decidable.not_not.mp c) k
    refine w_aload_n (p := 7) (pI pM_52 rfl) rfl rfl ?_
    refine w_aload_n (p := 8) (pI pM_52 rfl) rfl rfl ?_
    refine w_iconst (p := 9) (v := nI 3) (pI pM_52 rfl) rfl rfl ?_
    refine v_virtual (p := 12) (mj := 51) (pI pM_52 rfl) rfl rfl rfl rfl rfl rfl rfl rfl rfl rfl (by decide) (by decide) rfl ?_
    refine d51_raise h_w (D51_raise_mono k (fun A11 I12 k => ?_))
    refine w_goto (p := 46) (pI pM_52 rfl) rfl rfl ?_
    exact w_return (pI pM_52 rfl) rfl k
set_option maxRecDepth 100000 in
set_option maxHeartbeats 4000000 in
theorem d55_needsArray {d L : Nat} {x : Int32} {A I : HA} {Q : bm_Q} (k : D55_needsArray x (fun v => Q (some (.int v)) (hp L A I))) : bm_M (d + 1) 55 [.int x] (hp L A I) Q := by
  unfold D55_needsArray at k
  refine bw_enter rfl rfl rfl rfl ?_
  refine w_iload_n (p := 1) (pI pM_55 rfl) rfl rfl ?_
  refine w_bipush (p := 3) (v := nI 22) (pI pM_55 rfl) rfl rfl ?_
  refine w_icmp_eq (p := 6) (q := 18) (pI pM_55 rfl) rfl rfl rfl (fun c => ?_) (fun c => ?_)
  · replace k := itp c k
    refine w_iconst (p := 19) (v := nI 1) (pI pM_55 rfl) rfl rfl ?_
    refine w_goto (p := 23) (pI pM_55 rfl) rfl rfl ?_
    exact w_ireturn (pI pM_55 rfl) rfl rfl rfl k
  · replace k := itn c k
    refine w_iload_n (p := 7) (pI pM_55 rfl) rfl rfl ?_
    refine w_bipush (p := 9) (v := nI 23) (pI pM_55 rfl) rfl rfl ?_
    refine w_icmp_eq (p := 12) (q := 18) (pI pM_55 rfl) rfl rfl rfl (fun c => ?_) (fun c => ?_)
    · replace k := itp c k
      refine w_iconst (p := 19) (v := nI 1) (pI pM_55 rfl) rfl rfl ?_
      refine w_goto (p := 23) (pI pM_55 rfl) rfl rfl ?_
      exact w_ireturn (pI pM_55 rfl) rfl rfl rfl k
    · replace k := itn c k
      refine w_iload_n (p := 13) (pI pM_55 rfl) rfl rfl ?_
      refine w_bipush (p := 15) (v := nI 24) (pI pM_55 rfl) rfl rfl ?_
      refine w_icmp_ne (p := 18) (q := 22) (pI pM_55 rfl) rfl rfl rfl (fun c => ?_) (fun c => ?_)
      · replace k := itn c k
        refine w_iconst (p := 23) (v := nI 0) (pI pM_55 rfl) rfl rfl ?_
        exact w_ireturn (pI pM_55 rfl) rfl rfl rfl k
      · replace k := itp (Decidable.not_not.mp c) k
        refine w_iconst (p := 19) (v := nI 1) (pI pM_55 rfl) rfl rfl ?_
        refine w_goto (p := 23) (pI pM_55 rfl) rfl rfl ?_
        exact w_ireturn (pI pM_55 rfl) rfl rfl rfl k
set_option maxRecDepth 100000 in
set_option maxHeartbeats 4000000 in
theorem d54_arrayOf {d L : Nat} {w : Nat} {x : Int32} {A I : HA} {Q : bm_Q} (h_w : isW w) (k : D54_arrayOf w x A I (fun v => Q (some (.int v)) (hp L A I))) : bm_M (d + 2) 54 [.ref w, .int x] (hp L A I) Q := by
  unfold D54_arrayOf at k
  refine bw_enter rfl rfl rfl rfl ?_
  refine w_iload_n (p := 1) (pI pM_54 rfl) rfl rfl ?_
  refine w_static (p := 4) (mj := 55) (pI pM_54 rfl) rfl rfl rfl rfl rfl rfl rfl rfl rfl ?_
  refine d55_needsArray (D55_needsArray_mono k (fun v1 k => ?_))
  refine w_if_eq (p := 7) (q := 21) (pI pM_54 rfl) rfl rfl rfl (fun c => ?_) (fun c => ?_)
  · replace k := itp c k
    refine w_iconst (p := 22) (v := -1) (pI pM_54 rfl) rfl rfl ?_
    exact w_ireturn (pI pM_54 rfl) rfl rfl rfl k
  · replace k := itn c k
    refine w_aload_n (p := 8) (pI pM_54 rfl) rfl rfl ?_
    refine w_getstatic (p := 11) (x := 1) (pI pM_54 rfl) rfl rfl rfl ?_
    refine w_iload_n (p := 12) (pI pM_54 rfl) rfl rfl ?_
    obtain ⟨s2, k⟩ := k
    refine v_iald (p := 13) (pI pM_54 rfl) rfl (by decide) rfl s2 rfl ?_
    refine w_iconst (p := 14) (v := nI 1) (pI pM_54 rfl) rfl rfl ?_
    refine w_isub (p := 15) (pI pM_54 rfl) rfl ?_
    refine v_virtual (p := 18) (mj := 122) (pI pM_54 rfl) rfl rfl rfl rfl rfl rfl rfl rfl rfl rfl (isW.ge h_w 0) (isW.lt h_w 0 (by decide)) (isW.sk h_w 0 (by decide)) ?_
    refine d122_peek h_w (D122_peek_mono k (fun v3 k => ?_))
    refine w_goto (p := 22) (pI pM_54 rfl) rfl rfl ?_
    exact w_ireturn (pI pM_54 rfl) rfl rfl rfl k
set_option maxRecDepth 100000 in
set_option maxHeartbeats 4000000 in
theorem d131_lengthOf {d L : Nat} {w : Nat} {x : Int32} {A I : HA} {Q : bm_Q} (h_w : isW w) (k : D131_lengthOf w x A I (fun v => Q (some (.int v)) (hp L A I))) : bm_M (d + 1) 131 [.ref w, .int x] (hp L A I) Q := by
  unfold D131_lengthOf at k
  refine bw_enter rfl rfl rfl rfl ?_
  refine w_iload_n (p := 1) (pI pM_131 rfl) rfl rfl ?_
  refine w_bipush (p := 3) (v := -2) (pI pM_131 rfl) rfl rfl ?_
  refine w_icmp_gt (p := 6) (q := 24) (pI pM_131 rfl) rfl rfl rfl (fun c => ?_) (fun c => ?_)
  · replace k := itp c k
    refine w_iconst (p := 25) (v := nI 0) (pI pM_131 rfl) rfl rfl ?_
    exact w_ireturn (pI pM_131 rfl) rfl rfl rfl k
  · replace k := itn c k
    refine w_iload_n (p := 7) (pI pM_131 rfl) rfl rfl ?_
    refine w_bipush (p := 9) (v := -100) (pI pM_131 rfl) rfl rfl ?_
    refine w_icmp_le (p := 12) (q := 24) (pI pM_131 rfl) rfl rfl rfl (fun c => ?_) (fun c => ?_)
    · replace k := itn (Int32.not_lt.mpr c) k
      refine w_iconst (p := 25) (v := nI 0) (pI pM_131 rfl) rfl rfl ?_
      exact w_ireturn (pI pM_131 rfl) rfl rfl rfl k
    · replace k := itp (Int32.not_le.mp c) k
      refine w_aload_n (p := 13) (pI pM_131 rfl) rfl rfl ?_
      refine v_getR (p := 16) (kf := 5) (pI pM_131 rfl) rfl rfl rfl (isW.ge h_w 0) (isW.lt h_w 0 (by decide)) (isW.sk h_w 0 (by decide)) rfl ?_
      refine w_bipush (p := 18) (v := -2) (pI pM_131 rfl) rfl rfl ?_
      refine w_iload_n (p := 19) (pI pM_131 rfl) rfl rfl ?_
      refine w_isub (p := 20) (pI pM_131 rfl) rfl ?_
      obtain ⟨s1, k⟩ := k
      refine v_iald (p := 21) (pI pM_131 rfl) rfl (isW.lt h_w 5 (by decide)) (isW.sk h_w 5 (by decide)) s1 rfl ?_
      refine w_goto (p := 25) (pI pM_131 rfl) rfl rfl ?_
      exact w_ireturn (pI pM_131 rfl) rfl rfl rfl k
set_option maxRecDepth 100000 in
set_option maxHeartbeats 4000000 in
theorem d53_lengthAt {d L : Nat} {w : Nat} {x : Int32} {A I : HA} {Q : bm_Q} (h_w : isW w) (k : D53_lengthAt w x A I (fun v => Q (some (.int v)) (hp L A I))) : bm_M (d + 3) 53 [.ref w, .int x] (hp L A I) Q := by
  unfold D53_lengthAt at k
  refine bw_enter rfl rfl rfl rfl ?_
  refine w_aload_n (p := 1) (pI pM_53 rfl) rfl rfl ?_
  refine w_aload_n (p := 2) (pI pM_53 rfl) rfl rfl ?_
  refine w_iload_n (p := 3) (pI pM_53 rfl) rfl rfl ?_
  refine w_static (p := 6) (mj := 54) (pI pM_53 rfl) rfl rfl rfl rfl rfl rfl rfl rfl rfl ?_
  refine d54_arrayOf h_w (D54_arrayOf_mono k (fun v1 k => ?_))
  refine v_virtual (p := 9) (mj := 131) (pI pM_53 rfl) rfl rfl rfl rfl rfl rfl rfl rfl rfl rfl (isW.ge h_w 0) (isW.lt h_w 0 (by decide)) (isW.sk h_w 0 (by decide)) ?_
  refine d131_lengthOf h_w (D131_lengthOf_mono k (fun v2 k => ?_))
  exact w_ireturn (pI pM_53 rfl) rfl rfl rfl k
set_option maxRecDepth 100000 in
set_option maxHeartbeats 4000000 in
theorem d132_elementOf {d L : Nat} {w : Nat} {x : Int32} {y : Int32} {A I : HA} {Q : bm_Q} (h_w : isW w) (k : D132_elementOf w x y A I (fun v => Q (some (.int v)) (hp L A I))) : bm_M (d + 1) 132 [.ref w, .int x, .int y] (hp L A I) Q := by
  unfold D132_elementOf at k
  refine bw_enter rfl rfl rfl rfl ?_
  refine w_aload_n (p := 1) (pI pM_132 rfl) rfl rfl ?_
  refine v_getR (p := 4) (kf := 6) (pI pM_132 rfl) rfl rfl rfl (isW.ge h_w 0) (isW.lt h_w 0 (by decide)) (isW.sk h_w 0 (by decide)) rfl ?_
  refine w_bipush (p := 6) (v := -2) (pI pM_132 rfl) rfl rfl ?_
  refine w_iload_n (p := 7) (pI pM_132 rfl) rfl rfl ?_
  refine w_isub (p := 8) (pI pM_132 rfl) rfl ?_
  refine w_iconst (p := 9) (v := nI 5) (pI pM_132 rfl) rfl rfl ?_
  refine w_imul (p := 10) (pI pM_132 rfl) rfl ?_
  refine w_iload_n (p := 11) (pI pM_132 rfl) rfl rfl ?_
  refine w_iadd (p := 12) (pI pM_132 rfl) rfl ?_
  obtain ⟨s1, k⟩ := k
  refine v_iald (p := 13) (pI pM_132 rfl) rfl (isW.lt h_w 6 (by decide)) (isW.sk h_w 6 (by decide)) s1 rfl ?_
  exact w_ireturn (pI pM_132 rfl) rfl rfl rfl k
set_option maxRecDepth 100000 in
set_option maxHeartbeats 4000000 in
theorem d133_keepElement {d L : Nat} {w : Nat} {x : Int32} {y : Int32} {z : Int32} {A I : HA} {Q : bm_Q} (h_w : isW w) (k : D133_keepElement w x y z A I (fun A I => Q none (hp L A I))) : bm_M (d + 1) 133 [.ref w, .int x, .int y, .int z] (hp L A I) Q := by
  unfold D133_keepElement at k
  refine bw_enter rfl rfl rfl rfl ?_
  refine w_aload_n (p := 1) (pI pM_133 rfl) rfl rfl ?_
  refine v_getR (p := 4) (kf := 6) (pI pM_133 rfl) rfl rfl rfl (isW.ge h_w 0) (isW.lt h_w 0 (by decide)) (isW.sk h_w 0 (by decide)) rfl ?_
  refine w_bipush (p := 6) (v := -2) (pI pM_133 rfl) rfl rfl ?_
  refine w_iload_n (p := 7) (pI pM_133 rfl) rfl rfl ?_
  refine w_isub (p := 8) (pI pM_133 rfl) rfl ?_
  refine w_iconst (p := 9) (v := nI 5) (pI pM_133 rfl) rfl rfl ?_
  refine w_imul (p := 10) (pI pM_133 rfl) rfl ?_
  refine w_iload_n (p := 11) (pI pM_133 rfl) rfl rfl ?_
  refine w_iadd (p := 12) (pI pM_133 rfl) rfl ?_
  refine w_iload_n (p := 13) (pI pM_133 rfl) rfl rfl ?_
  obtain ⟨s1, k⟩ := k
  refine s_iast (p := 14) (pI pM_133 rfl) rfl (isW.ge h_w 6) (isW.lt h_w 6 (by decide)) (isW.sk h_w 6 (by decide)) s1 ?_
  exact w_return (pI pM_133 rfl) rfl k
set_option maxRecDepth 100000 in
set_option maxHeartbeats 4000000 in
theorem d134_next {d L : Nat} {w : Nat} {A I : HA} {Q : bm_Q} (h_w : isW w) (k : D134_next w A I (fun A I => Q none (hp L A I))) : bm_M (d + 1) 134 [.ref w] (hp L A I) Q := by
  unfold D134_next at k
  refine bw_enter rfl rfl rfl rfl ?_
  refine w_aload_n (p := 1) (pI pM_134 rfl) rfl rfl ?_
  refine v_getR (p := 4) (kf := 1) (pI pM_134 rfl) rfl rfl rfl (isW.ge h_w 0) (isW.lt h_w 0 (by decide)) (isW.sk h_w 0 (by decide)) rfl ?_
  refine w_aload_n (p := 5) (pI pM_134 rfl) rfl rfl ?_
  refine v_getI (p := 8) (kf := 4) (pI pM_134 rfl) rfl rfl rfl (isW.ge h_w 0) (isW.lt h_w 0 (by decide)) (isW.sk h_w 0 (by decide)) rfl rfl ?_
  refine w_dup2 (p := 9) (pI pM_134 rfl) rfl rfl rfl ?_
  obtain ⟨s1, k⟩ := k
  refine v_iald (p := 10) (pI pM_134 rfl) rfl (isW.lt h_w 2 (by decide)) (isW.sk h_w 2 (by decide)) s1 rfl ?_
  refine w_iconst (p := 11) (v := nI 1) (pI pM_134 rfl) rfl rfl ?_
  refine w_iadd (p := 12) (pI pM_134 rfl) rfl ?_
  obtain ⟨s2, k⟩ := k
  refine s_iast (p := 13) (pI pM_134 rfl) rfl (isW.ge h_w 2) (isW.lt h_w 2 (by decide)) (isW.sk h_w 2 (by decide)) s2 ?_
  exact w_return (pI pM_134 rfl) rfl k
set_option maxRecDepth 100000 in
set_option maxHeartbeats 4000000 in
theorem d56_useElement {d L : Nat} {w : Nat} {x : Int32} {y : Int32} {A I : HA} {Q : bm_Q} (h_w : isW w) (k : D56_useElement w x y A I (fun A I => Q none (hp L A I))) : bm_M (d + 3) 56 [.ref w, .int x, .int y] (hp L A I) Q := by
  unfold D56_useElement at k
  refine bw_enter rfl rfl rfl rfl ?_
  refine w_aload_n (p := 1) (pI pM_56 rfl) rfl rfl ?_
  refine w_iload_n (p := 2) (pI pM_56 rfl) rfl rfl ?_
  refine w_static (p := 5) (mj := 54) (pI pM_56 rfl) rfl rfl rfl rfl rfl rfl rfl rfl rfl ?_
  refine d54_arrayOf h_w (D54_arrayOf_mono k (fun v1 k => ?_))
  refine w_istore_n (p := 6) (pI pM_56 rfl) rfl rfl rfl ?_
  refine w_iload_n (p := 7) (pI pM_56 rfl) rfl rfl ?_
  refine w_bipush (p := 9) (v := nI 22) (pI pM_56 rfl) rfl rfl ?_
  refine w_icmp_ne (p := 12) (q := 26) (pI pM_56 rfl) rfl rfl rfl (fun c => ?_) (fun c => ?_)
  · replace k := itn c k
    refine w_aload_n (p := 27) (pI pM_56 rfl) rfl rfl ?_
    refine w_iload_n (p := 28) (pI pM_56 rfl) rfl rfl ?_
    refine w_iload_n (p := 29) (pI pM_56 rfl) rfl rfl ?_
    refine w_aload_n (p := 30) (pI pM_56 rfl) rfl rfl ?_
    refine w_iconst (p := 31) (v := nI 0) (pI pM_56 rfl) rfl rfl ?_
    refine v_virtual (p := 34) (mj := 122) (pI pM_56 rfl) rfl rfl rfl rfl rfl rfl rfl rfl rfl rfl (isW.ge h_w 0) (isW.lt h_w 0 (by decide)) (isW.sk h_w 0 (by decide)) ?_
    refine d122_peek h_w (D122_peek_mono k (fun v2 k => ?_))
    refine v_virtual (p := 37) (mj := 133) (pI pM_56 rfl) rfl rfl rfl rfl rfl rfl rfl rfl rfl rfl (isW.ge h_w 0) (isW.lt h_w 0 (by decide)) (isW.sk h_w 0 (by decide)) ?_
    refine d133_keepElement h_w (D133_keepElement_mono k (fun A3 I4 k => ?_))
    refine w_aload_n (p := 38) (pI pM_56 rfl) rfl rfl ?_
    refine w_iconst (p := 39) (v := nI 3) (pI pM_56 rfl) rfl rfl ?_
    refine v_virtual (p := 42) (mj := 120) (pI pM_56 rfl) rfl rfl rfl rfl rfl rfl rfl rfl rfl rfl (isW.ge h_w 0) (isW.lt h_w 0 (by decide)) (isW.sk h_w 0 (by decide)) ?_
    refine d120_drop h_w (D120_drop_mono k (fun A5 I6 k => ?_))
    refine w_aload_n (p := 43) (pI pM_56 rfl) rfl rfl ?_
    refine v_virtual (p := 46) (mj := 134) (pI pM_56 rfl) rfl rfl rfl rfl rfl rfl rfl rfl rfl rfl (isW.ge h_w 0) (isW.lt h_w 0 (by decide)) (isW.sk h_w 0 (by decide)) ?_
    refine d134_next h_w (D134_next_mono k (fun A7 I8 k => ?_))
    exact w_return (pI pM_56 rfl) rfl k
  · replace k := itp (Decidable.not_not.mp c) k
    refine w_aload_n (p := 13) (pI pM_56 rfl) rfl rfl ?_
    refine w_iconst (p := 14) (v := nI 2) (pI pM_56 rfl) rfl rfl ?_
    refine w_aload_n (p := 15) (pI pM_56 rfl) rfl rfl ?_
    refine w_iload_n (p := 16) (pI pM_56 rfl) rfl rfl ?_
    refine w_iload_n (p := 17) (pI pM_56 rfl) rfl rfl ?_
    refine v_virtual (p := 20) (mj := 132) (pI pM_56 rfl) rfl rfl rfl rfl rfl rfl rfl rfl rfl rfl (isW.ge h_w 0) (isW.lt h_w 0 (by decide)) (isW.sk h_w 0 (by decide)) ?_
    refine d132_elementOf h_w (D132_elementOf_mono k (fun v9 k => ?_))
    refine v_virtual (p := 23) (mj := 125) (pI pM_56 rfl) rfl rfl rfl rfl rfl rfl rfl rfl rfl rfl (isW.ge h_w 0) (isW.lt h_w 0 (by decide)) (isW.sk h_w 0 (by decide)) ?_
    refine d125_finish h_w (D125_finish_mono k (fun A10 I11 k => ?_))
    refine w_goto (p := 46) (pI pM_56 rfl) rfl rfl ?_
    exact w_return (pI pM_56 rfl) rfl k
set_option maxRecDepth 100000 in
set_option maxHeartbeats 4000000 in
theorem d48_act {d L : Nat} {w : Nat} {x : Int32} {y : Int32} {A I : HA} {Q : bm_Q} (h_w : isW w) (k : D48_act w x y A I (fun A I => Q none (hp L A I))) : bm_M (d + 4) 48 [.ref 21, .ref w, .int x, .int y] (hp L A I) Q := by
  unfold D48_act at k
  refine bw_enter rfl rfl rfl rfl ?_
  refine w_iload_n (p := 1) (pI pM_48 rfl) rfl rfl ?_
  by_cases c1_9 : x = nI 9
  · replace k := itp c1_9 k
    refine w_table (p := 102) (off := 101) (pI pM_48 rfl) (sw_at c1_9 (by decide)) rfl rfl ?_
    refine w_iload_n (p := 103) (pI pM_48 rfl) rfl rfl ?_
    refine w_if_ne (p := 106) (q := 115) (pI pM_48 rfl) rfl rfl rfl (fun c => ?_) (fun c => ?_)
    · replace k := itn c k
      refine w_aload_n (p := 116) (pI pM_48 rfl) rfl rfl ?_
      refine w_aload_n (p := 117) (pI pM_48 rfl) rfl rfl ?_
      refine w_iconst (p := 118) (v := nI 1) (pI pM_48 rfl) rfl rfl ?_
      refine v_virtual (p := 121) (mj := 51) (pI pM_48 rfl) rfl rfl rfl rfl rfl rfl rfl rfl rfl rfl (by decide) (by decide) rfl ?_
      refine d51_raise h_w (D51_raise_mono k (fun A1 I2 k => ?_))
      refine w_goto (p := 157) (pI pM_48 rfl) rfl rfl ?_
      exact w_return (pI pM_48 rfl) rfl k
    · replace k := itp (Decidable.not_not.mp c) k
      refine w_aload_n (p := 107) (pI pM_48 rfl) rfl rfl ?_
      refine w_aload_n (p := 108) (pI pM_48 rfl) rfl rfl ?_
      refine w_iload_n (p := 109) (pI pM_48 rfl) rfl rfl ?_
      refine v_virtual (p := 112) (mj := 50) (pI pM_48 rfl) rfl rfl rfl rfl rfl rfl rfl rfl rfl rfl (by decide) (by decide) rfl ?_
      refine d50_compute h_w (D50_compute_mono k (fun A3 I4 k => ?_))
      refine w_goto (p := 157) (pI pM_48 rfl) rfl rfl ?_
      exact w_return (pI pM_48 rfl) rfl k
  · replace k := itn c1_9 k
    by_cases c1_10 : x = nI 10
    · replace k := itp c1_10 k
      refine w_table (p := 102) (off := 101) (pI pM_48 rfl) (sw_at c1_10 (by decide)) rfl rfl ?_
      refine w_iload_n (p := 103) (pI pM_48 rfl) rfl rfl ?_
      refine w_if_ne (p := 106) (q := 115) (pI pM_48 rfl) rfl rfl rfl (fun c => ?_) (fun c => ?_)
      · replace k := itn c k
        refine w_aload_n (p := 116) (pI pM_48 rfl) rfl rfl ?_
        refine w_aload_n (p := 117) (pI pM_48 rfl) rfl rfl ?_
        refine w_iconst (p := 118) (v := nI 1) (pI pM_48 rfl) rfl rfl ?_
        refine v_virtual (p := 121) (mj := 51) (pI pM_48 rfl) rfl rfl rfl rfl rfl rfl rfl rfl rfl rfl (by decide) (by decide) rfl ?_
        refine d51_raise h_w (D51_raise_mono k (fun A5 I6 k => ?_))
        refine w_goto (p := 157) (pI pM_48 rfl) rfl rfl ?_
        exact w_return (pI pM_48 rfl) rfl k
      · replace k := itp (Decidable.not_not.mp c) k
        refine w_aload_n (p := 107) (pI pM_48 rfl) rfl rfl ?_
        refine w_aload_n (p := 108) (pI pM_48 rfl) rfl rfl ?_
        refine w_iload_n (p := 109) (pI pM_48 rfl) rfl rfl ?_
        refine v_virtual (p := 112) (mj := 50) (pI pM_48 rfl) rfl rfl rfl rfl rfl rfl rfl rfl rfl rfl (by decide) (by decide) rfl ?_
        refine d50_compute h_w (D50_compute_mono k (fun A7 I8 k => ?_))
        refine w_goto (p := 157) (pI pM_48 rfl) rfl rfl ?_
        exact w_return (pI pM_48 rfl) rfl k
    · replace k := itn c1_10 k
      by_cases c1_18 : x = nI 18
      · replace k := itp c1_18 k
        refine w_table (p := 68) (off := 67) (pI pM_48 rfl) (sw_at c1_18 (by decide)) rfl rfl ?_
        refine w_iload_n (p := 69) (pI pM_48 rfl) rfl rfl ?_
        refine w_if_ne (p := 72) (q := 80) (pI pM_48 rfl) rfl rfl rfl (fun c => ?_) (fun c => ?_)
        · replace k := itn c k
          refine w_aload_n (p := 81) (pI pM_48 rfl) rfl rfl ?_
          refine v_virtual (p := 84) (mj := 119) (pI pM_48 rfl) rfl rfl rfl rfl rfl rfl rfl rfl rfl rfl (isW.ge h_w 0) (isW.lt h_w 0 (by decide)) (isW.sk h_w 0 (by decide)) ?_
          refine d119_operationNow h_w (D119_operationNow_mono k (fun v9 k => ?_))
          refine w_iconst (p := 85) (v := nI 1) (pI pM_48 rfl) rfl rfl ?_
          refine w_iadd (p := 86) (pI pM_48 rfl) rfl ?_
          refine w_istore (p := 88) (pI pM_48 rfl) rfl rfl rfl ?_
          refine w_aload_n (p := 89) (pI pM_48 rfl) rfl rfl ?_
          refine w_iconst (p := 90) (v := nI 2) (pI pM_48 rfl) rfl rfl ?_
          refine v_virtual (p := 93) (mj := 120) (pI pM_48 rfl) rfl rfl rfl rfl rfl rfl rfl rfl rfl rfl (isW.ge h_w 0) (isW.lt h_w 0 (by decide)) (isW.sk h_w 0 (by decide)) ?_
          refine d120_drop h_w (D120_drop_mono k (fun A10 I11 k => ?_))
          refine w_aload_n (p := 94) (pI pM_48 rfl) rfl rfl ?_
          refine w_iload (p := 96) (pI pM_48 rfl) rfl rfl ?_
          refine v_virtual (p := 99) (mj := 121) (pI pM_48 rfl) rfl rfl rfl rfl rfl rfl rfl rfl rfl rfl (isW.ge h_w 0) (isW.lt h_w 0 (by decide)) (isW.sk h_w 0 (by decide)) ?_
          refine d121_jump h_w (D121_jump_mono k (fun A12 I13 k => ?_))
          refine w_goto (p := 157) (pI pM_48 rfl) rfl rfl ?_
          exact w_return (pI pM_48 rfl) rfl k
        · replace k := itp (Decidable.not_not.mp c) k
          refine w_aload_n (p := 73) (pI pM_48 rfl) rfl rfl ?_
          refine w_aload_n (p := 74) (pI pM_48 rfl) rfl rfl ?_
          refine v_virtual (p := 77) (mj := 49) (pI pM_48 rfl) rfl rfl rfl rfl rfl rfl rfl rfl rfl rfl (by decide) (by decide) rfl ?_
          refine d49_numberOf h_w (D49_numberOf_mono k (fun v14 k => ?_))
          refine w_goto (p := 86) (pI pM_48 rfl) rfl rfl ?_
          refine w_istore (p := 88) (pI pM_48 rfl) rfl rfl rfl ?_
          refine w_aload_n (p := 89) (pI pM_48 rfl) rfl rfl ?_
          refine w_iconst (p := 90) (v := nI 2) (pI pM_48 rfl) rfl rfl ?_
          refine v_virtual (p := 93) (mj := 120) (pI pM_48 rfl) rfl rfl rfl rfl rfl rfl rfl rfl rfl rfl (isW.ge h_w 0) (isW.lt h_w 0 (by decide)) (isW.sk h_w 0 (by decide)) ?_
          refine d120_drop h_w (D120_drop_mono k (fun A15 I16 k => ?_))
          refine w_aload_n (p := 94) (pI pM_48 rfl) rfl rfl ?_
          refine w_iload (p := 96) (pI pM_48 rfl) rfl rfl ?_
          refine v_virtual (p := 99) (mj := 121) (pI pM_48 rfl) rfl rfl rfl rfl rfl rfl rfl rfl rfl rfl (isW.ge h_w 0) (isW.lt h_w 0 (by decide)) (isW.sk h_w 0 (by decide)) ?_
          refine d121_jump h_w (D121_jump_mono k (fun A17 I18 k => ?_))
          refine w_goto (p := 157) (pI pM_48 rfl) rfl rfl ?_
          exact w_return (pI pM_48 rfl) rfl k
      · replace k := itn c1_18 k
        by_cases c1_19 : x = nI 19
        · replace k := itp c1_19 k
          refine w_table (p := 68) (off := 67) (pI pM_48 rfl) (sw_at c1_19 (by decide)) rfl rfl ?_
          refine w_iload_n (p := 69) (pI pM_48 rfl) rfl rfl ?_
          refine w_if_ne (p := 72) (q := 80) (pI pM_48 rfl) rfl rfl rfl (fun c => ?_) (fun c => ?_)
          · replace k := itn c k
            refine w_aload_n (p := 81) (pI pM_48 rfl) rfl rfl ?_
            refine v_virtual (p := 84) (mj := 119) (pI pM_48 rfl) rfl rfl rfl rfl rfl rfl rfl rfl rfl rfl (isW.ge h_w 0) (isW.lt h_w 0 (by decide)) (isW.sk h_w 0 (by decide)) ?_
            refine d119_operationNow h_w (D119_operationNow_mono k (fun v19 k => ?_))
            refine w_iconst (p := 85) (v := nI 1) (pI pM_48 rfl) rfl rfl ?_
            refine w_iadd (p := 86) (pI pM_48 rfl) rfl ?_
            refine w_istore (p := 88) (pI pM_48 rfl) rfl rfl rfl ?_
            refine w_aload_n (p := 89) (pI pM_48 rfl) rfl rfl ?_
            refine w_iconst (p := 90) (v := nI 2) (pI pM_48 rfl) rfl rfl ?_
            refine v_virtual (p := 93) (mj := 120) (pI pM_48 rfl) rfl rfl rfl rfl rfl rfl rfl rfl rfl rfl (isW.ge h_w 0) (isW.lt h_w 0 (by decide)) (isW.sk h_w 0 (by decide)) ?_
            refine d120_drop h_w (D120_drop_mono k (fun A20 I21 k => ?_))
            refine w_aload_n (p := 94) (pI pM_48 rfl) rfl rfl ?_
            refine w_iload (p := 96) (pI pM_48 rfl) rfl rfl ?_
            refine v_virtual (p := 99) (mj := 121) (pI pM_48 rfl) rfl rfl rfl rfl rfl rfl rfl rfl rfl rfl (isW.ge h_w 0) (isW.lt h_w 0 (by decide)) (isW.sk h_w 0 (by decide)) ?_
            refine d121_jump h_w (D121_jump_mono k (fun A22 I23 k => ?_))
            refine w_goto (p := 157) (pI pM_48 rfl) rfl rfl ?_
            exact w_return (pI pM_48 rfl) rfl k
          · replace k := itp (Decidable.not_not.mp c) k
            refine w_aload_n (p := 73) (pI pM_48 rfl) rfl rfl ?_
            refine w_aload_n (p := 74) (pI pM_48 rfl) rfl rfl ?_
            refine v_virtual (p := 77) (mj := 49) (pI pM_48 rfl) rfl rfl rfl rfl rfl rfl rfl rfl rfl rfl (by decide) (by decide) rfl ?_
            refine d49_numberOf h_w (D49_numberOf_mono k (fun v24 k => ?_))
            refine w_goto (p := 86) (pI pM_48 rfl) rfl rfl ?_
            refine w_istore (p := 88) (pI pM_48 rfl) rfl rfl rfl ?_
            refine w_aload_n (p := 89) (pI pM_48 rfl) rfl rfl ?_
            refine w_iconst (p := 90) (v := nI 2) (pI pM_48 rfl) rfl rfl ?_
            refine v_virtual (p := 93) (mj := 120) (pI pM_48 rfl) rfl rfl rfl rfl rfl rfl rfl rfl rfl rfl (isW.ge h_w 0) (isW.lt h_w 0 (by decide)) (isW.sk h_w 0 (by decide)) ?_
            refine d120_drop h_w (D120_drop_mono k (fun A25 I26 k => ?_))
            refine w_aload_n (p := 94) (pI pM_48 rfl) rfl rfl ?_
            refine w_iload (p := 96) (pI pM_48 rfl) rfl rfl ?_
            refine v_virtual (p := 99) (mj := 121) (pI pM_48 rfl) rfl rfl rfl rfl rfl rfl rfl rfl rfl rfl (isW.ge h_w 0) (isW.lt h_w 0 (by decide)) (isW.sk h_w 0 (by decide)) ?_
            refine d121_jump h_w (D121_jump_mono k (fun A27 I28 k => ?_))
            refine w_goto (p := 157) (pI pM_48 rfl) rfl rfl ?_
            exact w_return (pI pM_48 rfl) rfl k
        · replace k := itn c1_19 k
          by_cases c1_21 : x = nI 21
          · replace k := itp c1_21 k
            refine w_table (p := 124) (off := 123) (pI pM_48 rfl) (sw_at c1_21 (by decide)) rfl rfl ?_
            refine w_aload_n (p := 125) (pI pM_48 rfl) rfl rfl ?_
            refine w_aload_n (p := 126) (pI pM_48 rfl) rfl rfl ?_
            refine w_iload_n (p := 127) (pI pM_48 rfl) rfl rfl ?_
            refine v_virtual (p := 130) (mj := 52) (pI pM_48 rfl) rfl rfl rfl rfl rfl rfl rfl rfl rfl rfl (by decide) (by decide) rfl ?_
            refine d52_makeArray h_w (D52_makeArray_mono k (fun A29 I30 k => ?_))
            refine w_goto (p := 157) (pI pM_48 rfl) rfl rfl ?_
            exact w_return (pI pM_48 rfl) rfl k
          · replace k := itn c1_21 k
            refine w_table (p := 133) (off := 132) (pI pM_48 rfl) (by have e9 := neT 9 (by decide) c1_9; have e10 := neT 10 (by decide) c1_10; have e18 := neT 18 (by decide) c1_18; have e19 := neT 19 (by decide) c1_19; have e21 := neT 21 (by decide) c1_21; exact sw_df (fun h1 h2 => by rcases (show (x).toInt = 11 ∨ (x).toInt = 12 ∨ (x).toInt = 13 ∨ (x).toInt = 14 ∨ (x).toInt = 15 ∨ (x).toInt = 16 ∨ (x).toInt = 17 ∨ (x).toInt = 20 by omega) with e | e | e | e | e | e | e | e <;> rw [e] <;> decide)) rfl rfl ?_
            refine w_iload_n (p := 134) (pI pM_48 rfl) rfl rfl ?_
            refine w_aload_n (p := 135) (pI pM_48 rfl) rfl rfl ?_
            refine w_iload_n (p := 136) (pI pM_48 rfl) rfl rfl ?_
            refine w_static (p := 139) (mj := 53) (pI pM_48 rfl) rfl rfl rfl rfl rfl rfl rfl rfl rfl ?_
            refine d53_lengthAt h_w (D53_lengthAt_mono k (fun v31 k => ?_))
            refine w_icmp_ge (p := 142) (q := 151) (pI pM_48 rfl) rfl rfl rfl (fun c => ?_) (fun c => ?_)
            · replace k := itn (Int32.not_lt.mpr c) k
              refine w_aload_n (p := 152) (pI pM_48 rfl) rfl rfl ?_
              refine w_aload_n (p := 153) (pI pM_48 rfl) rfl rfl ?_
              refine w_iconst (p := 154) (v := nI 2) (pI pM_48 rfl) rfl rfl ?_
              refine v_virtual (p := 157) (mj := 51) (pI pM_48 rfl) rfl rfl rfl rfl rfl rfl rfl rfl rfl rfl (by decide) (by decide) rfl ?_
              refine d51_raise h_w (D51_raise_mono k (fun A32 I33 k => ?_))
              exact w_return (pI pM_48 rfl) rfl k
            · replace k := itp (Int32.not_le.mp c) k
              refine w_aload_n (p := 143) (pI pM_48 rfl) rfl rfl ?_
              refine w_iload_n (p := 144) (pI pM_48 rfl) rfl rfl ?_
              refine w_iload_n (p := 145) (pI pM_48 rfl) rfl rfl ?_
              refine w_static (p := 148) (mj := 56) (pI pM_48 rfl) rfl rfl rfl rfl rfl rfl rfl rfl rfl ?_
              refine d56_useElement h_w (D56_useElement_mono k (fun A34 I35 k => ?_))
              refine w_goto (p := 157) (pI pM_48 rfl) rfl rfl ?_
              exact w_return (pI pM_48 rfl) rfl k
set_option maxRecDepth 100000 in
set_option maxHeartbeats 4000000 in
theorem d135_hasEnded {d L : Nat} {w : Nat} {A I : HA} {Q : bm_Q} (h_w : isW w) (k : D135_hasEnded w A I (fun v => Q (some (.int v)) (hp L A I))) : bm_M (d + 1) 135 [.ref w] (hp L A I) Q := by
  unfold D135_hasEnded at k
  refine bw_enter rfl rfl rfl rfl ?_
  refine w_aload_n (p := 1) (pI pM_135 rfl) rfl rfl ?_
  refine v_getI (p := 4) (kf := 12) (pI pM_135 rfl) rfl rfl rfl (isW.ge h_w 0) (isW.lt h_w 0 (by decide)) (isW.sk h_w 0 (by decide)) rfl rfl ?_
  refine w_if_eq (p := 7) (q := 11) (pI pM_135 rfl) rfl rfl rfl (fun c => ?_) (fun c => ?_)
  · replace k := itp c k
    refine w_iconst (p := 12) (v := nI 0) (pI pM_135 rfl) rfl rfl ?_
    exact w_ireturn (pI pM_135 rfl) rfl rfl rfl k
  · replace k := itn c k
    refine w_iconst (p := 8) (v := nI 1) (pI pM_135 rfl) rfl rfl ?_
    refine w_goto (p := 12) (pI pM_135 rfl) rfl rfl ?_
    exact w_ireturn (pI pM_135 rfl) rfl rfl rfl k
set_option maxRecDepth 100000 in
set_option maxHeartbeats 4000000 in
theorem d83_hasOperation {d L : Nat} {x : Int32} {y : Int32} {A I : HA} {Q : bm_Q} (k : D83_hasOperation x y A I (fun v => Q (some (.int v)) (hp L A I))) : bm_M (d + 1) 83 [.ref 22, .int x, .int y] (hp L A I) Q := by
  unfold D83_hasOperation at k
  refine bw_enter rfl rfl rfl rfl ?_
  refine w_iload_n (p := 1) (pI pM_83 rfl) rfl rfl ?_
  refine w_if_lt (p := 4) (q := 18) (pI pM_83 rfl) rfl rfl rfl (fun c => ?_) (fun c => ?_)
  · replace k := itp c k
    refine w_iconst (p := 19) (v := nI 0) (pI pM_83 rfl) rfl rfl ?_
    exact w_ireturn (pI pM_83 rfl) rfl rfl rfl k
  · replace k := itn c k
    refine w_iload_n (p := 5) (pI pM_83 rfl) rfl rfl ?_
    refine w_aload_n (p := 6) (pI pM_83 rfl) rfl rfl ?_
    refine v_getR (p := 9) (kf := 2) (pI pM_83 rfl) rfl rfl rfl (by decide) (by decide) rfl rfl ?_
    refine w_iload_n (p := 10) (pI pM_83 rfl) rfl rfl ?_
    obtain ⟨s1, k⟩ := k
    refine v_iald (p := 11) (pI pM_83 rfl) rfl (by decide) rfl s1 rfl ?_
    refine w_icmp_ge (p := 14) (q := 18) (pI pM_83 rfl) rfl rfl rfl (fun c => ?_) (fun c => ?_)
    · replace k := itn (Int32.not_lt.mpr c) k
      refine w_iconst (p := 19) (v := nI 0) (pI pM_83 rfl) rfl rfl ?_
      exact w_ireturn (pI pM_83 rfl) rfl rfl rfl k
    · replace k := itp (Int32.not_le.mp c) k
      refine w_iconst (p := 15) (v := nI 1) (pI pM_83 rfl) rfl rfl ?_
      refine w_goto (p := 19) (pI pM_83 rfl) rfl rfl ?_
      exact w_ireturn (pI pM_83 rfl) rfl rfl rfl k
set_option maxRecDepth 100000 in
set_option maxHeartbeats 4000000 in
theorem d57_comesToOne {d L : Nat} {w : Nat} {x : Int32} {A I : HA} {Q : bm_Q} (h_w : isW w) (k : D57_comesToOne w x A I (fun v A I => Q (some (.int v)) (hp L A I))) : bm_M (d + 2) 57 [.ref 21, .ref w, .int x] (hp L A I) Q := by
  unfold D57_comesToOne at k
  refine bw_enter rfl rfl rfl rfl ?_
  refine w_aload_n (p := 1) (pI pM_57 rfl) rfl rfl ?_
  refine v_virtual (p := 4) (mj := 135) (pI pM_57 rfl) rfl rfl rfl rfl rfl rfl rfl rfl rfl rfl (isW.ge h_w 0) (isW.lt h_w 0 (by decide)) (isW.sk h_w 0 (by decide)) ?_
  refine d135_hasEnded h_w (D135_hasEnded_mono k (fun v1 k => ?_))
  refine w_if_eq (p := 7) (q := 9) (pI pM_57 rfl) rfl rfl rfl (fun c => ?_) (fun c => ?_)
  · replace k := itp c k
    refine w_aload_n (p := 10) (pI pM_57 rfl) rfl rfl ?_
    refine v_getI (p := 13) (kf := 11) (pI pM_57 rfl) rfl rfl rfl (isW.ge h_w 0) (isW.lt h_w 0 (by decide)) (isW.sk h_w 0 (by decide)) rfl rfl ?_
    refine w_iload_n (p := 14) (pI pM_57 rfl) rfl rfl ?_
    refine w_icmp_lt (p := 17) (q := 28) (pI pM_57 rfl) rfl rfl rfl (fun c => ?_) (fun c => ?_)
    · replace k := itp c k
      refine w_aload_n (p := 29) (pI pM_57 rfl) rfl rfl ?_
      refine v_getR (p := 32) (kf := 0) (pI pM_57 rfl) rfl rfl rfl (by decide) (by decide) rfl rfl ?_
      refine w_aload_n (p := 33) (pI pM_57 rfl) rfl rfl ?_
      refine v_virtual (p := 36) (mj := 127) (pI pM_57 rfl) rfl rfl rfl rfl rfl rfl rfl rfl rfl rfl (isW.ge h_w 0) (isW.lt h_w 0 (by decide)) (isW.sk h_w 0 (by decide)) ?_
      refine d127_methodNow h_w (D127_methodNow_mono k (fun v2 k => ?_))
      refine w_aload_n (p := 37) (pI pM_57 rfl) rfl rfl ?_
      refine v_virtual (p := 40) (mj := 119) (pI pM_57 rfl) rfl rfl rfl rfl rfl rfl rfl rfl rfl rfl (isW.ge h_w 0) (isW.lt h_w 0 (by decide)) (isW.sk h_w 0 (by decide)) ?_
      refine d119_operationNow h_w (D119_operationNow_mono k (fun v3 k => ?_))
      refine v_virtual (p := 43) (mj := 83) (pI pM_57 rfl) rfl rfl rfl rfl rfl rfl rfl rfl rfl rfl (by decide) (by decide) rfl ?_
      refine d83_hasOperation (D83_hasOperation_mono k (fun v4 k => ?_))
      refine w_if_ne (p := 46) (q := 57) (pI pM_57 rfl) rfl rfl rfl (fun c => ?_) (fun c => ?_)
      · replace k := itn c k
        refine w_aload_n (p := 58) (pI pM_57 rfl) rfl rfl ?_
        refine w_dup (p := 59) (pI pM_57 rfl) rfl rfl ?_
        refine v_getI (p := 62) (kf := 11) (pI pM_57 rfl) rfl rfl rfl (isW.ge h_w 0) (isW.lt h_w 0 (by decide)) (isW.sk h_w 0 (by decide)) rfl rfl ?_
        refine w_iconst (p := 63) (v := nI 1) (pI pM_57 rfl) rfl rfl ?_
        refine w_iadd (p := 64) (pI pM_57 rfl) rfl ?_
        refine s_putI (p := 67) (kf := 11) (pI pM_57 rfl) rfl rfl rfl (isW.ge h_w 0) (isW.lt h_w 0 (by decide)) (isW.sk h_w 0 (by decide)) rfl rfl rfl rfl rfl ?_
        refine w_iconst (p := 68) (v := nI 1) (pI pM_57 rfl) rfl rfl ?_
        exact w_ireturn (pI pM_57 rfl) rfl rfl rfl k
      · replace k := itp (Decidable.not_not.mp c) k
        refine w_aload_n (p := 47) (pI pM_57 rfl) rfl rfl ?_
        refine w_iconst (p := 48) (v := nI 5) (pI pM_57 rfl) rfl rfl ?_
        refine w_aload_n (p := 49) (pI pM_57 rfl) rfl rfl ?_
        refine v_virtual (p := 52) (mj := 123) (pI pM_57 rfl) rfl rfl rfl rfl rfl rfl rfl rfl rfl rfl (isW.ge h_w 0) (isW.lt h_w 0 (by decide)) (isW.sk h_w 0 (by decide)) ?_
        refine d123_placeNow h_w (D123_placeNow_mono k (fun v5 k => ?_))
        refine v_virtual (p := 55) (mj := 124) (pI pM_57 rfl) rfl rfl rfl rfl rfl rfl rfl rfl rfl rfl (isW.ge h_w 0) (isW.lt h_w 0 (by decide)) (isW.sk h_w 0 (by decide)) ?_
        refine d124_end h_w (D124_end_mono k (fun A6 I7 k => ?_))
        refine w_iconst (p := 56) (v := nI 0) (pI pM_57 rfl) rfl rfl ?_
        exact w_ireturn (pI pM_57 rfl) rfl rfl rfl k
    · replace k := itn c k
      refine w_aload_n (p := 18) (pI pM_57 rfl) rfl rfl ?_
      refine w_iconst (p := 19) (v := nI 4) (pI pM_57 rfl) rfl rfl ?_
      refine w_aload_n (p := 20) (pI pM_57 rfl) rfl rfl ?_
      refine v_virtual (p := 23) (mj := 123) (pI pM_57 rfl) rfl rfl rfl rfl rfl rfl rfl rfl rfl rfl (isW.ge h_w 0) (isW.lt h_w 0 (by decide)) (isW.sk h_w 0 (by decide)) ?_
      refine d123_placeNow h_w (D123_placeNow_mono k (fun v8 k => ?_))
      refine v_virtual (p := 26) (mj := 124) (pI pM_57 rfl) rfl rfl rfl rfl rfl rfl rfl rfl rfl rfl (isW.ge h_w 0) (isW.lt h_w 0 (by decide)) (isW.sk h_w 0 (by decide)) ?_
      refine d124_end h_w (D124_end_mono k (fun A9 I10 k => ?_))
      refine w_iconst (p := 27) (v := nI 0) (pI pM_57 rfl) rfl rfl ?_
      exact w_ireturn (pI pM_57 rfl) rfl rfl rfl k
  · replace k := itn c k
    refine w_iconst (p := 8) (v := nI 0) (pI pM_57 rfl) rfl rfl ?_
    exact w_ireturn (pI pM_57 rfl) rfl rfl rfl k
set_option maxRecDepth 100000 in
set_option maxHeartbeats 4000000 in
theorem d84_canBeCalled {d L : Nat} {x : Int32} {A I : HA} {Q : bm_Q} (k : D84_canBeCalled x A I (fun v => Q (some (.int v)) (hp L A I))) : bm_M (d + 2) 84 [.ref 22, .int x] (hp L A I) Q := by
  unfold D84_canBeCalled at k
  refine bw_enter rfl rfl rfl rfl ?_
  refine w_aload_n (p := 1) (pI pM_84 rfl) rfl rfl ?_
  refine w_iload_n (p := 2) (pI pM_84 rfl) rfl rfl ?_
  refine v_virtual (p := 5) (mj := 74) (pI pM_84 rfl) rfl rfl rfl rfl rfl rfl rfl rfl rfl rfl (by decide) (by decide) rfl ?_
  refine d74_hasMethod (D74_hasMethod_mono k (fun v1 k => ?_))
  refine w_if_eq (p := 8) (q := 21) (pI pM_84 rfl) rfl rfl rfl (fun c => ?_) (fun c => ?_)
  · replace k := itp c k
    refine w_iconst (p := 22) (v := nI 0) (pI pM_84 rfl) rfl rfl ?_
    exact w_ireturn (pI pM_84 rfl) rfl rfl rfl k
  · replace k := itn c k
    refine w_aload_n (p := 9) (pI pM_84 rfl) rfl rfl ?_
    refine v_getR (p := 12) (kf := 2) (pI pM_84 rfl) rfl rfl rfl (by decide) (by decide) rfl rfl ?_
    refine w_iload_n (p := 13) (pI pM_84 rfl) rfl rfl ?_
    obtain ⟨s2, k⟩ := k
    refine v_iald (p := 14) (pI pM_84 rfl) rfl (by decide) rfl s2 rfl ?_
    refine w_if_le (p := 17) (q := 21) (pI pM_84 rfl) rfl rfl rfl (fun c => ?_) (fun c => ?_)
    · replace k := itn (Int32.not_lt.mpr c) k
      refine w_iconst (p := 22) (v := nI 0) (pI pM_84 rfl) rfl rfl ?_
      exact w_ireturn (pI pM_84 rfl) rfl rfl rfl k
    · replace k := itp (Int32.not_le.mp c) k
      refine w_iconst (p := 18) (v := nI 1) (pI pM_84 rfl) rfl rfl ?_
      refine w_goto (p := 22) (pI pM_84 rfl) rfl rfl ?_
      exact w_ireturn (pI pM_84 rfl) rfl rfl rfl k
set_option maxRecDepth 100000 in
set_option maxHeartbeats 4000000 in
theorem d85_argumentsOf {d L : Nat} {x : Int32} {A I : HA} {Q : bm_Q} (k : D85_argumentsOf x A I (fun v => Q (some (.int v)) (hp L A I))) : bm_M (d + 1) 85 [.ref 22, .int x] (hp L A I) Q := by
  unfold D85_argumentsOf at k
  refine bw_enter rfl rfl rfl rfl ?_
  refine w_aload_n (p := 1) (pI pM_85 rfl) rfl rfl ?_
  refine v_getR (p := 4) (kf := 1) (pI pM_85 rfl) rfl rfl rfl (by decide) (by decide) rfl rfl ?_
  refine w_iload_n (p := 5) (pI pM_85 rfl) rfl rfl ?_
  obtain ⟨s1, k⟩ := k
  refine v_iald (p := 6) (pI pM_85 rfl) rfl (by decide) rfl s1 rfl ?_
  exact w_ireturn (pI pM_85 rfl) rfl rfl rfl k
set_option maxRecDepth 100000 in
set_option maxHeartbeats 4000000 in
theorem d136_height {d L : Nat} {w : Nat} {A I : HA} {Q : bm_Q} (h_w : isW w) (k : D136_height w A I (fun v => Q (some (.int v)) (hp L A I))) : bm_M (d + 1) 136 [.ref w] (hp L A I) Q := by
  unfold D136_height at k
  refine bw_enter rfl rfl rfl rfl ?_
  refine w_aload_n (p := 1) (pI pM_136 rfl) rfl rfl ?_
  refine v_getR (p := 4) (kf := 2) (pI pM_136 rfl) rfl rfl rfl (isW.ge h_w 0) (isW.lt h_w 0 (by decide)) (isW.sk h_w 0 (by decide)) rfl ?_
  refine w_aload_n (p := 5) (pI pM_136 rfl) rfl rfl ?_
  refine v_getI (p := 8) (kf := 4) (pI pM_136 rfl) rfl rfl rfl (isW.ge h_w 0) (isW.lt h_w 0 (by decide)) (isW.sk h_w 0 (by decide)) rfl rfl ?_
  obtain ⟨s1, k⟩ := k
  refine v_iald (p := 9) (pI pM_136 rfl) rfl (isW.lt h_w 3 (by decide)) (isW.sk h_w 3 (by decide)) s1 rfl ?_
  exact w_ireturn (pI pM_136 rfl) rfl rfl rfl k
set_option maxRecDepth 100000 in
set_option maxHeartbeats 4000000 in
theorem d137_localAt {d L : Nat} {w : Nat} {x : Int32} {A I : HA} {Q : bm_Q} (h_w : isW w) (k : D137_localAt w x A I (fun v => Q (some (.int v)) (hp L A I))) : bm_M (d + 1) 137 [.ref w, .int x] (hp L A I) Q := by
  unfold D137_localAt at k
  refine bw_enter rfl rfl rfl rfl ?_
  refine w_aload_n (p := 1) (pI pM_137 rfl) rfl rfl ?_
  refine v_getR (p := 4) (kf := 3) (pI pM_137 rfl) rfl rfl rfl (isW.ge h_w 0) (isW.lt h_w 0 (by decide)) (isW.sk h_w 0 (by decide)) rfl ?_
  refine w_aload_n (p := 5) (pI pM_137 rfl) rfl rfl ?_
  refine v_getI (p := 8) (kf := 4) (pI pM_137 rfl) rfl rfl rfl (isW.ge h_w 0) (isW.lt h_w 0 (by decide)) (isW.sk h_w 0 (by decide)) rfl rfl ?_
  refine w_bipush (p := 10) (v := nI 18) (pI pM_137 rfl) rfl rfl ?_
  refine w_imul (p := 11) (pI pM_137 rfl) rfl ?_
  refine w_iload_n (p := 12) (pI pM_137 rfl) rfl rfl ?_
  refine w_iadd (p := 13) (pI pM_137 rfl) rfl ?_
  obtain ⟨s1, k⟩ := k
  refine v_iald (p := 14) (pI pM_137 rfl) rfl (isW.lt h_w 4 (by decide)) (isW.sk h_w 4 (by decide)) s1 rfl ?_
  exact w_ireturn (pI pM_137 rfl) rfl rfl rfl k
set_option maxRecDepth 100000 in
set_option maxHeartbeats 4000000 in
theorem d60_takesAnySort {d L : Nat} {x : Int32} {A I : HA} {Q : bm_Q} (k : D60_takesAnySort x (fun v => Q (some (.int v)) (hp L A I))) : bm_M (d + 1) 60 [.int x] (hp L A I) Q := by
  unfold D60_takesAnySort at k
  refine bw_enter rfl rfl rfl rfl ?_
  refine w_iload_n (p := 1) (pI pM_60 rfl) rfl rfl ?_
  refine w_iconst (p := 2) (v := nI 5) (pI pM_60 rfl) rfl rfl ?_
  refine w_icmp_le (p := 5) (q := 17) (pI pM_60 rfl) rfl rfl rfl (fun c => ?_) (fun c => ?_)
  · replace k := itn (Int32.not_lt.mpr c) k
    refine w_iconst (p := 18) (v := nI 1) (pI pM_60 rfl) rfl rfl ?_
    refine w_goto (p := 22) (pI pM_60 rfl) rfl rfl ?_
    exact w_ireturn (pI pM_60 rfl) rfl rfl rfl k
  · replace k := itp (Int32.not_le.mp c) k
    refine w_iload_n (p := 6) (pI pM_60 rfl) rfl rfl ?_
    refine w_bipush (p := 8) (v := nI 25) (pI pM_60 rfl) rfl rfl ?_
    refine w_icmp_eq (p := 11) (q := 17) (pI pM_60 rfl) rfl rfl rfl (fun c => ?_) (fun c => ?_)
    · replace k := itp c k
      refine w_iconst (p := 18) (v := nI 1) (pI pM_60 rfl) rfl rfl ?_
      refine w_goto (p := 22) (pI pM_60 rfl) rfl rfl ?_
      exact w_ireturn (pI pM_60 rfl) rfl rfl rfl k
    · replace k := itn c k
      refine w_iload_n (p := 12) (pI pM_60 rfl) rfl rfl ?_
      refine w_bipush (p := 14) (v := nI 26) (pI pM_60 rfl) rfl rfl ?_
      refine w_icmp_ne (p := 17) (q := 21) (pI pM_60 rfl) rfl rfl rfl (fun c => ?_) (fun c => ?_)
      · replace k := itn c k
        refine w_iconst (p := 22) (v := nI 0) (pI pM_60 rfl) rfl rfl ?_
        exact w_ireturn (pI pM_60 rfl) rfl rfl rfl k
      · replace k := itp (Decidable.not_not.mp c) k
        refine w_iconst (p := 18) (v := nI 1) (pI pM_60 rfl) rfl rfl ?_
        refine w_goto (p := 22) (pI pM_60 rfl) rfl rfl ?_
        exact w_ireturn (pI pM_60 rfl) rfl rfl rfl k
set_option maxRecDepth 100000 in
set_option maxHeartbeats 4000000 in
theorem d61_hasWrongSort {d L : Nat} {w : Nat} {x : Int32} {y : Int32} {A I : HA} {Q : bm_Q} (h_w : isW w) (k : D61_hasWrongSort w x y A I (fun v => Q (some (.int v)) (hp L A I))) : bm_M (d + 2) 61 [.ref w, .int x, .int y] (hp L A I) Q := by
  unfold D61_hasWrongSort at k
  refine bw_enter rfl rfl rfl rfl ?_
  refine w_iconst (p := 1) (v := nI 0) (pI pM_61 rfl) rfl rfl ?_
  refine w_istore_n (p := 2) (pI pM_61 rfl) rfl rfl rfl ?_
  refine k (fun a2 => ∀ u3 u4 : Value, bm_W (bm_M (d + 1)) 61 Q 2 [.ref w, .int x, .int y, .int a2, u3, u4] [] (hp L A I)) (fun a2 k => ?_) _ _
  intro u3 u4
  refine w_iload_n (p := 3) (pI pM_61 rfl) rfl rfl ?_
  refine w_iload_n (p := 4) (pI pM_61 rfl) rfl rfl ?_
  refine w_icmp_ge (p := 7) (q := 64) (pI pM_61 rfl) rfl rfl rfl (fun c => ?_) (fun c => ?_)
  · replace k := itn (Int32.not_lt.mpr c) k
    refine w_iconst (p := 65) (v := nI 0) (pI pM_61 rfl) rfl rfl ?_
    exact w_ireturn (pI pM_61 rfl) rfl rfl rfl k
  · replace k := itp (Int32.not_le.mp c) k
    refine w_aload_n (p := 8) (pI pM_61 rfl) rfl rfl ?_
    refine w_iload_n (p := 9) (pI pM_61 rfl) rfl rfl ?_
    refine v_virtual (p := 12) (mj := 122) (pI pM_61 rfl) rfl rfl rfl rfl rfl rfl rfl rfl rfl rfl (isW.ge h_w 0) (isW.lt h_w 0 (by decide)) (isW.sk h_w 0 (by decide)) ?_
    refine d122_peek h_w (D122_peek_mono k (fun v6 k => ?_))
    refine w_if_ge (p := 15) (q := 19) (pI pM_61 rfl) rfl rfl rfl (fun c => ?_) (fun c => ?_)
    · replace k := itn (Int32.not_lt.mpr c) k
      refine w_iconst (p := 20) (v := nI 0) (pI pM_61 rfl) rfl rfl ?_
      refine w_istore (p := 22) (pI pM_61 rfl) rfl rfl rfl ?_
      refine w_iload_n (p := 23) (pI pM_61 rfl) rfl rfl ?_
      refine w_iload_n (p := 24) (pI pM_61 rfl) rfl rfl ?_
      refine w_iconst (p := 25) (v := nI 1) (pI pM_61 rfl) rfl rfl ?_
      refine w_isub (p := 26) (pI pM_61 rfl) rfl ?_
      refine w_icmp_ne (p := 29) (q := 46) (pI pM_61 rfl) rfl rfl rfl (fun c => ?_) (fun c => ?_)
      · replace k := itn c k
        refine w_iconst (p := 47) (v := nI 0) (pI pM_61 rfl) rfl rfl ?_
        refine w_istore (p := 49) (pI pM_61 rfl) rfl rfl rfl ?_
        refine w_iload (p := 51) (pI pM_61 rfl) rfl rfl ?_
        refine w_iload (p := 53) (pI pM_61 rfl) rfl rfl ?_
        refine w_icmp_eq (p := 56) (q := 58) (pI pM_61 rfl) rfl rfl rfl (fun _ => ?_) (fun c => absurd (by decide) c)
        refine w_iinc (p := 61) (v := (a2 + nI 1)) (pI pM_61 rfl) rfl rfl rfl rfl ?_
        refine w_goto (p := 2) (pI pM_61 rfl) rfl rfl ?_
        exact k _ _
      · replace k := itp (Decidable.not_not.mp c) k
        refine w_iload_n (p := 30) (pI pM_61 rfl) rfl rfl ?_
        refine w_static (p := 33) (mj := 55) (pI pM_61 rfl) rfl rfl rfl rfl rfl rfl rfl rfl rfl ?_
        refine d55_needsArray (D55_needsArray_mono k (fun v7 k => ?_))
        refine w_if_ne (p := 36) (q := 42) (pI pM_61 rfl) rfl rfl rfl (fun c => ?_) (fun c => ?_)
        · replace k := itn c k
          refine w_iconst (p := 43) (v := nI 1) (pI pM_61 rfl) rfl rfl ?_
          refine w_goto (p := 47) (pI pM_61 rfl) rfl rfl ?_
          refine w_istore (p := 49) (pI pM_61 rfl) rfl rfl rfl ?_
          refine w_iload (p := 51) (pI pM_61 rfl) rfl rfl ?_
          refine w_iload (p := 53) (pI pM_61 rfl) rfl rfl ?_
          refine w_icmp_eq (p := 56) (q := 58) (pI pM_61 rfl) rfl rfl rfl (fun c => absurd c (by decide)) (fun _ => ?_)
          refine w_iconst (p := 57) (v := nI 1) (pI pM_61 rfl) rfl rfl ?_
          exact w_ireturn (pI pM_61 rfl) rfl rfl rfl k
        · replace k := itp (Decidable.not_not.mp c) k
          refine w_iload_n (p := 37) (pI pM_61 rfl) rfl rfl ?_
          refine w_bipush (p := 39) (v := nI 20) (pI pM_61 rfl) rfl rfl ?_
          refine w_icmp_ne (p := 42) (q := 46) (pI pM_61 rfl) rfl rfl rfl (fun c => ?_) (fun c => ?_)
          · replace k := itn c k
            refine w_iconst (p := 47) (v := nI 0) (pI pM_61 rfl) rfl rfl ?_
            refine w_istore (p := 49) (pI pM_61 rfl) rfl rfl rfl ?_
            refine w_iload (p := 51) (pI pM_61 rfl) rfl rfl ?_
            refine w_iload (p := 53) (pI pM_61 rfl) rfl rfl ?_
            refine w_icmp_eq (p := 56) (q := 58) (pI pM_61 rfl) rfl rfl rfl (fun _ => ?_) (fun c => absurd (by decide) c)
            refine w_iinc (p := 61) (v := (a2 + nI 1)) (pI pM_61 rfl) rfl rfl rfl rfl ?_
            refine w_goto (p := 2) (pI pM_61 rfl) rfl rfl ?_
            exact k _ _
          · replace k := itp (Decidable.not_not.mp c) k
            refine w_iconst (p := 43) (v := nI 1) (pI pM_61 rfl) rfl rfl ?_
            refine w_goto (p := 47) (pI pM_61 rfl) rfl rfl ?_
            refine w_istore (p := 49) (pI pM_61 rfl) rfl rfl rfl ?_
            refine w_iload (p := 51) (pI pM_61 rfl) rfl rfl ?_
            refine w_iload (p := 53) (pI pM_61 rfl) rfl rfl ?_
            refine w_icmp_eq (p := 56) (q := 58) (pI pM_61 rfl) rfl rfl rfl (fun c => absurd c (by decide)) (fun _ => ?_)
            refine w_iconst (p := 57) (v := nI 1) (pI pM_61 rfl) rfl rfl ?_
            exact w_ireturn (pI pM_61 rfl) rfl rfl rfl k
    · replace k := itp (Int32.not_le.mp c) k
      refine w_iconst (p := 16) (v := nI 1) (pI pM_61 rfl) rfl rfl ?_
      refine w_goto (p := 20) (pI pM_61 rfl) rfl rfl ?_
      refine w_istore (p := 22) (pI pM_61 rfl) rfl rfl rfl ?_
      refine w_iload_n (p := 23) (pI pM_61 rfl) rfl rfl ?_
      refine w_iload_n (p := 24) (pI pM_61 rfl) rfl rfl ?_
      refine w_iconst (p := 25) (v := nI 1) (pI pM_61 rfl) rfl rfl ?_
      refine w_isub (p := 26) (pI pM_61 rfl) rfl ?_
      refine w_icmp_ne (p := 29) (q := 46) (pI pM_61 rfl) rfl rfl rfl (fun c => ?_) (fun c => ?_)
      · replace k := itn c k
        refine w_iconst (p := 47) (v := nI 0) (pI pM_61 rfl) rfl rfl ?_
        refine w_istore (p := 49) (pI pM_61 rfl) rfl rfl rfl ?_
        refine w_iload (p := 51) (pI pM_61 rfl) rfl rfl ?_
        refine w_iload (p := 53) (pI pM_61 rfl) rfl rfl ?_
        refine w_icmp_eq (p := 56) (q := 58) (pI pM_61 rfl) rfl rfl rfl (fun c => absurd c (by decide)) (fun _ => ?_)
        refine w_iconst (p := 57) (v := nI 1) (pI pM_61 rfl) rfl rfl ?_
        exact w_ireturn (pI pM_61 rfl) rfl rfl rfl k
      · replace k := itp (Decidable.not_not.mp c) k
        refine w_iload_n (p := 30) (pI pM_61 rfl) rfl rfl ?_
        refine w_static (p := 33) (mj := 55) (pI pM_61 rfl) rfl rfl rfl rfl rfl rfl rfl rfl rfl ?_
        refine d55_needsArray (D55_needsArray_mono k (fun v8 k => ?_))
        refine w_if_ne (p := 36) (q := 42) (pI pM_61 rfl) rfl rfl rfl (fun c => ?_) (fun c => ?_)
        · replace k := itn c k
          refine w_iconst (p := 43) (v := nI 1) (pI pM_61 rfl) rfl rfl ?_
          refine w_goto (p := 47) (pI pM_61 rfl) rfl rfl ?_
          refine w_istore (p := 49) (pI pM_61 rfl) rfl rfl rfl ?_
          refine w_iload (p := 51) (pI pM_61 rfl) rfl rfl ?_
          refine w_iload (p := 53) (pI pM_61 rfl) rfl rfl ?_
          refine w_icmp_eq (p := 56) (q := 58) (pI pM_61 rfl) rfl rfl rfl (fun _ => ?_) (fun c => absurd (by decide) c)
          refine w_iinc (p := 61) (v := (a2 + nI 1)) (pI pM_61 rfl) rfl rfl rfl rfl ?_
          refine w_goto (p := 2) (pI pM_61 rfl) rfl rfl ?_
          exact k _ _
        · replace k := itp (Decidable.not_not.mp c) k
          refine w_iload_n (p := 37) (pI pM_61 rfl) rfl rfl ?_
          refine w_bipush (p := 39) (v := nI 20) (pI pM_61 rfl) rfl rfl ?_
          refine w_icmp_ne (p := 42) (q := 46) (pI pM_61 rfl) rfl rfl rfl (fun c => ?_) (fun c => ?_)
          · replace k := itn c k
            refine w_iconst (p := 47) (v := nI 0) (pI pM_61 rfl) rfl rfl ?_
            refine w_istore (p := 49) (pI pM_61 rfl) rfl rfl rfl ?_
            refine w_iload (p := 51) (pI pM_61 rfl) rfl rfl ?_
            refine w_iload (p := 53) (pI pM_61 rfl) rfl rfl ?_
            refine w_icmp_eq (p := 56) (q := 58) (pI pM_61 rfl) rfl rfl rfl (fun c => absurd c (by decide)) (fun _ => ?_)
            refine w_iconst (p := 57) (v := nI 1) (pI pM_61 rfl) rfl rfl ?_
            exact w_ireturn (pI pM_61 rfl) rfl rfl rfl k
          · replace k := itp (Decidable.not_not.mp c) k
            refine w_iconst (p := 43) (v := nI 1) (pI pM_61 rfl) rfl rfl ?_
            refine w_goto (p := 47) (pI pM_61 rfl) rfl rfl ?_
            refine w_istore (p := 49) (pI pM_61 rfl) rfl rfl rfl ?_
            refine w_iload (p := 51) (pI pM_61 rfl) rfl rfl ?_
            refine w_iload (p := 53) (pI pM_61 rfl) rfl rfl ?_
            refine w_icmp_eq (p := 56) (q := 58) (pI pM_61 rfl) rfl rfl rfl (fun _ => ?_) (fun c => absurd (by decide) c)
            refine w_iinc (p := 61) (v := (a2 + nI 1)) (pI pM_61 rfl) rfl rfl rfl rfl ?_
            refine w_goto (p := 2) (pI pM_61 rfl) rfl rfl ?_
            exact k _ _
set_option maxRecDepth 100000 in
set_option maxHeartbeats 4000000 in
theorem d59_isBroken {d L : Nat} {w : Nat} {x : Int32} {y : Int32} {A I : HA} {Q : bm_Q} (h_w : isW w) (k : D59_isBroken w x y A I (fun v => Q (some (.int v)) (hp L A I))) : bm_M (d + 3) 59 [.ref 21, .ref w, .int x, .int y] (hp L A I) Q := by
  unfold D59_isBroken at k
  refine bw_enter rfl rfl rfl rfl ?_
  refine w_iload_n (p := 1) (pI pM_59 rfl) rfl rfl ?_
  refine w_bipush (p := 3) (v := nI 29) (pI pM_59 rfl) rfl rfl ?_
  refine w_icmp_ne (p := 6) (q := 12) (pI pM_59 rfl) rfl rfl rfl (fun c => ?_) (fun c => ?_)
  · replace k := itn c k
    refine w_getstatic (p := 15) (x := 1) (pI pM_59 rfl) rfl rfl rfl ?_
    refine w_iload_n (p := 16) (pI pM_59 rfl) rfl rfl ?_
    obtain ⟨s1, k⟩ := k
    refine v_iald (p := 17) (pI pM_59 rfl) rfl (by decide) rfl s1 rfl ?_
    refine w_istore (p := 19) (pI pM_59 rfl) rfl rfl rfl ?_
    refine w_getstatic (p := 22) (x := 2) (pI pM_59 rfl) rfl rfl rfl ?_
    refine w_iload_n (p := 23) (pI pM_59 rfl) rfl rfl ?_
    obtain ⟨s2, k⟩ := k
    refine v_iald (p := 24) (pI pM_59 rfl) rfl (by decide) rfl s2 rfl ?_
    refine w_istore (p := 26) (pI pM_59 rfl) rfl rfl rfl ?_
    refine w_iload_n (p := 27) (pI pM_59 rfl) rfl rfl ?_
    refine w_bipush (p := 29) (v := nI 25) (pI pM_59 rfl) rfl rfl ?_
    refine w_icmp_ne (p := 32) (q := 58) (pI pM_59 rfl) rfl rfl rfl (fun c => ?_) (fun c => ?_)
    · replace k := itn c k
      refine w_aload_n (p := 59) (pI pM_59 rfl) rfl rfl ?_
      refine v_virtual (p := 62) (mj := 136) (pI pM_59 rfl) rfl rfl rfl rfl rfl rfl rfl rfl rfl rfl (isW.ge h_w 0) (isW.lt h_w 0 (by decide)) (isW.sk h_w 0 (by decide)) ?_
      refine d136_height h_w (D136_height_mono k (fun v3 k => ?_))
      refine w_iload (p := 64) (pI pM_59 rfl) rfl rfl ?_
      refine w_icmp_lt (p := 67) (q := 82) (pI pM_59 rfl) rfl rfl rfl (fun c => ?_) (fun c => ?_)
      · replace k := itp c k
        refine w_iconst (p := 83) (v := nI 1) (pI pM_59 rfl) rfl rfl ?_
        exact w_ireturn (pI pM_59 rfl) rfl rfl rfl k
      · replace k := itn c k
        refine w_aload_n (p := 68) (pI pM_59 rfl) rfl rfl ?_
        refine v_virtual (p := 71) (mj := 136) (pI pM_59 rfl) rfl rfl rfl rfl rfl rfl rfl rfl rfl rfl (isW.ge h_w 0) (isW.lt h_w 0 (by decide)) (isW.sk h_w 0 (by decide)) ?_
        refine d136_height h_w (D136_height_mono k (fun v4 k => ?_))
        refine w_iload (p := 73) (pI pM_59 rfl) rfl rfl ?_
        refine w_isub (p := 74) (pI pM_59 rfl) rfl ?_
        refine w_iload (p := 76) (pI pM_59 rfl) rfl rfl ?_
        refine w_iadd (p := 77) (pI pM_59 rfl) rfl ?_
        refine w_bipush (p := 79) (v := nI 12) (pI pM_59 rfl) rfl rfl ?_
        refine w_icmp_le (p := 82) (q := 84) (pI pM_59 rfl) rfl rfl rfl (fun c => ?_) (fun c => ?_)
        · replace k := itn (Int32.not_lt.mpr c) k
          refine w_iload_n (p := 85) (pI pM_59 rfl) rfl rfl ?_
          refine w_iconst (p := 86) (v := nI 1) (pI pM_59 rfl) rfl rfl ?_
          refine w_icmp_ne (p := 89) (q := 105) (pI pM_59 rfl) rfl rfl rfl (fun c => ?_) (fun c => ?_)
          · replace k := itn c k
            refine w_iload_n (p := 106) (pI pM_59 rfl) rfl rfl ?_
            refine w_static (p := 109) (mj := 60) (pI pM_59 rfl) rfl rfl rfl rfl rfl rfl rfl rfl rfl ?_
            refine d60_takesAnySort (D60_takesAnySort_mono k (fun v5 k => ?_))
            refine w_if_ne (p := 112) (q := 126) (pI pM_59 rfl) rfl rfl rfl (fun c => ?_) (fun c => ?_)
            · replace k := itn c k
              refine w_iconst (p := 127) (v := nI 0) (pI pM_59 rfl) rfl rfl ?_
              exact w_ireturn (pI pM_59 rfl) rfl rfl rfl k
            · replace k := itp (Decidable.not_not.mp c) k
              refine w_aload_n (p := 113) (pI pM_59 rfl) rfl rfl ?_
              refine w_iload_n (p := 114) (pI pM_59 rfl) rfl rfl ?_
              refine w_iload (p := 116) (pI pM_59 rfl) rfl rfl ?_
              refine w_static (p := 119) (mj := 61) (pI pM_59 rfl) rfl rfl rfl rfl rfl rfl rfl rfl rfl ?_
              refine d61_hasWrongSort h_w (D61_hasWrongSort_mono k (fun v6 k => ?_))
              refine w_if_eq (p := 122) (q := 126) (pI pM_59 rfl) rfl rfl rfl (fun c => ?_) (fun c => ?_)
              · replace k := itp c k
                refine w_iconst (p := 127) (v := nI 0) (pI pM_59 rfl) rfl rfl ?_
                exact w_ireturn (pI pM_59 rfl) rfl rfl rfl k
              · replace k := itn c k
                refine w_iconst (p := 123) (v := nI 1) (pI pM_59 rfl) rfl rfl ?_
                refine w_goto (p := 127) (pI pM_59 rfl) rfl rfl ?_
                exact w_ireturn (pI pM_59 rfl) rfl rfl rfl k
          · replace k := itp (Decidable.not_not.mp c) k
            refine w_aload_n (p := 90) (pI pM_59 rfl) rfl rfl ?_
            refine w_iload_n (p := 91) (pI pM_59 rfl) rfl rfl ?_
            refine v_virtual (p := 94) (mj := 137) (pI pM_59 rfl) rfl rfl rfl rfl rfl rfl rfl rfl rfl rfl (isW.ge h_w 0) (isW.lt h_w 0 (by decide)) (isW.sk h_w 0 (by decide)) ?_
            refine d137_localAt h_w (D137_localAt_mono k (fun v7 k => ?_))
            refine w_bipush (p := 96) (v := -100) (pI pM_59 rfl) rfl rfl ?_
            refine w_icmp_ne (p := 99) (q := 103) (pI pM_59 rfl) rfl rfl rfl (fun c => ?_) (fun c => ?_)
            · replace k := itn c k
              refine w_iconst (p := 104) (v := nI 0) (pI pM_59 rfl) rfl rfl ?_
              exact w_ireturn (pI pM_59 rfl) rfl rfl rfl k
            · replace k := itp (Decidable.not_not.mp c) k
              refine w_iconst (p := 100) (v := nI 1) (pI pM_59 rfl) rfl rfl ?_
              refine w_goto (p := 104) (pI pM_59 rfl) rfl rfl ?_
              exact w_ireturn (pI pM_59 rfl) rfl rfl rfl k
        · replace k := itp (Int32.not_le.mp c) k
          refine w_iconst (p := 83) (v := nI 1) (pI pM_59 rfl) rfl rfl ?_
          exact w_ireturn (pI pM_59 rfl) rfl rfl rfl k
    · replace k := itp (Decidable.not_not.mp c) k
      refine w_aload_n (p := 33) (pI pM_59 rfl) rfl rfl ?_
      refine v_getR (p := 36) (kf := 0) (pI pM_59 rfl) rfl rfl rfl (by decide) (by decide) rfl rfl ?_
      refine w_iload_n (p := 37) (pI pM_59 rfl) rfl rfl ?_
      refine v_virtual (p := 40) (mj := 84) (pI pM_59 rfl) rfl rfl rfl rfl rfl rfl rfl rfl rfl rfl (by decide) (by decide) rfl ?_
      refine d84_canBeCalled (D84_canBeCalled_mono k (fun v8 k => ?_))
      refine w_if_ne (p := 43) (q := 45) (pI pM_59 rfl) rfl rfl rfl (fun c => ?_) (fun c => ?_)
      · replace k := itn c k
        refine w_aload_n (p := 46) (pI pM_59 rfl) rfl rfl ?_
        refine v_getR (p := 49) (kf := 0) (pI pM_59 rfl) rfl rfl rfl (by decide) (by decide) rfl rfl ?_
        refine w_iload_n (p := 50) (pI pM_59 rfl) rfl rfl ?_
        refine v_virtual (p := 53) (mj := 85) (pI pM_59 rfl) rfl rfl rfl rfl rfl rfl rfl rfl rfl rfl (by decide) (by decide) rfl ?_
        refine d85_argumentsOf (D85_argumentsOf_mono k (fun v9 k => ?_))
        refine w_istore (p := 55) (pI pM_59 rfl) rfl rfl rfl ?_
        refine w_iconst (p := 56) (v := nI 1) (pI pM_59 rfl) rfl rfl ?_
        refine w_istore (p := 58) (pI pM_59 rfl) rfl rfl rfl ?_
        refine w_aload_n (p := 59) (pI pM_59 rfl) rfl rfl ?_
        refine v_virtual (p := 62) (mj := 136) (pI pM_59 rfl) rfl rfl rfl rfl rfl rfl rfl rfl rfl rfl (isW.ge h_w 0) (isW.lt h_w 0 (by decide)) (isW.sk h_w 0 (by decide)) ?_
        refine d136_height h_w (D136_height_mono k (fun v10 k => ?_))
        refine w_iload (p := 64) (pI pM_59 rfl) rfl rfl ?_
        refine w_icmp_lt (p := 67) (q := 82) (pI pM_59 rfl) rfl rfl rfl (fun c => ?_) (fun c => ?_)
        · replace k := itp c k
          refine w_iconst (p := 83) (v := nI 1) (pI pM_59 rfl) rfl rfl ?_
          exact w_ireturn (pI pM_59 rfl) rfl rfl rfl k
        · replace k := itn c k
          refine w_aload_n (p := 68) (pI pM_59 rfl) rfl rfl ?_
          refine v_virtual (p := 71) (mj := 136) (pI pM_59 rfl) rfl rfl rfl rfl rfl rfl rfl rfl rfl rfl (isW.ge h_w 0) (isW.lt h_w 0 (by decide)) (isW.sk h_w 0 (by decide)) ?_
          refine d136_height h_w (D136_height_mono k (fun v11 k => ?_))
          refine w_iload (p := 73) (pI pM_59 rfl) rfl rfl ?_
          refine w_isub (p := 74) (pI pM_59 rfl) rfl ?_
          refine w_iload (p := 76) (pI pM_59 rfl) rfl rfl ?_
          refine w_iadd (p := 77) (pI pM_59 rfl) rfl ?_
          refine w_bipush (p := 79) (v := nI 12) (pI pM_59 rfl) rfl rfl ?_
          refine w_icmp_le (p := 82) (q := 84) (pI pM_59 rfl) rfl rfl rfl (fun c => ?_) (fun c => ?_)
          · replace k := itn (Int32.not_lt.mpr c) k
            refine w_iload_n (p := 85) (pI pM_59 rfl) rfl rfl ?_
            refine w_iconst (p := 86) (v := nI 1) (pI pM_59 rfl) rfl rfl ?_
            refine w_icmp_ne (p := 89) (q := 105) (pI pM_59 rfl) rfl rfl rfl (fun c => ?_) (fun c => ?_)
            · replace k := itn c k
              refine w_iload_n (p := 106) (pI pM_59 rfl) rfl rfl ?_
              refine w_static (p := 109) (mj := 60) (pI pM_59 rfl) rfl rfl rfl rfl rfl rfl rfl rfl rfl ?_
              refine d60_takesAnySort (D60_takesAnySort_mono k (fun v12 k => ?_))
              refine w_if_ne (p := 112) (q := 126) (pI pM_59 rfl) rfl rfl rfl (fun c => ?_) (fun c => ?_)
              · replace k := itn c k
                refine w_iconst (p := 127) (v := nI 0) (pI pM_59 rfl) rfl rfl ?_
                exact w_ireturn (pI pM_59 rfl) rfl rfl rfl k
              · replace k := itp (Decidable.not_not.mp c) k
                refine w_aload_n (p := 113) (pI pM_59 rfl) rfl rfl ?_
                refine w_iload_n (p := 114) (pI pM_59 rfl) rfl rfl ?_
                refine w_iload (p := 116) (pI pM_59 rfl) rfl rfl ?_
                refine w_static (p := 119) (mj := 61) (pI pM_59 rfl) rfl rfl rfl rfl rfl rfl rfl rfl rfl ?_
                refine d61_hasWrongSort h_w (D61_hasWrongSort_mono k (fun v13 k => ?_))
                refine w_if_eq (p := 122) (q := 126) (pI pM_59 rfl) rfl rfl rfl (fun c => ?_) (fun c => ?_)
                · replace k := itp c k
                  refine w_iconst (p := 127) (v := nI 0) (pI pM_59 rfl) rfl rfl ?_
                  exact w_ireturn (pI pM_59 rfl) rfl rfl rfl k
                · replace k := itn c k
                  refine w_iconst (p := 123) (v := nI 1) (pI pM_59 rfl) rfl rfl ?_
                  refine w_goto (p := 127) (pI pM_59 rfl) rfl rfl ?_
                  exact w_ireturn (pI pM_59 rfl) rfl rfl rfl k
            · replace k := itp (Decidable.not_not.mp c) k
              refine w_aload_n (p := 90) (pI pM_59 rfl) rfl rfl ?_
              refine w_iload_n (p := 91) (pI pM_59 rfl) rfl rfl ?_
              refine v_virtual (p := 94) (mj := 137) (pI pM_59 rfl) rfl rfl rfl rfl rfl rfl rfl rfl rfl rfl (isW.ge h_w 0) (isW.lt h_w 0 (by decide)) (isW.sk h_w 0 (by decide)) ?_
              refine d137_localAt h_w (D137_localAt_mono k (fun v14 k => ?_))
              refine w_bipush (p := 96) (v := -100) (pI pM_59 rfl) rfl rfl ?_
              refine w_icmp_ne (p := 99) (q := 103) (pI pM_59 rfl) rfl rfl rfl (fun c => ?_) (fun c => ?_)
              · replace k := itn c k
                refine w_iconst (p := 104) (v := nI 0) (pI pM_59 rfl) rfl rfl ?_
                exact w_ireturn (pI pM_59 rfl) rfl rfl rfl k
              · replace k := itp (Decidable.not_not.mp c) k
                refine w_iconst (p := 100) (v := nI 1) (pI pM_59 rfl) rfl rfl ?_
                refine w_goto (p := 104) (pI pM_59 rfl) rfl rfl ?_
                exact w_ireturn (pI pM_59 rfl) rfl rfl rfl k
          · replace k := itp (Int32.not_le.mp c) k
            refine w_iconst (p := 83) (v := nI 1) (pI pM_59 rfl) rfl rfl ?_
            exact w_ireturn (pI pM_59 rfl) rfl rfl rfl k
      · replace k := itp (Decidable.not_not.mp c) k
        refine w_iconst (p := 44) (v := nI 1) (pI pM_59 rfl) rfl rfl ?_
        exact w_ireturn (pI pM_59 rfl) rfl rfl rfl k
  · replace k := itp (Decidable.not_not.mp c) k
    refine w_iload_n (p := 7) (pI pM_59 rfl) rfl rfl ?_
    refine w_if_eq (p := 10) (q := 12) (pI pM_59 rfl) rfl rfl rfl (fun c => ?_) (fun c => ?_)
    · replace k := itp c k
      refine w_getstatic (p := 15) (x := 1) (pI pM_59 rfl) rfl rfl rfl ?_
      refine w_iload_n (p := 16) (pI pM_59 rfl) rfl rfl ?_
      obtain ⟨s15, k⟩ := k
      refine v_iald (p := 17) (pI pM_59 rfl) rfl (by decide) rfl s15 rfl ?_
      refine w_istore (p := 19) (pI pM_59 rfl) rfl rfl rfl ?_
      refine w_getstatic (p := 22) (x := 2) (pI pM_59 rfl) rfl rfl rfl ?_
      refine w_iload_n (p := 23) (pI pM_59 rfl) rfl rfl ?_
      obtain ⟨s16, k⟩ := k
      refine v_iald (p := 24) (pI pM_59 rfl) rfl (by decide) rfl s16 rfl ?_
      refine w_istore (p := 26) (pI pM_59 rfl) rfl rfl rfl ?_
      refine w_iload_n (p := 27) (pI pM_59 rfl) rfl rfl ?_
      refine w_bipush (p := 29) (v := nI 25) (pI pM_59 rfl) rfl rfl ?_
      refine w_icmp_ne (p := 32) (q := 58) (pI pM_59 rfl) rfl rfl rfl (fun c => ?_) (fun c => ?_)
      · replace k := itn c k
        refine w_aload_n (p := 59) (pI pM_59 rfl) rfl rfl ?_
        refine v_virtual (p := 62) (mj := 136) (pI pM_59 rfl) rfl rfl rfl rfl rfl rfl rfl rfl rfl rfl (isW.ge h_w 0) (isW.lt h_w 0 (by decide)) (isW.sk h_w 0 (by decide)) ?_
        refine d136_height h_w (D136_height_mono k (fun v17 k => ?_))
        refine w_iload (p := 64) (pI pM_59 rfl) rfl rfl ?_
        refine w_icmp_lt (p := 67) (q := 82) (pI pM_59 rfl) rfl rfl rfl (fun c => ?_) (fun c => ?_)
        · replace k := itp c k
          refine w_iconst (p := 83) (v := nI 1) (pI pM_59 rfl) rfl rfl ?_
          exact w_ireturn (pI pM_59 rfl) rfl rfl rfl k
        · replace k := itn c k
          refine w_aload_n (p := 68) (pI pM_59 rfl) rfl rfl ?_
          refine v_virtual (p := 71) (mj := 136) (pI pM_59 rfl) rfl rfl rfl rfl rfl rfl rfl rfl rfl rfl (isW.ge h_w 0) (isW.lt h_w 0 (by decide)) (isW.sk h_w 0 (by decide)) ?_
          refine d136_height h_w (D136_height_mono k (fun v18 k => ?_))
          refine w_iload (p := 73) (pI pM_59 rfl) rfl rfl ?_
          refine w_isub (p := 74) (pI pM_59 rfl) rfl ?_
          refine w_iload (p := 76) (pI pM_59 rfl) rfl rfl ?_
          refine w_iadd (p := 77) (pI pM_59 rfl) rfl ?_
          refine w_bipush (p := 79) (v := nI 12) (pI pM_59 rfl) rfl rfl ?_
          refine w_icmp_le (p := 82) (q := 84) (pI pM_59 rfl) rfl rfl rfl (fun c => ?_) (fun c => ?_)
          · replace k := itn (Int32.not_lt.mpr c) k
            refine w_iload_n (p := 85) (pI pM_59 rfl) rfl rfl ?_
            refine w_iconst (p := 86) (v := nI 1) (pI pM_59 rfl) rfl rfl ?_
            refine w_icmp_ne (p := 89) (q := 105) (pI pM_59 rfl) rfl rfl rfl (fun c => ?_) (fun c => ?_)
            · replace k := itn c k
              refine w_iload_n (p := 106) (pI pM_59 rfl) rfl rfl ?_
              refine w_static (p := 109) (mj := 60) (pI pM_59 rfl) rfl rfl rfl rfl rfl rfl rfl rfl rfl ?_
              refine d60_takesAnySort (D60_takesAnySort_mono k (fun v19 k => ?_))
              refine w_if_ne (p := 112) (q := 126) (pI pM_59 rfl) rfl rfl rfl (fun c => ?_) (fun c => ?_)
              · replace k := itn c k
                refine w_iconst (p := 127) (v := nI 0) (pI pM_59 rfl) rfl rfl ?_
                exact w_ireturn (pI pM_59 rfl) rfl rfl rfl k
              · replace k := itp (Decidable.not_not.mp c) k
                refine w_aload_n (p := 113) (pI pM_59 rfl) rfl rfl ?_
                refine w_iload_n (p := 114) (pI pM_59 rfl) rfl rfl ?_
                refine w_iload (p := 116) (pI pM_59 rfl) rfl rfl ?_
                refine w_static (p := 119) (mj := 61) (pI pM_59 rfl) rfl rfl rfl rfl rfl rfl rfl rfl rfl ?_
                refine d61_hasWrongSort h_w (D61_hasWrongSort_mono k (fun v20 k => ?_))
                refine w_if_eq (p := 122) (q := 126) (pI pM_59 rfl) rfl rfl rfl (fun c => ?_) (fun c => ?_)
                · replace k := itp c k
                  refine w_iconst (p := 127) (v := nI 0) (pI pM_59 rfl) rfl rfl ?_
                  exact w_ireturn (pI pM_59 rfl) rfl rfl rfl k
                · replace k := itn c k
                  refine w_iconst (p := 123) (v := nI 1) (pI pM_59 rfl) rfl rfl ?_
                  refine w_goto (p := 127) (pI pM_59 rfl) rfl rfl ?_
                  exact w_ireturn (pI pM_59 rfl) rfl rfl rfl k
            · replace k := itp (Decidable.not_not.mp c) k
              refine w_aload_n (p := 90) (pI pM_59 rfl) rfl rfl ?_
              refine w_iload_n (p := 91) (pI pM_59 rfl) rfl rfl ?_
              refine v_virtual (p := 94) (mj := 137) (pI pM_59 rfl) rfl rfl rfl rfl rfl rfl rfl rfl rfl rfl (isW.ge h_w 0) (isW.lt h_w 0 (by decide)) (isW.sk h_w 0 (by decide)) ?_
              refine d137_localAt h_w (D137_localAt_mono k (fun v21 k => ?_))
              refine w_bipush (p := 96) (v := -100) (pI pM_59 rfl) rfl rfl ?_
              refine w_icmp_ne (p := 99) (q := 103) (pI pM_59 rfl) rfl rfl rfl (fun c => ?_) (fun c => ?_)
              · replace k := itn c k
                refine w_iconst (p := 104) (v := nI 0) (pI pM_59 rfl) rfl rfl ?_
                exact w_ireturn (pI pM_59 rfl) rfl rfl rfl k
              · replace k := itp (Decidable.not_not.mp c) k
                refine w_iconst (p := 100) (v := nI 1) (pI pM_59 rfl) rfl rfl ?_
                refine w_goto (p := 104) (pI pM_59 rfl) rfl rfl ?_
                exact w_ireturn (pI pM_59 rfl) rfl rfl rfl k
          · replace k := itp (Int32.not_le.mp c) k
            refine w_iconst (p := 83) (v := nI 1) (pI pM_59 rfl) rfl rfl ?_
            exact w_ireturn (pI pM_59 rfl) rfl rfl rfl k
      · replace k := itp (Decidable.not_not.mp c) k
        refine w_aload_n (p := 33) (pI pM_59 rfl) rfl rfl ?_
        refine v_getR (p := 36) (kf := 0) (pI pM_59 rfl) rfl rfl rfl (by decide) (by decide) rfl rfl ?_
        refine w_iload_n (p := 37) (pI pM_59 rfl) rfl rfl ?_
        refine v_virtual (p := 40) (mj := 84) (pI pM_59 rfl) rfl rfl rfl rfl rfl rfl rfl rfl rfl rfl (by decide) (by decide) rfl ?_
        refine d84_canBeCalled (D84_canBeCalled_mono k (fun v22 k => ?_))
        refine w_if_ne (p := 43) (q := 45) (pI pM_59 rfl) rfl rfl rfl (fun c => ?_) (fun c => ?_)
        · replace k := itn c k
          refine w_aload_n (p := 46) (pI pM_59 rfl) rfl rfl ?_
          refine v_getR (p := 49) (kf := 0) (pI pM_59 rfl) rfl rfl rfl (by decide) (by decide) rfl rfl ?_
          refine w_iload_n (p := 50) (pI pM_59 rfl) rfl rfl ?_
          refine v_virtual (p := 53) (mj := 85) (pI pM_59 rfl) rfl rfl rfl rfl rfl rfl rfl rfl rfl rfl (by decide) (by decide) rfl ?_
          refine d85_argumentsOf (D85_argumentsOf_mono k (fun v23 k => ?_))
          refine w_istore (p := 55) (pI pM_59 rfl) rfl rfl rfl ?_
          refine w_iconst (p := 56) (v := nI 1) (pI pM_59 rfl) rfl rfl ?_
          refine w_istore (p := 58) (pI pM_59 rfl) rfl rfl rfl ?_
          refine w_aload_n (p := 59) (pI pM_59 rfl) rfl rfl ?_
          refine v_virtual (p := 62) (mj := 136) (pI pM_59 rfl) rfl rfl rfl rfl rfl rfl rfl rfl rfl rfl (isW.ge h_w 0) (isW.lt h_w 0 (by decide)) (isW.sk h_w 0 (by decide)) ?_
          refine d136_height h_w (D136_height_mono k (fun v24 k => ?_))
          refine w_iload (p := 64) (pI pM_59 rfl) rfl rfl ?_
          refine w_icmp_lt (p := 67) (q := 82) (pI pM_59 rfl) rfl rfl rfl (fun c => ?_) (fun c => ?_)
          · replace k := itp c k
            refine w_iconst (p := 83) (v := nI 1) (pI pM_59 rfl) rfl rfl ?_
            exact w_ireturn (pI pM_59 rfl) rfl rfl rfl k
          · replace k := itn c k
            refine w_aload_n (p := 68) (pI pM_59 rfl) rfl rfl ?_
            refine v_virtual (p := 71) (mj := 136) (pI pM_59 rfl) rfl rfl rfl rfl rfl rfl rfl rfl rfl rfl (isW.ge h_w 0) (isW.lt h_w 0 (by decide)) (isW.sk h_w 0 (by decide)) ?_
            refine d136_height h_w (D136_height_mono k (fun v25 k => ?_))
            refine w_iload (p := 73) (pI pM_59 rfl) rfl rfl ?_
            refine w_isub (p := 74) (pI pM_59 rfl) rfl ?_
            refine w_iload (p := 76) (pI pM_59 rfl) rfl rfl ?_
            refine w_iadd (p := 77) (pI pM_59 rfl) rfl ?_
            refine w_bipush (p := 79) (v := nI 12) (pI pM_59 rfl) rfl rfl ?_
            refine w_icmp_le (p := 82) (q := 84) (pI pM_59 rfl) rfl rfl rfl (fun c => ?_) (fun c => ?_)
            · replace k := itn (Int32.not_lt.mpr c) k
              refine w_iload_n (p := 85) (pI pM_59 rfl) rfl rfl ?_
              refine w_iconst (p := 86) (v := nI 1) (pI pM_59 rfl) rfl rfl ?_
              refine w_icmp_ne (p := 89) (q := 105) (pI pM_59 rfl) rfl rfl rfl (fun c => ?_) (fun c => ?_)
              · replace k := itn c k
                refine w_iload_n (p := 106) (pI pM_59 rfl) rfl rfl ?_
                refine w_static (p := 109) (mj := 60) (pI pM_59 rfl) rfl rfl rfl rfl rfl rfl rfl rfl rfl ?_
                refine d60_takesAnySort (D60_takesAnySort_mono k (fun v26 k => ?_))
                refine w_if_ne (p := 112) (q := 126) (pI pM_59 rfl) rfl rfl rfl (fun c => ?_) (fun c => ?_)
                · replace k := itn c k
                  refine w_iconst (p := 127) (v := nI 0) (pI pM_59 rfl) rfl rfl ?_
                  exact w_ireturn (pI pM_59 rfl) rfl rfl rfl k
                · replace k := itp (Decidable.not_not.mp c) k
                  refine w_aload_n (p := 113) (pI pM_59 rfl) rfl rfl ?_
                  refine w_iload_n (p := 114) (pI pM_59 rfl) rfl rfl ?_
                  refine w_iload (p := 116) (pI pM_59 rfl) rfl rfl ?_
                  refine w_static (p := 119) (mj := 61) (pI pM_59 rfl) rfl rfl rfl rfl rfl rfl rfl rfl rfl ?_
                  refine d61_hasWrongSort h_w (D61_hasWrongSort_mono k (fun v27 k => ?_))
                  refine w_if_eq (p := 122) (q := 126) (pI pM_59 rfl) rfl rfl rfl (fun c => ?_) (fun c => ?_)
                  · replace k := itp c k
                    refine w_iconst (p := 127) (v := nI 0) (pI pM_59 rfl) rfl rfl ?_
                    exact w_ireturn (pI pM_59 rfl) rfl rfl rfl k
                  · replace k := itn c k
                    refine w_iconst (p := 123) (v := nI 1) (pI pM_59 rfl) rfl rfl ?_
                    refine w_goto (p := 127) (pI pM_59 rfl) rfl rfl ?_
                    exact w_ireturn (pI pM_59 rfl) rfl rfl rfl k
              · replace k := itp (Decidable.not_not.mp c) k
                refine w_aload_n (p := 90) (pI pM_59 rfl) rfl rfl ?_
                refine w_iload_n (p := 91) (pI pM_59 rfl) rfl rfl ?_
                refine v_virtual (p := 94) (mj := 137) (pI pM_59 rfl) rfl rfl rfl rfl rfl rfl rfl rfl rfl rfl (isW.ge h_w 0) (isW.lt h_w 0 (by decide)) (isW.sk h_w 0 (by decide)) ?_
                refine d137_localAt h_w (D137_localAt_mono k (fun v28 k => ?_))
                refine w_bipush (p := 96) (v := -100) (pI pM_59 rfl) rfl rfl ?_
                refine w_icmp_ne (p := 99) (q := 103) (pI pM_59 rfl) rfl rfl rfl (fun c => ?_) (fun c => ?_)
                · replace k := itn c k
                  refine w_iconst (p := 104) (v := nI 0) (pI pM_59 rfl) rfl rfl ?_
                  exact w_ireturn (pI pM_59 rfl) rfl rfl rfl k
                · replace k := itp (Decidable.not_not.mp c) k
                  refine w_iconst (p := 100) (v := nI 1) (pI pM_59 rfl) rfl rfl ?_
                  refine w_goto (p := 104) (pI pM_59 rfl) rfl rfl ?_
                  exact w_ireturn (pI pM_59 rfl) rfl rfl rfl k
            · replace k := itp (Int32.not_le.mp c) k
              refine w_iconst (p := 83) (v := nI 1) (pI pM_59 rfl) rfl rfl ?_
              exact w_ireturn (pI pM_59 rfl) rfl rfl rfl k
        · replace k := itp (Decidable.not_not.mp c) k
          refine w_iconst (p := 44) (v := nI 1) (pI pM_59 rfl) rfl rfl ?_
          exact w_ireturn (pI pM_59 rfl) rfl rfl rfl k
    · replace k := itn c k
      refine w_iconst (p := 11) (v := nI 0) (pI pM_59 rfl) rfl rfl ?_
      exact w_ireturn (pI pM_59 rfl) rfl rfl rfl k
set_option maxRecDepth 100000 in
set_option maxHeartbeats 4000000 in
theorem d62_isDecided {d L : Nat} {x : Int32} {A I : HA} {Q : bm_Q} (k : D62_isDecided x (fun v => Q (some (.int v)) (hp L A I))) : bm_M (d + 1) 62 [.int x] (hp L A I) Q := by
  unfold D62_isDecided at k
  refine bw_enter rfl rfl rfl rfl ?_
  refine w_iload_n (p := 1) (pI pM_62 rfl) rfl rfl ?_
  refine w_bipush (p := 3) (v := nI 18) (pI pM_62 rfl) rfl rfl ?_
  refine w_icmp_eq (p := 6) (q := 42) (pI pM_62 rfl) rfl rfl rfl (fun c => ?_) (fun c => ?_)
  · replace k := itp c k
    refine w_iconst (p := 43) (v := nI 1) (pI pM_62 rfl) rfl rfl ?_
    refine w_goto (p := 47) (pI pM_62 rfl) rfl rfl ?_
    exact w_ireturn (pI pM_62 rfl) rfl rfl rfl k
  · replace k := itn c k
    refine w_iload_n (p := 7) (pI pM_62 rfl) rfl rfl ?_
    refine w_bipush (p := 9) (v := nI 19) (pI pM_62 rfl) rfl rfl ?_
    refine w_icmp_eq (p := 12) (q := 42) (pI pM_62 rfl) rfl rfl rfl (fun c => ?_) (fun c => ?_)
    · replace k := itp c k
      refine w_iconst (p := 43) (v := nI 1) (pI pM_62 rfl) rfl rfl ?_
      refine w_goto (p := 47) (pI pM_62 rfl) rfl rfl ?_
      exact w_ireturn (pI pM_62 rfl) rfl rfl rfl k
    · replace k := itn c k
      refine w_iload_n (p := 13) (pI pM_62 rfl) rfl rfl ?_
      refine w_bipush (p := 15) (v := nI 9) (pI pM_62 rfl) rfl rfl ?_
      refine w_icmp_eq (p := 18) (q := 42) (pI pM_62 rfl) rfl rfl rfl (fun c => ?_) (fun c => ?_)
      · replace k := itp c k
        refine w_iconst (p := 43) (v := nI 1) (pI pM_62 rfl) rfl rfl ?_
        refine w_goto (p := 47) (pI pM_62 rfl) rfl rfl ?_
        exact w_ireturn (pI pM_62 rfl) rfl rfl rfl k
      · replace k := itn c k
        refine w_iload_n (p := 19) (pI pM_62 rfl) rfl rfl ?_
        refine w_bipush (p := 21) (v := nI 10) (pI pM_62 rfl) rfl rfl ?_
        refine w_icmp_eq (p := 24) (q := 42) (pI pM_62 rfl) rfl rfl rfl (fun c => ?_) (fun c => ?_)
        · replace k := itp c k
          refine w_iconst (p := 43) (v := nI 1) (pI pM_62 rfl) rfl rfl ?_
          refine w_goto (p := 47) (pI pM_62 rfl) rfl rfl ?_
          exact w_ireturn (pI pM_62 rfl) rfl rfl rfl k
        · replace k := itn c k
          refine w_iload_n (p := 25) (pI pM_62 rfl) rfl rfl ?_
          refine w_bipush (p := 27) (v := nI 22) (pI pM_62 rfl) rfl rfl ?_
          refine w_icmp_eq (p := 30) (q := 42) (pI pM_62 rfl) rfl rfl rfl (fun c => ?_) (fun c => ?_)
          · replace k := itp c k
            refine w_iconst (p := 43) (v := nI 1) (pI pM_62 rfl) rfl rfl ?_
            refine w_goto (p := 47) (pI pM_62 rfl) rfl rfl ?_
            exact w_ireturn (pI pM_62 rfl) rfl rfl rfl k
          · replace k := itn c k
            refine w_iload_n (p := 31) (pI pM_62 rfl) rfl rfl ?_
            refine w_bipush (p := 33) (v := nI 23) (pI pM_62 rfl) rfl rfl ?_
            refine w_icmp_eq (p := 36) (q := 42) (pI pM_62 rfl) rfl rfl rfl (fun c => ?_) (fun c => ?_)
            · replace k := itp c k
              refine w_iconst (p := 43) (v := nI 1) (pI pM_62 rfl) rfl rfl ?_
              refine w_goto (p := 47) (pI pM_62 rfl) rfl rfl ?_
              exact w_ireturn (pI pM_62 rfl) rfl rfl rfl k
            · replace k := itn c k
              refine w_iload_n (p := 37) (pI pM_62 rfl) rfl rfl ?_
              refine w_bipush (p := 39) (v := nI 21) (pI pM_62 rfl) rfl rfl ?_
              refine w_icmp_ne (p := 42) (q := 46) (pI pM_62 rfl) rfl rfl rfl (fun c => ?_) (fun c => ?_)
              · replace k := itn c k
                refine w_iconst (p := 47) (v := nI 0) (pI pM_62 rfl) rfl rfl ?_
                exact w_ireturn (pI pM_62 rfl) rfl rfl rfl k
              · replace k := itp (Decidable.not_not.mp c) k
                refine w_iconst (p := 43) (v := nI 1) (pI pM_62 rfl) rfl rfl ?_
                refine w_goto (p := 47) (pI pM_62 rfl) rfl rfl ?_
                exact w_ireturn (pI pM_62 rfl) rfl rfl rfl k
set_option maxRecDepth 100000 in
set_option maxHeartbeats 4000000 in
theorem d64_compares {d L : Nat} {x : Int32} {A I : HA} {Q : bm_Q} (k : D64_compares x (fun v => Q (some (.int v)) (hp L A I))) : bm_M (d + 1) 64 [.int x] (hp L A I) Q := by
  unfold D64_compares at k
  refine bw_enter rfl rfl rfl rfl ?_
  refine w_iload_n (p := 1) (pI pM_64 rfl) rfl rfl ?_
  refine w_bipush (p := 3) (v := nI 18) (pI pM_64 rfl) rfl rfl ?_
  refine w_icmp_eq (p := 6) (q := 12) (pI pM_64 rfl) rfl rfl rfl (fun c => ?_) (fun c => ?_)
  · replace k := itp c k
    refine w_iconst (p := 13) (v := nI 1) (pI pM_64 rfl) rfl rfl ?_
    refine w_goto (p := 17) (pI pM_64 rfl) rfl rfl ?_
    exact w_ireturn (pI pM_64 rfl) rfl rfl rfl k
  · replace k := itn c k
    refine w_iload_n (p := 7) (pI pM_64 rfl) rfl rfl ?_
    refine w_bipush (p := 9) (v := nI 19) (pI pM_64 rfl) rfl rfl ?_
    refine w_icmp_ne (p := 12) (q := 16) (pI pM_64 rfl) rfl rfl rfl (fun c => ?_) (fun c => ?_)
    · replace k := itn c k
      refine w_iconst (p := 17) (v := nI 0) (pI pM_64 rfl) rfl rfl ?_
      exact w_ireturn (pI pM_64 rfl) rfl rfl rfl k
    · replace k := itp (Decidable.not_not.mp c) k
      refine w_iconst (p := 13) (v := nI 1) (pI pM_64 rfl) rfl rfl ?_
      refine w_goto (p := 17) (pI pM_64 rfl) rfl rfl ?_
      exact w_ireturn (pI pM_64 rfl) rfl rfl rfl k
set_option maxRecDepth 100000 in
set_option maxHeartbeats 4000000 in
theorem d63_leftOf {d L : Nat} {w : Nat} {x : Int32} {A I : HA} {Q : bm_Q} (h_w : isW w) (k : D63_leftOf w x A I (fun v => Q (some (.int v)) (hp L A I))) : bm_M (d + 2) 63 [.ref w, .int x] (hp L A I) Q := by
  unfold D63_leftOf at k
  refine bw_enter rfl rfl rfl rfl ?_
  refine w_aload_n (p := 1) (pI pM_63 rfl) rfl rfl ?_
  refine w_iload_n (p := 2) (pI pM_63 rfl) rfl rfl ?_
  refine w_static (p := 5) (mj := 64) (pI pM_63 rfl) rfl rfl rfl rfl rfl rfl rfl rfl rfl ?_
  refine d64_compares (D64_compares_mono k (fun v1 k => ?_))
  refine w_if_ne (p := 8) (q := 14) (pI pM_63 rfl) rfl rfl rfl (fun c => ?_) (fun c => ?_)
  · replace k := itn c k
    refine w_iconst (p := 15) (v := nI 1) (pI pM_63 rfl) rfl rfl ?_
    refine w_goto (p := 19) (pI pM_63 rfl) rfl rfl ?_
    refine v_virtual (p := 22) (mj := 122) (pI pM_63 rfl) rfl rfl rfl rfl rfl rfl rfl rfl rfl rfl (isW.ge h_w 0) (isW.lt h_w 0 (by decide)) (isW.sk h_w 0 (by decide)) ?_
    refine d122_peek h_w (D122_peek_mono k (fun v2 k => ?_))
    exact w_ireturn (pI pM_63 rfl) rfl rfl rfl k
  · replace k := itp (Decidable.not_not.mp c) k
    refine w_iload_n (p := 9) (pI pM_63 rfl) rfl rfl ?_
    refine w_bipush (p := 11) (v := nI 23) (pI pM_63 rfl) rfl rfl ?_
    refine w_icmp_ne (p := 14) (q := 18) (pI pM_63 rfl) rfl rfl rfl (fun c => ?_) (fun c => ?_)
    · replace k := itn c k
      refine w_iconst (p := 19) (v := nI 0) (pI pM_63 rfl) rfl rfl ?_
      refine v_virtual (p := 22) (mj := 122) (pI pM_63 rfl) rfl rfl rfl rfl rfl rfl rfl rfl rfl rfl (isW.ge h_w 0) (isW.lt h_w 0 (by decide)) (isW.sk h_w 0 (by decide)) ?_
      refine d122_peek h_w (D122_peek_mono k (fun v3 k => ?_))
      exact w_ireturn (pI pM_63 rfl) rfl rfl rfl k
    · replace k := itp (Decidable.not_not.mp c) k
      refine w_iconst (p := 15) (v := nI 1) (pI pM_63 rfl) rfl rfl ?_
      refine w_goto (p := 19) (pI pM_63 rfl) rfl rfl ?_
      refine v_virtual (p := 22) (mj := 122) (pI pM_63 rfl) rfl rfl rfl rfl rfl rfl rfl rfl rfl rfl (isW.ge h_w 0) (isW.lt h_w 0 (by decide)) (isW.sk h_w 0 (by decide)) ?_
      refine d122_peek h_w (D122_peek_mono k (fun v4 k => ?_))
      exact w_ireturn (pI pM_63 rfl) rfl rfl rfl k
set_option maxRecDepth 100000 in
set_option maxHeartbeats 4000000 in
theorem d65_rightOf {d L : Nat} {w : Nat} {x : Int32} {A I : HA} {Q : bm_Q} (h_w : isW w) (k : D65_rightOf w x A I (fun v => Q (some (.int v)) (hp L A I))) : bm_M (d + 2) 65 [.ref w, .int x] (hp L A I) Q := by
  unfold D65_rightOf at k
  refine bw_enter rfl rfl rfl rfl ?_
  refine w_iload_n (p := 1) (pI pM_65 rfl) rfl rfl ?_
  refine w_static (p := 4) (mj := 64) (pI pM_65 rfl) rfl rfl rfl rfl rfl rfl rfl rfl rfl ?_
  refine d64_compares (D64_compares_mono k (fun v1 k => ?_))
  refine w_if_eq (p := 7) (q := 15) (pI pM_65 rfl) rfl rfl rfl (fun c => ?_) (fun c => ?_)
  · replace k := itp c k
    refine w_iconst (p := 16) (v := nI 0) (pI pM_65 rfl) rfl rfl ?_
    refine w_static (p := 19) (mj := 27) (pI pM_65 rfl) rfl rfl rfl rfl rfl rfl rfl rfl rfl ?_
    refine d27_number (D27_number_mono k (fun v2 k => ?_))
    exact w_ireturn (pI pM_65 rfl) rfl rfl rfl k
  · replace k := itn c k
    refine w_aload_n (p := 8) (pI pM_65 rfl) rfl rfl ?_
    refine w_iconst (p := 9) (v := nI 0) (pI pM_65 rfl) rfl rfl ?_
    refine v_virtual (p := 12) (mj := 122) (pI pM_65 rfl) rfl rfl rfl rfl rfl rfl rfl rfl rfl rfl (isW.ge h_w 0) (isW.lt h_w 0 (by decide)) (isW.sk h_w 0 (by decide)) ?_
    refine d122_peek h_w (D122_peek_mono k (fun v3 k => ?_))
    refine w_goto (p := 19) (pI pM_65 rfl) rfl rfl ?_
    exact w_ireturn (pI pM_65 rfl) rfl rfl rfl k
set_option maxRecDepth 100000 in
set_option maxHeartbeats 4000000 in
theorem d66_choose {d L : Nat} {x : Int32} {y : Int32} {z : Int32} {u1 : Int32} {A I : HA} {Q : bm_Q} (k : D66_choose x y z u1 (fun v => Q (some (.int v)) (hp L A I))) : bm_M (d + 1) 66 [.int x, .int y, .int z, .int u1] (hp L A I) Q := by
  unfold D66_choose at k
  refine bw_enter rfl rfl rfl rfl ?_
  refine w_iload_n (p := 1) (pI pM_66 rfl) rfl rfl ?_
  by_cases c1_9 : x = nI 9
  · replace k := itp c1_9 k
    refine w_table (p := 90) (off := 89) (pI pM_66 rfl) (sw_at c1_9 (by decide)) rfl rfl ?_
    refine w_iload_n (p := 91) (pI pM_66 rfl) rfl rfl ?_
    refine w_if_eq (p := 94) (q := 98) (pI pM_66 rfl) rfl rfl rfl (fun c => ?_) (fun c => ?_)
    · replace k := itp c k
      refine w_iconst (p := 99) (v := nI 1) (pI pM_66 rfl) rfl rfl ?_
      exact w_ireturn (pI pM_66 rfl) rfl rfl rfl k
    · replace k := itn c k
      refine w_iconst (p := 95) (v := nI 0) (pI pM_66 rfl) rfl rfl ?_
      refine w_goto (p := 99) (pI pM_66 rfl) rfl rfl ?_
      exact w_ireturn (pI pM_66 rfl) rfl rfl rfl k
  · replace k := itn c1_9 k
    by_cases c1_10 : x = nI 10
    · replace k := itp c1_10 k
      refine w_table (p := 90) (off := 89) (pI pM_66 rfl) (sw_at c1_10 (by decide)) rfl rfl ?_
      refine w_iload_n (p := 91) (pI pM_66 rfl) rfl rfl ?_
      refine w_if_eq (p := 94) (q := 98) (pI pM_66 rfl) rfl rfl rfl (fun c => ?_) (fun c => ?_)
      · replace k := itp c k
        refine w_iconst (p := 99) (v := nI 1) (pI pM_66 rfl) rfl rfl ?_
        exact w_ireturn (pI pM_66 rfl) rfl rfl rfl k
      · replace k := itn c k
        refine w_iconst (p := 95) (v := nI 0) (pI pM_66 rfl) rfl rfl ?_
        refine w_goto (p := 99) (pI pM_66 rfl) rfl rfl ?_
        exact w_ireturn (pI pM_66 rfl) rfl rfl rfl k
    · replace k := itn c1_10 k
      by_cases c1_18 : x = nI 18
      · replace k := itp c1_18 k
        refine w_table (p := 68) (off := 67) (pI pM_66 rfl) (sw_at c1_18 (by decide)) rfl rfl ?_
        refine w_iload_n (p := 69) (pI pM_66 rfl) rfl rfl ?_
        refine w_iload_n (p := 70) (pI pM_66 rfl) rfl rfl ?_
        refine w_icmp_ge (p := 73) (q := 77) (pI pM_66 rfl) rfl rfl rfl (fun c => ?_) (fun c => ?_)
        · replace k := itn (Int32.not_lt.mpr c) k
          refine w_iconst (p := 78) (v := nI 1) (pI pM_66 rfl) rfl rfl ?_
          exact w_ireturn (pI pM_66 rfl) rfl rfl rfl k
        · replace k := itp (Int32.not_le.mp c) k
          refine w_iconst (p := 74) (v := nI 0) (pI pM_66 rfl) rfl rfl ?_
          refine w_goto (p := 78) (pI pM_66 rfl) rfl rfl ?_
          exact w_ireturn (pI pM_66 rfl) rfl rfl rfl k
      · replace k := itn c1_18 k
        by_cases c1_19 : x = nI 19
        · replace k := itp c1_19 k
          refine w_table (p := 79) (off := 78) (pI pM_66 rfl) (sw_at c1_19 (by decide)) rfl rfl ?_
          refine w_iload_n (p := 80) (pI pM_66 rfl) rfl rfl ?_
          refine w_iload_n (p := 81) (pI pM_66 rfl) rfl rfl ?_
          refine w_icmp_ne (p := 84) (q := 88) (pI pM_66 rfl) rfl rfl rfl (fun c => ?_) (fun c => ?_)
          · replace k := itn c k
            refine w_iconst (p := 89) (v := nI 1) (pI pM_66 rfl) rfl rfl ?_
            exact w_ireturn (pI pM_66 rfl) rfl rfl rfl k
          · replace k := itp (Decidable.not_not.mp c) k
            refine w_iconst (p := 85) (v := nI 0) (pI pM_66 rfl) rfl rfl ?_
            refine w_goto (p := 89) (pI pM_66 rfl) rfl rfl ?_
            exact w_ireturn (pI pM_66 rfl) rfl rfl rfl k
        · replace k := itn c1_19 k
          by_cases c1_21 : x = nI 21
          · replace k := itp c1_21 k
            refine w_table (p := 100) (off := 99) (pI pM_66 rfl) (sw_at c1_21 (by decide)) rfl rfl ?_
            refine w_iload_n (p := 101) (pI pM_66 rfl) rfl rfl ?_
            refine w_if_ge (p := 104) (q := 107) (pI pM_66 rfl) rfl rfl rfl (fun c => ?_) (fun c => ?_)
            · replace k := itn (Int32.not_lt.mpr c) k
              refine w_iload_n (p := 108) (pI pM_66 rfl) rfl rfl ?_
              refine w_iconst (p := 109) (v := nI 5) (pI pM_66 rfl) rfl rfl ?_
              refine w_icmp_le (p := 112) (q := 117) (pI pM_66 rfl) rfl rfl rfl (fun c => ?_) (fun c => ?_)
              · replace k := itn (Int32.not_lt.mpr c) k
                refine w_iload_n (p := 118) (pI pM_66 rfl) rfl rfl ?_
                exact w_ireturn (pI pM_66 rfl) rfl rfl rfl k
              · replace k := itp (Int32.not_le.mp c) k
                refine w_bipush (p := 114) (v := nI 7) (pI pM_66 rfl) rfl rfl ?_
                refine w_goto (p := 118) (pI pM_66 rfl) rfl rfl ?_
                exact w_ireturn (pI pM_66 rfl) rfl rfl rfl k
            · replace k := itp (Int32.not_le.mp c) k
              refine w_bipush (p := 106) (v := nI 6) (pI pM_66 rfl) rfl rfl ?_
              exact w_ireturn (pI pM_66 rfl) rfl rfl rfl k
          · replace k := itn c1_21 k
            refine w_table (p := 119) (off := 118) (pI pM_66 rfl) (by have e9 := neT 9 (by decide) c1_9; have e10 := neT 10 (by decide) c1_10; have e18 := neT 18 (by decide) c1_18; have e19 := neT 19 (by decide) c1_19; have e21 := neT 21 (by decide) c1_21; exact sw_df (fun h1 h2 => by rcases (show (x).toInt = 11 ∨ (x).toInt = 12 ∨ (x).toInt = 13 ∨ (x).toInt = 14 ∨ (x).toInt = 15 ∨ (x).toInt = 16 ∨ (x).toInt = 17 ∨ (x).toInt = 20 by omega) with e | e | e | e | e | e | e | e <;> rw [e] <;> decide)) rfl rfl ?_
            refine w_iload_n (p := 120) (pI pM_66 rfl) rfl rfl ?_
            refine w_if_lt (p := 123) (q := 132) (pI pM_66 rfl) rfl rfl rfl (fun c => ?_) (fun c => ?_)
            · replace k := itp c k
              refine w_iload_n (p := 133) (pI pM_66 rfl) rfl rfl ?_
              exact w_ireturn (pI pM_66 rfl) rfl rfl rfl k
            · replace k := itn c k
              refine w_iload_n (p := 124) (pI pM_66 rfl) rfl rfl ?_
              refine w_iload_n (p := 125) (pI pM_66 rfl) rfl rfl ?_
              refine w_icmp_ge (p := 128) (q := 132) (pI pM_66 rfl) rfl rfl rfl (fun c => ?_) (fun c => ?_)
              · replace k := itn (Int32.not_lt.mpr c) k
                refine w_iload_n (p := 133) (pI pM_66 rfl) rfl rfl ?_
                exact w_ireturn (pI pM_66 rfl) rfl rfl rfl k
              · replace k := itp (Int32.not_le.mp c) k
                refine w_iload_n (p := 129) (pI pM_66 rfl) rfl rfl ?_
                refine w_goto (p := 133) (pI pM_66 rfl) rfl rfl ?_
                exact w_ireturn (pI pM_66 rfl) rfl rfl rfl k
set_option maxRecDepth 100000 in
set_option maxHeartbeats 4000000 in
theorem d138_keepLocal {d L : Nat} {w : Nat} {x : Int32} {y : Int32} {A I : HA} {Q : bm_Q} (h_w : isW w) (k : D138_keepLocal w x y A I (fun A I => Q none (hp L A I))) : bm_M (d + 1) 138 [.ref w, .int x, .int y] (hp L A I) Q := by
  unfold D138_keepLocal at k
  refine bw_enter rfl rfl rfl rfl ?_
  refine w_aload_n (p := 1) (pI pM_138 rfl) rfl rfl ?_
  refine v_getR (p := 4) (kf := 3) (pI pM_138 rfl) rfl rfl rfl (isW.ge h_w 0) (isW.lt h_w 0 (by decide)) (isW.sk h_w 0 (by decide)) rfl ?_
  refine w_aload_n (p := 5) (pI pM_138 rfl) rfl rfl ?_
  refine v_getI (p := 8) (kf := 4) (pI pM_138 rfl) rfl rfl rfl (isW.ge h_w 0) (isW.lt h_w 0 (by decide)) (isW.sk h_w 0 (by decide)) rfl rfl ?_
  refine w_bipush (p := 10) (v := nI 18) (pI pM_138 rfl) rfl rfl ?_
  refine w_imul (p := 11) (pI pM_138 rfl) rfl ?_
  refine w_iload_n (p := 12) (pI pM_138 rfl) rfl rfl ?_
  refine w_iadd (p := 13) (pI pM_138 rfl) rfl ?_
  refine w_iload_n (p := 14) (pI pM_138 rfl) rfl rfl ?_
  obtain ⟨s1, k⟩ := k
  refine s_iast (p := 15) (pI pM_138 rfl) rfl (isW.ge h_w 4) (isW.lt h_w 4 (by decide)) (isW.sk h_w 4 (by decide)) s1 ?_
  exact w_return (pI pM_138 rfl) rfl k
set_option maxRecDepth 100000 in
set_option maxHeartbeats 4000000 in
theorem d67_moveValues {d L : Nat} {w : Nat} {x : Int32} {y : Int32} {A I : HA} {Q : bm_Q} (h_w : isW w) (k : D67_moveValues w x y A I (fun A I => Q none (hp L A I))) : bm_M (d + 2) 67 [.ref w, .int x, .int y] (hp L A I) Q := by
  unfold D67_moveValues at k
  refine bw_enter rfl rfl rfl rfl ?_
  refine w_aload_n (p := 1) (pI pM_67 rfl) rfl rfl ?_
  refine w_iconst (p := 2) (v := nI 0) (pI pM_67 rfl) rfl rfl ?_
  refine v_virtual (p := 5) (mj := 122) (pI pM_67 rfl) rfl rfl rfl rfl rfl rfl rfl rfl rfl rfl (isW.ge h_w 0) (isW.lt h_w 0 (by decide)) (isW.sk h_w 0 (by decide)) ?_
  refine d122_peek h_w (D122_peek_mono k (fun v1 k => ?_))
  refine w_istore_n (p := 6) (pI pM_67 rfl) rfl rfl rfl ?_
  refine w_aload_n (p := 7) (pI pM_67 rfl) rfl rfl ?_
  refine w_iconst (p := 8) (v := nI 1) (pI pM_67 rfl) rfl rfl ?_
  refine v_virtual (p := 11) (mj := 122) (pI pM_67 rfl) rfl rfl rfl rfl rfl rfl rfl rfl rfl rfl (isW.ge h_w 0) (isW.lt h_w 0 (by decide)) (isW.sk h_w 0 (by decide)) ?_
  refine d122_peek h_w (D122_peek_mono k (fun v2 k => ?_))
  refine w_istore (p := 13) (pI pM_67 rfl) rfl rfl rfl ?_
  refine w_aload_n (p := 14) (pI pM_67 rfl) rfl rfl ?_
  refine w_getstatic (p := 17) (x := 1) (pI pM_67 rfl) rfl rfl rfl ?_
  refine w_iload_n (p := 18) (pI pM_67 rfl) rfl rfl ?_
  obtain ⟨s3, k⟩ := k
  refine v_iald (p := 19) (pI pM_67 rfl) rfl (by decide) rfl s3 rfl ?_
  refine v_virtual (p := 22) (mj := 120) (pI pM_67 rfl) rfl rfl rfl rfl rfl rfl rfl rfl rfl rfl (isW.ge h_w 0) (isW.lt h_w 0 (by decide)) (isW.sk h_w 0 (by decide)) ?_
  refine d120_drop h_w (D120_drop_mono k (fun A4 I5 k => ?_))
  refine w_iload_n (p := 23) (pI pM_67 rfl) rfl rfl ?_
  by_cases c23_0 : x = nI 0
  · replace k := itp c23_0 k
    refine w_lookup (p := 80) (off := 57) (pI pM_67 rfl) (by decide) (lk_at c23_0 (by decide)) rfl rfl ?_
    refine w_aload_n (p := 81) (pI pM_67 rfl) rfl rfl ?_
    refine w_iload_n (p := 82) (pI pM_67 rfl) rfl rfl ?_
    refine w_static (p := 85) (mj := 27) (pI pM_67 rfl) rfl rfl rfl rfl rfl rfl rfl rfl rfl ?_
    refine d27_number (D27_number_mono k (fun v6 k => ?_))
    refine v_virtual (p := 88) (mj := 126) (pI pM_67 rfl) rfl rfl rfl rfl rfl rfl rfl rfl rfl rfl (isW.ge h_w 0) (isW.lt h_w 0 (by decide)) (isW.sk h_w 0 (by decide)) ?_
    refine d126_push h_w (D126_push_mono k (fun A7 I8 k => ?_))
    refine w_goto (p := 147) (pI pM_67 rfl) rfl rfl ?_
    refine w_aload_n (p := 148) (pI pM_67 rfl) rfl rfl ?_
    refine v_virtual (p := 151) (mj := 134) (pI pM_67 rfl) rfl rfl rfl rfl rfl rfl rfl rfl rfl rfl (isW.ge h_w 0) (isW.lt h_w 0 (by decide)) (isW.sk h_w 0 (by decide)) ?_
    refine d134_next h_w (D134_next_mono k (fun A9 I10 k => ?_))
    exact w_return (pI pM_67 rfl) rfl k
  · replace k := itn c23_0 k
    by_cases c23_1 : x = nI 1
    · replace k := itp c23_1 k
      refine w_lookup (p := 91) (off := 68) (pI pM_67 rfl) (by decide) (lk_at c23_1 (by decide)) rfl rfl ?_
      refine w_aload_n (p := 92) (pI pM_67 rfl) rfl rfl ?_
      refine w_aload_n (p := 93) (pI pM_67 rfl) rfl rfl ?_
      refine w_iload_n (p := 94) (pI pM_67 rfl) rfl rfl ?_
      refine v_virtual (p := 97) (mj := 137) (pI pM_67 rfl) rfl rfl rfl rfl rfl rfl rfl rfl rfl rfl (isW.ge h_w 0) (isW.lt h_w 0 (by decide)) (isW.sk h_w 0 (by decide)) ?_
      refine d137_localAt h_w (D137_localAt_mono k (fun v11 k => ?_))
      refine v_virtual (p := 100) (mj := 126) (pI pM_67 rfl) rfl rfl rfl rfl rfl rfl rfl rfl rfl rfl (isW.ge h_w 0) (isW.lt h_w 0 (by decide)) (isW.sk h_w 0 (by decide)) ?_
      refine d126_push h_w (D126_push_mono k (fun A12 I13 k => ?_))
      refine w_goto (p := 147) (pI pM_67 rfl) rfl rfl ?_
      refine w_aload_n (p := 148) (pI pM_67 rfl) rfl rfl ?_
      refine v_virtual (p := 151) (mj := 134) (pI pM_67 rfl) rfl rfl rfl rfl rfl rfl rfl rfl rfl rfl (isW.ge h_w 0) (isW.lt h_w 0 (by decide)) (isW.sk h_w 0 (by decide)) ?_
      refine d134_next h_w (D134_next_mono k (fun A14 I15 k => ?_))
      exact w_return (pI pM_67 rfl) rfl k
    · replace k := itn c23_1 k
      by_cases c23_2 : x = nI 2
      · replace k := itp c23_2 k
        refine w_lookup (p := 103) (off := 80) (pI pM_67 rfl) (by decide) (lk_at c23_2 (by decide)) rfl rfl ?_
        refine w_aload_n (p := 104) (pI pM_67 rfl) rfl rfl ?_
        refine w_iload_n (p := 105) (pI pM_67 rfl) rfl rfl ?_
        refine w_iload_n (p := 106) (pI pM_67 rfl) rfl rfl ?_
        refine v_virtual (p := 109) (mj := 138) (pI pM_67 rfl) rfl rfl rfl rfl rfl rfl rfl rfl rfl rfl (isW.ge h_w 0) (isW.lt h_w 0 (by decide)) (isW.sk h_w 0 (by decide)) ?_
        refine d138_keepLocal h_w (D138_keepLocal_mono k (fun A16 I17 k => ?_))
        refine w_goto (p := 147) (pI pM_67 rfl) rfl rfl ?_
        refine w_aload_n (p := 148) (pI pM_67 rfl) rfl rfl ?_
        refine v_virtual (p := 151) (mj := 134) (pI pM_67 rfl) rfl rfl rfl rfl rfl rfl rfl rfl rfl rfl (isW.ge h_w 0) (isW.lt h_w 0 (by decide)) (isW.sk h_w 0 (by decide)) ?_
        refine d134_next h_w (D134_next_mono k (fun A18 I19 k => ?_))
        exact w_return (pI pM_67 rfl) rfl k
      · replace k := itn c23_2 k
        by_cases c23_4 : x = nI 4
        · replace k := itp c23_4 k
          refine w_lookup (p := 112) (off := 89) (pI pM_67 rfl) (by decide) (lk_at c23_4 (by decide)) rfl rfl ?_
          refine w_aload_n (p := 113) (pI pM_67 rfl) rfl rfl ?_
          refine w_iload_n (p := 114) (pI pM_67 rfl) rfl rfl ?_
          refine v_virtual (p := 117) (mj := 126) (pI pM_67 rfl) rfl rfl rfl rfl rfl rfl rfl rfl rfl rfl (isW.ge h_w 0) (isW.lt h_w 0 (by decide)) (isW.sk h_w 0 (by decide)) ?_
          refine d126_push h_w (D126_push_mono k (fun A20 I21 k => ?_))
          refine w_aload_n (p := 118) (pI pM_67 rfl) rfl rfl ?_
          refine w_iload_n (p := 119) (pI pM_67 rfl) rfl rfl ?_
          refine v_virtual (p := 122) (mj := 126) (pI pM_67 rfl) rfl rfl rfl rfl rfl rfl rfl rfl rfl rfl (isW.ge h_w 0) (isW.lt h_w 0 (by decide)) (isW.sk h_w 0 (by decide)) ?_
          refine d126_push h_w (D126_push_mono k (fun A22 I23 k => ?_))
          refine w_goto (p := 147) (pI pM_67 rfl) rfl rfl ?_
          refine w_aload_n (p := 148) (pI pM_67 rfl) rfl rfl ?_
          refine v_virtual (p := 151) (mj := 134) (pI pM_67 rfl) rfl rfl rfl rfl rfl rfl rfl rfl rfl rfl (isW.ge h_w 0) (isW.lt h_w 0 (by decide)) (isW.sk h_w 0 (by decide)) ?_
          refine d134_next h_w (D134_next_mono k (fun A24 I25 k => ?_))
          exact w_return (pI pM_67 rfl) rfl k
        · replace k := itn c23_4 k
          by_cases c23_5 : x = nI 5
          · replace k := itp c23_5 k
            refine w_lookup (p := 125) (off := 102) (pI pM_67 rfl) (by decide) (lk_at c23_5 (by decide)) rfl rfl ?_
            refine w_aload_n (p := 126) (pI pM_67 rfl) rfl rfl ?_
            refine w_iload_n (p := 127) (pI pM_67 rfl) rfl rfl ?_
            refine v_virtual (p := 130) (mj := 126) (pI pM_67 rfl) rfl rfl rfl rfl rfl rfl rfl rfl rfl rfl (isW.ge h_w 0) (isW.lt h_w 0 (by decide)) (isW.sk h_w 0 (by decide)) ?_
            refine d126_push h_w (D126_push_mono k (fun A26 I27 k => ?_))
            refine w_aload_n (p := 131) (pI pM_67 rfl) rfl rfl ?_
            refine w_iload (p := 133) (pI pM_67 rfl) rfl rfl ?_
            refine v_virtual (p := 136) (mj := 126) (pI pM_67 rfl) rfl rfl rfl rfl rfl rfl rfl rfl rfl rfl (isW.ge h_w 0) (isW.lt h_w 0 (by decide)) (isW.sk h_w 0 (by decide)) ?_
            refine d126_push h_w (D126_push_mono k (fun A28 I29 k => ?_))
            refine w_goto (p := 147) (pI pM_67 rfl) rfl rfl ?_
            refine w_aload_n (p := 148) (pI pM_67 rfl) rfl rfl ?_
            refine v_virtual (p := 151) (mj := 134) (pI pM_67 rfl) rfl rfl rfl rfl rfl rfl rfl rfl rfl rfl (isW.ge h_w 0) (isW.lt h_w 0 (by decide)) (isW.sk h_w 0 (by decide)) ?_
            refine d134_next h_w (D134_next_mono k (fun A30 I31 k => ?_))
            exact w_return (pI pM_67 rfl) rfl k
          · replace k := itn c23_5 k
            by_cases c23_28 : x = nI 28
            · replace k := itp c23_28 k
              refine w_lookup (p := 139) (off := 116) (pI pM_67 rfl) (by decide) (lk_at c23_28 (by decide)) rfl rfl ?_
              refine w_aload_n (p := 140) (pI pM_67 rfl) rfl rfl ?_
              refine w_iconst (p := 141) (v := -1) (pI pM_67 rfl) rfl rfl ?_
              refine v_virtual (p := 144) (mj := 126) (pI pM_67 rfl) rfl rfl rfl rfl rfl rfl rfl rfl rfl rfl (isW.ge h_w 0) (isW.lt h_w 0 (by decide)) (isW.sk h_w 0 (by decide)) ?_
              refine d126_push h_w (D126_push_mono k (fun A32 I33 k => ?_))
              refine w_goto (p := 147) (pI pM_67 rfl) rfl rfl ?_
              refine w_aload_n (p := 148) (pI pM_67 rfl) rfl rfl ?_
              refine v_virtual (p := 151) (mj := 134) (pI pM_67 rfl) rfl rfl rfl rfl rfl rfl rfl rfl rfl rfl (isW.ge h_w 0) (isW.lt h_w 0 (by decide)) (isW.sk h_w 0 (by decide)) ?_
              refine d134_next h_w (D134_next_mono k (fun A34 I35 k => ?_))
              exact w_return (pI pM_67 rfl) rfl k
            · replace k := itn c23_28 k
              refine w_lookup (p := 147) (off := 124) (pI pM_67 rfl) (by decide) (by have e0 := neT 0 (by decide) c23_0; have e1 := neT 1 (by decide) c23_1; have e2 := neT 2 (by decide) c23_2; have e4 := neT 4 (by decide) c23_4; have e5 := neT 5 (by decide) c23_5; have e28 := neT 28 (by decide) c23_28; exact lk_cons e0 (lk_cons e1 (lk_cons e2 (lk_cons e4 (lk_cons e5 (lk_cons e28 (lk_nil))))))) rfl rfl ?_
              refine w_aload_n (p := 148) (pI pM_67 rfl) rfl rfl ?_
              refine v_virtual (p := 151) (mj := 134) (pI pM_67 rfl) rfl rfl rfl rfl rfl rfl rfl rfl rfl rfl (isW.ge h_w 0) (isW.lt h_w 0 (by decide)) (isW.sk h_w 0 (by decide)) ?_
              refine d134_next h_w (D134_next_mono k (fun A36 I37 k => ?_))
              exact w_return (pI pM_67 rfl) rfl k
set_option maxRecDepth 100000 in
set_option maxHeartbeats 4000000 in
theorem d139_isDeepest {d L : Nat} {w : Nat} {A I : HA} {Q : bm_Q} (h_w : isW w) (k : D139_isDeepest w A I (fun v => Q (some (.int v)) (hp L A I))) : bm_M (d + 1) 139 [.ref w] (hp L A I) Q := by
  unfold D139_isDeepest at k
  refine bw_enter rfl rfl rfl rfl ?_
  refine w_aload_n (p := 1) (pI pM_139 rfl) rfl rfl ?_
  refine v_getI (p := 4) (kf := 4) (pI pM_139 rfl) rfl rfl rfl (isW.ge h_w 0) (isW.lt h_w 0 (by decide)) (isW.sk h_w 0 (by decide)) rfl rfl ?_
  refine w_iconst (p := 5) (v := nI 3) (pI pM_139 rfl) rfl rfl ?_
  refine w_icmp_lt (p := 8) (q := 12) (pI pM_139 rfl) rfl rfl rfl (fun c => ?_) (fun c => ?_)
  · replace k := itp c k
    refine w_iconst (p := 13) (v := nI 0) (pI pM_139 rfl) rfl rfl ?_
    exact w_ireturn (pI pM_139 rfl) rfl rfl rfl k
  · replace k := itn c k
    refine w_iconst (p := 9) (v := nI 1) (pI pM_139 rfl) rfl rfl ?_
    refine w_goto (p := 13) (pI pM_139 rfl) rfl rfl ?_
    exact w_ireturn (pI pM_139 rfl) rfl rfl rfl k
set_option maxRecDepth 100000 in
set_option maxHeartbeats 4000000 in
theorem d140_enter {d L : Nat} {w : Nat} {x : Int32} {y : Int32} {A I : HA} {Q : bm_Q} (h_w : isW w) (k : D140_enter w x y A I (fun A I => Q none (hp L A I))) : bm_M (d + 2) 140 [.ref w, .int x, .int y] (hp L A I) Q := by
  unfold D140_enter at k
  refine bw_enter rfl rfl rfl rfl ?_
  refine w_aload_n (p := 1) (pI pM_140 rfl) rfl rfl ?_
  refine v_getI (p := 4) (kf := 4) (pI pM_140 rfl) rfl rfl rfl (isW.ge h_w 0) (isW.lt h_w 0 (by decide)) (isW.sk h_w 0 (by decide)) rfl rfl ?_
  refine w_bipush (p := 6) (v := nI 18) (pI pM_140 rfl) rfl rfl ?_
  refine w_imul (p := 7) (pI pM_140 rfl) rfl ?_
  refine w_bipush (p := 9) (v := nI 6) (pI pM_140 rfl) rfl rfl ?_
  refine w_iadd (p := 10) (pI pM_140 rfl) rfl ?_
  refine w_aload_n (p := 11) (pI pM_140 rfl) rfl rfl ?_
  refine v_getR (p := 14) (kf := 2) (pI pM_140 rfl) rfl rfl rfl (isW.ge h_w 0) (isW.lt h_w 0 (by decide)) (isW.sk h_w 0 (by decide)) rfl ?_
  refine w_aload_n (p := 15) (pI pM_140 rfl) rfl rfl ?_
  refine v_getI (p := 18) (kf := 4) (pI pM_140 rfl) rfl rfl rfl (isW.ge h_w 0) (isW.lt h_w 0 (by decide)) (isW.sk h_w 0 (by decide)) rfl rfl ?_
  obtain ⟨s1, k⟩ := k
  refine v_iald (p := 19) (pI pM_140 rfl) rfl (isW.lt h_w 3 (by decide)) (isW.sk h_w 3 (by decide)) s1 rfl ?_
  refine w_iadd (p := 20) (pI pM_140 rfl) rfl ?_
  refine w_iload_n (p := 21) (pI pM_140 rfl) rfl rfl ?_
  refine w_isub (p := 22) (pI pM_140 rfl) rfl ?_
  refine w_istore_n (p := 23) (pI pM_140 rfl) rfl rfl rfl ?_
  refine w_aload_n (p := 24) (pI pM_140 rfl) rfl rfl ?_
  refine w_iload_n (p := 25) (pI pM_140 rfl) rfl rfl ?_
  refine v_virtual (p := 28) (mj := 120) (pI pM_140 rfl) rfl rfl rfl rfl rfl rfl rfl rfl rfl rfl (isW.ge h_w 0) (isW.lt h_w 0 (by decide)) (isW.sk h_w 0 (by decide)) ?_
  refine d120_drop h_w (D120_drop_mono k (fun A2 I3 k => ?_))
  refine w_aload_n (p := 29) (pI pM_140 rfl) rfl rfl ?_
  refine w_dup (p := 30) (pI pM_140 rfl) rfl rfl ?_
  refine v_getI (p := 33) (kf := 4) (pI pM_140 rfl) rfl rfl rfl (isW.ge h_w 0) (isW.lt h_w 0 (by decide)) (isW.sk h_w 0 (by decide)) rfl rfl ?_
  refine w_iconst (p := 34) (v := nI 1) (pI pM_140 rfl) rfl rfl ?_
  refine w_iadd (p := 35) (pI pM_140 rfl) rfl ?_
  refine s_putI (p := 38) (kf := 4) (pI pM_140 rfl) rfl rfl rfl (isW.ge h_w 0) (isW.lt h_w 0 (by decide)) (isW.sk h_w 0 (by decide)) rfl rfl rfl rfl rfl ?_
  refine w_aload_n (p := 39) (pI pM_140 rfl) rfl rfl ?_
  refine w_iload_n (p := 40) (pI pM_140 rfl) rfl rfl ?_
  refine v_virtual (p := 43) (mj := 117) (pI pM_140 rfl) rfl rfl rfl rfl rfl rfl rfl rfl rfl rfl (isW.ge h_w 0) (isW.lt h_w 0 (by decide)) (isW.sk h_w 0 (by decide)) ?_
  refine d117_openFrame h_w (D117_openFrame_mono k (fun A4 I5 k => ?_))
  refine w_aload_n (p := 44) (pI pM_140 rfl) rfl rfl ?_
  refine v_getR (p := 47) (kf := 3) (pI pM_140 rfl) rfl rfl rfl (isW.ge h_w 0) (isW.lt h_w 0 (by decide)) (isW.sk h_w 0 (by decide)) rfl ?_
  refine w_iload_n (p := 48) (pI pM_140 rfl) rfl rfl ?_
  refine w_aload_n (p := 49) (pI pM_140 rfl) rfl rfl ?_
  refine v_getR (p := 52) (kf := 3) (pI pM_140 rfl) rfl rfl rfl (isW.ge h_w 0) (isW.lt h_w 0 (by decide)) (isW.sk h_w 0 (by decide)) rfl ?_
  refine w_aload_n (p := 53) (pI pM_140 rfl) rfl rfl ?_
  refine v_getI (p := 56) (kf := 4) (pI pM_140 rfl) rfl rfl rfl (isW.ge h_w 0) (isW.lt h_w 0 (by decide)) (isW.sk h_w 0 (by decide)) rfl rfl ?_
  refine w_bipush (p := 58) (v := nI 18) (pI pM_140 rfl) rfl rfl ?_
  refine w_imul (p := 59) (pI pM_140 rfl) rfl ?_
  refine w_iload_n (p := 60) (pI pM_140 rfl) rfl rfl ?_
  obtain ⟨s6a, s6b, s6c, s6d, s6e, k⟩ := k
  refine s_copy (p := 63) (pI pM_140 rfl) rfl rfl rfl rfl rfl (isW.ge h_w 4) (isW.lt h_w 4 (by decide)) (isW.ge h_w 4) (isW.lt h_w 4 (by decide)) s6a s6b s6c (isW.sk h_w 4 (by decide)) (isW.sk h_w 4 (by decide)) s6d s6e ?_
  exact w_return (pI pM_140 rfl) rfl k
set_option maxRecDepth 100000 in
set_option maxHeartbeats 4000000 in
theorem d69_giveBack {d L : Nat} {w : Nat} {x : Int32} {A I : HA} {Q : bm_Q} (h_w : isW w) (k : D69_giveBack w x A I (fun A I => Q none (hp L A I))) : bm_M (d + 3) 69 [.ref w, .int x] (hp L A I) Q := by
  unfold D69_giveBack at k
  refine bw_enter rfl rfl rfl rfl ?_
  refine w_aload_n (p := 1) (pI pM_69 rfl) rfl rfl ?_
  refine v_virtual (p := 4) (mj := 123) (pI pM_69 rfl) rfl rfl rfl rfl rfl rfl rfl rfl rfl rfl (isW.ge h_w 0) (isW.lt h_w 0 (by decide)) (isW.sk h_w 0 (by decide)) ?_
  refine d123_placeNow h_w (D123_placeNow_mono k (fun v1 k => ?_))
  refine w_istore_n (p := 5) (pI pM_69 rfl) rfl rfl rfl ?_
  refine w_aload_n (p := 6) (pI pM_69 rfl) rfl rfl ?_
  refine v_virtual (p := 9) (mj := 128) (pI pM_69 rfl) rfl rfl rfl rfl rfl rfl rfl rfl rfl rfl (isW.ge h_w 0) (isW.lt h_w 0 (by decide)) (isW.sk h_w 0 (by decide)) ?_
  refine d128_leave h_w (D128_leave_mono k (fun v2 A3 I4 k => ?_))
  refine w_if_eq (p := 12) (q := 21) (pI pM_69 rfl) rfl rfl rfl (fun c => ?_) (fun c => ?_)
  · replace k := itp c k
    refine w_aload_n (p := 22) (pI pM_69 rfl) rfl rfl ?_
    refine w_iload_n (p := 23) (pI pM_69 rfl) rfl rfl ?_
    refine s_putI (p := 26) (kf := 15) (pI pM_69 rfl) rfl rfl rfl (isW.ge h_w 0) (isW.lt h_w 0 (by decide)) (isW.sk h_w 0 (by decide)) rfl rfl rfl rfl rfl ?_
    refine w_aload_n (p := 27) (pI pM_69 rfl) rfl rfl ?_
    refine w_iload_n (p := 28) (pI pM_69 rfl) rfl rfl ?_
    refine w_if_ge (p := 31) (q := 35) (pI pM_69 rfl) rfl rfl rfl (fun c => ?_) (fun c => ?_)
    · replace k := itn (Int32.not_lt.mpr c) k
      refine w_iconst (p := 36) (v := nI 1) (pI pM_69 rfl) rfl rfl ?_
      refine w_iload_n (p := 37) (pI pM_69 rfl) rfl rfl ?_
      refine v_virtual (p := 40) (mj := 124) (pI pM_69 rfl) rfl rfl rfl rfl rfl rfl rfl rfl rfl rfl (isW.ge h_w 0) (isW.lt h_w 0 (by decide)) (isW.sk h_w 0 (by decide)) ?_
      refine d124_end h_w (D124_end_mono k (fun A5 I6 k => ?_))
      exact w_return (pI pM_69 rfl) rfl k
    · replace k := itp (Int32.not_le.mp c) k
      refine w_iconst (p := 32) (v := nI 2) (pI pM_69 rfl) rfl rfl ?_
      refine w_goto (p := 36) (pI pM_69 rfl) rfl rfl ?_
      refine w_iload_n (p := 37) (pI pM_69 rfl) rfl rfl ?_
      refine v_virtual (p := 40) (mj := 124) (pI pM_69 rfl) rfl rfl rfl rfl rfl rfl rfl rfl rfl rfl (isW.ge h_w 0) (isW.lt h_w 0 (by decide)) (isW.sk h_w 0 (by decide)) ?_
      refine d124_end h_w (D124_end_mono k (fun A7 I8 k => ?_))
      exact w_return (pI pM_69 rfl) rfl k
  · replace k := itn c k
    refine w_aload_n (p := 13) (pI pM_69 rfl) rfl rfl ?_
    refine w_iconst (p := 14) (v := nI 0) (pI pM_69 rfl) rfl rfl ?_
    refine w_iload_n (p := 15) (pI pM_69 rfl) rfl rfl ?_
    refine v_virtual (p := 18) (mj := 125) (pI pM_69 rfl) rfl rfl rfl rfl rfl rfl rfl rfl rfl rfl (isW.ge h_w 0) (isW.lt h_w 0 (by decide)) (isW.sk h_w 0 (by decide)) ?_
    refine d125_finish h_w (D125_finish_mono k (fun A9 I10 k => ?_))
    refine w_goto (p := 40) (pI pM_69 rfl) rfl rfl ?_
    exact w_return (pI pM_69 rfl) rfl k
set_option maxRecDepth 100000 in
set_option maxHeartbeats 4000000 in
theorem d68_goElsewhere {d L : Nat} {w : Nat} {x : Int32} {y : Int32} {A I : HA} {Q : bm_Q} (h_w : isW w) (k : D68_goElsewhere w x y A I (fun A I => Q none (hp L A I))) : bm_M (d + 4) 68 [.ref 21, .ref w, .int x, .int y] (hp L A I) Q := by
  unfold D68_goElsewhere at k
  refine bw_enter rfl rfl rfl rfl ?_
  refine w_iload_n (p := 1) (pI pM_68 rfl) rfl rfl ?_
  by_cases c1_17 : x = nI 17
  · replace k := itp c1_17 k
    refine w_table (p := 60) (off := 59) (pI pM_68 rfl) (sw_at c1_17 (by decide)) rfl rfl ?_
    refine w_aload_n (p := 61) (pI pM_68 rfl) rfl rfl ?_
    refine w_iload_n (p := 62) (pI pM_68 rfl) rfl rfl ?_
    refine v_virtual (p := 65) (mj := 121) (pI pM_68 rfl) rfl rfl rfl rfl rfl rfl rfl rfl rfl rfl (isW.ge h_w 0) (isW.lt h_w 0 (by decide)) (isW.sk h_w 0 (by decide)) ?_
    refine d121_jump h_w (D121_jump_mono k (fun A1 I2 k => ?_))
    refine w_goto (p := 200) (pI pM_68 rfl) rfl rfl ?_
    exact w_return (pI pM_68 rfl) rfl k
  · replace k := itn c1_17 k
    by_cases c1_20 : x = nI 20
    · replace k := itp c1_20 k
      refine w_table (p := 68) (off := 67) (pI pM_68 rfl) (sw_at c1_20 (by decide)) rfl rfl ?_
      refine w_aload_n (p := 69) (pI pM_68 rfl) rfl rfl ?_
      refine w_iconst (p := 70) (v := nI 0) (pI pM_68 rfl) rfl rfl ?_
      refine v_virtual (p := 73) (mj := 122) (pI pM_68 rfl) rfl rfl rfl rfl rfl rfl rfl rfl rfl rfl (isW.ge h_w 0) (isW.lt h_w 0 (by decide)) (isW.sk h_w 0 (by decide)) ?_
      refine d122_peek h_w (D122_peek_mono k (fun v3 k => ?_))
      refine w_iconst (p := 74) (v := -1) (pI pM_68 rfl) rfl rfl ?_
      refine w_icmp_ne (p := 77) (q := 81) (pI pM_68 rfl) rfl rfl rfl (fun c => ?_) (fun c => ?_)
      · replace k := itn c k
        refine w_aload_n (p := 82) (pI pM_68 rfl) rfl rfl ?_
        refine v_virtual (p := 85) (mj := 119) (pI pM_68 rfl) rfl rfl rfl rfl rfl rfl rfl rfl rfl rfl (isW.ge h_w 0) (isW.lt h_w 0 (by decide)) (isW.sk h_w 0 (by decide)) ?_
        refine d119_operationNow h_w (D119_operationNow_mono k (fun v4 k => ?_))
        refine w_iconst (p := 86) (v := nI 1) (pI pM_68 rfl) rfl rfl ?_
        refine w_iadd (p := 87) (pI pM_68 rfl) rfl ?_
        refine w_istore (p := 89) (pI pM_68 rfl) rfl rfl rfl ?_
        refine w_aload_n (p := 90) (pI pM_68 rfl) rfl rfl ?_
        refine w_iconst (p := 91) (v := nI 1) (pI pM_68 rfl) rfl rfl ?_
        refine v_virtual (p := 94) (mj := 120) (pI pM_68 rfl) rfl rfl rfl rfl rfl rfl rfl rfl rfl rfl (isW.ge h_w 0) (isW.lt h_w 0 (by decide)) (isW.sk h_w 0 (by decide)) ?_
        refine d120_drop h_w (D120_drop_mono k (fun A5 I6 k => ?_))
        refine w_aload_n (p := 95) (pI pM_68 rfl) rfl rfl ?_
        refine w_iload (p := 97) (pI pM_68 rfl) rfl rfl ?_
        refine v_virtual (p := 100) (mj := 121) (pI pM_68 rfl) rfl rfl rfl rfl rfl rfl rfl rfl rfl rfl (isW.ge h_w 0) (isW.lt h_w 0 (by decide)) (isW.sk h_w 0 (by decide)) ?_
        refine d121_jump h_w (D121_jump_mono k (fun A7 I8 k => ?_))
        refine w_goto (p := 200) (pI pM_68 rfl) rfl rfl ?_
        exact w_return (pI pM_68 rfl) rfl k
      · replace k := itp (Decidable.not_not.mp c) k
        refine w_iload_n (p := 78) (pI pM_68 rfl) rfl rfl ?_
        refine w_goto (p := 87) (pI pM_68 rfl) rfl rfl ?_
        refine w_istore (p := 89) (pI pM_68 rfl) rfl rfl rfl ?_
        refine w_aload_n (p := 90) (pI pM_68 rfl) rfl rfl ?_
        refine w_iconst (p := 91) (v := nI 1) (pI pM_68 rfl) rfl rfl ?_
        refine v_virtual (p := 94) (mj := 120) (pI pM_68 rfl) rfl rfl rfl rfl rfl rfl rfl rfl rfl rfl (isW.ge h_w 0) (isW.lt h_w 0 (by decide)) (isW.sk h_w 0 (by decide)) ?_
        refine d120_drop h_w (D120_drop_mono k (fun A9 I10 k => ?_))
        refine w_aload_n (p := 95) (pI pM_68 rfl) rfl rfl ?_
        refine w_iload (p := 97) (pI pM_68 rfl) rfl rfl ?_
        refine v_virtual (p := 100) (mj := 121) (pI pM_68 rfl) rfl rfl rfl rfl rfl rfl rfl rfl rfl rfl (isW.ge h_w 0) (isW.lt h_w 0 (by decide)) (isW.sk h_w 0 (by decide)) ?_
        refine d121_jump h_w (D121_jump_mono k (fun A11 I12 k => ?_))
        refine w_goto (p := 200) (pI pM_68 rfl) rfl rfl ?_
        exact w_return (pI pM_68 rfl) rfl k
    · replace k := itn c1_20 k
      by_cases c1_24 : x = nI 24
      · replace k := itp c1_24 k
        refine w_table (p := 103) (off := 102) (pI pM_68 rfl) (sw_at c1_24 (by decide)) rfl rfl ?_
        refine w_aload_n (p := 104) (pI pM_68 rfl) rfl rfl ?_
        refine w_iconst (p := 105) (v := nI 1) (pI pM_68 rfl) rfl rfl ?_
        refine w_aload_n (p := 106) (pI pM_68 rfl) rfl rfl ?_
        refine w_aload_n (p := 107) (pI pM_68 rfl) rfl rfl ?_
        refine w_iconst (p := 108) (v := nI 0) (pI pM_68 rfl) rfl rfl ?_
        refine v_virtual (p := 111) (mj := 122) (pI pM_68 rfl) rfl rfl rfl rfl rfl rfl rfl rfl rfl rfl (isW.ge h_w 0) (isW.lt h_w 0 (by decide)) (isW.sk h_w 0 (by decide)) ?_
        refine d122_peek h_w (D122_peek_mono k (fun v13 k => ?_))
        refine v_virtual (p := 114) (mj := 131) (pI pM_68 rfl) rfl rfl rfl rfl rfl rfl rfl rfl rfl rfl (isW.ge h_w 0) (isW.lt h_w 0 (by decide)) (isW.sk h_w 0 (by decide)) ?_
        refine d131_lengthOf h_w (D131_lengthOf_mono k (fun v14 k => ?_))
        refine w_static (p := 117) (mj := 27) (pI pM_68 rfl) rfl rfl rfl rfl rfl rfl rfl rfl rfl ?_
        refine d27_number (D27_number_mono k (fun v15 k => ?_))
        refine v_virtual (p := 120) (mj := 125) (pI pM_68 rfl) rfl rfl rfl rfl rfl rfl rfl rfl rfl rfl (isW.ge h_w 0) (isW.lt h_w 0 (by decide)) (isW.sk h_w 0 (by decide)) ?_
        refine d125_finish h_w (D125_finish_mono k (fun A16 I17 k => ?_))
        refine w_goto (p := 200) (pI pM_68 rfl) rfl rfl ?_
        exact w_return (pI pM_68 rfl) rfl k
      · replace k := itn c1_24 k
        by_cases c1_25 : x = nI 25
        · replace k := itp c1_25 k
          refine w_table (p := 123) (off := 122) (pI pM_68 rfl) (sw_at c1_25 (by decide)) rfl rfl ?_
          refine w_aload_n (p := 124) (pI pM_68 rfl) rfl rfl ?_
          refine v_virtual (p := 127) (mj := 139) (pI pM_68 rfl) rfl rfl rfl rfl rfl rfl rfl rfl rfl rfl (isW.ge h_w 0) (isW.lt h_w 0 (by decide)) (isW.sk h_w 0 (by decide)) ?_
          refine d139_isDeepest h_w (D139_isDeepest_mono k (fun v18 k => ?_))
          refine w_if_eq (p := 130) (q := 140) (pI pM_68 rfl) rfl rfl rfl (fun c => ?_) (fun c => ?_)
          · replace k := itp c k
            refine w_aload_n (p := 141) (pI pM_68 rfl) rfl rfl ?_
            refine w_iload_n (p := 142) (pI pM_68 rfl) rfl rfl ?_
            refine w_aload_n (p := 143) (pI pM_68 rfl) rfl rfl ?_
            refine v_getR (p := 146) (kf := 0) (pI pM_68 rfl) rfl rfl rfl (by decide) (by decide) rfl rfl ?_
            refine w_iload_n (p := 147) (pI pM_68 rfl) rfl rfl ?_
            refine v_virtual (p := 150) (mj := 85) (pI pM_68 rfl) rfl rfl rfl rfl rfl rfl rfl rfl rfl rfl (by decide) (by decide) rfl ?_
            refine d85_argumentsOf (D85_argumentsOf_mono k (fun v19 k => ?_))
            refine v_virtual (p := 153) (mj := 140) (pI pM_68 rfl) rfl rfl rfl rfl rfl rfl rfl rfl rfl rfl (isW.ge h_w 0) (isW.lt h_w 0 (by decide)) (isW.sk h_w 0 (by decide)) ?_
            refine d140_enter h_w (D140_enter_mono k (fun A20 I21 k => ?_))
            refine w_goto (p := 200) (pI pM_68 rfl) rfl rfl ?_
            exact w_return (pI pM_68 rfl) rfl k
          · replace k := itn c k
            refine w_aload_n (p := 131) (pI pM_68 rfl) rfl rfl ?_
            refine w_aload_n (p := 132) (pI pM_68 rfl) rfl rfl ?_
            refine w_bipush (p := 134) (v := nI 6) (pI pM_68 rfl) rfl rfl ?_
            refine v_virtual (p := 137) (mj := 51) (pI pM_68 rfl) rfl rfl rfl rfl rfl rfl rfl rfl rfl rfl (by decide) (by decide) rfl ?_
            refine d51_raise h_w (D51_raise_mono k (fun A22 I23 k => ?_))
            refine w_goto (p := 200) (pI pM_68 rfl) rfl rfl ?_
            exact w_return (pI pM_68 rfl) rfl k
        · replace k := itn c1_25 k
          by_cases c1_26 : x = nI 26
          · replace k := itp c1_26 k
            refine w_table (p := 156) (off := 155) (pI pM_68 rfl) (sw_at c1_26 (by decide)) rfl rfl ?_
            refine w_aload_n (p := 157) (pI pM_68 rfl) rfl rfl ?_
            refine w_aload_n (p := 158) (pI pM_68 rfl) rfl rfl ?_
            refine w_iconst (p := 159) (v := nI 0) (pI pM_68 rfl) rfl rfl ?_
            refine v_virtual (p := 162) (mj := 122) (pI pM_68 rfl) rfl rfl rfl rfl rfl rfl rfl rfl rfl rfl (isW.ge h_w 0) (isW.lt h_w 0 (by decide)) (isW.sk h_w 0 (by decide)) ?_
            refine d122_peek h_w (D122_peek_mono k (fun v24 k => ?_))
            refine w_static (p := 165) (mj := 69) (pI pM_68 rfl) rfl rfl rfl rfl rfl rfl rfl rfl rfl ?_
            refine d69_giveBack h_w (D69_giveBack_mono k (fun A25 I26 k => ?_))
            refine w_goto (p := 200) (pI pM_68 rfl) rfl rfl ?_
            exact w_return (pI pM_68 rfl) rfl k
          · replace k := itn c1_26 k
            by_cases c1_27 : x = nI 27
            · replace k := itp c1_27 k
              refine w_table (p := 168) (off := 167) (pI pM_68 rfl) (sw_at c1_27 (by decide)) rfl rfl ?_
              refine w_aload_n (p := 169) (pI pM_68 rfl) rfl rfl ?_
              refine w_aload_n (p := 170) (pI pM_68 rfl) rfl rfl ?_
              refine w_iload_n (p := 171) (pI pM_68 rfl) rfl rfl ?_
              refine v_virtual (p := 174) (mj := 51) (pI pM_68 rfl) rfl rfl rfl rfl rfl rfl rfl rfl rfl rfl (by decide) (by decide) rfl ?_
              refine d51_raise h_w (D51_raise_mono k (fun A27 I28 k => ?_))
              refine w_goto (p := 200) (pI pM_68 rfl) rfl rfl ?_
              exact w_return (pI pM_68 rfl) rfl k
            · replace k := itn c1_27 k
              refine w_table (p := 177) (off := 176) (pI pM_68 rfl) (by have e17 := neT 17 (by decide) c1_17; have e20 := neT 20 (by decide) c1_20; have e24 := neT 24 (by decide) c1_24; have e25 := neT 25 (by decide) c1_25; have e26 := neT 26 (by decide) c1_26; have e27 := neT 27 (by decide) c1_27; exact sw_df (fun h1 h2 => by rcases (show (x).toInt = 18 ∨ (x).toInt = 19 ∨ (x).toInt = 21 ∨ (x).toInt = 22 ∨ (x).toInt = 23 by omega) with e | e | e | e | e <;> rw [e] <;> decide)) rfl rfl ?_
              refine w_iload_n (p := 178) (pI pM_68 rfl) rfl rfl ?_
              refine w_if_ne (p := 181) (q := 190) (pI pM_68 rfl) rfl rfl rfl (fun c => ?_) (fun c => ?_)
              · replace k := itn c k
                refine w_aload_n (p := 191) (pI pM_68 rfl) rfl rfl ?_
                refine w_bipush (p := 193) (v := nI 6) (pI pM_68 rfl) rfl rfl ?_
                refine w_aload_n (p := 194) (pI pM_68 rfl) rfl rfl ?_
                refine v_virtual (p := 197) (mj := 123) (pI pM_68 rfl) rfl rfl rfl rfl rfl rfl rfl rfl rfl rfl (isW.ge h_w 0) (isW.lt h_w 0 (by decide)) (isW.sk h_w 0 (by decide)) ?_
                refine d123_placeNow h_w (D123_placeNow_mono k (fun v29 k => ?_))
                refine v_virtual (p := 200) (mj := 124) (pI pM_68 rfl) rfl rfl rfl rfl rfl rfl rfl rfl rfl rfl (isW.ge h_w 0) (isW.lt h_w 0 (by decide)) (isW.sk h_w 0 (by decide)) ?_
                refine d124_end h_w (D124_end_mono k (fun A30 I31 k => ?_))
                exact w_return (pI pM_68 rfl) rfl k
              · replace k := itp (Decidable.not_not.mp c) k
                refine w_aload_n (p := 182) (pI pM_68 rfl) rfl rfl ?_
                refine w_aload_n (p := 183) (pI pM_68 rfl) rfl rfl ?_
                refine w_iload_n (p := 184) (pI pM_68 rfl) rfl rfl ?_
                refine v_virtual (p := 187) (mj := 50) (pI pM_68 rfl) rfl rfl rfl rfl rfl rfl rfl rfl rfl rfl (by decide) (by decide) rfl ?_
                refine d50_compute h_w (D50_compute_mono k (fun A32 I33 k => ?_))
                refine w_goto (p := 200) (pI pM_68 rfl) rfl rfl ?_
                exact w_return (pI pM_68 rfl) rfl k
set_option maxRecDepth 100000 in
set_option maxHeartbeats 4000000 in
theorem d58_stopsToSplit {d L : Nat} {w : Nat} {A I : HA} {Q : bm_Q} (h_w : isW w) (k : D58_stopsToSplit w A I (fun v A I => Q (some (.int v)) (hp L A I))) : bm_M (d + 5) 58 [.ref 21, .ref w] (hp L A I) Q := by
  unfold D58_stopsToSplit at k
  refine bw_enter rfl rfl rfl rfl ?_
  refine w_aload_n (p := 1) (pI pM_58 rfl) rfl rfl ?_
  refine w_aload_n (p := 2) (pI pM_58 rfl) rfl rfl ?_
  refine v_virtual (p := 5) (mj := 47) (pI pM_58 rfl) rfl rfl rfl rfl rfl rfl rfl rfl rfl rfl (by decide) (by decide) rfl ?_
  refine d47_opOf h_w (D47_opOf_mono k (fun v1 k => ?_))
  refine w_istore_n (p := 6) (pI pM_58 rfl) rfl rfl rfl ?_
  refine w_aload_n (p := 7) (pI pM_58 rfl) rfl rfl ?_
  refine w_aload_n (p := 8) (pI pM_58 rfl) rfl rfl ?_
  refine v_virtual (p := 11) (mj := 49) (pI pM_58 rfl) rfl rfl rfl rfl rfl rfl rfl rfl rfl rfl (by decide) (by decide) rfl ?_
  refine d49_numberOf h_w (D49_numberOf_mono k (fun v2 k => ?_))
  refine w_istore_n (p := 12) (pI pM_58 rfl) rfl rfl rfl ?_
  refine w_aload_n (p := 13) (pI pM_58 rfl) rfl rfl ?_
  refine w_aload_n (p := 14) (pI pM_58 rfl) rfl rfl ?_
  refine w_iload_n (p := 15) (pI pM_58 rfl) rfl rfl ?_
  refine w_iload_n (p := 16) (pI pM_58 rfl) rfl rfl ?_
  refine v_virtual (p := 19) (mj := 59) (pI pM_58 rfl) rfl rfl rfl rfl rfl rfl rfl rfl rfl rfl (by decide) (by decide) rfl ?_
  refine d59_isBroken h_w (D59_isBroken_mono k (fun v3 k => ?_))
  refine w_if_eq (p := 22) (q := 34) (pI pM_58 rfl) rfl rfl rfl (fun c => ?_) (fun c => ?_)
  · replace k := itp c k
    refine w_iload_n (p := 35) (pI pM_58 rfl) rfl rfl ?_
    refine w_static (p := 38) (mj := 55) (pI pM_58 rfl) rfl rfl rfl rfl rfl rfl rfl rfl rfl ?_
    refine d55_needsArray (D55_needsArray_mono k (fun v4 k => ?_))
    refine w_if_eq (p := 41) (q := 59) (pI pM_58 rfl) rfl rfl rfl (fun c => ?_) (fun c => ?_)
    · replace k := itp c k
      refine w_iload_n (p := 60) (pI pM_58 rfl) rfl rfl ?_
      refine w_static (p := 63) (mj := 62) (pI pM_58 rfl) rfl rfl rfl rfl rfl rfl rfl rfl rfl ?_
      refine d62_isDecided (D62_isDecided_mono k (fun v5 k => ?_))
      refine w_if_eq (p := 66) (q := 134) (pI pM_58 rfl) rfl rfl rfl (fun c => ?_) (fun c => ?_)
      · replace k := itp c k
        refine w_iload_n (p := 135) (pI pM_58 rfl) rfl rfl ?_
        refine w_iconst (p := 136) (v := nI 5) (pI pM_58 rfl) rfl rfl ?_
        refine w_icmp_le (p := 139) (q := 145) (pI pM_58 rfl) rfl rfl rfl (fun c => ?_) (fun c => ?_)
        · replace k := itn (Int32.not_lt.mpr c) k
          refine w_aload_n (p := 146) (pI pM_58 rfl) rfl rfl ?_
          refine w_iload_n (p := 147) (pI pM_58 rfl) rfl rfl ?_
          refine w_iload_n (p := 148) (pI pM_58 rfl) rfl rfl ?_
          refine w_static (p := 151) (mj := 67) (pI pM_58 rfl) rfl rfl rfl rfl rfl rfl rfl rfl rfl ?_
          refine d67_moveValues h_w (D67_moveValues_mono k (fun A6 I7 k => ?_))
          refine w_goto (p := 176) (pI pM_58 rfl) rfl rfl ?_
          refine w_iconst (p := 177) (v := nI 0) (pI pM_58 rfl) rfl rfl ?_
          exact w_ireturn (pI pM_58 rfl) rfl rfl rfl k
        · replace k := itp (Int32.not_le.mp c) k
          refine w_iload_n (p := 140) (pI pM_58 rfl) rfl rfl ?_
          refine w_bipush (p := 142) (v := nI 28) (pI pM_58 rfl) rfl rfl ?_
          refine w_icmp_ne (p := 145) (q := 154) (pI pM_58 rfl) rfl rfl rfl (fun c => ?_) (fun c => ?_)
          · replace k := itn c k
            refine w_iload_n (p := 155) (pI pM_58 rfl) rfl rfl ?_
            refine w_bipush (p := 157) (v := nI 16) (pI pM_58 rfl) rfl rfl ?_
            refine w_icmp_gt (p := 160) (q := 169) (pI pM_58 rfl) rfl rfl rfl (fun c => ?_) (fun c => ?_)
            · replace k := itp c k
              refine w_aload_n (p := 170) (pI pM_58 rfl) rfl rfl ?_
              refine w_aload_n (p := 171) (pI pM_58 rfl) rfl rfl ?_
              refine w_iload_n (p := 172) (pI pM_58 rfl) rfl rfl ?_
              refine w_iload_n (p := 173) (pI pM_58 rfl) rfl rfl ?_
              refine v_virtual (p := 176) (mj := 68) (pI pM_58 rfl) rfl rfl rfl rfl rfl rfl rfl rfl rfl rfl (by decide) (by decide) rfl ?_
              refine d68_goElsewhere h_w (D68_goElsewhere_mono k (fun A8 I9 k => ?_))
              refine w_iconst (p := 177) (v := nI 0) (pI pM_58 rfl) rfl rfl ?_
              exact w_ireturn (pI pM_58 rfl) rfl rfl rfl k
            · replace k := itn c k
              refine w_aload_n (p := 161) (pI pM_58 rfl) rfl rfl ?_
              refine w_aload_n (p := 162) (pI pM_58 rfl) rfl rfl ?_
              refine w_iload_n (p := 163) (pI pM_58 rfl) rfl rfl ?_
              refine v_virtual (p := 166) (mj := 50) (pI pM_58 rfl) rfl rfl rfl rfl rfl rfl rfl rfl rfl rfl (by decide) (by decide) rfl ?_
              refine d50_compute h_w (D50_compute_mono k (fun A10 I11 k => ?_))
              refine w_goto (p := 176) (pI pM_58 rfl) rfl rfl ?_
              refine w_iconst (p := 177) (v := nI 0) (pI pM_58 rfl) rfl rfl ?_
              exact w_ireturn (pI pM_58 rfl) rfl rfl rfl k
          · replace k := itp (Decidable.not_not.mp c) k
            refine w_aload_n (p := 146) (pI pM_58 rfl) rfl rfl ?_
            refine w_iload_n (p := 147) (pI pM_58 rfl) rfl rfl ?_
            refine w_iload_n (p := 148) (pI pM_58 rfl) rfl rfl ?_
            refine w_static (p := 151) (mj := 67) (pI pM_58 rfl) rfl rfl rfl rfl rfl rfl rfl rfl rfl ?_
            refine d67_moveValues h_w (D67_moveValues_mono k (fun A12 I13 k => ?_))
            refine w_goto (p := 176) (pI pM_58 rfl) rfl rfl ?_
            refine w_iconst (p := 177) (v := nI 0) (pI pM_58 rfl) rfl rfl ?_
            exact w_ireturn (pI pM_58 rfl) rfl rfl rfl k
      · replace k := itn c k
        refine w_aload_n (p := 67) (pI pM_58 rfl) rfl rfl ?_
        refine w_iload_n (p := 68) (pI pM_58 rfl) rfl rfl ?_
        refine w_static (p := 71) (mj := 63) (pI pM_58 rfl) rfl rfl rfl rfl rfl rfl rfl rfl rfl ?_
        refine d63_leftOf h_w (D63_leftOf_mono k (fun v14 k => ?_))
        refine w_istore (p := 73) (pI pM_58 rfl) rfl rfl rfl ?_
        refine w_aload_n (p := 74) (pI pM_58 rfl) rfl rfl ?_
        refine w_iload_n (p := 75) (pI pM_58 rfl) rfl rfl ?_
        refine w_static (p := 78) (mj := 65) (pI pM_58 rfl) rfl rfl rfl rfl rfl rfl rfl rfl rfl ?_
        refine d65_rightOf h_w (D65_rightOf_mono k (fun v15 k => ?_))
        refine w_istore (p := 80) (pI pM_58 rfl) rfl rfl rfl ?_
        refine w_iload (p := 82) (pI pM_58 rfl) rfl rfl ?_
        refine w_static (p := 85) (mj := 25) (pI pM_58 rfl) rfl rfl rfl rfl rfl rfl rfl rfl rfl ?_
        refine d25_isNumber (D25_isNumber_mono k (fun v16 k => ?_))
        refine w_if_eq (p := 88) (q := 96) (pI pM_58 rfl) rfl rfl rfl (fun c => ?_) (fun c => ?_)
        · replace k := itp c k
          refine w_iconst (p := 97) (v := nI 1) (pI pM_58 rfl) rfl rfl ?_
          exact w_ireturn (pI pM_58 rfl) rfl rfl rfl k
        · replace k := itn c k
          refine w_iload (p := 90) (pI pM_58 rfl) rfl rfl ?_
          refine w_static (p := 93) (mj := 25) (pI pM_58 rfl) rfl rfl rfl rfl rfl rfl rfl rfl rfl ?_
          refine d25_isNumber (D25_isNumber_mono k (fun v17 k => ?_))
          refine w_if_ne (p := 96) (q := 98) (pI pM_58 rfl) rfl rfl rfl (fun c => ?_) (fun c => ?_)
          · replace k := itn c k
            refine w_iload (p := 100) (pI pM_58 rfl) rfl rfl ?_
            refine w_static (p := 103) (mj := 26) (pI pM_58 rfl) rfl rfl rfl rfl rfl rfl rfl rfl rfl ?_
            refine d26_numberIn (D26_numberIn_mono k (fun v18 k => ?_))
            refine w_istore (p := 105) (pI pM_58 rfl) rfl rfl rfl ?_
            refine w_iload (p := 107) (pI pM_58 rfl) rfl rfl ?_
            refine w_static (p := 110) (mj := 26) (pI pM_58 rfl) rfl rfl rfl rfl rfl rfl rfl rfl rfl ?_
            refine d26_numberIn (D26_numberIn_mono k (fun v19 k => ?_))
            refine w_istore (p := 112) (pI pM_58 rfl) rfl rfl rfl ?_
            refine w_aload_n (p := 113) (pI pM_58 rfl) rfl rfl ?_
            refine w_aload_n (p := 114) (pI pM_58 rfl) rfl rfl ?_
            refine w_iload_n (p := 115) (pI pM_58 rfl) rfl rfl ?_
            refine w_iload_n (p := 116) (pI pM_58 rfl) rfl rfl ?_
            refine w_iload (p := 118) (pI pM_58 rfl) rfl rfl ?_
            refine w_iload (p := 120) (pI pM_58 rfl) rfl rfl ?_
            refine w_aload_n (p := 121) (pI pM_58 rfl) rfl rfl ?_
            refine w_iload_n (p := 122) (pI pM_58 rfl) rfl rfl ?_
            refine w_static (p := 125) (mj := 53) (pI pM_58 rfl) rfl rfl rfl rfl rfl rfl rfl rfl rfl ?_
            refine d53_lengthAt h_w (D53_lengthAt_mono k (fun v20 k => ?_))
            refine w_static (p := 128) (mj := 66) (pI pM_58 rfl) rfl rfl rfl rfl rfl rfl rfl rfl rfl ?_
            refine d66_choose (D66_choose_mono k (fun v21 k => ?_))
            refine v_virtual (p := 131) (mj := 48) (pI pM_58 rfl) rfl rfl rfl rfl rfl rfl rfl rfl rfl rfl (by decide) (by decide) rfl ?_
            refine d48_act h_w (D48_act_mono k (fun A22 I23 k => ?_))
            refine w_goto (p := 176) (pI pM_58 rfl) rfl rfl ?_
            refine w_iconst (p := 177) (v := nI 0) (pI pM_58 rfl) rfl rfl ?_
            exact w_ireturn (pI pM_58 rfl) rfl rfl rfl k
          · replace k := itp (Decidable.not_not.mp c) k
            refine w_iconst (p := 97) (v := nI 1) (pI pM_58 rfl) rfl rfl ?_
            exact w_ireturn (pI pM_58 rfl) rfl rfl rfl k
    · replace k := itn c k
      refine w_aload_n (p := 42) (pI pM_58 rfl) rfl rfl ?_
      refine w_iload_n (p := 43) (pI pM_58 rfl) rfl rfl ?_
      refine w_static (p := 46) (mj := 54) (pI pM_58 rfl) rfl rfl rfl rfl rfl rfl rfl rfl rfl ?_
      refine d54_arrayOf h_w (D54_arrayOf_mono k (fun v24 k => ?_))
      refine w_iconst (p := 47) (v := -1) (pI pM_58 rfl) rfl rfl ?_
      refine w_icmp_ne (p := 50) (q := 59) (pI pM_58 rfl) rfl rfl rfl (fun c => ?_) (fun c => ?_)
      · replace k := itn c k
        refine w_iload_n (p := 60) (pI pM_58 rfl) rfl rfl ?_
        refine w_static (p := 63) (mj := 62) (pI pM_58 rfl) rfl rfl rfl rfl rfl rfl rfl rfl rfl ?_
        refine d62_isDecided (D62_isDecided_mono k (fun v25 k => ?_))
        refine w_if_eq (p := 66) (q := 134) (pI pM_58 rfl) rfl rfl rfl (fun c => ?_) (fun c => ?_)
        · replace k := itp c k
          refine w_iload_n (p := 135) (pI pM_58 rfl) rfl rfl ?_
          refine w_iconst (p := 136) (v := nI 5) (pI pM_58 rfl) rfl rfl ?_
          refine w_icmp_le (p := 139) (q := 145) (pI pM_58 rfl) rfl rfl rfl (fun c => ?_) (fun c => ?_)
          · replace k := itn (Int32.not_lt.mpr c) k
            refine w_aload_n (p := 146) (pI pM_58 rfl) rfl rfl ?_
            refine w_iload_n (p := 147) (pI pM_58 rfl) rfl rfl ?_
            refine w_iload_n (p := 148) (pI pM_58 rfl) rfl rfl ?_
            refine w_static (p := 151) (mj := 67) (pI pM_58 rfl) rfl rfl rfl rfl rfl rfl rfl rfl rfl ?_
            refine d67_moveValues h_w (D67_moveValues_mono k (fun A26 I27 k => ?_))
            refine w_goto (p := 176) (pI pM_58 rfl) rfl rfl ?_
            refine w_iconst (p := 177) (v := nI 0) (pI pM_58 rfl) rfl rfl ?_
            exact w_ireturn (pI pM_58 rfl) rfl rfl rfl k
          · replace k := itp (Int32.not_le.mp c) k
            refine w_iload_n (p := 140) (pI pM_58 rfl) rfl rfl ?_
            refine w_bipush (p := 142) (v := nI 28) (pI pM_58 rfl) rfl rfl ?_
            refine w_icmp_ne (p := 145) (q := 154) (pI pM_58 rfl) rfl rfl rfl (fun c => ?_) (fun c => ?_)
            · replace k := itn c k
              refine w_iload_n (p := 155) (pI pM_58 rfl) rfl rfl ?_
              refine w_bipush (p := 157) (v := nI 16) (pI pM_58 rfl) rfl rfl ?_
              refine w_icmp_gt (p := 160) (q := 169) (pI pM_58 rfl) rfl rfl rfl (fun c => ?_) (fun c => ?_)
              · replace k := itp c k
                refine w_aload_n (p := 170) (pI pM_58 rfl) rfl rfl ?_
                refine w_aload_n (p := 171) (pI pM_58 rfl) rfl rfl ?_
                refine w_iload_n (p := 172) (pI pM_58 rfl) rfl rfl ?_
                refine w_iload_n (p := 173) (pI pM_58 rfl) rfl rfl ?_
                refine v_virtual (p := 176) (mj := 68) (pI pM_58 rfl) rfl rfl rfl rfl rfl rfl rfl rfl rfl rfl (by decide) (by decide) rfl ?_
                refine d68_goElsewhere h_w (D68_goElsewhere_mono k (fun A28 I29 k => ?_))
                refine w_iconst (p := 177) (v := nI 0) (pI pM_58 rfl) rfl rfl ?_
                exact w_ireturn (pI pM_58 rfl) rfl rfl rfl k
              · replace k := itn c k
                refine w_aload_n (p := 161) (pI pM_58 rfl) rfl rfl ?_
                refine w_aload_n (p := 162) (pI pM_58 rfl) rfl rfl ?_
                refine w_iload_n (p := 163) (pI pM_58 rfl) rfl rfl ?_
                refine v_virtual (p := 166) (mj := 50) (pI pM_58 rfl) rfl rfl rfl rfl rfl rfl rfl rfl rfl rfl (by decide) (by decide) rfl ?_
                refine d50_compute h_w (D50_compute_mono k (fun A30 I31 k => ?_))
                refine w_goto (p := 176) (pI pM_58 rfl) rfl rfl ?_
                refine w_iconst (p := 177) (v := nI 0) (pI pM_58 rfl) rfl rfl ?_
                exact w_ireturn (pI pM_58 rfl) rfl rfl rfl k
            · replace k := itp (Decidable.not_not.mp c) k
              refine w_aload_n (p := 146) (pI pM_58 rfl) rfl rfl ?_
              refine w_iload_n (p := 147) (pI pM_58 rfl) rfl rfl ?_
              refine w_iload_n (p := 148) (pI pM_58 rfl) rfl rfl ?_
              refine w_static (p := 151) (mj := 67) (pI pM_58 rfl) rfl rfl rfl rfl rfl rfl rfl rfl rfl ?_
              refine d67_moveValues h_w (D67_moveValues_mono k (fun A32 I33 k => ?_))
              refine w_goto (p := 176) (pI pM_58 rfl) rfl rfl ?_
              refine w_iconst (p := 177) (v := nI 0) (pI pM_58 rfl) rfl rfl ?_
              exact w_ireturn (pI pM_58 rfl) rfl rfl rfl k
        · replace k := itn c k
          refine w_aload_n (p := 67) (pI pM_58 rfl) rfl rfl ?_
          refine w_iload_n (p := 68) (pI pM_58 rfl) rfl rfl ?_
          refine w_static (p := 71) (mj := 63) (pI pM_58 rfl) rfl rfl rfl rfl rfl rfl rfl rfl rfl ?_
          refine d63_leftOf h_w (D63_leftOf_mono k (fun v34 k => ?_))
          refine w_istore (p := 73) (pI pM_58 rfl) rfl rfl rfl ?_
          refine w_aload_n (p := 74) (pI pM_58 rfl) rfl rfl ?_
          refine w_iload_n (p := 75) (pI pM_58 rfl) rfl rfl ?_
          refine w_static (p := 78) (mj := 65) (pI pM_58 rfl) rfl rfl rfl rfl rfl rfl rfl rfl rfl ?_
          refine d65_rightOf h_w (D65_rightOf_mono k (fun v35 k => ?_))
          refine w_istore (p := 80) (pI pM_58 rfl) rfl rfl rfl ?_
          refine w_iload (p := 82) (pI pM_58 rfl) rfl rfl ?_
          refine w_static (p := 85) (mj := 25) (pI pM_58 rfl) rfl rfl rfl rfl rfl rfl rfl rfl rfl ?_
          refine d25_isNumber (D25_isNumber_mono k (fun v36 k => ?_))
          refine w_if_eq (p := 88) (q := 96) (pI pM_58 rfl) rfl rfl rfl (fun c => ?_) (fun c => ?_)
          · replace k := itp c k
            refine w_iconst (p := 97) (v := nI 1) (pI pM_58 rfl) rfl rfl ?_
            exact w_ireturn (pI pM_58 rfl) rfl rfl rfl k
          · replace k := itn c k
            refine w_iload (p := 90) (pI pM_58 rfl) rfl rfl ?_
            refine w_static (p := 93) (mj := 25) (pI pM_58 rfl) rfl rfl rfl rfl rfl rfl rfl rfl rfl ?_
            refine d25_isNumber (D25_isNumber_mono k (fun v37 k => ?_))
            refine w_if_ne (p := 96) (q := 98) (pI pM_58 rfl) rfl rfl rfl (fun c => ?_) (fun c => ?_)
            · replace k := itn c k
              refine w_iload (p := 100) (pI pM_58 rfl) rfl rfl ?_
              refine w_static (p := 103) (mj := 26) (pI pM_58 rfl) rfl rfl rfl rfl rfl rfl rfl rfl rfl ?_
              refine d26_numberIn (D26_numberIn_mono k (fun v38 k => ?_))
              refine w_istore (p := 105) (pI pM_58 rfl) rfl rfl rfl ?_
              refine w_iload (p := 107) (pI pM_58 rfl) rfl rfl ?_
              refine w_static (p := 110) (mj := 26) (pI pM_58 rfl) rfl rfl rfl rfl rfl rfl rfl rfl rfl ?_
              refine d26_numberIn (D26_numberIn_mono k (fun v39 k => ?_))
              refine w_istore (p := 112) (pI pM_58 rfl) rfl rfl rfl ?_
              refine w_aload_n (p := 113) (pI pM_58 rfl) rfl rfl ?_
              refine w_aload_n (p := 114) (pI pM_58 rfl) rfl rfl ?_
              refine w_iload_n (p := 115) (pI pM_58 rfl) rfl rfl ?_
              refine w_iload_n (p := 116) (pI pM_58 rfl) rfl rfl ?_
              refine w_iload (p := 118) (pI pM_58 rfl) rfl rfl ?_
              refine w_iload (p := 120) (pI pM_58 rfl) rfl rfl ?_
              refine w_aload_n (p := 121) (pI pM_58 rfl) rfl rfl ?_
              refine w_iload_n (p := 122) (pI pM_58 rfl) rfl rfl ?_
              refine w_static (p := 125) (mj := 53) (pI pM_58 rfl) rfl rfl rfl rfl rfl rfl rfl rfl rfl ?_
              refine d53_lengthAt h_w (D53_lengthAt_mono k (fun v40 k => ?_))
              refine w_static (p := 128) (mj := 66) (pI pM_58 rfl) rfl rfl rfl rfl rfl rfl rfl rfl rfl ?_
              refine d66_choose (D66_choose_mono k (fun v41 k => ?_))
              refine v_virtual (p := 131) (mj := 48) (pI pM_58 rfl) rfl rfl rfl rfl rfl rfl rfl rfl rfl rfl (by decide) (by decide) rfl ?_
              refine d48_act h_w (D48_act_mono k (fun A42 I43 k => ?_))
              refine w_goto (p := 176) (pI pM_58 rfl) rfl rfl ?_
              refine w_iconst (p := 177) (v := nI 0) (pI pM_58 rfl) rfl rfl ?_
              exact w_ireturn (pI pM_58 rfl) rfl rfl rfl k
            · replace k := itp (Decidable.not_not.mp c) k
              refine w_iconst (p := 97) (v := nI 1) (pI pM_58 rfl) rfl rfl ?_
              exact w_ireturn (pI pM_58 rfl) rfl rfl rfl k
      · replace k := itp (Decidable.not_not.mp c) k
        refine w_aload_n (p := 51) (pI pM_58 rfl) rfl rfl ?_
        refine w_aload_n (p := 52) (pI pM_58 rfl) rfl rfl ?_
        refine w_iconst (p := 53) (v := nI 5) (pI pM_58 rfl) rfl rfl ?_
        refine v_virtual (p := 56) (mj := 51) (pI pM_58 rfl) rfl rfl rfl rfl rfl rfl rfl rfl rfl rfl (by decide) (by decide) rfl ?_
        refine d51_raise h_w (D51_raise_mono k (fun A44 I45 k => ?_))
        refine w_goto (p := 176) (pI pM_58 rfl) rfl rfl ?_
        refine w_iconst (p := 177) (v := nI 0) (pI pM_58 rfl) rfl rfl ?_
        exact w_ireturn (pI pM_58 rfl) rfl rfl rfl k
  · replace k := itn c k
    refine w_aload_n (p := 23) (pI pM_58 rfl) rfl rfl ?_
    refine w_iconst (p := 24) (v := nI 5) (pI pM_58 rfl) rfl rfl ?_
    refine w_aload_n (p := 25) (pI pM_58 rfl) rfl rfl ?_
    refine v_virtual (p := 28) (mj := 123) (pI pM_58 rfl) rfl rfl rfl rfl rfl rfl rfl rfl rfl rfl (isW.ge h_w 0) (isW.lt h_w 0 (by decide)) (isW.sk h_w 0 (by decide)) ?_
    refine d123_placeNow h_w (D123_placeNow_mono k (fun v46 k => ?_))
    refine v_virtual (p := 31) (mj := 124) (pI pM_58 rfl) rfl rfl rfl rfl rfl rfl rfl rfl rfl rfl (isW.ge h_w 0) (isW.lt h_w 0 (by decide)) (isW.sk h_w 0 (by decide)) ?_
    refine d124_end h_w (D124_end_mono k (fun A47 I48 k => ?_))
    refine w_goto (p := 176) (pI pM_58 rfl) rfl rfl ?_
    refine w_iconst (p := 177) (v := nI 0) (pI pM_58 rfl) rfl rfl ?_
    exact w_ireturn (pI pM_58 rfl) rfl rfl rfl k
set_option maxRecDepth 100000 in
set_option maxHeartbeats 4000000 in
theorem d97_goesToSplit {d L : Nat} {w : Nat} {A I : HA} {Q : bm_Q} (h_w : isW w) (k : D97_goesToSplit w A I (fun v A I => Q (some (.int v)) (hp L A I))) : bm_M (d + 6) 97 [.ref 20, .ref w] (hp L A I) Q := by
  unfold D97_goesToSplit at k
  refine bw_enter rfl rfl rfl rfl ?_
  refine w_iconst (p := 1) (v := nI 0) (pI pM_97 rfl) rfl rfl ?_
  refine w_istore_n (p := 2) (pI pM_97 rfl) rfl rfl rfl ?_
  refine k (fun a2 A3 I4 => bm_W (bm_M (d + 5)) 97 Q 2 [.ref 20, .ref w, .int a2] [] (hp L A3 I4)) (fun a2 A3 I4 k => ?_)
  refine w_iload_n (p := 3) (pI pM_97 rfl) rfl rfl ?_
  refine w_sipush (p := 6) (v := nI 200) (pI pM_97 rfl) rfl rfl ?_
  refine w_icmp_gt (p := 9) (q := 66) (pI pM_97 rfl) rfl rfl rfl (fun c => ?_) (fun c => ?_)
  · replace k := itp c k
    refine w_iconst (p := 67) (v := nI 0) (pI pM_97 rfl) rfl rfl ?_
    exact w_ireturn (pI pM_97 rfl) rfl rfl rfl k
  · replace k := itn c k
    refine w_aload_n (p := 10) (pI pM_97 rfl) rfl rfl ?_
    refine v_getR (p := 13) (kf := 0) (pI pM_97 rfl) rfl rfl rfl (by decide) (by decide) rfl rfl ?_
    refine w_aload_n (p := 14) (pI pM_97 rfl) rfl rfl ?_
    refine w_aload_n (p := 15) (pI pM_97 rfl) rfl rfl ?_
    refine v_getI (p := 18) (kf := 15) (pI pM_97 rfl) rfl rfl rfl (by decide) (by decide) rfl rfl rfl ?_
    refine v_virtual (p := 21) (mj := 57) (pI pM_97 rfl) rfl rfl rfl rfl rfl rfl rfl rfl rfl rfl (by decide) (by decide) rfl ?_
    refine d57_comesToOne h_w (D57_comesToOne_mono k (fun v6 A7 I8 k => ?_))
    refine w_if_eq (p := 24) (q := 66) (pI pM_97 rfl) rfl rfl rfl (fun c => ?_) (fun c => ?_)
    · replace k := itp c k
      refine w_iconst (p := 67) (v := nI 0) (pI pM_97 rfl) rfl rfl ?_
      exact w_ireturn (pI pM_97 rfl) rfl rfl rfl k
    · replace k := itn c k
      refine w_aload_n (p := 25) (pI pM_97 rfl) rfl rfl ?_
      refine v_getR (p := 28) (kf := 8) (pI pM_97 rfl) rfl rfl rfl (by decide) (by decide) rfl rfl ?_
      refine w_aload_n (p := 29) (pI pM_97 rfl) rfl rfl ?_
      refine v_virtual (p := 32) (mj := 118) (pI pM_97 rfl) rfl rfl rfl rfl rfl rfl rfl rfl rfl rfl (isW.ge h_w 0) (isW.lt h_w 0 (by decide)) (isW.sk h_w 0 (by decide)) ?_
      refine d118_slotNow h_w (D118_slotNow_mono k (fun v9 k => ?_))
      refine w_dup2 (p := 33) (pI pM_97 rfl) rfl rfl rfl ?_
      obtain ⟨s10, k⟩ := k
      refine v_iald (p := 34) (pI pM_97 rfl) rfl (by decide) rfl s10 rfl ?_
      refine w_iconst (p := 35) (v := nI 1) (pI pM_97 rfl) rfl rfl ?_
      refine w_iadd (p := 36) (pI pM_97 rfl) rfl ?_
      obtain ⟨s11, k⟩ := k
      refine s_iast (p := 37) (pI pM_97 rfl) rfl (by decide) (by decide) rfl s11 ?_
      refine w_aload_n (p := 38) (pI pM_97 rfl) rfl rfl ?_
      refine w_dup (p := 39) (pI pM_97 rfl) rfl rfl ?_
      refine v_getI (p := 42) (kf := 9) (pI pM_97 rfl) rfl rfl rfl (by decide) (by decide) rfl rfl rfl ?_
      refine w_iconst (p := 43) (v := nI 1) (pI pM_97 rfl) rfl rfl ?_
      refine w_iadd (p := 44) (pI pM_97 rfl) rfl ?_
      refine s_putI (p := 47) (kf := 9) (pI pM_97 rfl) rfl rfl rfl (by decide) (by decide) rfl rfl rfl rfl rfl rfl ?_
      refine w_aload_n (p := 48) (pI pM_97 rfl) rfl rfl ?_
      refine v_getR (p := 51) (kf := 0) (pI pM_97 rfl) rfl rfl rfl (by decide) (by decide) rfl rfl ?_
      refine w_aload_n (p := 52) (pI pM_97 rfl) rfl rfl ?_
      refine v_virtual (p := 55) (mj := 58) (pI pM_97 rfl) rfl rfl rfl rfl rfl rfl rfl rfl rfl rfl (by decide) (by decide) rfl ?_
      refine d58_stopsToSplit h_w (D58_stopsToSplit_mono k (fun v12 A13 I14 k => ?_))
      refine w_if_eq (p := 58) (q := 60) (pI pM_97 rfl) rfl rfl rfl (fun c => ?_) (fun c => ?_)
      · replace k := itp c k
        refine w_iinc (p := 63) (v := (a2 + nI 1)) (pI pM_97 rfl) rfl rfl rfl rfl ?_
        refine w_goto (p := 2) (pI pM_97 rfl) rfl rfl ?_
        exact k
      · replace k := itn c k
        refine w_iconst (p := 59) (v := nI 1) (pI pM_97 rfl) rfl rfl ?_
        exact w_ireturn (pI pM_97 rfl) rfl rfl rfl k
set_option maxRecDepth 100000 in
set_option maxHeartbeats 4000000 in
theorem d32_isMade {d L : Nat} {x : Int32} {A I : HA} {Q : bm_Q} (k : D32_isMade x A I (fun v => Q (some (.int v)) (hp L A I))) : bm_M (d + 1) 32 [.ref 32, .int x] (hp L A I) Q := by
  unfold D32_isMade at k
  refine bw_enter rfl rfl rfl rfl ?_
  refine w_iload_n (p := 1) (pI pM_32 rfl) rfl rfl ?_
  refine w_sipush (p := 4) (v := nI 258) (pI pM_32 rfl) rfl rfl ?_
  refine w_icmp_lt (p := 7) (q := 19) (pI pM_32 rfl) rfl rfl rfl (fun c => ?_) (fun c => ?_)
  · replace k := itp c k
    refine w_iconst (p := 20) (v := nI 0) (pI pM_32 rfl) rfl rfl ?_
    exact w_ireturn (pI pM_32 rfl) rfl rfl rfl k
  · replace k := itn c k
    refine w_iload_n (p := 8) (pI pM_32 rfl) rfl rfl ?_
    refine w_aload_n (p := 9) (pI pM_32 rfl) rfl rfl ?_
    refine v_getI (p := 12) (kf := 4) (pI pM_32 rfl) rfl rfl rfl (by decide) (by decide) rfl rfl rfl ?_
    refine w_icmp_ge (p := 15) (q := 19) (pI pM_32 rfl) rfl rfl rfl (fun c => ?_) (fun c => ?_)
    · replace k := itn (Int32.not_lt.mpr c) k
      refine w_iconst (p := 20) (v := nI 0) (pI pM_32 rfl) rfl rfl ?_
      exact w_ireturn (pI pM_32 rfl) rfl rfl rfl k
    · replace k := itp (Int32.not_le.mp c) k
      refine w_iconst (p := 16) (v := nI 1) (pI pM_32 rfl) rfl rfl ?_
      refine w_goto (p := 20) (pI pM_32 rfl) rfl rfl ?_
      exact w_ireturn (pI pM_32 rfl) rfl rfl rfl k
set_option maxRecDepth 100000 in
set_option maxHeartbeats 4000000 in
theorem d31_lastTokenOf {d L : Nat} {x : Int32} {A I : HA} {Q : bm_Q} (k : D31_lastTokenOf x A I (fun v => Q (some (.int v)) (hp L A I))) : bm_M (d + 2) 31 [.ref 32, .int x] (hp L A I) Q := by
  unfold D31_lastTokenOf at k
  refine bw_enter rfl rfl rfl rfl ?_
  refine w_aload_n (p := 1) (pI pM_31 rfl) rfl rfl ?_
  refine w_iload_n (p := 2) (pI pM_31 rfl) rfl rfl ?_
  refine v_virtual (p := 5) (mj := 32) (pI pM_31 rfl) rfl rfl rfl rfl rfl rfl rfl rfl rfl rfl (by decide) (by decide) rfl ?_
  refine d32_isMade (D32_isMade_mono k (fun v1 k => ?_))
  refine w_if_eq (p := 8) (q := 15) (pI pM_31 rfl) rfl rfl rfl (fun c => ?_) (fun c => ?_)
  · replace k := itp c k
    refine w_iload_n (p := 16) (pI pM_31 rfl) rfl rfl ?_
    refine w_static (p := 19) (mj := 25) (pI pM_31 rfl) rfl rfl rfl rfl rfl rfl rfl rfl rfl ?_
    refine d25_isNumber (D25_isNumber_mono k (fun v2 k => ?_))
    refine w_if_eq (p := 22) (q := 31) (pI pM_31 rfl) rfl rfl rfl (fun c => ?_) (fun c => ?_)
    · replace k := itp c k
      refine w_iload_n (p := 32) (pI pM_31 rfl) rfl rfl ?_
      refine w_sipush (p := 35) (v := nI 256) (pI pM_31 rfl) rfl rfl ?_
      refine w_icmp_ne (p := 38) (q := 42) (pI pM_31 rfl) rfl rfl rfl (fun c => ?_) (fun c => ?_)
      · replace k := itn c k
        refine w_iconst (p := 43) (v := nI 2) (pI pM_31 rfl) rfl rfl ?_
        exact w_ireturn (pI pM_31 rfl) rfl rfl rfl k
      · replace k := itp (Decidable.not_not.mp c) k
        refine w_iconst (p := 39) (v := nI 1) (pI pM_31 rfl) rfl rfl ?_
        refine w_goto (p := 43) (pI pM_31 rfl) rfl rfl ?_
        exact w_ireturn (pI pM_31 rfl) rfl rfl rfl k
    · replace k := itn c k
      refine w_sipush (p := 25) (v := nI 1000) (pI pM_31 rfl) rfl rfl ?_
      refine w_iload_n (p := 26) (pI pM_31 rfl) rfl rfl ?_
      refine w_static (p := 29) (mj := 26) (pI pM_31 rfl) rfl rfl rfl rfl rfl rfl rfl rfl rfl ?_
      refine d26_numberIn (D26_numberIn_mono k (fun v3 k => ?_))
      refine w_iadd (p := 30) (pI pM_31 rfl) rfl ?_
      exact w_ireturn (pI pM_31 rfl) rfl rfl rfl k
  · replace k := itn c k
    refine w_aload_n (p := 9) (pI pM_31 rfl) rfl rfl ?_
    refine v_getR (p := 12) (kf := 0) (pI pM_31 rfl) rfl rfl rfl (by decide) (by decide) rfl rfl ?_
    refine w_iload_n (p := 13) (pI pM_31 rfl) rfl rfl ?_
    obtain ⟨s4, k⟩ := k
    refine v_iald (p := 14) (pI pM_31 rfl) rfl (by decide) rfl s4 rfl ?_
    exact w_ireturn (pI pM_31 rfl) rfl rfl rfl k
set_option maxRecDepth 100000 in
set_option maxHeartbeats 4000000 in
theorem d33_leftOf {d L : Nat} {x : Int32} {A I : HA} {Q : bm_Q} (k : D33_leftOf x A I (fun v => Q (some (.int v)) (hp L A I))) : bm_M (d + 2) 33 [.ref 32, .int x] (hp L A I) Q := by
  unfold D33_leftOf at k
  refine bw_enter rfl rfl rfl rfl ?_
  refine w_aload_n (p := 1) (pI pM_33 rfl) rfl rfl ?_
  refine w_iload_n (p := 2) (pI pM_33 rfl) rfl rfl ?_
  refine v_virtual (p := 5) (mj := 32) (pI pM_33 rfl) rfl rfl rfl rfl rfl rfl rfl rfl rfl rfl (by decide) (by decide) rfl ?_
  refine d32_isMade (D32_isMade_mono k (fun v1 k => ?_))
  refine w_if_eq (p := 8) (q := 17) (pI pM_33 rfl) rfl rfl rfl (fun c => ?_) (fun c => ?_)
  · replace k := itp c k
    refine w_iconst (p := 18) (v := -1) (pI pM_33 rfl) rfl rfl ?_
    exact w_ireturn (pI pM_33 rfl) rfl rfl rfl k
  · replace k := itn c k
    refine w_aload_n (p := 9) (pI pM_33 rfl) rfl rfl ?_
    refine v_getR (p := 12) (kf := 1) (pI pM_33 rfl) rfl rfl rfl (by decide) (by decide) rfl rfl ?_
    refine w_iload_n (p := 13) (pI pM_33 rfl) rfl rfl ?_
    obtain ⟨s2, k⟩ := k
    refine v_iald (p := 14) (pI pM_33 rfl) rfl (by decide) rfl s2 rfl ?_
    refine w_goto (p := 18) (pI pM_33 rfl) rfl rfl ?_
    exact w_ireturn (pI pM_33 rfl) rfl rfl rfl k
set_option maxRecDepth 100000 in
set_option maxHeartbeats 4000000 in
theorem d111_leaveOpen {d L : Nat} {t : Nat} {x : Int32} {y : Int32} {A I : HA} {Q : bm_Q} (h_t : isT t) (k : D111_leaveOpen t x y A I (fun v A I => Q (some (.int v)) (hp L A I))) : bm_M (d + 1) 111 [.ref t, .int x, .int y] (hp L A I) Q := by
  unfold D111_leaveOpen at k
  refine bw_enter rfl rfl rfl rfl ?_
  refine w_iload_n (p := 1) (pI pM_111 rfl) rfl rfl ?_
  refine w_if_lt (p := 4) (q := 13) (pI pM_111 rfl) rfl rfl rfl (fun c => ?_) (fun c => ?_)
  · replace k := itp c k
    refine w_iload_n (p := 14) (pI pM_111 rfl) rfl rfl ?_
    exact w_ireturn (pI pM_111 rfl) rfl rfl rfl k
  · replace k := itn c k
    refine w_iload_n (p := 5) (pI pM_111 rfl) rfl rfl ?_
    refine w_aload_n (p := 6) (pI pM_111 rfl) rfl rfl ?_
    refine v_getR (p := 9) (kf := 1) (pI pM_111 rfl) rfl rfl rfl (isT.ge h_t 0) (isT.lt h_t 0 (by decide)) (isT.sk h_t 0 (by decide)) rfl ?_
    refine v_alen (p := 10) (x := nI 61) (pI pM_111 rfl) rfl (isT.lt h_t 2 (by decide)) (isT.sk h_t 2 (by decide)) rfl ?_
    refine w_icmp_lt (p := 13) (q := 15) (pI pM_111 rfl) rfl rfl rfl (fun c => ?_) (fun c => ?_)
    · replace k := itp c k
      refine w_aload_n (p := 16) (pI pM_111 rfl) rfl rfl ?_
      refine v_getR (p := 19) (kf := 1) (pI pM_111 rfl) rfl rfl rfl (isT.ge h_t 0) (isT.lt h_t 0 (by decide)) (isT.sk h_t 0 (by decide)) rfl ?_
      refine w_iload_n (p := 20) (pI pM_111 rfl) rfl rfl ?_
      refine w_iload_n (p := 21) (pI pM_111 rfl) rfl rfl ?_
      obtain ⟨s1, k⟩ := k
      refine s_iast (p := 22) (pI pM_111 rfl) rfl (isT.ge h_t 2) (isT.lt h_t 2 (by decide)) (isT.sk h_t 2 (by decide)) s1 ?_
      refine w_iload_n (p := 23) (pI pM_111 rfl) rfl rfl ?_
      refine w_iconst (p := 24) (v := nI 1) (pI pM_111 rfl) rfl rfl ?_
      refine w_iadd (p := 25) (pI pM_111 rfl) rfl ?_
      exact w_ireturn (pI pM_111 rfl) rfl rfl rfl k
    · replace k := itn c k
      refine w_iload_n (p := 14) (pI pM_111 rfl) rfl rfl ?_
      exact w_ireturn (pI pM_111 rfl) rfl rfl rfl k
set_option maxRecDepth 100000 in
set_option maxHeartbeats 4000000 in
theorem d34_rightOf {d L : Nat} {x : Int32} {A I : HA} {Q : bm_Q} (k : D34_rightOf x A I (fun v => Q (some (.int v)) (hp L A I))) : bm_M (d + 2) 34 [.ref 32, .int x] (hp L A I) Q := by
  unfold D34_rightOf at k
  refine bw_enter rfl rfl rfl rfl ?_
  refine w_aload_n (p := 1) (pI pM_34 rfl) rfl rfl ?_
  refine w_iload_n (p := 2) (pI pM_34 rfl) rfl rfl ?_
  refine v_virtual (p := 5) (mj := 32) (pI pM_34 rfl) rfl rfl rfl rfl rfl rfl rfl rfl rfl rfl (by decide) (by decide) rfl ?_
  refine d32_isMade (D32_isMade_mono k (fun v1 k => ?_))
  refine w_if_eq (p := 8) (q := 17) (pI pM_34 rfl) rfl rfl rfl (fun c => ?_) (fun c => ?_)
  · replace k := itp c k
    refine w_iconst (p := 18) (v := -1) (pI pM_34 rfl) rfl rfl ?_
    exact w_ireturn (pI pM_34 rfl) rfl rfl rfl k
  · replace k := itn c k
    refine w_aload_n (p := 9) (pI pM_34 rfl) rfl rfl ?_
    refine v_getR (p := 12) (kf := 2) (pI pM_34 rfl) rfl rfl rfl (by decide) (by decide) rfl rfl ?_
    refine w_iload_n (p := 13) (pI pM_34 rfl) rfl rfl ?_
    obtain ⟨s2, k⟩ := k
    refine v_iald (p := 14) (pI pM_34 rfl) rfl (by decide) rfl s2 rfl ?_
    refine w_goto (p := 18) (pI pM_34 rfl) rfl rfl ?_
    exact w_ireturn (pI pM_34 rfl) rfl rfl rfl k
set_option maxRecDepth 100000 in
set_option maxHeartbeats 4000000 in
theorem d110_write {d L : Nat} {t : Nat} {x : Int32} {A I : HA} {Q : bm_Q} (h_t : isT t) (k : D110_write t x A I (fun A I => Q none (hp L A I))) : bm_M (d + 3) 110 [.ref t, .ref 32, .int x] (hp L A I) Q := by
  unfold D110_write at k
  refine bw_enter rfl rfl rfl rfl ?_
  refine w_aload_n (p := 1) (pI pM_110 rfl) rfl rfl ?_
  refine w_aload_n (p := 2) (pI pM_110 rfl) rfl rfl ?_
  refine w_iload_n (p := 3) (pI pM_110 rfl) rfl rfl ?_
  refine v_virtual (p := 6) (mj := 28) (pI pM_110 rfl) rfl rfl rfl rfl rfl rfl rfl rfl rfl rfl (by decide) (by decide) rfl ?_
  refine d28_sizeOf (D28_sizeOf_mono k (fun v1 k => ?_))
  refine w_bipush (p := 8) (v := nI 60) (pI pM_110 rfl) rfl rfl ?_
  refine w_min (p := 11) (pI pM_110 rfl) rfl rfl rfl rfl rfl rfl ?_
  refine s_putI (p := 14) (kf := 3) (pI pM_110 rfl) rfl rfl rfl (isT.ge h_t 0) (isT.lt h_t 0 (by decide)) (isT.sk h_t 0 (by decide)) rfl rfl rfl rfl rfl ?_
  refine w_iconst (p := 15) (v := nI 1) (pI pM_110 rfl) rfl rfl ?_
  refine w_istore_n (p := 16) (pI pM_110 rfl) rfl rfl rfl ?_
  refine w_aload_n (p := 17) (pI pM_110 rfl) rfl rfl ?_
  refine v_getR (p := 20) (kf := 1) (pI pM_110 rfl) rfl rfl rfl (isT.ge h_t 0) (isT.lt h_t 0 (by decide)) (isT.sk h_t 0 (by decide)) rfl ?_
  refine w_iconst (p := 21) (v := nI 0) (pI pM_110 rfl) rfl rfl ?_
  refine w_iload_n (p := 22) (pI pM_110 rfl) rfl rfl ?_
  obtain ⟨s2, k⟩ := k
  refine s_iast (p := 23) (pI pM_110 rfl) rfl (isT.ge h_t 2) (isT.lt h_t 2 (by decide)) (isT.sk h_t 2 (by decide)) s2 ?_
  refine w_aload_n (p := 24) (pI pM_110 rfl) rfl rfl ?_
  refine v_getI (p := 27) (kf := 3) (pI pM_110 rfl) rfl rfl rfl (isT.ge h_t 0) (isT.lt h_t 0 (by decide)) (isT.sk h_t 0 (by decide)) rfl rfl ?_
  refine w_iconst (p := 28) (v := nI 1) (pI pM_110 rfl) rfl rfl ?_
  refine w_isub (p := 29) (pI pM_110 rfl) rfl ?_
  refine w_istore (p := 31) (pI pM_110 rfl) rfl rfl rfl ?_
  refine k (fun a4 a5 A8 I9 => ∀ u6 u7 : Value, bm_W (bm_M (d + 2)) 110 Q 31 [.ref t, .ref 32, u6, .int a4, .int a5, u7] [] (hp L A8 I9)) (fun a4 a5 A8 I9 k => ?_) _ _
  intro u6 u7
  refine w_iload (p := 33) (pI pM_110 rfl) rfl rfl ?_
  refine w_if_lt (p := 36) (q := 94) (pI pM_110 rfl) rfl rfl rfl (fun c => ?_) (fun c => ?_)
  · replace k := itp c k
    exact w_return (pI pM_110 rfl) rfl k
  · replace k := itn c k
    refine w_iload_n (p := 37) (pI pM_110 rfl) rfl rfl ?_
    refine w_if_le (p := 40) (q := 94) (pI pM_110 rfl) rfl rfl rfl (fun c => ?_) (fun c => ?_)
    · replace k := itn (Int32.not_lt.mpr c) k
      exact w_return (pI pM_110 rfl) rfl k
    · replace k := itp (Int32.not_le.mp c) k
      refine w_iinc (p := 43) (v := (a4 + (-1))) (pI pM_110 rfl) rfl rfl rfl rfl ?_
      refine w_aload_n (p := 44) (pI pM_110 rfl) rfl rfl ?_
      refine v_getR (p := 47) (kf := 1) (pI pM_110 rfl) rfl rfl rfl (isT.ge h_t 0) (isT.lt h_t 0 (by decide)) (isT.sk h_t 0 (by decide)) rfl ?_
      refine w_iload_n (p := 48) (pI pM_110 rfl) rfl rfl ?_
      obtain ⟨s11, k⟩ := k
      refine v_iald (p := 49) (pI pM_110 rfl) rfl (isT.lt h_t 2 (by decide)) (isT.sk h_t 2 (by decide)) s11 rfl ?_
      refine w_istore (p := 51) (pI pM_110 rfl) rfl rfl rfl ?_
      refine w_aload_n (p := 52) (pI pM_110 rfl) rfl rfl ?_
      refine v_getR (p := 55) (kf := 0) (pI pM_110 rfl) rfl rfl rfl (isT.ge h_t 0) (isT.lt h_t 0 (by decide)) (isT.sk h_t 0 (by decide)) rfl ?_
      refine w_iload (p := 57) (pI pM_110 rfl) rfl rfl ?_
      refine w_aload_n (p := 58) (pI pM_110 rfl) rfl rfl ?_
      refine w_iload (p := 60) (pI pM_110 rfl) rfl rfl ?_
      refine v_virtual (p := 63) (mj := 31) (pI pM_110 rfl) rfl rfl rfl rfl rfl rfl rfl rfl rfl rfl (by decide) (by decide) rfl ?_
      refine d31_lastTokenOf (D31_lastTokenOf_mono k (fun v12 k => ?_))
      obtain ⟨s13, k⟩ := k
      refine s_iast (p := 64) (pI pM_110 rfl) rfl (isT.ge h_t 1) (isT.lt h_t 1 (by decide)) (isT.sk h_t 1 (by decide)) s13 ?_
      refine w_aload_n (p := 65) (pI pM_110 rfl) rfl rfl ?_
      refine w_aload_n (p := 66) (pI pM_110 rfl) rfl rfl ?_
      refine w_iload (p := 68) (pI pM_110 rfl) rfl rfl ?_
      refine v_virtual (p := 71) (mj := 33) (pI pM_110 rfl) rfl rfl rfl rfl rfl rfl rfl rfl rfl rfl (by decide) (by decide) rfl ?_
      refine d33_leftOf (D33_leftOf_mono k (fun v14 k => ?_))
      refine w_iload_n (p := 72) (pI pM_110 rfl) rfl rfl ?_
      refine v_virtual (p := 75) (mj := 111) (pI pM_110 rfl) rfl rfl rfl rfl rfl rfl rfl rfl rfl rfl (isT.ge h_t 0) (isT.lt h_t 0 (by decide)) (isT.sk h_t 0 (by decide)) ?_
      refine d111_leaveOpen h_t (D111_leaveOpen_mono k (fun v15 A16 I17 k => ?_))
      refine w_istore_n (p := 76) (pI pM_110 rfl) rfl rfl rfl ?_
      refine w_aload_n (p := 77) (pI pM_110 rfl) rfl rfl ?_
      refine w_aload_n (p := 78) (pI pM_110 rfl) rfl rfl ?_
      refine w_iload (p := 80) (pI pM_110 rfl) rfl rfl ?_
      refine v_virtual (p := 83) (mj := 34) (pI pM_110 rfl) rfl rfl rfl rfl rfl rfl rfl rfl rfl rfl (by decide) (by decide) rfl ?_
      refine d34_rightOf (D34_rightOf_mono k (fun v18 k => ?_))
      refine w_iload_n (p := 84) (pI pM_110 rfl) rfl rfl ?_
      refine v_virtual (p := 87) (mj := 111) (pI pM_110 rfl) rfl rfl rfl rfl rfl rfl rfl rfl rfl rfl (isT.ge h_t 0) (isT.lt h_t 0 (by decide)) (isT.sk h_t 0 (by decide)) ?_
      refine d111_leaveOpen h_t (D111_leaveOpen_mono k (fun v19 A20 I21 k => ?_))
      refine w_istore_n (p := 88) (pI pM_110 rfl) rfl rfl rfl ?_
      refine w_iinc (p := 91) (v := (a5 + (-1))) (pI pM_110 rfl) rfl rfl rfl rfl ?_
      refine w_goto (p := 31) (pI pM_110 rfl) rfl rfl ?_
      exact k _ _
set_option maxRecDepth 100000 in
set_option maxHeartbeats 4000000 in
theorem d37_clear {d L : Nat} {n : Nat} {A I : HA} {Q : bm_Q} (h_n : isN n) (k : D37_clear n A I (fun A I => Q none (hp L A I))) : bm_M (d + 2) 37 [.ref n] (hp L A I) Q := by
  unfold D37_clear at k
  refine bw_enter rfl rfl rfl rfl ?_
  refine w_aload_n (p := 1) (pI pM_37 rfl) rfl rfl ?_
  refine v_getR (p := 4) (kf := 0) (pI pM_37 rfl) rfl rfl rfl (isN.ge h_n 0) (isN.lt h_n 0 (by decide)) (isN.sk h_n 0 (by decide)) rfl ?_
  refine w_iconst (p := 5) (v := nI 0) (pI pM_37 rfl) rfl rfl ?_
  refine w_static (p := 8) (mj := 213) (pI pM_37 rfl) rfl rfl rfl rfl rfl rfl rfl rfl rfl ?_
  refine c_fill _ (isN.ge h_n 1) (isN.lt h_n 1 (by decide)) (isN.sk h_n 1 (by decide)) (by decide) ?_
  exact w_return (pI pM_37 rfl) rfl k
set_option maxRecDepth 100000 in
set_option maxHeartbeats 4000000 in
theorem d38_has {d L : Nat} {n : Nat} {x : Int32} {A I : HA} {Q : bm_Q} (h_n : isN n) (k : D38_has n x A I (fun v => Q (some (.int v)) (hp L A I))) : bm_M (d + 1) 38 [.ref n, .int x] (hp L A I) Q := by
  unfold D38_has at k
  refine bw_enter rfl rfl rfl rfl ?_
  refine w_aload_n (p := 1) (pI pM_38 rfl) rfl rfl ?_
  refine v_getR (p := 4) (kf := 0) (pI pM_38 rfl) rfl rfl rfl (isN.ge h_n 0) (isN.lt h_n 0 (by decide)) (isN.sk h_n 0 (by decide)) rfl ?_
  refine w_iload_n (p := 5) (pI pM_38 rfl) rfl rfl ?_
  refine w_bipush (p := 7) (v := nI 32) (pI pM_38 rfl) rfl rfl ?_
  refine w_idiv (p := 8) (pI pM_38 rfl) rfl (by decide) ?_
  obtain ⟨s1, k⟩ := k
  refine v_iald (p := 9) (pI pM_38 rfl) rfl (isN.lt h_n 1 (by decide)) (isN.sk h_n 1 (by decide)) s1 rfl ?_
  refine w_iload_n (p := 10) (pI pM_38 rfl) rfl rfl ?_
  refine w_bipush (p := 12) (v := nI 32) (pI pM_38 rfl) rfl rfl ?_
  refine w_irem (p := 13) (pI pM_38 rfl) rfl (by decide) ?_
  refine w_iushr (p := 14) (pI pM_38 rfl) rfl ?_
  refine w_iconst (p := 15) (v := nI 1) (pI pM_38 rfl) rfl rfl ?_
  refine w_iand (p := 16) (pI pM_38 rfl) rfl ?_
  refine w_iconst (p := 17) (v := nI 1) (pI pM_38 rfl) rfl rfl ?_
  refine w_icmp_ne (p := 20) (q := 24) (pI pM_38 rfl) rfl rfl rfl (fun c => ?_) (fun c => ?_)
  · replace k := itn c k
    refine w_iconst (p := 25) (v := nI 0) (pI pM_38 rfl) rfl rfl ?_
    exact w_ireturn (pI pM_38 rfl) rfl rfl rfl k
  · replace k := itp (Decidable.not_not.mp c) k
    refine w_iconst (p := 21) (v := nI 1) (pI pM_38 rfl) rfl rfl ?_
    refine w_goto (p := 25) (pI pM_38 rfl) rfl rfl ?_
    exact w_ireturn (pI pM_38 rfl) rfl rfl rfl k
set_option maxRecDepth 100000 in
set_option maxHeartbeats 4000000 in
theorem d39_xOf {d L : Nat} {x : Int32} {A I : HA} {Q : bm_Q} (k : D39_xOf x (fun v => Q (some (.int v)) (hp L A I))) : bm_M (d + 1) 39 [.int x] (hp L A I) Q := by
  unfold D39_xOf at k
  refine bw_enter rfl rfl rfl rfl ?_
  refine w_iload_n (p := 1) (pI pM_39 rfl) rfl rfl ?_
  refine w_bipush (p := 3) (v := nI 32) (pI pM_39 rfl) rfl rfl ?_
  refine w_idiv (p := 4) (pI pM_39 rfl) rfl (by decide) ?_
  refine w_bipush (p := 6) (v := -16) (pI pM_39 rfl) rfl rfl ?_
  refine w_iadd (p := 7) (pI pM_39 rfl) rfl ?_
  exact w_ireturn (pI pM_39 rfl) rfl rfl rfl k
set_option maxRecDepth 100000 in
set_option maxHeartbeats 4000000 in
theorem d40_yOf {d L : Nat} {x : Int32} {A I : HA} {Q : bm_Q} (k : D40_yOf x (fun v => Q (some (.int v)) (hp L A I))) : bm_M (d + 1) 40 [.int x] (hp L A I) Q := by
  unfold D40_yOf at k
  refine bw_enter rfl rfl rfl rfl ?_
  refine w_iload_n (p := 1) (pI pM_40 rfl) rfl rfl ?_
  refine w_bipush (p := 3) (v := nI 32) (pI pM_40 rfl) rfl rfl ?_
  refine w_irem (p := 4) (pI pM_40 rfl) rfl (by decide) ?_
  refine w_bipush (p := 6) (v := -16) (pI pM_40 rfl) rfl rfl ?_
  refine w_iadd (p := 7) (pI pM_40 rfl) rfl ?_
  exact w_ireturn (pI pM_40 rfl) rfl rfl rfl k
set_option maxRecDepth 100000 in
set_option maxHeartbeats 4000000 in
theorem d113_isOfOne {d L : Nat} {x : Int32} {A I : HA} {Q : bm_Q} (k : D113_isOfOne x (fun v => Q (some (.int v)) (hp L A I))) : bm_M (d + 1) 113 [.int x] (hp L A I) Q := by
  unfold D113_isOfOne at k
  refine bw_enter rfl rfl rfl rfl ?_
  refine w_iload_n (p := 1) (pI pM_113 rfl) rfl rfl ?_
  refine w_bipush (p := 3) (v := nI 11) (pI pM_113 rfl) rfl rfl ?_
  refine w_icmp_eq (p := 6) (q := 12) (pI pM_113 rfl) rfl rfl rfl (fun c => ?_) (fun c => ?_)
  · replace k := itp c k
    refine w_iconst (p := 13) (v := nI 1) (pI pM_113 rfl) rfl rfl ?_
    refine w_goto (p := 17) (pI pM_113 rfl) rfl rfl ?_
    exact w_ireturn (pI pM_113 rfl) rfl rfl rfl k
  · replace k := itn c k
    refine w_iload_n (p := 7) (pI pM_113 rfl) rfl rfl ?_
    refine w_bipush (p := 9) (v := nI 29) (pI pM_113 rfl) rfl rfl ?_
    refine w_icmp_ne (p := 12) (q := 16) (pI pM_113 rfl) rfl rfl rfl (fun c => ?_) (fun c => ?_)
    · replace k := itn c k
      refine w_iconst (p := 17) (v := nI 0) (pI pM_113 rfl) rfl rfl ?_
      exact w_ireturn (pI pM_113 rfl) rfl rfl rfl k
    · replace k := itp (Decidable.not_not.mp c) k
      refine w_iconst (p := 13) (v := nI 1) (pI pM_113 rfl) rfl rfl ?_
      refine w_goto (p := 17) (pI pM_113 rfl) rfl rfl ?_
      exact w_ireturn (pI pM_113 rfl) rfl rfl rfl k
set_option maxRecDepth 100000 in
set_option maxHeartbeats 4000000 in
theorem d112_wordFor {d L : Nat} {t : Nat} {x : Int32} {y : Int32} {A I : HA} {Q : bm_Q} (h_t : isT t) (k : D112_wordFor t x y A I (fun v A I => Q (some (.int v)) (hp L A I))) : bm_M (d + 2) 112 [.ref t, .int x, .int y] (hp L A I) Q := by
  unfold D112_wordFor at k
  refine bw_enter rfl rfl rfl rfl ?_
  refine w_iconst (p := 1) (v := nI 0) (pI pM_112 rfl) rfl rfl ?_
  refine w_istore_n (p := 2) (pI pM_112 rfl) rfl rfl rfl ?_
  refine w_iconst (p := 3) (v := nI 0) (pI pM_112 rfl) rfl rfl ?_
  refine w_istore (p := 5) (pI pM_112 rfl) rfl rfl rfl ?_
  refine k (fun a2 a3 A6 I7 => ∀ u4 u5 : Value, bm_W (bm_M (d + 1)) 112 Q 5 [.ref t, .int x, .int y, .int a2, .int a3, u4, u5] [] (hp L A6 I7)) (fun a2 a3 A6 I7 k => ?_) _ _
  intro u4 u5
  refine w_iload (p := 7) (pI pM_112 rfl) rfl rfl ?_
  refine w_aload_n (p := 8) (pI pM_112 rfl) rfl rfl ?_
  refine v_getI (p := 11) (kf := 3) (pI pM_112 rfl) rfl rfl rfl (isT.ge h_t 0) (isT.lt h_t 0 (by decide)) (isT.sk h_t 0 (by decide)) rfl rfl ?_
  refine w_icmp_ge (p := 14) (q := 189) (pI pM_112 rfl) rfl rfl rfl (fun c => ?_) (fun c => ?_)
  · replace k := itn (Int32.not_lt.mpr c) k
    refine w_aload_n (p := 190) (pI pM_112 rfl) rfl rfl ?_
    refine v_getR (p := 193) (kf := 2) (pI pM_112 rfl) rfl rfl rfl (isT.ge h_t 0) (isT.lt h_t 0 (by decide)) (isT.sk h_t 0 (by decide)) rfl ?_
    refine w_iconst (p := 194) (v := nI 0) (pI pM_112 rfl) rfl rfl ?_
    obtain ⟨s9, k⟩ := k
    refine v_iald (p := 195) (pI pM_112 rfl) rfl (isT.lt h_t 3 (by decide)) (isT.sk h_t 3 (by decide)) s9 rfl ?_
    exact w_ireturn (pI pM_112 rfl) rfl rfl rfl k
  · replace k := itp (Int32.not_le.mp c) k
    refine w_aload_n (p := 15) (pI pM_112 rfl) rfl rfl ?_
    refine v_getR (p := 18) (kf := 0) (pI pM_112 rfl) rfl rfl rfl (isT.ge h_t 0) (isT.lt h_t 0 (by decide)) (isT.sk h_t 0 (by decide)) rfl ?_
    refine w_iload (p := 20) (pI pM_112 rfl) rfl rfl ?_
    obtain ⟨s10, k⟩ := k
    refine v_iald (p := 21) (pI pM_112 rfl) rfl (isT.lt h_t 1 (by decide)) (isT.sk h_t 1 (by decide)) s10 rfl ?_
    refine w_istore (p := 23) (pI pM_112 rfl) rfl rfl rfl ?_
    refine w_iload (p := 25) (pI pM_112 rfl) rfl rfl ?_
    refine w_sipush (p := 28) (v := nI 872) (pI pM_112 rfl) rfl rfl ?_
    refine w_icmp_lt (p := 31) (q := 49) (pI pM_112 rfl) rfl rfl rfl (fun c => ?_) (fun c => ?_)
    · replace k := itp c k
      refine w_iload (p := 51) (pI pM_112 rfl) rfl rfl ?_
      refine w_iconst (p := 52) (v := nI 1) (pI pM_112 rfl) rfl rfl ?_
      refine w_icmp_eq (p := 55) (q := 61) (pI pM_112 rfl) rfl rfl rfl (fun c => ?_) (fun c => ?_)
      · replace k := itp c k
        refine w_aload_n (p := 62) (pI pM_112 rfl) rfl rfl ?_
        refine v_getR (p := 65) (kf := 2) (pI pM_112 rfl) rfl rfl rfl (isT.ge h_t 0) (isT.lt h_t 0 (by decide)) (isT.sk h_t 0 (by decide)) rfl ?_
        refine w_iload_n (p := 66) (pI pM_112 rfl) rfl rfl ?_
        refine w_iinc (p := 69) (v := (a2 + nI 1)) (pI pM_112 rfl) rfl rfl rfl rfl ?_
        refine w_iload (p := 71) (pI pM_112 rfl) rfl rfl ?_
        refine w_iconst (p := 72) (v := nI 1) (pI pM_112 rfl) rfl rfl ?_
        refine w_icmp_ne (p := 75) (q := 79) (pI pM_112 rfl) rfl rfl rfl (fun c => ?_) (fun c => ?_)
        · replace k := itn c k
          refine w_iload_n (p := 80) (pI pM_112 rfl) rfl rfl ?_
          obtain ⟨s11, k⟩ := k
          refine s_iast (p := 81) (pI pM_112 rfl) rfl (isT.ge h_t 3) (isT.lt h_t 3 (by decide)) (isT.sk h_t 3 (by decide)) s11 ?_
          refine w_goto (p := 183) (pI pM_112 rfl) rfl rfl ?_
          refine w_iinc (p := 186) (v := (a3 + nI 1)) (pI pM_112 rfl) rfl rfl rfl rfl ?_
          refine w_goto (p := 5) (pI pM_112 rfl) rfl rfl ?_
          exact k _ _
        · replace k := itp (Decidable.not_not.mp c) k
          refine w_iload_n (p := 76) (pI pM_112 rfl) rfl rfl ?_
          refine w_goto (p := 80) (pI pM_112 rfl) rfl rfl ?_
          obtain ⟨s12, k⟩ := k
          refine s_iast (p := 81) (pI pM_112 rfl) rfl (isT.ge h_t 3) (isT.lt h_t 3 (by decide)) (isT.sk h_t 3 (by decide)) s12 ?_
          refine w_goto (p := 183) (pI pM_112 rfl) rfl rfl ?_
          refine w_iinc (p := 186) (v := (a3 + nI 1)) (pI pM_112 rfl) rfl rfl rfl rfl ?_
          refine w_goto (p := 5) (pI pM_112 rfl) rfl rfl ?_
          exact k _ _
      · replace k := itn c k
        refine w_iload (p := 57) (pI pM_112 rfl) rfl rfl ?_
        refine w_iconst (p := 58) (v := nI 2) (pI pM_112 rfl) rfl rfl ?_
        refine w_icmp_ne (p := 61) (q := 84) (pI pM_112 rfl) rfl rfl rfl (fun c => ?_) (fun c => ?_)
        · replace k := itn c k
          refine w_iload (p := 86) (pI pM_112 rfl) rfl rfl ?_
          refine w_static (p := 89) (mj := 113) (pI pM_112 rfl) rfl rfl rfl rfl rfl rfl rfl rfl rfl ?_
          refine d113_isOfOne (D113_isOfOne_mono k (fun v13 k => ?_))
          refine w_if_eq (p := 92) (q := 121) (pI pM_112 rfl) rfl rfl rfl (fun c => ?_) (fun c => ?_)
          · replace k := itp c k
            refine w_iload_n (p := 122) (pI pM_112 rfl) rfl rfl ?_
            refine w_iconst (p := 123) (v := nI 2) (pI pM_112 rfl) rfl rfl ?_
            refine w_icmp_lt (p := 126) (q := 183) (pI pM_112 rfl) rfl rfl rfl (fun c => ?_) (fun c => ?_)
            · replace k := itp c k
              refine w_iinc (p := 186) (v := (a3 + nI 1)) (pI pM_112 rfl) rfl rfl rfl rfl ?_
              refine w_goto (p := 5) (pI pM_112 rfl) rfl rfl ?_
              exact k _ _
            · replace k := itn c k
              refine w_iinc (p := 129) (v := (a2 + (-1))) (pI pM_112 rfl) rfl rfl rfl rfl ?_
              refine w_aload_n (p := 130) (pI pM_112 rfl) rfl rfl ?_
              refine v_getR (p := 133) (kf := 2) (pI pM_112 rfl) rfl rfl rfl (isT.ge h_t 0) (isT.lt h_t 0 (by decide)) (isT.sk h_t 0 (by decide)) rfl ?_
              refine w_iload_n (p := 134) (pI pM_112 rfl) rfl rfl ?_
              obtain ⟨s14, k⟩ := k
              refine v_iald (p := 135) (pI pM_112 rfl) rfl (isT.lt h_t 3 (by decide)) (isT.sk h_t 3 (by decide)) s14 rfl ?_
              refine w_istore (p := 137) (pI pM_112 rfl) rfl rfl rfl ?_
              refine w_iload (p := 139) (pI pM_112 rfl) rfl rfl ?_
              refine w_if_ne (p := 142) (q := 160) (pI pM_112 rfl) rfl rfl rfl (fun c => ?_) (fun c => ?_)
              · replace k := itn c k
                refine w_aload_n (p := 161) (pI pM_112 rfl) rfl rfl ?_
                refine v_getR (p := 164) (kf := 2) (pI pM_112 rfl) rfl rfl rfl (isT.ge h_t 0) (isT.lt h_t 0 (by decide)) (isT.sk h_t 0 (by decide)) rfl ?_
                refine w_iload_n (p := 165) (pI pM_112 rfl) rfl rfl ?_
                refine w_iconst (p := 166) (v := nI 1) (pI pM_112 rfl) rfl rfl ?_
                refine w_isub (p := 167) (pI pM_112 rfl) rfl ?_
                refine w_iload (p := 169) (pI pM_112 rfl) rfl rfl ?_
                refine w_aload_n (p := 170) (pI pM_112 rfl) rfl rfl ?_
                refine v_getR (p := 173) (kf := 2) (pI pM_112 rfl) rfl rfl rfl (isT.ge h_t 0) (isT.lt h_t 0 (by decide)) (isT.sk h_t 0 (by decide)) rfl ?_
                refine w_iload_n (p := 174) (pI pM_112 rfl) rfl rfl ?_
                refine w_iconst (p := 175) (v := nI 1) (pI pM_112 rfl) rfl rfl ?_
                refine w_isub (p := 176) (pI pM_112 rfl) rfl ?_
                obtain ⟨s15, k⟩ := k
                refine v_iald (p := 177) (pI pM_112 rfl) rfl (isT.lt h_t 3 (by decide)) (isT.sk h_t 3 (by decide)) s15 rfl ?_
                refine w_iload (p := 179) (pI pM_112 rfl) rfl rfl ?_
                refine w_static (p := 182) (mj := 210) (pI pM_112 rfl) rfl rfl rfl rfl rfl rfl rfl rfl rfl ?_
                refine d210_ofTwo (D210_ofTwo_mono k (fun v16 k => ?_))
                obtain ⟨s17, k⟩ := k
                refine s_iast (p := 183) (pI pM_112 rfl) rfl (isT.ge h_t 3) (isT.lt h_t 3 (by decide)) (isT.sk h_t 3 (by decide)) s17 ?_
                refine w_iinc (p := 186) (v := (a3 + nI 1)) (pI pM_112 rfl) rfl rfl rfl rfl ?_
                refine w_goto (p := 5) (pI pM_112 rfl) rfl rfl ?_
                exact k _ _
              · replace k := itp (Decidable.not_not.mp c) k
                refine w_iload (p := 144) (pI pM_112 rfl) rfl rfl ?_
                refine w_bipush (p := 146) (v := nI 9) (pI pM_112 rfl) rfl rfl ?_
                refine w_icmp_eq (p := 149) (q := 156) (pI pM_112 rfl) rfl rfl rfl (fun c => ?_) (fun c => ?_)
                · replace k := itp c k
                  refine w_sipush (p := 159) (v := nI 1000) (pI pM_112 rfl) rfl rfl ?_
                  exact w_ireturn (pI pM_112 rfl) rfl rfl rfl k
                · replace k := itn c k
                  refine w_iload (p := 151) (pI pM_112 rfl) rfl rfl ?_
                  refine w_bipush (p := 153) (v := nI 10) (pI pM_112 rfl) rfl rfl ?_
                  refine w_icmp_ne (p := 156) (q := 160) (pI pM_112 rfl) rfl rfl rfl (fun c => ?_) (fun c => ?_)
                  · replace k := itn c k
                    refine w_aload_n (p := 161) (pI pM_112 rfl) rfl rfl ?_
                    refine v_getR (p := 164) (kf := 2) (pI pM_112 rfl) rfl rfl rfl (isT.ge h_t 0) (isT.lt h_t 0 (by decide)) (isT.sk h_t 0 (by decide)) rfl ?_
                    refine w_iload_n (p := 165) (pI pM_112 rfl) rfl rfl ?_
                    refine w_iconst (p := 166) (v := nI 1) (pI pM_112 rfl) rfl rfl ?_
                    refine w_isub (p := 167) (pI pM_112 rfl) rfl ?_
                    refine w_iload (p := 169) (pI pM_112 rfl) rfl rfl ?_
                    refine w_aload_n (p := 170) (pI pM_112 rfl) rfl rfl ?_
                    refine v_getR (p := 173) (kf := 2) (pI pM_112 rfl) rfl rfl rfl (isT.ge h_t 0) (isT.lt h_t 0 (by decide)) (isT.sk h_t 0 (by decide)) rfl ?_
                    refine w_iload_n (p := 174) (pI pM_112 rfl) rfl rfl ?_
                    refine w_iconst (p := 175) (v := nI 1) (pI pM_112 rfl) rfl rfl ?_
                    refine w_isub (p := 176) (pI pM_112 rfl) rfl ?_
                    obtain ⟨s18, k⟩ := k
                    refine v_iald (p := 177) (pI pM_112 rfl) rfl (isT.lt h_t 3 (by decide)) (isT.sk h_t 3 (by decide)) s18 rfl ?_
                    refine w_iload (p := 179) (pI pM_112 rfl) rfl rfl ?_
                    refine w_static (p := 182) (mj := 210) (pI pM_112 rfl) rfl rfl rfl rfl rfl rfl rfl rfl rfl ?_
                    refine d210_ofTwo (D210_ofTwo_mono k (fun v19 k => ?_))
                    obtain ⟨s20, k⟩ := k
                    refine s_iast (p := 183) (pI pM_112 rfl) rfl (isT.ge h_t 3) (isT.lt h_t 3 (by decide)) (isT.sk h_t 3 (by decide)) s20 ?_
                    refine w_iinc (p := 186) (v := (a3 + nI 1)) (pI pM_112 rfl) rfl rfl rfl rfl ?_
                    refine w_goto (p := 5) (pI pM_112 rfl) rfl rfl ?_
                    exact k _ _
                  · replace k := itp (Decidable.not_not.mp c) k
                    refine w_sipush (p := 159) (v := nI 1000) (pI pM_112 rfl) rfl rfl ?_
                    exact w_ireturn (pI pM_112 rfl) rfl rfl rfl k
          · replace k := itn c k
            refine w_iload_n (p := 93) (pI pM_112 rfl) rfl rfl ?_
            refine w_iconst (p := 94) (v := nI 1) (pI pM_112 rfl) rfl rfl ?_
            refine w_icmp_lt (p := 97) (q := 121) (pI pM_112 rfl) rfl rfl rfl (fun c => ?_) (fun c => ?_)
            · replace k := itp c k
              refine w_iload_n (p := 122) (pI pM_112 rfl) rfl rfl ?_
              refine w_iconst (p := 123) (v := nI 2) (pI pM_112 rfl) rfl rfl ?_
              refine w_icmp_lt (p := 126) (q := 183) (pI pM_112 rfl) rfl rfl rfl (fun c => ?_) (fun c => ?_)
              · replace k := itp c k
                refine w_iinc (p := 186) (v := (a3 + nI 1)) (pI pM_112 rfl) rfl rfl rfl rfl ?_
                refine w_goto (p := 5) (pI pM_112 rfl) rfl rfl ?_
                exact k _ _
              · replace k := itn c k
                refine w_iinc (p := 129) (v := (a2 + (-1))) (pI pM_112 rfl) rfl rfl rfl rfl ?_
                refine w_aload_n (p := 130) (pI pM_112 rfl) rfl rfl ?_
                refine v_getR (p := 133) (kf := 2) (pI pM_112 rfl) rfl rfl rfl (isT.ge h_t 0) (isT.lt h_t 0 (by decide)) (isT.sk h_t 0 (by decide)) rfl ?_
                refine w_iload_n (p := 134) (pI pM_112 rfl) rfl rfl ?_
                obtain ⟨s21, k⟩ := k
                refine v_iald (p := 135) (pI pM_112 rfl) rfl (isT.lt h_t 3 (by decide)) (isT.sk h_t 3 (by decide)) s21 rfl ?_
                refine w_istore (p := 137) (pI pM_112 rfl) rfl rfl rfl ?_
                refine w_iload (p := 139) (pI pM_112 rfl) rfl rfl ?_
                refine w_if_ne (p := 142) (q := 160) (pI pM_112 rfl) rfl rfl rfl (fun c => ?_) (fun c => ?_)
                · replace k := itn c k
                  refine w_aload_n (p := 161) (pI pM_112 rfl) rfl rfl ?_
                  refine v_getR (p := 164) (kf := 2) (pI pM_112 rfl) rfl rfl rfl (isT.ge h_t 0) (isT.lt h_t 0 (by decide)) (isT.sk h_t 0 (by decide)) rfl ?_
                  refine w_iload_n (p := 165) (pI pM_112 rfl) rfl rfl ?_
                  refine w_iconst (p := 166) (v := nI 1) (pI pM_112 rfl) rfl rfl ?_
                  refine w_isub (p := 167) (pI pM_112 rfl) rfl ?_
                  refine w_iload (p := 169) (pI pM_112 rfl) rfl rfl ?_
                  refine w_aload_n (p := 170) (pI pM_112 rfl) rfl rfl ?_
                  refine v_getR (p := 173) (kf := 2) (pI pM_112 rfl) rfl rfl rfl (isT.ge h_t 0) (isT.lt h_t 0 (by decide)) (isT.sk h_t 0 (by decide)) rfl ?_
                  refine w_iload_n (p := 174) (pI pM_112 rfl) rfl rfl ?_
                  refine w_iconst (p := 175) (v := nI 1) (pI pM_112 rfl) rfl rfl ?_
                  refine w_isub (p := 176) (pI pM_112 rfl) rfl ?_
                  obtain ⟨s22, k⟩ := k
                  refine v_iald (p := 177) (pI pM_112 rfl) rfl (isT.lt h_t 3 (by decide)) (isT.sk h_t 3 (by decide)) s22 rfl ?_
                  refine w_iload (p := 179) (pI pM_112 rfl) rfl rfl ?_
                  refine w_static (p := 182) (mj := 210) (pI pM_112 rfl) rfl rfl rfl rfl rfl rfl rfl rfl rfl ?_
                  refine d210_ofTwo (D210_ofTwo_mono k (fun v23 k => ?_))
                  obtain ⟨s24, k⟩ := k
                  refine s_iast (p := 183) (pI pM_112 rfl) rfl (isT.ge h_t 3) (isT.lt h_t 3 (by decide)) (isT.sk h_t 3 (by decide)) s24 ?_
                  refine w_iinc (p := 186) (v := (a3 + nI 1)) (pI pM_112 rfl) rfl rfl rfl rfl ?_
                  refine w_goto (p := 5) (pI pM_112 rfl) rfl rfl ?_
                  exact k _ _
                · replace k := itp (Decidable.not_not.mp c) k
                  refine w_iload (p := 144) (pI pM_112 rfl) rfl rfl ?_
                  refine w_bipush (p := 146) (v := nI 9) (pI pM_112 rfl) rfl rfl ?_
                  refine w_icmp_eq (p := 149) (q := 156) (pI pM_112 rfl) rfl rfl rfl (fun c => ?_) (fun c => ?_)
                  · replace k := itp c k
                    refine w_sipush (p := 159) (v := nI 1000) (pI pM_112 rfl) rfl rfl ?_
                    exact w_ireturn (pI pM_112 rfl) rfl rfl rfl k
                  · replace k := itn c k
                    refine w_iload (p := 151) (pI pM_112 rfl) rfl rfl ?_
                    refine w_bipush (p := 153) (v := nI 10) (pI pM_112 rfl) rfl rfl ?_
                    refine w_icmp_ne (p := 156) (q := 160) (pI pM_112 rfl) rfl rfl rfl (fun c => ?_) (fun c => ?_)
                    · replace k := itn c k
                      refine w_aload_n (p := 161) (pI pM_112 rfl) rfl rfl ?_
                      refine v_getR (p := 164) (kf := 2) (pI pM_112 rfl) rfl rfl rfl (isT.ge h_t 0) (isT.lt h_t 0 (by decide)) (isT.sk h_t 0 (by decide)) rfl ?_
                      refine w_iload_n (p := 165) (pI pM_112 rfl) rfl rfl ?_
                      refine w_iconst (p := 166) (v := nI 1) (pI pM_112 rfl) rfl rfl ?_
                      refine w_isub (p := 167) (pI pM_112 rfl) rfl ?_
                      refine w_iload (p := 169) (pI pM_112 rfl) rfl rfl ?_
                      refine w_aload_n (p := 170) (pI pM_112 rfl) rfl rfl ?_
                      refine v_getR (p := 173) (kf := 2) (pI pM_112 rfl) rfl rfl rfl (isT.ge h_t 0) (isT.lt h_t 0 (by decide)) (isT.sk h_t 0 (by decide)) rfl ?_
                      refine w_iload_n (p := 174) (pI pM_112 rfl) rfl rfl ?_
                      refine w_iconst (p := 175) (v := nI 1) (pI pM_112 rfl) rfl rfl ?_
                      refine w_isub (p := 176) (pI pM_112 rfl) rfl ?_
                      obtain ⟨s25, k⟩ := k
                      refine v_iald (p := 177) (pI pM_112 rfl) rfl (isT.lt h_t 3 (by decide)) (isT.sk h_t 3 (by decide)) s25 rfl ?_
                      refine w_iload (p := 179) (pI pM_112 rfl) rfl rfl ?_
                      refine w_static (p := 182) (mj := 210) (pI pM_112 rfl) rfl rfl rfl rfl rfl rfl rfl rfl rfl ?_
                      refine d210_ofTwo (D210_ofTwo_mono k (fun v26 k => ?_))
                      obtain ⟨s27, k⟩ := k
                      refine s_iast (p := 183) (pI pM_112 rfl) rfl (isT.ge h_t 3) (isT.lt h_t 3 (by decide)) (isT.sk h_t 3 (by decide)) s27 ?_
                      refine w_iinc (p := 186) (v := (a3 + nI 1)) (pI pM_112 rfl) rfl rfl rfl rfl ?_
                      refine w_goto (p := 5) (pI pM_112 rfl) rfl rfl ?_
                      exact k _ _
                    · replace k := itp (Decidable.not_not.mp c) k
                      refine w_sipush (p := 159) (v := nI 1000) (pI pM_112 rfl) rfl rfl ?_
                      exact w_ireturn (pI pM_112 rfl) rfl rfl rfl k
            · replace k := itn c k
              refine w_aload_n (p := 98) (pI pM_112 rfl) rfl rfl ?_
              refine v_getR (p := 101) (kf := 2) (pI pM_112 rfl) rfl rfl rfl (isT.ge h_t 0) (isT.lt h_t 0 (by decide)) (isT.sk h_t 0 (by decide)) rfl ?_
              refine w_iload_n (p := 102) (pI pM_112 rfl) rfl rfl ?_
              refine w_iconst (p := 103) (v := nI 1) (pI pM_112 rfl) rfl rfl ?_
              refine w_isub (p := 104) (pI pM_112 rfl) rfl ?_
              refine w_iload (p := 106) (pI pM_112 rfl) rfl rfl ?_
              refine w_aload_n (p := 107) (pI pM_112 rfl) rfl rfl ?_
              refine v_getR (p := 110) (kf := 2) (pI pM_112 rfl) rfl rfl rfl (isT.ge h_t 0) (isT.lt h_t 0 (by decide)) (isT.sk h_t 0 (by decide)) rfl ?_
              refine w_iload_n (p := 111) (pI pM_112 rfl) rfl rfl ?_
              refine w_iconst (p := 112) (v := nI 1) (pI pM_112 rfl) rfl rfl ?_
              refine w_isub (p := 113) (pI pM_112 rfl) rfl ?_
              obtain ⟨s28, k⟩ := k
              refine v_iald (p := 114) (pI pM_112 rfl) rfl (isT.lt h_t 3 (by decide)) (isT.sk h_t 3 (by decide)) s28 rfl ?_
              refine w_static (p := 117) (mj := 209) (pI pM_112 rfl) rfl rfl rfl rfl rfl rfl rfl rfl rfl ?_
              refine d209_ofOne (D209_ofOne_mono k (fun v29 k => ?_))
              obtain ⟨s30, k⟩ := k
              refine s_iast (p := 118) (pI pM_112 rfl) rfl (isT.ge h_t 3) (isT.lt h_t 3 (by decide)) (isT.sk h_t 3 (by decide)) s30 ?_
              refine w_goto (p := 183) (pI pM_112 rfl) rfl rfl ?_
              refine w_iinc (p := 186) (v := (a3 + nI 1)) (pI pM_112 rfl) rfl rfl rfl rfl ?_
              refine w_goto (p := 5) (pI pM_112 rfl) rfl rfl ?_
              exact k _ _
        · replace k := itp (Decidable.not_not.mp c) k
          refine w_aload_n (p := 62) (pI pM_112 rfl) rfl rfl ?_
          refine v_getR (p := 65) (kf := 2) (pI pM_112 rfl) rfl rfl rfl (isT.ge h_t 0) (isT.lt h_t 0 (by decide)) (isT.sk h_t 0 (by decide)) rfl ?_
          refine w_iload_n (p := 66) (pI pM_112 rfl) rfl rfl ?_
          refine w_iinc (p := 69) (v := (a2 + nI 1)) (pI pM_112 rfl) rfl rfl rfl rfl ?_
          refine w_iload (p := 71) (pI pM_112 rfl) rfl rfl ?_
          refine w_iconst (p := 72) (v := nI 1) (pI pM_112 rfl) rfl rfl ?_
          refine w_icmp_ne (p := 75) (q := 79) (pI pM_112 rfl) rfl rfl rfl (fun c => ?_) (fun c => ?_)
          · replace k := itn c k
            refine w_iload_n (p := 80) (pI pM_112 rfl) rfl rfl ?_
            obtain ⟨s31, k⟩ := k
            refine s_iast (p := 81) (pI pM_112 rfl) rfl (isT.ge h_t 3) (isT.lt h_t 3 (by decide)) (isT.sk h_t 3 (by decide)) s31 ?_
            refine w_goto (p := 183) (pI pM_112 rfl) rfl rfl ?_
            refine w_iinc (p := 186) (v := (a3 + nI 1)) (pI pM_112 rfl) rfl rfl rfl rfl ?_
            refine w_goto (p := 5) (pI pM_112 rfl) rfl rfl ?_
            exact k _ _
          · replace k := itp (Decidable.not_not.mp c) k
            refine w_iload_n (p := 76) (pI pM_112 rfl) rfl rfl ?_
            refine w_goto (p := 80) (pI pM_112 rfl) rfl rfl ?_
            obtain ⟨s32, k⟩ := k
            refine s_iast (p := 81) (pI pM_112 rfl) rfl (isT.ge h_t 3) (isT.lt h_t 3 (by decide)) (isT.sk h_t 3 (by decide)) s32 ?_
            refine w_goto (p := 183) (pI pM_112 rfl) rfl rfl ?_
            refine w_iinc (p := 186) (v := (a3 + nI 1)) (pI pM_112 rfl) rfl rfl rfl rfl ?_
            refine w_goto (p := 5) (pI pM_112 rfl) rfl rfl ?_
            exact k _ _
    · replace k := itn c k
      refine w_aload_n (p := 32) (pI pM_112 rfl) rfl rfl ?_
      refine v_getR (p := 35) (kf := 2) (pI pM_112 rfl) rfl rfl rfl (isT.ge h_t 0) (isT.lt h_t 0 (by decide)) (isT.sk h_t 0 (by decide)) rfl ?_
      refine w_iload_n (p := 36) (pI pM_112 rfl) rfl rfl ?_
      refine w_iinc (p := 39) (v := (a2 + nI 1)) (pI pM_112 rfl) rfl rfl rfl rfl ?_
      refine w_iload (p := 41) (pI pM_112 rfl) rfl rfl ?_
      refine w_sipush (p := 44) (v := nI 1000) (pI pM_112 rfl) rfl rfl ?_
      refine w_isub (p := 45) (pI pM_112 rfl) rfl ?_
      obtain ⟨s33, k⟩ := k
      refine s_iast (p := 46) (pI pM_112 rfl) rfl (isT.ge h_t 3) (isT.lt h_t 3 (by decide)) (isT.sk h_t 3 (by decide)) s33 ?_
      refine w_goto (p := 183) (pI pM_112 rfl) rfl rfl ?_
      refine w_iinc (p := 186) (v := (a3 + nI 1)) (pI pM_112 rfl) rfl rfl rfl rfl ?_
      refine w_goto (p := 5) (pI pM_112 rfl) rfl rfl ?_
      exact k _ _
set_option maxRecDepth 100000 in
set_option maxHeartbeats 4000000 in
theorem d41_add {d L : Nat} {n : Nat} {x : Int32} {A I : HA} {Q : bm_Q} (h_n : isN n) (k : D41_add n x A I (fun A I => Q none (hp L A I))) : bm_M (d + 1) 41 [.ref n, .int x] (hp L A I) Q := by
  unfold D41_add at k
  refine bw_enter rfl rfl rfl rfl ?_
  refine w_aload_n (p := 1) (pI pM_41 rfl) rfl rfl ?_
  refine v_getR (p := 4) (kf := 0) (pI pM_41 rfl) rfl rfl rfl (isN.ge h_n 0) (isN.lt h_n 0 (by decide)) (isN.sk h_n 0 (by decide)) rfl ?_
  refine w_iload_n (p := 5) (pI pM_41 rfl) rfl rfl ?_
  refine w_bipush (p := 7) (v := nI 32) (pI pM_41 rfl) rfl rfl ?_
  refine w_idiv (p := 8) (pI pM_41 rfl) rfl (by decide) ?_
  refine w_dup2 (p := 9) (pI pM_41 rfl) rfl rfl rfl ?_
  obtain ⟨s1, k⟩ := k
  refine v_iald (p := 10) (pI pM_41 rfl) rfl (isN.lt h_n 1 (by decide)) (isN.sk h_n 1 (by decide)) s1 rfl ?_
  refine w_iconst (p := 11) (v := nI 1) (pI pM_41 rfl) rfl rfl ?_
  refine w_iload_n (p := 12) (pI pM_41 rfl) rfl rfl ?_
  refine w_bipush (p := 14) (v := nI 32) (pI pM_41 rfl) rfl rfl ?_
  refine w_irem (p := 15) (pI pM_41 rfl) rfl (by decide) ?_
  refine w_ishl (p := 16) (pI pM_41 rfl) rfl ?_
  refine w_ior (p := 17) (pI pM_41 rfl) rfl ?_
  obtain ⟨s2, k⟩ := k
  refine s_iast (p := 18) (pI pM_41 rfl) rfl (isN.ge h_n 1) (isN.lt h_n 1 (by decide)) (isN.sk h_n 1 (by decide)) s2 ?_
  exact w_return (pI pM_41 rfl) rfl k
set_option maxRecDepth 100000 in
set_option maxHeartbeats 4000000 in
theorem d105_share {d L : Nat} {w : Nat} {x : Int32} {y : Int32} {A I : HA} {Q : bm_Q} (h_w : isW w) (k : D105_share w x y A I (fun A I => Q none (hp L A I))) : bm_M (d + 4) 105 [.ref 44, .ref 21, .ref w, .int x, .int y] (hp L A I) Q := by
  unfold D105_share at k
  refine bw_enter rfl rfl rfl rfl ?_
  refine w_aload_n (p := 1) (pI pM_105 rfl) rfl rfl ?_
  refine v_getR (p := 4) (kf := 2) (pI pM_105 rfl) rfl rfl rfl (by decide) (by decide) rfl rfl ?_
  refine w_aload_n (p := 5) (pI pM_105 rfl) rfl rfl ?_
  refine v_getR (p := 8) (kf := 1) (pI pM_105 rfl) rfl rfl rfl (by decide) (by decide) rfl rfl ?_
  refine w_aload_n (p := 9) (pI pM_105 rfl) rfl rfl ?_
  refine w_iload_n (p := 10) (pI pM_105 rfl) rfl rfl ?_
  refine w_static (p := 13) (mj := 63) (pI pM_105 rfl) rfl rfl rfl rfl rfl rfl rfl rfl rfl ?_
  refine d63_leftOf h_w (D63_leftOf_mono k (fun v1 k => ?_))
  refine v_virtual (p := 16) (mj := 110) (pI pM_105 rfl) rfl rfl rfl rfl rfl rfl rfl rfl rfl rfl (isT.ge isT47 0) (isT.lt isT47 0 (by decide)) (isT.sk isT47 0 (by decide)) ?_
  refine d110_write isT47 (D110_write_mono k (fun A2 I3 k => ?_))
  refine w_aload_n (p := 17) (pI pM_105 rfl) rfl rfl ?_
  refine v_getR (p := 20) (kf := 3) (pI pM_105 rfl) rfl rfl rfl (by decide) (by decide) rfl rfl ?_
  refine w_aload_n (p := 21) (pI pM_105 rfl) rfl rfl ?_
  refine v_getR (p := 24) (kf := 1) (pI pM_105 rfl) rfl rfl rfl (by decide) (by decide) rfl rfl ?_
  refine w_aload_n (p := 25) (pI pM_105 rfl) rfl rfl ?_
  refine w_iload_n (p := 26) (pI pM_105 rfl) rfl rfl ?_
  refine w_static (p := 29) (mj := 65) (pI pM_105 rfl) rfl rfl rfl rfl rfl rfl rfl rfl rfl ?_
  refine d65_rightOf h_w (D65_rightOf_mono k (fun v4 k => ?_))
  refine v_virtual (p := 32) (mj := 110) (pI pM_105 rfl) rfl rfl rfl rfl rfl rfl rfl rfl rfl rfl (isT.ge isT51 0) (isT.lt isT51 0 (by decide)) (isT.sk isT51 0 (by decide)) ?_
  refine d110_write isT51 (D110_write_mono k (fun A5 I6 k => ?_))
  refine w_aload_n (p := 33) (pI pM_105 rfl) rfl rfl ?_
  refine v_getR (p := 36) (kf := 1) (pI pM_105 rfl) rfl rfl rfl (by decide) (by decide) rfl rfl ?_
  refine w_iconst (p := 37) (v := -1) (pI pM_105 rfl) rfl rfl ?_
  refine w_static (p := 40) (mj := 213) (pI pM_105 rfl) rfl rfl rfl rfl rfl rfl rfl rfl rfl ?_
  refine c_fill _ (by decide) (by decide) rfl (by decide) ?_
  refine w_iconst (p := 41) (v := nI 0) (pI pM_105 rfl) rfl rfl ?_
  refine w_istore (p := 43) (pI pM_105 rfl) rfl rfl rfl ?_
  refine k (fun a8 A13 I14 => ∀ u9 u10 u11 u12 : Value, bm_W (bm_M (d + 3)) 105 Q 43 [.ref 44, u9, .ref w, .int x, .int y, .int a8, u10, u11, u12] [] (hp L A13 I14)) (fun a8 A13 I14 k => ?_) _ _ _ _
  intro u9 u10 u11 u12
  refine w_iload (p := 45) (pI pM_105 rfl) rfl rfl ?_
  refine w_bipush (p := 47) (v := nI 8) (pI pM_105 rfl) rfl rfl ?_
  refine w_icmp_ge (p := 50) (q := 66) (pI pM_105 rfl) rfl rfl rfl (fun c => ?_) (fun c => ?_)
  · replace k := itn (Int32.not_lt.mpr c) k
    refine w_iconst (p := 67) (v := nI 0) (pI pM_105 rfl) rfl rfl ?_
    refine w_istore (p := 69) (pI pM_105 rfl) rfl rfl rfl ?_
    refine k (fun a17 A22 I23 => ∀ u18 u19 u20 u21 : Value, bm_W (bm_M (d + 3)) 105 Q 69 [.ref 44, u18, .ref w, .int x, .int y, .int a17, u19, u20, u21] [] (hp L A22 I23)) (fun a17 A22 I23 k => ?_) _ _ _ _
    intro u18 u19 u20 u21
    refine w_iload (p := 71) (pI pM_105 rfl) rfl rfl ?_
    refine w_sipush (p := 74) (v := nI 1024) (pI pM_105 rfl) rfl rfl ?_
    refine w_icmp_ge (p := 77) (q := 171) (pI pM_105 rfl) rfl rfl rfl (fun c => ?_) (fun c => ?_)
    · replace k := itn (Int32.not_lt.mpr c) k
      exact w_return (pI pM_105 rfl) rfl k
    · replace k := itp (Int32.not_le.mp c) k
      refine w_aload_n (p := 78) (pI pM_105 rfl) rfl rfl ?_
      refine v_getR (p := 81) (kf := 10) (pI pM_105 rfl) rfl rfl rfl (isW.ge h_w 0) (isW.lt h_w 0 (by decide)) (isW.sk h_w 0 (by decide)) rfl ?_
      refine w_iload (p := 83) (pI pM_105 rfl) rfl rfl ?_
      refine v_virtual (p := 86) (mj := 38) (pI pM_105 rfl) rfl rfl rfl rfl rfl rfl rfl rfl rfl rfl (isN.ge (isN_w h_w) 0) (isN.lt (isN_w h_w) 0 (by decide)) (isN.sk (isN_w h_w) 0 (by decide)) ?_
      refine d38_has (isN_w h_w) (D38_has_mono k (fun v25 k => ?_))
      refine w_if_eq (p := 89) (q := 165) (pI pM_105 rfl) rfl rfl rfl (fun c => ?_) (fun c => ?_)
      · replace k := itp c k
        refine w_iinc (p := 168) (v := (a17 + nI 1)) (pI pM_105 rfl) rfl rfl rfl rfl ?_
        refine w_goto (p := 69) (pI pM_105 rfl) rfl rfl ?_
        exact k _ _ _ _
      · replace k := itn c k
        refine w_iload (p := 91) (pI pM_105 rfl) rfl rfl ?_
        refine w_static (p := 94) (mj := 39) (pI pM_105 rfl) rfl rfl rfl rfl rfl rfl rfl rfl rfl ?_
        refine d39_xOf (D39_xOf_mono k (fun v26 k => ?_))
        refine w_istore (p := 96) (pI pM_105 rfl) rfl rfl rfl ?_
        refine w_iload (p := 98) (pI pM_105 rfl) rfl rfl ?_
        refine w_static (p := 101) (mj := 40) (pI pM_105 rfl) rfl rfl rfl rfl rfl rfl rfl rfl rfl ?_
        refine d40_yOf (D40_yOf_mono k (fun v27 k => ?_))
        refine w_istore (p := 103) (pI pM_105 rfl) rfl rfl rfl ?_
        refine w_iload_n (p := 104) (pI pM_105 rfl) rfl rfl ?_
        refine w_aload_n (p := 105) (pI pM_105 rfl) rfl rfl ?_
        refine v_getR (p := 108) (kf := 2) (pI pM_105 rfl) rfl rfl rfl (by decide) (by decide) rfl rfl ?_
        refine w_iload (p := 110) (pI pM_105 rfl) rfl rfl ?_
        refine w_iload (p := 112) (pI pM_105 rfl) rfl rfl ?_
        refine v_virtual (p := 115) (mj := 112) (pI pM_105 rfl) rfl rfl rfl rfl rfl rfl rfl rfl rfl rfl (isT.ge isT47 0) (isT.lt isT47 0 (by decide)) (isT.sk isT47 0 (by decide)) ?_
        refine d112_wordFor isT47 (D112_wordFor_mono k (fun v28 A29 I30 k => ?_))
        refine w_aload_n (p := 116) (pI pM_105 rfl) rfl rfl ?_
        refine v_getR (p := 119) (kf := 3) (pI pM_105 rfl) rfl rfl rfl (by decide) (by decide) rfl rfl ?_
        refine w_iload (p := 121) (pI pM_105 rfl) rfl rfl ?_
        refine w_iload (p := 123) (pI pM_105 rfl) rfl rfl ?_
        refine v_virtual (p := 126) (mj := 112) (pI pM_105 rfl) rfl rfl rfl rfl rfl rfl rfl rfl rfl rfl (isT.ge isT51 0) (isT.lt isT51 0 (by decide)) (isT.sk isT51 0 (by decide)) ?_
        refine d112_wordFor isT51 (D112_wordFor_mono k (fun v31 A32 I33 k => ?_))
        refine w_iload (p := 128) (pI pM_105 rfl) rfl rfl ?_
        refine w_static (p := 131) (mj := 66) (pI pM_105 rfl) rfl rfl rfl rfl rfl rfl rfl rfl rfl ?_
        refine d66_choose (D66_choose_mono k (fun v34 k => ?_))
        refine w_istore (p := 133) (pI pM_105 rfl) rfl rfl rfl ?_
        refine w_aload_n (p := 134) (pI pM_105 rfl) rfl rfl ?_
        refine v_getR (p := 137) (kf := 0) (pI pM_105 rfl) rfl rfl rfl (by decide) (by decide) rfl rfl ?_
        refine w_iload (p := 139) (pI pM_105 rfl) rfl rfl ?_
        obtain ⟨s35, k⟩ := k
        refine v_aald (p := 140) (pI pM_105 rfl) rfl (by decide) (by decide) rfl s35 (if_pos (vp_lt s35)) ?_
        refine w_iload (p := 142) (pI pM_105 rfl) rfl rfl ?_
        refine v_virtual (p := 145) (mj := 41) (pI pM_105 rfl) rfl rfl rfl rfl rfl rfl rfl rfl rfl rfl (isN.ge (isN_mk (vp_lt s35)) 0) (isN.lt (isN_mk (vp_lt s35)) 0 (by decide)) (isN.sk (isN_mk (vp_lt s35)) 0 (by decide)) ?_
        refine d41_add (isN_mk (vp_lt s35)) (D41_add_mono k (fun A36 I37 k => ?_))
        refine w_aload_n (p := 146) (pI pM_105 rfl) rfl rfl ?_
        refine v_getR (p := 149) (kf := 1) (pI pM_105 rfl) rfl rfl rfl (by decide) (by decide) rfl rfl ?_
        refine w_iload (p := 151) (pI pM_105 rfl) rfl rfl ?_
        obtain ⟨s38, k⟩ := k
        refine v_iald (p := 152) (pI pM_105 rfl) rfl (by decide) rfl s38 rfl ?_
        refine w_iconst (p := 153) (v := -1) (pI pM_105 rfl) rfl rfl ?_
        refine w_icmp_ne (p := 156) (q := 165) (pI pM_105 rfl) rfl rfl rfl (fun c => ?_) (fun c => ?_)
        · replace k := itn c k
          refine w_iinc (p := 168) (v := (a17 + nI 1)) (pI pM_105 rfl) rfl rfl rfl rfl ?_
          refine w_goto (p := 69) (pI pM_105 rfl) rfl rfl ?_
          exact k _ _ _ _
        · replace k := itp (Decidable.not_not.mp c) k
          refine w_aload_n (p := 157) (pI pM_105 rfl) rfl rfl ?_
          refine v_getR (p := 160) (kf := 1) (pI pM_105 rfl) rfl rfl rfl (by decide) (by decide) rfl rfl ?_
          refine w_iload (p := 162) (pI pM_105 rfl) rfl rfl ?_
          refine w_iload (p := 164) (pI pM_105 rfl) rfl rfl ?_
          obtain ⟨s39, k⟩ := k
          refine s_iast (p := 165) (pI pM_105 rfl) rfl (by decide) (by decide) rfl s39 ?_
          refine w_iinc (p := 168) (v := (a17 + nI 1)) (pI pM_105 rfl) rfl rfl rfl rfl ?_
          refine w_goto (p := 69) (pI pM_105 rfl) rfl rfl ?_
          exact k _ _ _ _
  · replace k := itp (Int32.not_le.mp c) k
    refine w_aload_n (p := 51) (pI pM_105 rfl) rfl rfl ?_
    refine v_getR (p := 54) (kf := 0) (pI pM_105 rfl) rfl rfl rfl (by decide) (by decide) rfl rfl ?_
    refine w_iload (p := 56) (pI pM_105 rfl) rfl rfl ?_
    obtain ⟨s40, k⟩ := k
    refine v_aald (p := 57) (pI pM_105 rfl) rfl (by decide) (by decide) rfl s40 (if_pos (vp_lt s40)) ?_
    refine v_virtual (p := 60) (mj := 37) (pI pM_105 rfl) rfl rfl rfl rfl rfl rfl rfl rfl rfl rfl (isN.ge (isN_mk (vp_lt s40)) 0) (isN.lt (isN_mk (vp_lt s40)) 0 (by decide)) (isN.sk (isN_mk (vp_lt s40)) 0 (by decide)) ?_
    refine d37_clear (isN_mk (vp_lt s40)) (D37_clear_mono k (fun A41 I42 k => ?_))
    refine w_iinc (p := 63) (v := (a8 + nI 1)) (pI pM_105 rfl) rfl rfl rfl rfl ?_
    refine w_goto (p := 43) (pI pM_105 rfl) rfl rfl ?_
    exact k _ _ _ _
set_option maxRecDepth 100000 in
set_option maxHeartbeats 4000000 in
theorem d70_alternativesOf {d L : Nat} {x : Int32} {y : Int32} {A I : HA} {Q : bm_Q} (k : D70_alternativesOf x y (fun v => Q (some (.int v)) (hp L A I))) : bm_M (d + 1) 70 [.int x, .int y] (hp L A I) Q := by
  unfold D70_alternativesOf at k
  refine bw_enter rfl rfl rfl rfl ?_
  refine w_iload_n (p := 1) (pI pM_70 rfl) rfl rfl ?_
  refine w_bipush (p := 3) (v := nI 21) (pI pM_70 rfl) rfl rfl ?_
  refine w_icmp_ne (p := 6) (q := 9) (pI pM_70 rfl) rfl rfl rfl (fun c => ?_) (fun c => ?_)
  · replace k := itn c k
    refine w_iload_n (p := 10) (pI pM_70 rfl) rfl rfl ?_
    refine w_bipush (p := 12) (v := nI 22) (pI pM_70 rfl) rfl rfl ?_
    refine w_icmp_eq (p := 15) (q := 21) (pI pM_70 rfl) rfl rfl rfl (fun c => ?_) (fun c => ?_)
    · replace k := itp c k
      refine w_iload_n (p := 22) (pI pM_70 rfl) rfl rfl ?_
      refine w_iconst (p := 23) (v := nI 1) (pI pM_70 rfl) rfl rfl ?_
      refine w_iadd (p := 24) (pI pM_70 rfl) rfl ?_
      refine w_goto (p := 28) (pI pM_70 rfl) rfl rfl ?_
      exact w_ireturn (pI pM_70 rfl) rfl rfl rfl k
    · replace k := itn c k
      refine w_iload_n (p := 16) (pI pM_70 rfl) rfl rfl ?_
      refine w_bipush (p := 18) (v := nI 23) (pI pM_70 rfl) rfl rfl ?_
      refine w_icmp_ne (p := 21) (q := 27) (pI pM_70 rfl) rfl rfl rfl (fun c => ?_) (fun c => ?_)
      · replace k := itn c k
        refine w_iconst (p := 28) (v := nI 2) (pI pM_70 rfl) rfl rfl ?_
        exact w_ireturn (pI pM_70 rfl) rfl rfl rfl k
      · replace k := itp (Decidable.not_not.mp c) k
        refine w_iload_n (p := 22) (pI pM_70 rfl) rfl rfl ?_
        refine w_iconst (p := 23) (v := nI 1) (pI pM_70 rfl) rfl rfl ?_
        refine w_iadd (p := 24) (pI pM_70 rfl) rfl ?_
        refine w_goto (p := 28) (pI pM_70 rfl) rfl rfl ?_
        exact w_ireturn (pI pM_70 rfl) rfl rfl rfl k
  · replace k := itp (Decidable.not_not.mp c) k
    refine w_bipush (p := 8) (v := nI 8) (pI pM_70 rfl) rfl rfl ?_
    exact w_ireturn (pI pM_70 rfl) rfl rfl rfl k
set_option maxRecDepth 100000 in
set_option maxHeartbeats 4000000 in
theorem d106_isTaken {d L : Nat} {x : Int32} {A I : HA} {Q : bm_Q} (k : D106_isTaken x A I (fun v => Q (some (.int v)) (hp L A I))) : bm_M (d + 1) 106 [.ref 44, .int x] (hp L A I) Q := by
  unfold D106_isTaken at k
  refine bw_enter rfl rfl rfl rfl ?_
  refine w_aload_n (p := 1) (pI pM_106 rfl) rfl rfl ?_
  refine v_getR (p := 4) (kf := 1) (pI pM_106 rfl) rfl rfl rfl (by decide) (by decide) rfl rfl ?_
  refine w_iload_n (p := 5) (pI pM_106 rfl) rfl rfl ?_
  obtain ⟨s1, k⟩ := k
  refine v_iald (p := 6) (pI pM_106 rfl) rfl (by decide) rfl s1 rfl ?_
  refine w_iconst (p := 7) (v := -1) (pI pM_106 rfl) rfl rfl ?_
  refine w_icmp_eq (p := 10) (q := 14) (pI pM_106 rfl) rfl rfl rfl (fun c => ?_) (fun c => ?_)
  · replace k := itp c k
    refine w_iconst (p := 15) (v := nI 0) (pI pM_106 rfl) rfl rfl ?_
    exact w_ireturn (pI pM_106 rfl) rfl rfl rfl k
  · replace k := itn c k
    refine w_iconst (p := 11) (v := nI 1) (pI pM_106 rfl) rfl rfl ?_
    refine w_goto (p := 15) (pI pM_106 rfl) rfl rfl ?_
    exact w_ireturn (pI pM_106 rfl) rfl rfl rfl k
set_option maxRecDepth 100000 in
set_option maxHeartbeats 4000000 in
theorem d93_isFull {d L : Nat} {A I : HA} {Q : bm_Q} (k : D93_isFull A I (fun v => Q (some (.int v)) (hp L A I))) : bm_M (d + 1) 93 [.ref 39] (hp L A I) Q := by
  unfold D93_isFull at k
  refine bw_enter rfl rfl rfl rfl ?_
  refine w_aload_n (p := 1) (pI pM_93 rfl) rfl rfl ?_
  refine v_getI (p := 4) (kf := 1) (pI pM_93 rfl) rfl rfl rfl (by decide) (by decide) rfl rfl rfl ?_
  refine w_bipush (p := 6) (v := nI 60) (pI pM_93 rfl) rfl rfl ?_
  refine w_icmp_lt (p := 9) (q := 13) (pI pM_93 rfl) rfl rfl rfl (fun c => ?_) (fun c => ?_)
  · replace k := itp c k
    refine w_iconst (p := 14) (v := nI 0) (pI pM_93 rfl) rfl rfl ?_
    exact w_ireturn (pI pM_93 rfl) rfl rfl rfl k
  · replace k := itn c k
    refine w_iconst (p := 10) (v := nI 1) (pI pM_93 rfl) rfl rfl ?_
    refine w_goto (p := 14) (pI pM_93 rfl) rfl rfl ?_
    exact w_ireturn (pI pM_93 rfl) rfl rfl rfl k
set_option maxRecDepth 100000 in
set_option maxHeartbeats 4000000 in
theorem d141_copyRun {d L : Nat} {w : Nat} {o : Nat} {A I : HA} {Q : bm_Q} (h_w : isW w) (h_o : isW o) (k : D141_copyRun w o A I (fun A I => Q none (hp L A I))) : bm_M (d + 1) 141 [.ref w, .ref o] (hp L A I) Q := by
  unfold D141_copyRun at k
  refine bw_enter rfl rfl rfl rfl ?_
  refine w_aload_n (p := 1) (pI pM_141 rfl) rfl rfl ?_
  refine v_getR (p := 4) (kf := 0) (pI pM_141 rfl) rfl rfl rfl (isW.ge h_o 0) (isW.lt h_o 0 (by decide)) (isW.sk h_o 0 (by decide)) rfl ?_
  refine w_iconst (p := 5) (v := nI 0) (pI pM_141 rfl) rfl rfl ?_
  refine w_aload_n (p := 6) (pI pM_141 rfl) rfl rfl ?_
  refine v_getR (p := 9) (kf := 0) (pI pM_141 rfl) rfl rfl rfl (isW.ge h_w 0) (isW.lt h_w 0 (by decide)) (isW.sk h_w 0 (by decide)) rfl ?_
  refine w_iconst (p := 10) (v := nI 0) (pI pM_141 rfl) rfl rfl ?_
  refine w_iconst (p := 11) (v := nI 4) (pI pM_141 rfl) rfl rfl ?_
  obtain ⟨s1a, s1b, s1c, s1d, s1e, k⟩ := k
  refine s_copy (p := 14) (pI pM_141 rfl) rfl rfl rfl rfl rfl (isW.ge h_o 1) (isW.lt h_o 1 (by decide)) (isW.ge h_w 1) (isW.lt h_w 1 (by decide)) s1a s1b s1c (isW.sk h_o 1 (by decide)) (isW.sk h_w 1 (by decide)) s1d s1e ?_
  refine w_aload_n (p := 15) (pI pM_141 rfl) rfl rfl ?_
  refine v_getR (p := 18) (kf := 1) (pI pM_141 rfl) rfl rfl rfl (isW.ge h_o 0) (isW.lt h_o 0 (by decide)) (isW.sk h_o 0 (by decide)) rfl ?_
  refine w_iconst (p := 19) (v := nI 0) (pI pM_141 rfl) rfl rfl ?_
  refine w_aload_n (p := 20) (pI pM_141 rfl) rfl rfl ?_
  refine v_getR (p := 23) (kf := 1) (pI pM_141 rfl) rfl rfl rfl (isW.ge h_w 0) (isW.lt h_w 0 (by decide)) (isW.sk h_w 0 (by decide)) rfl ?_
  refine w_iconst (p := 24) (v := nI 0) (pI pM_141 rfl) rfl rfl ?_
  refine w_iconst (p := 25) (v := nI 4) (pI pM_141 rfl) rfl rfl ?_
  obtain ⟨s2a, s2b, s2c, s2d, s2e, k⟩ := k
  refine s_copy (p := 28) (pI pM_141 rfl) rfl rfl rfl rfl rfl (isW.ge h_o 2) (isW.lt h_o 2 (by decide)) (isW.ge h_w 2) (isW.lt h_w 2 (by decide)) s2a s2b s2c (isW.sk h_o 2 (by decide)) (isW.sk h_w 2 (by decide)) s2d s2e ?_
  refine w_aload_n (p := 29) (pI pM_141 rfl) rfl rfl ?_
  refine v_getR (p := 32) (kf := 2) (pI pM_141 rfl) rfl rfl rfl (isW.ge h_o 0) (isW.lt h_o 0 (by decide)) (isW.sk h_o 0 (by decide)) rfl ?_
  refine w_iconst (p := 33) (v := nI 0) (pI pM_141 rfl) rfl rfl ?_
  refine w_aload_n (p := 34) (pI pM_141 rfl) rfl rfl ?_
  refine v_getR (p := 37) (kf := 2) (pI pM_141 rfl) rfl rfl rfl (isW.ge h_w 0) (isW.lt h_w 0 (by decide)) (isW.sk h_w 0 (by decide)) rfl ?_
  refine w_iconst (p := 38) (v := nI 0) (pI pM_141 rfl) rfl rfl ?_
  refine w_iconst (p := 39) (v := nI 4) (pI pM_141 rfl) rfl rfl ?_
  obtain ⟨s3a, s3b, s3c, s3d, s3e, k⟩ := k
  refine s_copy (p := 42) (pI pM_141 rfl) rfl rfl rfl rfl rfl (isW.ge h_o 3) (isW.lt h_o 3 (by decide)) (isW.ge h_w 3) (isW.lt h_w 3 (by decide)) s3a s3b s3c (isW.sk h_o 3 (by decide)) (isW.sk h_w 3 (by decide)) s3d s3e ?_
  refine w_aload_n (p := 43) (pI pM_141 rfl) rfl rfl ?_
  refine v_getR (p := 46) (kf := 3) (pI pM_141 rfl) rfl rfl rfl (isW.ge h_o 0) (isW.lt h_o 0 (by decide)) (isW.sk h_o 0 (by decide)) rfl ?_
  refine w_iconst (p := 47) (v := nI 0) (pI pM_141 rfl) rfl rfl ?_
  refine w_aload_n (p := 48) (pI pM_141 rfl) rfl rfl ?_
  refine v_getR (p := 51) (kf := 3) (pI pM_141 rfl) rfl rfl rfl (isW.ge h_w 0) (isW.lt h_w 0 (by decide)) (isW.sk h_w 0 (by decide)) rfl ?_
  refine w_iconst (p := 52) (v := nI 0) (pI pM_141 rfl) rfl rfl ?_
  refine w_aload_n (p := 53) (pI pM_141 rfl) rfl rfl ?_
  refine v_getI (p := 56) (kf := 4) (pI pM_141 rfl) rfl rfl rfl (isW.ge h_o 0) (isW.lt h_o 0 (by decide)) (isW.sk h_o 0 (by decide)) rfl rfl ?_
  refine w_iconst (p := 57) (v := nI 1) (pI pM_141 rfl) rfl rfl ?_
  refine w_iadd (p := 58) (pI pM_141 rfl) rfl ?_
  refine w_bipush (p := 60) (v := nI 18) (pI pM_141 rfl) rfl rfl ?_
  refine w_imul (p := 61) (pI pM_141 rfl) rfl ?_
  obtain ⟨s4a, s4b, s4c, s4d, s4e, k⟩ := k
  refine s_copy (p := 64) (pI pM_141 rfl) rfl rfl rfl rfl rfl (isW.ge h_o 4) (isW.lt h_o 4 (by decide)) (isW.ge h_w 4) (isW.lt h_w 4 (by decide)) s4a s4b s4c (isW.sk h_o 4 (by decide)) (isW.sk h_w 4 (by decide)) s4d s4e ?_
  refine w_aload_n (p := 65) (pI pM_141 rfl) rfl rfl ?_
  refine w_aload_n (p := 66) (pI pM_141 rfl) rfl rfl ?_
  refine v_getI (p := 69) (kf := 4) (pI pM_141 rfl) rfl rfl rfl (isW.ge h_o 0) (isW.lt h_o 0 (by decide)) (isW.sk h_o 0 (by decide)) rfl rfl ?_
  refine s_putI (p := 72) (kf := 4) (pI pM_141 rfl) rfl rfl rfl (isW.ge h_w 0) (isW.lt h_w 0 (by decide)) (isW.sk h_w 0 (by decide)) rfl rfl rfl rfl rfl ?_
  refine w_aload_n (p := 73) (pI pM_141 rfl) rfl rfl ?_
  refine v_getR (p := 76) (kf := 5) (pI pM_141 rfl) rfl rfl rfl (isW.ge h_o 0) (isW.lt h_o 0 (by decide)) (isW.sk h_o 0 (by decide)) rfl ?_
  refine w_iconst (p := 77) (v := nI 0) (pI pM_141 rfl) rfl rfl ?_
  refine w_aload_n (p := 78) (pI pM_141 rfl) rfl rfl ?_
  refine v_getR (p := 81) (kf := 5) (pI pM_141 rfl) rfl rfl rfl (isW.ge h_w 0) (isW.lt h_w 0 (by decide)) (isW.sk h_w 0 (by decide)) rfl ?_
  refine w_iconst (p := 82) (v := nI 0) (pI pM_141 rfl) rfl rfl ?_
  refine w_iconst (p := 83) (v := nI 4) (pI pM_141 rfl) rfl rfl ?_
  obtain ⟨s5a, s5b, s5c, s5d, s5e, k⟩ := k
  refine s_copy (p := 86) (pI pM_141 rfl) rfl rfl rfl rfl rfl (isW.ge h_o 5) (isW.lt h_o 5 (by decide)) (isW.ge h_w 5) (isW.lt h_w 5 (by decide)) s5a s5b s5c (isW.sk h_o 5 (by decide)) (isW.sk h_w 5 (by decide)) s5d s5e ?_
  refine w_aload_n (p := 87) (pI pM_141 rfl) rfl rfl ?_
  refine v_getR (p := 90) (kf := 6) (pI pM_141 rfl) rfl rfl rfl (isW.ge h_o 0) (isW.lt h_o 0 (by decide)) (isW.sk h_o 0 (by decide)) rfl ?_
  refine w_iconst (p := 91) (v := nI 0) (pI pM_141 rfl) rfl rfl ?_
  refine w_aload_n (p := 92) (pI pM_141 rfl) rfl rfl ?_
  refine v_getR (p := 95) (kf := 6) (pI pM_141 rfl) rfl rfl rfl (isW.ge h_w 0) (isW.lt h_w 0 (by decide)) (isW.sk h_w 0 (by decide)) rfl ?_
  refine w_iconst (p := 96) (v := nI 0) (pI pM_141 rfl) rfl rfl ?_
  refine w_bipush (p := 98) (v := nI 20) (pI pM_141 rfl) rfl rfl ?_
  obtain ⟨s6a, s6b, s6c, s6d, s6e, k⟩ := k
  refine s_copy (p := 101) (pI pM_141 rfl) rfl rfl rfl rfl rfl (isW.ge h_o 6) (isW.lt h_o 6 (by decide)) (isW.ge h_w 6) (isW.lt h_w 6 (by decide)) s6a s6b s6c (isW.sk h_o 6 (by decide)) (isW.sk h_w 6 (by decide)) s6d s6e ?_
  refine w_aload_n (p := 102) (pI pM_141 rfl) rfl rfl ?_
  refine w_aload_n (p := 103) (pI pM_141 rfl) rfl rfl ?_
  refine v_getI (p := 106) (kf := 7) (pI pM_141 rfl) rfl rfl rfl (isW.ge h_o 0) (isW.lt h_o 0 (by decide)) (isW.sk h_o 0 (by decide)) rfl rfl ?_
  refine s_putI (p := 109) (kf := 7) (pI pM_141 rfl) rfl rfl rfl (isW.ge h_w 0) (isW.lt h_w 0 (by decide)) (isW.sk h_w 0 (by decide)) rfl rfl rfl rfl rfl ?_
  refine w_aload_n (p := 110) (pI pM_141 rfl) rfl rfl ?_
  refine v_getR (p := 113) (kf := 8) (pI pM_141 rfl) rfl rfl rfl (isW.ge h_o 0) (isW.lt h_o 0 (by decide)) (isW.sk h_o 0 (by decide)) rfl ?_
  refine w_iconst (p := 114) (v := nI 0) (pI pM_141 rfl) rfl rfl ?_
  refine w_aload_n (p := 115) (pI pM_141 rfl) rfl rfl ?_
  refine v_getR (p := 118) (kf := 8) (pI pM_141 rfl) rfl rfl rfl (isW.ge h_w 0) (isW.lt h_w 0 (by decide)) (isW.sk h_w 0 (by decide)) rfl ?_
  refine w_iconst (p := 119) (v := nI 0) (pI pM_141 rfl) rfl rfl ?_
  refine w_aload_n (p := 120) (pI pM_141 rfl) rfl rfl ?_
  refine v_getI (p := 123) (kf := 9) (pI pM_141 rfl) rfl rfl rfl (isW.ge h_o 0) (isW.lt h_o 0 (by decide)) (isW.sk h_o 0 (by decide)) rfl rfl ?_
  obtain ⟨s7a, s7b, s7c, s7d, s7e, k⟩ := k
  refine s_copy (p := 126) (pI pM_141 rfl) rfl rfl rfl rfl rfl (isW.ge h_o 7) (isW.lt h_o 7 (by decide)) (isW.ge h_w 7) (isW.lt h_w 7 (by decide)) s7a s7b s7c (isW.sk h_o 7 (by decide)) (isW.sk h_w 7 (by decide)) s7d s7e ?_
  refine w_aload_n (p := 127) (pI pM_141 rfl) rfl rfl ?_
  refine w_aload_n (p := 128) (pI pM_141 rfl) rfl rfl ?_
  refine v_getI (p := 131) (kf := 9) (pI pM_141 rfl) rfl rfl rfl (isW.ge h_o 0) (isW.lt h_o 0 (by decide)) (isW.sk h_o 0 (by decide)) rfl rfl ?_
  refine s_putI (p := 134) (kf := 9) (pI pM_141 rfl) rfl rfl rfl (isW.ge h_w 0) (isW.lt h_w 0 (by decide)) (isW.sk h_w 0 (by decide)) rfl rfl rfl rfl rfl ?_
  refine w_aload_n (p := 135) (pI pM_141 rfl) rfl rfl ?_
  refine w_aload_n (p := 136) (pI pM_141 rfl) rfl rfl ?_
  refine v_getI (p := 139) (kf := 11) (pI pM_141 rfl) rfl rfl rfl (isW.ge h_o 0) (isW.lt h_o 0 (by decide)) (isW.sk h_o 0 (by decide)) rfl rfl ?_
  refine s_putI (p := 142) (kf := 11) (pI pM_141 rfl) rfl rfl rfl (isW.ge h_w 0) (isW.lt h_w 0 (by decide)) (isW.sk h_w 0 (by decide)) rfl rfl rfl rfl rfl ?_
  refine w_aload_n (p := 143) (pI pM_141 rfl) rfl rfl ?_
  refine w_iconst (p := 144) (v := nI 0) (pI pM_141 rfl) rfl rfl ?_
  refine s_putI (p := 147) (kf := 12) (pI pM_141 rfl) rfl rfl rfl (isW.ge h_w 0) (isW.lt h_w 0 (by decide)) (isW.sk h_w 0 (by decide)) rfl rfl rfl rfl rfl ?_
  refine w_aload_n (p := 148) (pI pM_141 rfl) rfl rfl ?_
  refine w_iconst (p := 149) (v := nI 0) (pI pM_141 rfl) rfl rfl ?_
  refine s_putI (p := 152) (kf := 13) (pI pM_141 rfl) rfl rfl rfl (isW.ge h_w 0) (isW.lt h_w 0 (by decide)) (isW.sk h_w 0 (by decide)) rfl rfl rfl rfl rfl ?_
  refine w_aload_n (p := 153) (pI pM_141 rfl) rfl rfl ?_
  refine w_iconst (p := 154) (v := nI 0) (pI pM_141 rfl) rfl rfl ?_
  refine s_putI (p := 157) (kf := 14) (pI pM_141 rfl) rfl rfl rfl (isW.ge h_w 0) (isW.lt h_w 0 (by decide)) (isW.sk h_w 0 (by decide)) rfl rfl rfl rfl rfl ?_
  refine w_aload_n (p := 158) (pI pM_141 rfl) rfl rfl ?_
  refine w_iconst (p := 159) (v := nI 0) (pI pM_141 rfl) rfl rfl ?_
  refine s_putI (p := 162) (kf := 15) (pI pM_141 rfl) rfl rfl rfl (isW.ge h_w 0) (isW.lt h_w 0 (by decide)) (isW.sk h_w 0 (by decide)) rfl rfl rfl rfl rfl ?_
  exact w_return (pI pM_141 rfl) rfl k
set_option maxRecDepth 100000 in
set_option maxHeartbeats 4000000 in
theorem d107_inputsOf {d L : Nat} {x : Int32} {A I : HA} {Q : bm_Q} (k : D107_inputsOf x A I (fun v => Q (some (.ref v)) (hp L A I))) : bm_M (d + 1) 107 [.ref 44, .int x] (hp L A I) Q := by
  unfold D107_inputsOf at k
  refine bw_enter rfl rfl rfl rfl ?_
  refine w_aload_n (p := 1) (pI pM_107 rfl) rfl rfl ?_
  refine v_getR (p := 4) (kf := 0) (pI pM_107 rfl) rfl rfl rfl (by decide) (by decide) rfl rfl ?_
  refine w_iload_n (p := 5) (pI pM_107 rfl) rfl rfl ?_
  obtain ⟨s1, k⟩ := k
  refine v_aald (p := 6) (pI pM_107 rfl) rfl (by decide) (by decide) rfl s1 (if_pos (vp_lt s1)) ?_
  exact w_areturn (pI pM_107 rfl) rfl k
set_option maxRecDepth 100000 in
set_option maxHeartbeats 4000000 in
theorem d42_copy {d L : Nat} {n : Nat} {o : Nat} {A I : HA} {Q : bm_Q} (h_n : isN n) (h_o : isN o) (k : D42_copy n o A I (fun A I => Q none (hp L A I))) : bm_M (d + 1) 42 [.ref n, .ref o] (hp L A I) Q := by
  unfold D42_copy at k
  refine bw_enter rfl rfl rfl rfl ?_
  refine w_aload_n (p := 1) (pI pM_42 rfl) rfl rfl ?_
  refine v_getR (p := 4) (kf := 0) (pI pM_42 rfl) rfl rfl rfl (isN.ge h_o 0) (isN.lt h_o 0 (by decide)) (isN.sk h_o 0 (by decide)) rfl ?_
  refine w_iconst (p := 5) (v := nI 0) (pI pM_42 rfl) rfl rfl ?_
  refine w_aload_n (p := 6) (pI pM_42 rfl) rfl rfl ?_
  refine v_getR (p := 9) (kf := 0) (pI pM_42 rfl) rfl rfl rfl (isN.ge h_n 0) (isN.lt h_n 0 (by decide)) (isN.sk h_n 0 (by decide)) rfl ?_
  refine w_iconst (p := 10) (v := nI 0) (pI pM_42 rfl) rfl rfl ?_
  refine w_bipush (p := 12) (v := nI 32) (pI pM_42 rfl) rfl rfl ?_
  obtain ⟨s1a, s1b, s1c, s1d, s1e, k⟩ := k
  refine s_copy (p := 15) (pI pM_42 rfl) rfl rfl rfl rfl rfl (isN.ge h_o 1) (isN.lt h_o 1 (by decide)) (isN.ge h_n 1) (isN.lt h_n 1 (by decide)) s1a s1b s1c (isN.sk h_o 1 (by decide)) (isN.sk h_n 1 (by decide)) s1d s1e ?_
  exact w_return (pI pM_42 rfl) rfl k
set_option maxRecDepth 100000 in
set_option maxHeartbeats 4000000 in
theorem d108_leastOfOthers {d L : Nat} {x : Int32} {A I : HA} {Q : bm_Q} (k : D108_leastOfOthers x A I (fun v => Q (some (.int v)) (hp L A I))) : bm_M (d + 1) 108 [.ref 44, .int x] (hp L A I) Q := by
  unfold D108_leastOfOthers at k
  refine bw_enter rfl rfl rfl rfl ?_
  refine w_iconst (p := 1) (v := -1) (pI pM_108 rfl) rfl rfl ?_
  refine w_istore_n (p := 2) (pI pM_108 rfl) rfl rfl rfl ?_
  refine w_iconst (p := 3) (v := nI 0) (pI pM_108 rfl) rfl rfl ?_
  refine w_istore_n (p := 4) (pI pM_108 rfl) rfl rfl rfl ?_
  refine k (fun a2 a3 => bm_W (bm_M (d + 0)) 108 Q 4 [.ref 44, .int x, .int a2, .int a3] [] (hp L A I)) (fun a2 a3 k => ?_)
  refine w_iload_n (p := 5) (pI pM_108 rfl) rfl rfl ?_
  refine w_bipush (p := 7) (v := nI 8) (pI pM_108 rfl) rfl rfl ?_
  refine w_icmp_ge (p := 10) (q := 53) (pI pM_108 rfl) rfl rfl rfl (fun c => ?_) (fun c => ?_)
  · replace k := itn (Int32.not_lt.mpr c) k
    refine w_iload_n (p := 54) (pI pM_108 rfl) rfl rfl ?_
    exact w_ireturn (pI pM_108 rfl) rfl rfl rfl k
  · replace k := itp (Int32.not_le.mp c) k
    refine w_iload_n (p := 11) (pI pM_108 rfl) rfl rfl ?_
    refine w_iload_n (p := 12) (pI pM_108 rfl) rfl rfl ?_
    refine w_icmp_eq (p := 15) (q := 47) (pI pM_108 rfl) rfl rfl rfl (fun c => ?_) (fun c => ?_)
    · replace k := itp c k
      refine w_iinc (p := 50) (v := (a3 + nI 1)) (pI pM_108 rfl) rfl rfl rfl rfl ?_
      refine w_goto (p := 4) (pI pM_108 rfl) rfl rfl ?_
      exact k
    · replace k := itn c k
      refine w_aload_n (p := 16) (pI pM_108 rfl) rfl rfl ?_
      refine v_getR (p := 19) (kf := 1) (pI pM_108 rfl) rfl rfl rfl (by decide) (by decide) rfl rfl ?_
      refine w_iload_n (p := 20) (pI pM_108 rfl) rfl rfl ?_
      obtain ⟨s5, k⟩ := k
      refine v_iald (p := 21) (pI pM_108 rfl) rfl (by decide) rfl s5 rfl ?_
      refine w_iconst (p := 22) (v := -1) (pI pM_108 rfl) rfl rfl ?_
      refine w_icmp_eq (p := 25) (q := 47) (pI pM_108 rfl) rfl rfl rfl (fun c => ?_) (fun c => ?_)
      · replace k := itp c k
        refine w_iinc (p := 50) (v := (a3 + nI 1)) (pI pM_108 rfl) rfl rfl rfl rfl ?_
        refine w_goto (p := 4) (pI pM_108 rfl) rfl rfl ?_
        exact k
      · replace k := itn c k
        refine w_iload_n (p := 26) (pI pM_108 rfl) rfl rfl ?_
        refine w_iconst (p := 27) (v := -1) (pI pM_108 rfl) rfl rfl ?_
        refine w_icmp_eq (p := 30) (q := 40) (pI pM_108 rfl) rfl rfl rfl (fun c => ?_) (fun c => ?_)
        · replace k := itp c k
          refine w_aload_n (p := 41) (pI pM_108 rfl) rfl rfl ?_
          refine v_getR (p := 44) (kf := 1) (pI pM_108 rfl) rfl rfl rfl (by decide) (by decide) rfl rfl ?_
          refine w_iload_n (p := 45) (pI pM_108 rfl) rfl rfl ?_
          obtain ⟨s6, k⟩ := k
          refine v_iald (p := 46) (pI pM_108 rfl) rfl (by decide) rfl s6 rfl ?_
          refine w_istore_n (p := 47) (pI pM_108 rfl) rfl rfl rfl ?_
          refine w_iinc (p := 50) (v := (a3 + nI 1)) (pI pM_108 rfl) rfl rfl rfl rfl ?_
          refine w_goto (p := 4) (pI pM_108 rfl) rfl rfl ?_
          exact k
        · replace k := itn c k
          refine w_aload_n (p := 31) (pI pM_108 rfl) rfl rfl ?_
          refine v_getR (p := 34) (kf := 1) (pI pM_108 rfl) rfl rfl rfl (by decide) (by decide) rfl rfl ?_
          refine w_iload_n (p := 35) (pI pM_108 rfl) rfl rfl ?_
          obtain ⟨s7, k⟩ := k
          refine v_iald (p := 36) (pI pM_108 rfl) rfl (by decide) rfl s7 rfl ?_
          refine w_iload_n (p := 37) (pI pM_108 rfl) rfl rfl ?_
          refine w_icmp_ge (p := 40) (q := 47) (pI pM_108 rfl) rfl rfl rfl (fun c => ?_) (fun c => ?_)
          · replace k := itn (Int32.not_lt.mpr c) k
            refine w_iinc (p := 50) (v := (a3 + nI 1)) (pI pM_108 rfl) rfl rfl rfl rfl ?_
            refine w_goto (p := 4) (pI pM_108 rfl) rfl rfl ?_
            exact k
          · replace k := itp (Int32.not_le.mp c) k
            refine w_aload_n (p := 41) (pI pM_108 rfl) rfl rfl ?_
            refine v_getR (p := 44) (kf := 1) (pI pM_108 rfl) rfl rfl rfl (by decide) (by decide) rfl rfl ?_
            refine w_iload_n (p := 45) (pI pM_108 rfl) rfl rfl ?_
            obtain ⟨s8, k⟩ := k
            refine v_iald (p := 46) (pI pM_108 rfl) rfl (by decide) rfl s8 rfl ?_
            refine w_istore_n (p := 47) (pI pM_108 rfl) rfl rfl rfl ?_
            refine w_iinc (p := 50) (v := (a3 + nI 1)) (pI pM_108 rfl) rfl rfl rfl rfl ?_
            refine w_goto (p := 4) (pI pM_108 rfl) rfl rfl ?_
            exact k
set_option maxRecDepth 100000 in
set_option maxHeartbeats 4000000 in
theorem d142_addCondition {d L : Nat} {w : Nat} {x : Int32} {y : Int32} {z : Int32} {A I : HA} {Q : bm_Q} (h_w : isW w) (k : D142_addCondition w x y z A I (fun A I => Q none (hp L A I))) : bm_M (d + 1) 142 [.ref w, .int x, .int y, .int z] (hp L A I) Q := by
  unfold D142_addCondition at k
  refine bw_enter rfl rfl rfl rfl ?_
  refine w_aload_n (p := 1) (pI pM_142 rfl) rfl rfl ?_
  refine v_getI (p := 4) (kf := 9) (pI pM_142 rfl) rfl rfl rfl (isW.ge h_w 0) (isW.lt h_w 0 (by decide)) (isW.sk h_w 0 (by decide)) rfl rfl ?_
  refine w_sipush (p := 7) (v := nI 200) (pI pM_142 rfl) rfl rfl ?_
  refine w_icmp_ge (p := 10) (q := 43) (pI pM_142 rfl) rfl rfl rfl (fun c => ?_) (fun c => ?_)
  · replace k := itn (Int32.not_lt.mpr c) k
    exact w_return (pI pM_142 rfl) rfl k
  · replace k := itp (Int32.not_le.mp c) k
    refine w_aload_n (p := 11) (pI pM_142 rfl) rfl rfl ?_
    refine v_getR (p := 14) (kf := 8) (pI pM_142 rfl) rfl rfl rfl (isW.ge h_w 0) (isW.lt h_w 0 (by decide)) (isW.sk h_w 0 (by decide)) rfl ?_
    refine w_aload_n (p := 15) (pI pM_142 rfl) rfl rfl ?_
    refine v_getI (p := 18) (kf := 9) (pI pM_142 rfl) rfl rfl rfl (isW.ge h_w 0) (isW.lt h_w 0 (by decide)) (isW.sk h_w 0 (by decide)) rfl rfl ?_
    refine w_iload_n (p := 19) (pI pM_142 rfl) rfl rfl ?_
    refine w_iconst (p := 20) (v := nI 1) (pI pM_142 rfl) rfl rfl ?_
    refine w_iadd (p := 21) (pI pM_142 rfl) rfl ?_
    refine w_bipush (p := 23) (v := nI 8) (pI pM_142 rfl) rfl rfl ?_
    refine w_imul (p := 24) (pI pM_142 rfl) rfl ?_
    refine w_iload_n (p := 25) (pI pM_142 rfl) rfl rfl ?_
    refine w_iadd (p := 26) (pI pM_142 rfl) rfl ?_
    refine w_sipush (p := 29) (v := nI 1000) (pI pM_142 rfl) rfl rfl ?_
    refine w_imul (p := 30) (pI pM_142 rfl) rfl ?_
    refine w_iload_n (p := 31) (pI pM_142 rfl) rfl rfl ?_
    refine w_iadd (p := 32) (pI pM_142 rfl) rfl ?_
    obtain ⟨s1, k⟩ := k
    refine s_iast (p := 33) (pI pM_142 rfl) rfl (isW.ge h_w 7) (isW.lt h_w 7 (by decide)) (isW.sk h_w 7 (by decide)) s1 ?_
    refine w_aload_n (p := 34) (pI pM_142 rfl) rfl rfl ?_
    refine w_dup (p := 35) (pI pM_142 rfl) rfl rfl ?_
    refine v_getI (p := 38) (kf := 9) (pI pM_142 rfl) rfl rfl rfl (isW.ge h_w 0) (isW.lt h_w 0 (by decide)) (isW.sk h_w 0 (by decide)) rfl rfl ?_
    refine w_iconst (p := 39) (v := nI 1) (pI pM_142 rfl) rfl rfl ?_
    refine w_iadd (p := 40) (pI pM_142 rfl) rfl ?_
    refine s_putI (p := 43) (kf := 9) (pI pM_142 rfl) rfl rfl rfl (isW.ge h_w 0) (isW.lt h_w 0 (by decide)) (isW.sk h_w 0 (by decide)) rfl rfl rfl rfl rfl ?_
    exact w_return (pI pM_142 rfl) rfl k
set_option maxRecDepth 100000 in
set_option maxHeartbeats 4000000 in
theorem d99_addAlternative {d L : Nat} {w : Nat} {x : Int32} {A I : HA} {Q : bm_Q} (h_w : isW w) (k : D99_addAlternative w x A I (fun A I => Q none (hp L A I))) : bm_M (d + 2) 99 [.ref 20, .ref w, .int x] (hp L A I) Q := by
  unfold D99_addAlternative at k
  refine bw_enter rfl rfl rfl rfl ?_
  refine w_aload_n (p := 1) (pI pM_99 rfl) rfl rfl ?_
  refine v_getR (p := 4) (kf := 5) (pI pM_99 rfl) rfl rfl rfl (by decide) (by decide) rfl rfl ?_
  refine v_virtual (p := 7) (mj := 93) (pI pM_99 rfl) rfl rfl rfl rfl rfl rfl rfl rfl rfl rfl (by decide) (by decide) rfl ?_
  refine d93_isFull (D93_isFull_mono k (fun v1 k => ?_))
  refine w_if_ne (p := 10) (q := 17) (pI pM_99 rfl) rfl rfl rfl (fun c => ?_) (fun c => ?_)
  · replace k := itn c k
    refine w_aload_n (p := 18) (pI pM_99 rfl) rfl rfl ?_
    refine w_dup (p := 19) (pI pM_99 rfl) rfl rfl ?_
    refine v_getI (p := 22) (kf := 10) (pI pM_99 rfl) rfl rfl rfl (by decide) (by decide) rfl rfl rfl ?_
    refine w_iconst (p := 23) (v := nI 1) (pI pM_99 rfl) rfl rfl ?_
    refine w_iadd (p := 24) (pI pM_99 rfl) rfl ?_
    refine s_putI (p := 27) (kf := 10) (pI pM_99 rfl) rfl rfl rfl (by decide) (by decide) rfl rfl rfl rfl rfl rfl ?_
    exact w_return (pI pM_99 rfl) rfl k
  · replace k := itp (Decidable.not_not.mp c) k
    refine w_aload_n (p := 11) (pI pM_99 rfl) rfl rfl ?_
    refine v_getI (p := 14) (kf := 4) (pI pM_99 rfl) rfl rfl rfl (by decide) (by decide) rfl rfl rfl ?_
    refine w_if_gt (p := 17) (q := 28) (pI pM_99 rfl) rfl rfl rfl (fun c => ?_) (fun c => ?_)
    · replace k := itp c k
      refine w_aload_n (p := 29) (pI pM_99 rfl) rfl rfl ?_
      refine w_dup (p := 30) (pI pM_99 rfl) rfl rfl ?_
      refine v_getI (p := 33) (kf := 4) (pI pM_99 rfl) rfl rfl rfl (by decide) (by decide) rfl rfl rfl ?_
      refine w_iconst (p := 34) (v := nI 1) (pI pM_99 rfl) rfl rfl ?_
      refine w_isub (p := 35) (pI pM_99 rfl) rfl ?_
      refine s_putI (p := 38) (kf := 4) (pI pM_99 rfl) rfl rfl rfl (by decide) (by decide) rfl rfl rfl rfl rfl rfl ?_
      refine w_aload_n (p := 39) (pI pM_99 rfl) rfl rfl ?_
      refine v_getR (p := 42) (kf := 3) (pI pM_99 rfl) rfl rfl rfl (by decide) (by decide) rfl rfl ?_
      refine w_aload_n (p := 43) (pI pM_99 rfl) rfl rfl ?_
      refine v_getI (p := 46) (kf := 4) (pI pM_99 rfl) rfl rfl rfl (by decide) (by decide) rfl rfl rfl ?_
      obtain ⟨s2, k⟩ := k
      refine v_iald (p := 47) (pI pM_99 rfl) rfl (by decide) rfl s2 rfl ?_
      refine w_istore_n (p := 48) (pI pM_99 rfl) rfl rfl rfl ?_
      refine w_aload_n (p := 49) (pI pM_99 rfl) rfl rfl ?_
      refine v_getR (p := 52) (kf := 2) (pI pM_99 rfl) rfl rfl rfl (by decide) (by decide) rfl rfl ?_
      refine w_iload_n (p := 53) (pI pM_99 rfl) rfl rfl ?_
      obtain ⟨s3, k⟩ := k
      refine v_aald (p := 54) (pI pM_99 rfl) rfl (by decide) (by decide) rfl s3 (if_pos (vp_lt s3)) ?_
      refine w_astore (p := 56) (pI pM_99 rfl) rfl rfl rfl ?_
      refine w_aload (p := 58) (pI pM_99 rfl) rfl rfl ?_
      refine w_aload_n (p := 59) (pI pM_99 rfl) rfl rfl ?_
      refine v_virtual (p := 62) (mj := 141) (pI pM_99 rfl) rfl rfl rfl rfl rfl rfl rfl rfl rfl rfl (isW.ge (isW_mk (vp_lt s3)) 0) (isW.lt (isW_mk (vp_lt s3)) 0 (by decide)) (isW.sk (isW_mk (vp_lt s3)) 0 (by decide)) ?_
      refine d141_copyRun (isW_mk (vp_lt s3)) h_w (D141_copyRun_mono k (fun A4 I5 k => ?_))
      refine w_aload (p := 64) (pI pM_99 rfl) rfl rfl ?_
      refine v_getR (p := 67) (kf := 10) (pI pM_99 rfl) rfl rfl rfl (isW.ge (isW_mk (vp_lt s3)) 0) (isW.lt (isW_mk (vp_lt s3)) 0 (by decide)) (isW.sk (isW_mk (vp_lt s3)) 0 (by decide)) rfl ?_
      refine w_aload_n (p := 68) (pI pM_99 rfl) rfl rfl ?_
      refine v_getR (p := 71) (kf := 13) (pI pM_99 rfl) rfl rfl rfl (by decide) (by decide) rfl rfl ?_
      refine w_iload_n (p := 72) (pI pM_99 rfl) rfl rfl ?_
      refine v_virtual (p := 75) (mj := 107) (pI pM_99 rfl) rfl rfl rfl rfl rfl rfl rfl rfl rfl rfl (by decide) (by decide) rfl ?_
      refine d107_inputsOf (D107_inputsOf_mono k (fun v6 k => ?_))
      obtain ⟨h7, k⟩ := k
      refine v_virtual (p := 78) (mj := 42) (pI pM_99 rfl) rfl rfl rfl rfl rfl rfl rfl rfl rfl rfl (isN.ge (isN_w (isW_mk (vp_lt s3))) 0) (isN.lt (isN_w (isW_mk (vp_lt s3))) 0 (by decide)) (isN.sk (isN_w (isW_mk (vp_lt s3))) 0 (by decide)) ?_
      refine d42_copy (isN_w (isW_mk (vp_lt s3))) h7 (D42_copy_mono k (fun A8 I9 k => ?_))
      refine w_aload (p := 80) (pI pM_99 rfl) rfl rfl ?_
      refine w_aload_n (p := 81) (pI pM_99 rfl) rfl rfl ?_
      refine v_virtual (p := 84) (mj := 123) (pI pM_99 rfl) rfl rfl rfl rfl rfl rfl rfl rfl rfl rfl (isW.ge h_w 0) (isW.lt h_w 0 (by decide)) (isW.sk h_w 0 (by decide)) ?_
      refine d123_placeNow h_w (D123_placeNow_mono k (fun v10 k => ?_))
      refine w_iload_n (p := 85) (pI pM_99 rfl) rfl rfl ?_
      refine w_aload_n (p := 86) (pI pM_99 rfl) rfl rfl ?_
      refine v_getR (p := 89) (kf := 13) (pI pM_99 rfl) rfl rfl rfl (by decide) (by decide) rfl rfl ?_
      refine w_iload_n (p := 90) (pI pM_99 rfl) rfl rfl ?_
      refine v_virtual (p := 93) (mj := 108) (pI pM_99 rfl) rfl rfl rfl rfl rfl rfl rfl rfl rfl rfl (by decide) (by decide) rfl ?_
      refine d108_leastOfOthers (D108_leastOfOthers_mono k (fun v11 k => ?_))
      refine v_virtual (p := 96) (mj := 142) (pI pM_99 rfl) rfl rfl rfl rfl rfl rfl rfl rfl rfl rfl (isW.ge (isW_mk (vp_lt s3)) 0) (isW.lt (isW_mk (vp_lt s3)) 0 (by decide)) (isW.sk (isW_mk (vp_lt s3)) 0 (by decide)) ?_
      refine d142_addCondition (isW_mk (vp_lt s3)) (D142_addCondition_mono k (fun A12 I13 k => ?_))
      refine w_aload (p := 98) (pI pM_99 rfl) rfl rfl ?_
      refine w_iload_n (p := 99) (pI pM_99 rfl) rfl rfl ?_
      refine s_putI (p := 102) (kf := 16) (pI pM_99 rfl) rfl rfl rfl (isW.ge (isW_mk (vp_lt s3)) 0) (isW.lt (isW_mk (vp_lt s3)) 0 (by decide)) (isW.sk (isW_mk (vp_lt s3)) 0 (by decide)) rfl rfl rfl rfl rfl ?_
      refine w_aload (p := 104) (pI pM_99 rfl) rfl rfl ?_
      refine w_aload_n (p := 105) (pI pM_99 rfl) rfl rfl ?_
      refine v_getI (p := 108) (kf := 17) (pI pM_99 rfl) rfl rfl rfl (by decide) (by decide) rfl rfl rfl ?_
      refine s_putI (p := 111) (kf := 17) (pI pM_99 rfl) rfl rfl rfl (isW.ge (isW_mk (vp_lt s3)) 0) (isW.lt (isW_mk (vp_lt s3)) 0 (by decide)) (isW.sk (isW_mk (vp_lt s3)) 0 (by decide)) rfl rfl rfl rfl rfl ?_
      refine w_aload_n (p := 112) (pI pM_99 rfl) rfl rfl ?_
      refine v_getR (p := 115) (kf := 5) (pI pM_99 rfl) rfl rfl rfl (by decide) (by decide) rfl rfl ?_
      refine w_iload_n (p := 116) (pI pM_99 rfl) rfl rfl ?_
      refine v_virtual (p := 119) (mj := 88) (pI pM_99 rfl) rfl rfl rfl rfl rfl rfl rfl rfl rfl rfl (by decide) (by decide) rfl ?_
      refine d88_add (D88_add_mono k (fun A14 I15 k => ?_))
      exact w_return (pI pM_99 rfl) rfl k
    · replace k := itn c k
      refine w_aload_n (p := 18) (pI pM_99 rfl) rfl rfl ?_
      refine w_dup (p := 19) (pI pM_99 rfl) rfl rfl ?_
      refine v_getI (p := 22) (kf := 10) (pI pM_99 rfl) rfl rfl rfl (by decide) (by decide) rfl rfl rfl ?_
      refine w_iconst (p := 23) (v := nI 1) (pI pM_99 rfl) rfl rfl ?_
      refine w_iadd (p := 24) (pI pM_99 rfl) rfl ?_
      refine s_putI (p := 27) (kf := 10) (pI pM_99 rfl) rfl rfl rfl (by decide) (by decide) rfl rfl rfl rfl rfl rfl ?_
      exact w_return (pI pM_99 rfl) rfl k
set_option maxRecDepth 100000 in
set_option maxHeartbeats 4000000 in
theorem d98_split {d L : Nat} {w : Nat} {A I : HA} {Q : bm_Q} (h_w : isW w) (k : D98_split w A I (fun A I => Q none (hp L A I))) : bm_M (d + 5) 98 [.ref 20, .ref w] (hp L A I) Q := by
  unfold D98_split at k
  refine bw_enter rfl rfl rfl rfl ?_
  refine w_aload_n (p := 1) (pI pM_98 rfl) rfl rfl ?_
  refine v_getR (p := 4) (kf := 0) (pI pM_98 rfl) rfl rfl rfl (by decide) (by decide) rfl rfl ?_
  refine w_aload_n (p := 5) (pI pM_98 rfl) rfl rfl ?_
  refine v_virtual (p := 8) (mj := 47) (pI pM_98 rfl) rfl rfl rfl rfl rfl rfl rfl rfl rfl rfl (by decide) (by decide) rfl ?_
  refine d47_opOf h_w (D47_opOf_mono k (fun v1 k => ?_))
  refine w_istore_n (p := 9) (pI pM_98 rfl) rfl rfl rfl ?_
  refine w_aload_n (p := 10) (pI pM_98 rfl) rfl rfl ?_
  refine w_iload_n (p := 11) (pI pM_98 rfl) rfl rfl ?_
  refine w_static (p := 14) (mj := 53) (pI pM_98 rfl) rfl rfl rfl rfl rfl rfl rfl rfl rfl ?_
  refine d53_lengthAt h_w (D53_lengthAt_mono k (fun v2 k => ?_))
  refine w_istore_n (p := 15) (pI pM_98 rfl) rfl rfl rfl ?_
  refine w_aload_n (p := 16) (pI pM_98 rfl) rfl rfl ?_
  refine v_getR (p := 19) (kf := 13) (pI pM_98 rfl) rfl rfl rfl (by decide) (by decide) rfl rfl ?_
  refine w_aload_n (p := 20) (pI pM_98 rfl) rfl rfl ?_
  refine v_getR (p := 23) (kf := 0) (pI pM_98 rfl) rfl rfl rfl (by decide) (by decide) rfl rfl ?_
  refine w_aload_n (p := 24) (pI pM_98 rfl) rfl rfl ?_
  refine w_iload_n (p := 25) (pI pM_98 rfl) rfl rfl ?_
  refine w_iload_n (p := 26) (pI pM_98 rfl) rfl rfl ?_
  refine v_virtual (p := 29) (mj := 105) (pI pM_98 rfl) rfl rfl rfl rfl rfl rfl rfl rfl rfl rfl (by decide) (by decide) rfl ?_
  refine d105_share h_w (D105_share_mono k (fun A3 I4 k => ?_))
  refine w_aload_n (p := 30) (pI pM_98 rfl) rfl rfl ?_
  refine w_dup (p := 31) (pI pM_98 rfl) rfl rfl ?_
  refine v_getI (p := 34) (kf := 17) (pI pM_98 rfl) rfl rfl rfl (by decide) (by decide) rfl rfl rfl ?_
  refine w_iconst (p := 35) (v := nI 1) (pI pM_98 rfl) rfl rfl ?_
  refine w_iadd (p := 36) (pI pM_98 rfl) rfl ?_
  refine s_putI (p := 39) (kf := 17) (pI pM_98 rfl) rfl rfl rfl (by decide) (by decide) rfl rfl rfl rfl rfl rfl ?_
  refine w_iload_n (p := 40) (pI pM_98 rfl) rfl rfl ?_
  refine w_iload_n (p := 41) (pI pM_98 rfl) rfl rfl ?_
  refine w_static (p := 44) (mj := 70) (pI pM_98 rfl) rfl rfl rfl rfl rfl rfl rfl rfl rfl ?_
  refine d70_alternativesOf (D70_alternativesOf_mono k (fun v5 k => ?_))
  refine w_istore (p := 46) (pI pM_98 rfl) rfl rfl rfl ?_
  refine w_iconst (p := 47) (v := nI 0) (pI pM_98 rfl) rfl rfl ?_
  refine w_istore (p := 49) (pI pM_98 rfl) rfl rfl rfl ?_
  refine k (fun a7 A10 I11 => ∀ u8 u9 : Value, bm_W (bm_M (d + 4)) 98 Q 49 [.ref 20, .ref w, u8, u9, .int v5, .int a7] [] (hp L A10 I11)) (fun a7 A10 I11 k => ?_) _ _
  intro u8 u9
  refine w_iload (p := 51) (pI pM_98 rfl) rfl rfl ?_
  refine w_iload (p := 53) (pI pM_98 rfl) rfl rfl ?_
  refine w_icmp_ge (p := 56) (q := 116) (pI pM_98 rfl) rfl rfl rfl (fun c => ?_) (fun c => ?_)
  · replace k := itn (Int32.not_lt.mpr c) k
    exact w_return (pI pM_98 rfl) rfl k
  · replace k := itp (Int32.not_le.mp c) k
    refine w_aload_n (p := 57) (pI pM_98 rfl) rfl rfl ?_
    refine v_getR (p := 60) (kf := 13) (pI pM_98 rfl) rfl rfl rfl (by decide) (by decide) rfl rfl ?_
    refine w_iload (p := 62) (pI pM_98 rfl) rfl rfl ?_
    refine v_virtual (p := 65) (mj := 106) (pI pM_98 rfl) rfl rfl rfl rfl rfl rfl rfl rfl rfl rfl (by decide) (by decide) rfl ?_
    refine d106_isTaken (D106_isTaken_mono k (fun v13 k => ?_))
    refine w_if_eq (p := 68) (q := 78) (pI pM_98 rfl) rfl rfl rfl (fun c => ?_) (fun c => ?_)
    · replace k := itp c k
      refine w_aload_n (p := 79) (pI pM_98 rfl) rfl rfl ?_
      refine v_getR (p := 82) (kf := 11) (pI pM_98 rfl) rfl rfl rfl (by decide) (by decide) rfl rfl ?_
      refine w_aload_n (p := 83) (pI pM_98 rfl) rfl rfl ?_
      refine v_getI (p := 86) (kf := 12) (pI pM_98 rfl) rfl rfl rfl (by decide) (by decide) rfl rfl rfl ?_
      refine w_bipush (p := 88) (v := nI 30) (pI pM_98 rfl) rfl rfl ?_
      refine w_irem (p := 89) (pI pM_98 rfl) rfl (by decide) ?_
      refine w_aload_n (p := 90) (pI pM_98 rfl) rfl rfl ?_
      refine v_virtual (p := 93) (mj := 123) (pI pM_98 rfl) rfl rfl rfl rfl rfl rfl rfl rfl rfl rfl (isW.ge h_w 0) (isW.lt h_w 0 (by decide)) (isW.sk h_w 0 (by decide)) ?_
      refine d123_placeNow h_w (D123_placeNow_mono k (fun v14 k => ?_))
      refine w_bipush (p := 95) (v := nI 8) (pI pM_98 rfl) rfl rfl ?_
      refine w_imul (p := 96) (pI pM_98 rfl) rfl ?_
      refine w_iload (p := 98) (pI pM_98 rfl) rfl rfl ?_
      refine w_iadd (p := 99) (pI pM_98 rfl) rfl ?_
      obtain ⟨s15, k⟩ := k
      refine s_iast (p := 100) (pI pM_98 rfl) rfl (by decide) (by decide) rfl s15 ?_
      refine w_aload_n (p := 101) (pI pM_98 rfl) rfl rfl ?_
      refine w_dup (p := 102) (pI pM_98 rfl) rfl rfl ?_
      refine v_getI (p := 105) (kf := 12) (pI pM_98 rfl) rfl rfl rfl (by decide) (by decide) rfl rfl rfl ?_
      refine w_iconst (p := 106) (v := nI 1) (pI pM_98 rfl) rfl rfl ?_
      refine w_iadd (p := 107) (pI pM_98 rfl) rfl ?_
      refine s_putI (p := 110) (kf := 12) (pI pM_98 rfl) rfl rfl rfl (by decide) (by decide) rfl rfl rfl rfl rfl rfl ?_
      refine w_iinc (p := 113) (v := (a7 + nI 1)) (pI pM_98 rfl) rfl rfl rfl rfl ?_
      refine w_goto (p := 49) (pI pM_98 rfl) rfl rfl ?_
      exact k _ _
    · replace k := itn c k
      refine w_aload_n (p := 69) (pI pM_98 rfl) rfl rfl ?_
      refine w_aload_n (p := 70) (pI pM_98 rfl) rfl rfl ?_
      refine w_iload (p := 72) (pI pM_98 rfl) rfl rfl ?_
      refine v_virtual (p := 75) (mj := 99) (pI pM_98 rfl) rfl rfl rfl rfl rfl rfl rfl rfl rfl rfl (by decide) (by decide) rfl ?_
      refine d99_addAlternative h_w (D99_addAlternative_mono k (fun A16 I17 k => ?_))
      refine w_goto (p := 110) (pI pM_98 rfl) rfl rfl ?_
      refine w_iinc (p := 113) (v := (a7 + nI 1)) (pI pM_98 rfl) rfl rfl rfl rfl ?_
      refine w_goto (p := 49) (pI pM_98 rfl) rfl rfl ?_
      exact k _ _
set_option maxRecDepth 100000 in
set_option maxHeartbeats 4000000 in
theorem d96_goOn {d L : Nat} {x : Int32} {A I : HA} {Q : bm_Q} (k : D96_goOn x A I (fun v A I => Q (some (.int v)) (hp L A I))) : bm_M (d + 7) 96 [.ref 20, .int x] (hp L A I) Q := by
  unfold D96_goOn at k
  refine bw_enter rfl rfl rfl rfl ?_
  refine w_iload_n (p := 1) (pI pM_96 rfl) rfl rfl ?_
  refine w_bipush (p := 3) (v := nI 100) (pI pM_96 rfl) rfl rfl ?_
  refine w_min (p := 6) (pI pM_96 rfl) rfl rfl rfl rfl rfl rfl ?_
  refine w_istore_n (p := 7) (pI pM_96 rfl) rfl rfl rfl ?_
  refine w_iconst (p := 8) (v := nI 0) (pI pM_96 rfl) rfl rfl ?_
  refine w_istore_n (p := 9) (pI pM_96 rfl) rfl rfl rfl ?_
  refine k (fun a2 A6 I7 => ∀ u3 u4 u5 : Value, bm_W (bm_M (d + 6)) 96 Q 9 [.ref 20, u3, .int (if (nI 100) < x then (nI 100) else x), .int a2, u4, u5] [] (hp L A6 I7)) (fun a2 A6 I7 k => ?_) _ _ _
  intro u3 u4 u5
  refine w_iload_n (p := 10) (pI pM_96 rfl) rfl rfl ?_
  refine w_ldc (p := 12) (v := nI 1000000) (pI pM_96 rfl) rfl rfl rfl ?_
  refine w_icmp_ge (p := 15) (q := 167) (pI pM_96 rfl) rfl rfl rfl (fun c => ?_) (fun c => ?_)
  · replace k := itn (Int32.not_lt.mpr c) k
    refine w_aload_n (p := 168) (pI pM_96 rfl) rfl rfl ?_
    refine v_getI (p := 171) (kf := 7) (pI pM_96 rfl) rfl rfl rfl (by decide) (by decide) rfl rfl rfl ?_
    exact w_ireturn (pI pM_96 rfl) rfl rfl rfl k
  · replace k := itp (Int32.not_le.mp c) k
    refine w_aload_n (p := 16) (pI pM_96 rfl) rfl rfl ?_
    refine v_getI (p := 19) (kf := 7) (pI pM_96 rfl) rfl rfl rfl (by decide) (by decide) rfl rfl rfl ?_
    refine w_iload_n (p := 20) (pI pM_96 rfl) rfl rfl ?_
    refine w_icmp_ge (p := 23) (q := 167) (pI pM_96 rfl) rfl rfl rfl (fun c => ?_) (fun c => ?_)
    · replace k := itn (Int32.not_lt.mpr c) k
      refine w_aload_n (p := 168) (pI pM_96 rfl) rfl rfl ?_
      refine v_getI (p := 171) (kf := 7) (pI pM_96 rfl) rfl rfl rfl (by decide) (by decide) rfl rfl rfl ?_
      exact w_ireturn (pI pM_96 rfl) rfl rfl rfl k
    · replace k := itp (Int32.not_le.mp c) k
      refine w_aload_n (p := 24) (pI pM_96 rfl) rfl rfl ?_
      refine v_getR (p := 27) (kf := 5) (pI pM_96 rfl) rfl rfl rfl (by decide) (by decide) rfl rfl ?_
      refine v_getI (p := 30) (kf := 1) (pI pM_96 rfl) rfl rfl rfl (by decide) (by decide) rfl rfl rfl ?_
      refine w_if_le (p := 33) (q := 167) (pI pM_96 rfl) rfl rfl rfl (fun c => ?_) (fun c => ?_)
      · replace k := itn (Int32.not_lt.mpr c) k
        refine w_aload_n (p := 168) (pI pM_96 rfl) rfl rfl ?_
        refine v_getI (p := 171) (kf := 7) (pI pM_96 rfl) rfl rfl rfl (by decide) (by decide) rfl rfl rfl ?_
        exact w_ireturn (pI pM_96 rfl) rfl rfl rfl k
      · replace k := itp (Int32.not_le.mp c) k
        refine w_aload_n (p := 34) (pI pM_96 rfl) rfl rfl ?_
        refine v_getR (p := 37) (kf := 5) (pI pM_96 rfl) rfl rfl rfl (by decide) (by decide) rfl rfl ?_
        refine w_aload_n (p := 38) (pI pM_96 rfl) rfl rfl ?_
        refine v_getI (p := 41) (kf := 16) (pI pM_96 rfl) rfl rfl rfl (by decide) (by decide) rfl rfl rfl ?_
        refine w_aload_n (p := 42) (pI pM_96 rfl) rfl rfl ?_
        refine v_getR (p := 45) (kf := 2) (pI pM_96 rfl) rfl rfl rfl (by decide) (by decide) rfl rfl ?_
        refine w_aload_n (p := 46) (pI pM_96 rfl) rfl rfl ?_
        refine v_getR (p := 49) (kf := 8) (pI pM_96 rfl) rfl rfl rfl (by decide) (by decide) rfl rfl ?_
        refine v_virtual (p := 52) (mj := 89) (pI pM_96 rfl) rfl rfl rfl rfl rfl rfl rfl rfl rfl rfl (by decide) (by decide) rfl ?_
        refine d89_take (D89_take_mono k (fun v9 A10 I11 k => ?_))
        refine w_istore (p := 54) (pI pM_96 rfl) rfl rfl rfl ?_
        refine w_aload_n (p := 55) (pI pM_96 rfl) rfl rfl ?_
        refine v_getR (p := 58) (kf := 2) (pI pM_96 rfl) rfl rfl rfl (by decide) (by decide) rfl rfl ?_
        refine w_iload (p := 60) (pI pM_96 rfl) rfl rfl ?_
        obtain ⟨s12, k⟩ := k
        refine v_aald (p := 61) (pI pM_96 rfl) rfl (by decide) (by decide) rfl s12 (if_pos (vp_lt s12)) ?_
        refine w_astore (p := 63) (pI pM_96 rfl) rfl rfl rfl ?_
        refine w_aload (p := 65) (pI pM_96 rfl) rfl rfl ?_
        refine v_getI (p := 68) (kf := 16) (pI pM_96 rfl) rfl rfl rfl (isW.ge (isW_mk (vp_lt s12)) 0) (isW.lt (isW_mk (vp_lt s12)) 0 (by decide)) (isW.sk (isW_mk (vp_lt s12)) 0 (by decide)) rfl rfl ?_
        refine w_iconst (p := 69) (v := -1) (pI pM_96 rfl) rfl rfl ?_
        refine w_icmp_eq (p := 72) (q := 101) (pI pM_96 rfl) rfl rfl rfl (fun c => ?_) (fun c => ?_)
        · replace k := itp c k
          refine w_aload_n (p := 102) (pI pM_96 rfl) rfl rfl ?_
          refine w_aload (p := 104) (pI pM_96 rfl) rfl rfl ?_
          refine v_virtual (p := 107) (mj := 97) (pI pM_96 rfl) rfl rfl rfl rfl rfl rfl rfl rfl rfl rfl (by decide) (by decide) rfl ?_
          refine d97_goesToSplit (isW_mk (vp_lt s12)) (D97_goesToSplit_mono k (fun v13 A14 I15 k => ?_))
          refine w_if_eq (p := 110) (q := 140) (pI pM_96 rfl) rfl rfl rfl (fun c => ?_) (fun c => ?_)
          · replace k := itp c k
            refine w_aload_n (p := 141) (pI pM_96 rfl) rfl rfl ?_
            refine v_getR (p := 144) (kf := 6) (pI pM_96 rfl) rfl rfl rfl (by decide) (by decide) rfl rfl ?_
            refine w_aload_n (p := 145) (pI pM_96 rfl) rfl rfl ?_
            refine v_getI (p := 148) (kf := 7) (pI pM_96 rfl) rfl rfl rfl (by decide) (by decide) rfl rfl rfl ?_
            refine w_iload (p := 150) (pI pM_96 rfl) rfl rfl ?_
            obtain ⟨s16, k⟩ := k
            refine s_iast (p := 151) (pI pM_96 rfl) rfl (by decide) (by decide) rfl s16 ?_
            refine w_aload_n (p := 152) (pI pM_96 rfl) rfl rfl ?_
            refine w_dup (p := 153) (pI pM_96 rfl) rfl rfl ?_
            refine v_getI (p := 156) (kf := 7) (pI pM_96 rfl) rfl rfl rfl (by decide) (by decide) rfl rfl rfl ?_
            refine w_iconst (p := 157) (v := nI 1) (pI pM_96 rfl) rfl rfl ?_
            refine w_iadd (p := 158) (pI pM_96 rfl) rfl ?_
            refine s_putI (p := 161) (kf := 7) (pI pM_96 rfl) rfl rfl rfl (by decide) (by decide) rfl rfl rfl rfl rfl rfl ?_
            refine w_iinc (p := 164) (v := (a2 + nI 1)) (pI pM_96 rfl) rfl rfl rfl rfl ?_
            refine w_goto (p := 9) (pI pM_96 rfl) rfl rfl ?_
            exact k _ _ _
          · replace k := itn c k
            refine w_aload_n (p := 111) (pI pM_96 rfl) rfl rfl ?_
            refine w_aload (p := 113) (pI pM_96 rfl) rfl rfl ?_
            refine v_virtual (p := 116) (mj := 98) (pI pM_96 rfl) rfl rfl rfl rfl rfl rfl rfl rfl rfl rfl (by decide) (by decide) rfl ?_
            refine d98_split (isW_mk (vp_lt s12)) (D98_split_mono k (fun A17 I18 k => ?_))
            refine w_aload_n (p := 117) (pI pM_96 rfl) rfl rfl ?_
            refine v_getR (p := 120) (kf := 3) (pI pM_96 rfl) rfl rfl rfl (by decide) (by decide) rfl rfl ?_
            refine w_aload_n (p := 121) (pI pM_96 rfl) rfl rfl ?_
            refine v_getI (p := 124) (kf := 4) (pI pM_96 rfl) rfl rfl rfl (by decide) (by decide) rfl rfl rfl ?_
            refine w_iload (p := 126) (pI pM_96 rfl) rfl rfl ?_
            obtain ⟨s19, k⟩ := k
            refine s_iast (p := 127) (pI pM_96 rfl) rfl (by decide) (by decide) rfl s19 ?_
            refine w_aload_n (p := 128) (pI pM_96 rfl) rfl rfl ?_
            refine w_dup (p := 129) (pI pM_96 rfl) rfl rfl ?_
            refine v_getI (p := 132) (kf := 4) (pI pM_96 rfl) rfl rfl rfl (by decide) (by decide) rfl rfl rfl ?_
            refine w_iconst (p := 133) (v := nI 1) (pI pM_96 rfl) rfl rfl ?_
            refine w_iadd (p := 134) (pI pM_96 rfl) rfl ?_
            refine s_putI (p := 137) (kf := 4) (pI pM_96 rfl) rfl rfl rfl (by decide) (by decide) rfl rfl rfl rfl rfl rfl ?_
            refine w_goto (p := 161) (pI pM_96 rfl) rfl rfl ?_
            refine w_iinc (p := 164) (v := (a2 + nI 1)) (pI pM_96 rfl) rfl rfl rfl rfl ?_
            refine w_goto (p := 9) (pI pM_96 rfl) rfl rfl ?_
            exact k _ _ _
        · replace k := itn c k
          refine w_aload_n (p := 73) (pI pM_96 rfl) rfl rfl ?_
          refine v_getR (p := 76) (kf := 0) (pI pM_96 rfl) rfl rfl rfl (by decide) (by decide) rfl rfl ?_
          refine w_aload (p := 78) (pI pM_96 rfl) rfl rfl ?_
          refine w_aload_n (p := 79) (pI pM_96 rfl) rfl rfl ?_
          refine v_getR (p := 82) (kf := 0) (pI pM_96 rfl) rfl rfl rfl (by decide) (by decide) rfl rfl ?_
          refine w_aload (p := 84) (pI pM_96 rfl) rfl rfl ?_
          refine v_virtual (p := 87) (mj := 47) (pI pM_96 rfl) rfl rfl rfl rfl rfl rfl rfl rfl rfl rfl (by decide) (by decide) rfl ?_
          refine d47_opOf (isW_mk (vp_lt s12)) (D47_opOf_mono k (fun v20 k => ?_))
          refine w_aload (p := 89) (pI pM_96 rfl) rfl rfl ?_
          refine v_getI (p := 92) (kf := 16) (pI pM_96 rfl) rfl rfl rfl (isW.ge (isW_mk (vp_lt s12)) 0) (isW.lt (isW_mk (vp_lt s12)) 0 (by decide)) (isW.sk (isW_mk (vp_lt s12)) 0 (by decide)) rfl rfl ?_
          refine v_virtual (p := 95) (mj := 48) (pI pM_96 rfl) rfl rfl rfl rfl rfl rfl rfl rfl rfl rfl (by decide) (by decide) rfl ?_
          refine d48_act (isW_mk (vp_lt s12)) (D48_act_mono k (fun A21 I22 k => ?_))
          refine w_aload (p := 97) (pI pM_96 rfl) rfl rfl ?_
          refine w_iconst (p := 98) (v := -1) (pI pM_96 rfl) rfl rfl ?_
          refine s_putI (p := 101) (kf := 16) (pI pM_96 rfl) rfl rfl rfl (isW.ge (isW_mk (vp_lt s12)) 0) (isW.lt (isW_mk (vp_lt s12)) 0 (by decide)) (isW.sk (isW_mk (vp_lt s12)) 0 (by decide)) rfl rfl rfl rfl rfl ?_
          refine w_aload_n (p := 102) (pI pM_96 rfl) rfl rfl ?_
          refine w_aload (p := 104) (pI pM_96 rfl) rfl rfl ?_
          refine v_virtual (p := 107) (mj := 97) (pI pM_96 rfl) rfl rfl rfl rfl rfl rfl rfl rfl rfl rfl (by decide) (by decide) rfl ?_
          refine d97_goesToSplit (isW_mk (vp_lt s12)) (D97_goesToSplit_mono k (fun v23 A24 I25 k => ?_))
          refine w_if_eq (p := 110) (q := 140) (pI pM_96 rfl) rfl rfl rfl (fun c => ?_) (fun c => ?_)
          · replace k := itp c k
            refine w_aload_n (p := 141) (pI pM_96 rfl) rfl rfl ?_
            refine v_getR (p := 144) (kf := 6) (pI pM_96 rfl) rfl rfl rfl (by decide) (by decide) rfl rfl ?_
            refine w_aload_n (p := 145) (pI pM_96 rfl) rfl rfl ?_
            refine v_getI (p := 148) (kf := 7) (pI pM_96 rfl) rfl rfl rfl (by decide) (by decide) rfl rfl rfl ?_
            refine w_iload (p := 150) (pI pM_96 rfl) rfl rfl ?_
            obtain ⟨s26, k⟩ := k
            refine s_iast (p := 151) (pI pM_96 rfl) rfl (by decide) (by decide) rfl s26 ?_
            refine w_aload_n (p := 152) (pI pM_96 rfl) rfl rfl ?_
            refine w_dup (p := 153) (pI pM_96 rfl) rfl rfl ?_
            refine v_getI (p := 156) (kf := 7) (pI pM_96 rfl) rfl rfl rfl (by decide) (by decide) rfl rfl rfl ?_
            refine w_iconst (p := 157) (v := nI 1) (pI pM_96 rfl) rfl rfl ?_
            refine w_iadd (p := 158) (pI pM_96 rfl) rfl ?_
            refine s_putI (p := 161) (kf := 7) (pI pM_96 rfl) rfl rfl rfl (by decide) (by decide) rfl rfl rfl rfl rfl rfl ?_
            refine w_iinc (p := 164) (v := (a2 + nI 1)) (pI pM_96 rfl) rfl rfl rfl rfl ?_
            refine w_goto (p := 9) (pI pM_96 rfl) rfl rfl ?_
            exact k _ _ _
          · replace k := itn c k
            refine w_aload_n (p := 111) (pI pM_96 rfl) rfl rfl ?_
            refine w_aload (p := 113) (pI pM_96 rfl) rfl rfl ?_
            refine v_virtual (p := 116) (mj := 98) (pI pM_96 rfl) rfl rfl rfl rfl rfl rfl rfl rfl rfl rfl (by decide) (by decide) rfl ?_
            refine d98_split (isW_mk (vp_lt s12)) (D98_split_mono k (fun A27 I28 k => ?_))
            refine w_aload_n (p := 117) (pI pM_96 rfl) rfl rfl ?_
            refine v_getR (p := 120) (kf := 3) (pI pM_96 rfl) rfl rfl rfl (by decide) (by decide) rfl rfl ?_
            refine w_aload_n (p := 121) (pI pM_96 rfl) rfl rfl ?_
            refine v_getI (p := 124) (kf := 4) (pI pM_96 rfl) rfl rfl rfl (by decide) (by decide) rfl rfl rfl ?_
            refine w_iload (p := 126) (pI pM_96 rfl) rfl rfl ?_
            obtain ⟨s29, k⟩ := k
            refine s_iast (p := 127) (pI pM_96 rfl) rfl (by decide) (by decide) rfl s29 ?_
            refine w_aload_n (p := 128) (pI pM_96 rfl) rfl rfl ?_
            refine w_dup (p := 129) (pI pM_96 rfl) rfl rfl ?_
            refine v_getI (p := 132) (kf := 4) (pI pM_96 rfl) rfl rfl rfl (by decide) (by decide) rfl rfl rfl ?_
            refine w_iconst (p := 133) (v := nI 1) (pI pM_96 rfl) rfl rfl ?_
            refine w_iadd (p := 134) (pI pM_96 rfl) rfl ?_
            refine s_putI (p := 137) (kf := 4) (pI pM_96 rfl) rfl rfl rfl (by decide) (by decide) rfl rfl rfl rfl rfl rfl ?_
            refine w_goto (p := 161) (pI pM_96 rfl) rfl rfl ?_
            refine w_iinc (p := 164) (v := (a2 + nI 1)) (pI pM_96 rfl) rfl rfl rfl rfl ?_
            refine w_goto (p := 9) (pI pM_96 rfl) rfl rfl ?_
            exact k _ _ _
set_option maxRecDepth 100000 in
set_option maxHeartbeats 4000000 in
theorem d5_search {d L : Nat} {x : Int32} {y : Int32} {z : Int32} {u1 : Int32} {A I : HA} {Q : bm_Q} (k : D5_search x y z u1 A I (fun v A I => Q (some (.int v)) (hp L A I))) : bm_M (d + 8) 5 [.ref 3, .int x, .int y, .int z, .int u1] (hp L A I) Q := by
  unfold D5_search at k
  refine bw_enter rfl rfl rfl rfl ?_
  refine w_aload_n (p := 1) (pI pM_5 rfl) rfl rfl ?_
  refine v_getR (p := 4) (kf := 2) (pI pM_5 rfl) rfl rfl rfl (by decide) (by decide) rfl rfl ?_
  refine w_iload_n (p := 5) (pI pM_5 rfl) rfl rfl ?_
  refine v_virtual (p := 8) (mj := 79) (pI pM_5 rfl) rfl rfl rfl rfl rfl rfl rfl rfl rfl rfl (by decide) (by decide) rfl ?_
  refine d79_canBegin (D79_canBegin_mono k (fun v1 k => ?_))
  refine w_if_eq (p := 11) (q := 42) (pI pM_5 rfl) rfl rfl rfl (fun c => ?_) (fun c => ?_)
  · replace k := itp c k
    refine w_bipush (p := 44) (v := -2) (pI pM_5 rfl) rfl rfl ?_
    exact w_ireturn (pI pM_5 rfl) rfl rfl rfl k
  · replace k := itn c k
    refine w_iload_n (p := 12) (pI pM_5 rfl) rfl rfl ?_
    refine w_iconst (p := 13) (v := nI 1) (pI pM_5 rfl) rfl rfl ?_
    refine w_sipush (p := 16) (v := nI 200) (pI pM_5 rfl) rfl rfl ?_
    refine w_static (p := 19) (mj := 2) (pI pM_5 rfl) rfl rfl rfl rfl rfl rfl rfl rfl rfl ?_
    refine d2_within (D2_within_mono k (fun v2 k => ?_))
    refine w_if_eq (p := 22) (q := 42) (pI pM_5 rfl) rfl rfl rfl (fun c => ?_) (fun c => ?_)
    · replace k := itp c k
      refine w_bipush (p := 44) (v := -2) (pI pM_5 rfl) rfl rfl ?_
      exact w_ireturn (pI pM_5 rfl) rfl rfl rfl k
    · replace k := itn c k
      refine w_iload_n (p := 23) (pI pM_5 rfl) rfl rfl ?_
      refine w_iconst (p := 24) (v := nI 0) (pI pM_5 rfl) rfl rfl ?_
      refine w_iconst (p := 25) (v := nI 3) (pI pM_5 rfl) rfl rfl ?_
      refine w_static (p := 28) (mj := 2) (pI pM_5 rfl) rfl rfl rfl rfl rfl rfl rfl rfl rfl ?_
      refine d2_within (D2_within_mono k (fun v3 k => ?_))
      refine w_if_eq (p := 31) (q := 42) (pI pM_5 rfl) rfl rfl rfl (fun c => ?_) (fun c => ?_)
      · replace k := itp c k
        refine w_bipush (p := 44) (v := -2) (pI pM_5 rfl) rfl rfl ?_
        exact w_ireturn (pI pM_5 rfl) rfl rfl rfl k
      · replace k := itn c k
        refine w_iload (p := 33) (pI pM_5 rfl) rfl rfl ?_
        refine w_iconst (p := 34) (v := nI 1) (pI pM_5 rfl) rfl rfl ?_
        refine w_bipush (p := 36) (v := nI 100) (pI pM_5 rfl) rfl rfl ?_
        refine w_static (p := 39) (mj := 2) (pI pM_5 rfl) rfl rfl rfl rfl rfl rfl rfl rfl rfl ?_
        refine d2_within (D2_within_mono k (fun v4 k => ?_))
        refine w_if_ne (p := 42) (q := 45) (pI pM_5 rfl) rfl rfl rfl (fun c => ?_) (fun c => ?_)
        · replace k := itn c k
          refine w_aload_n (p := 46) (pI pM_5 rfl) rfl rfl ?_
          refine v_getR (p := 49) (kf := 0) (pI pM_5 rfl) rfl rfl rfl (by decide) (by decide) rfl rfl ?_
          refine w_iload_n (p := 50) (pI pM_5 rfl) rfl rfl ?_
          refine w_iload_n (p := 51) (pI pM_5 rfl) rfl rfl ?_
          refine w_iload_n (p := 52) (pI pM_5 rfl) rfl rfl ?_
          refine v_virtual (p := 55) (mj := 95) (pI pM_5 rfl) rfl rfl rfl rfl rfl rfl rfl rfl rfl rfl (by decide) (by decide) rfl ?_
          refine d95_begin (D95_begin_mono k (fun A5 I6 k => ?_))
          refine w_aload_n (p := 56) (pI pM_5 rfl) rfl rfl ?_
          refine w_iconst (p := 57) (v := nI 1) (pI pM_5 rfl) rfl rfl ?_
          refine s_putI (p := 60) (kf := 7) (pI pM_5 rfl) rfl rfl rfl (by decide) (by decide) rfl rfl rfl rfl rfl rfl ?_
          refine w_aload_n (p := 61) (pI pM_5 rfl) rfl rfl ?_
          refine v_getR (p := 64) (kf := 0) (pI pM_5 rfl) rfl rfl rfl (by decide) (by decide) rfl rfl ?_
          refine w_iload (p := 66) (pI pM_5 rfl) rfl rfl ?_
          refine v_virtual (p := 69) (mj := 96) (pI pM_5 rfl) rfl rfl rfl rfl rfl rfl rfl rfl rfl rfl (by decide) (by decide) rfl ?_
          refine d96_goOn (D96_goOn_mono k (fun v7 A8 I9 k => ?_))
          exact w_ireturn (pI pM_5 rfl) rfl rfl rfl k
        · replace k := itp (Decidable.not_not.mp c) k
          refine w_bipush (p := 44) (v := -2) (pI pM_5 rfl) rfl rfl ?_
          exact w_ireturn (pI pM_5 rfl) rfl rfl rfl k
set_option maxRecDepth 100000 in
set_option maxHeartbeats 4000000 in
theorem d6_more {d L : Nat} {x : Int32} {A I : HA} {Q : bm_Q} (k : D6_more x A I (fun v A I => Q (some (.int v)) (hp L A I))) : bm_M (d + 8) 6 [.ref 3, .int x] (hp L A I) Q := by
  unfold D6_more at k
  refine bw_enter rfl rfl rfl rfl ?_
  refine w_aload_n (p := 1) (pI pM_6 rfl) rfl rfl ?_
  refine v_getI (p := 4) (kf := 7) (pI pM_6 rfl) rfl rfl rfl (by decide) (by decide) rfl rfl rfl ?_
  refine w_if_ne (p := 7) (q := 10) (pI pM_6 rfl) rfl rfl rfl (fun c => ?_) (fun c => ?_)
  · replace k := itn c k
    refine w_iload_n (p := 11) (pI pM_6 rfl) rfl rfl ?_
    refine w_iconst (p := 12) (v := nI 1) (pI pM_6 rfl) rfl rfl ?_
    refine w_icmp_ge (p := 15) (q := 18) (pI pM_6 rfl) rfl rfl rfl (fun c => ?_) (fun c => ?_)
    · replace k := itn (Int32.not_lt.mpr c) k
      refine w_bipush (p := 20) (v := nI 100) (pI pM_6 rfl) rfl rfl ?_
      refine w_aload_n (p := 21) (pI pM_6 rfl) rfl rfl ?_
      refine v_getR (p := 24) (kf := 0) (pI pM_6 rfl) rfl rfl rfl (by decide) (by decide) rfl rfl ?_
      refine v_getI (p := 27) (kf := 7) (pI pM_6 rfl) rfl rfl rfl (by decide) (by decide) rfl rfl rfl ?_
      refine w_isub (p := 28) (pI pM_6 rfl) rfl ?_
      refine w_istore_n (p := 29) (pI pM_6 rfl) rfl rfl rfl ?_
      refine w_aload_n (p := 30) (pI pM_6 rfl) rfl rfl ?_
      refine v_getR (p := 33) (kf := 0) (pI pM_6 rfl) rfl rfl rfl (by decide) (by decide) rfl rfl ?_
      refine w_aload_n (p := 34) (pI pM_6 rfl) rfl rfl ?_
      refine v_getR (p := 37) (kf := 0) (pI pM_6 rfl) rfl rfl rfl (by decide) (by decide) rfl rfl ?_
      refine v_getI (p := 40) (kf := 7) (pI pM_6 rfl) rfl rfl rfl (by decide) (by decide) rfl rfl rfl ?_
      refine w_iload_n (p := 41) (pI pM_6 rfl) rfl rfl ?_
      refine w_iload_n (p := 42) (pI pM_6 rfl) rfl rfl ?_
      refine w_min (p := 45) (pI pM_6 rfl) rfl rfl rfl rfl rfl rfl ?_
      refine w_iadd (p := 46) (pI pM_6 rfl) rfl ?_
      refine v_virtual (p := 49) (mj := 96) (pI pM_6 rfl) rfl rfl rfl rfl rfl rfl rfl rfl rfl rfl (by decide) (by decide) rfl ?_
      refine d96_goOn (D96_goOn_mono k (fun v1 A2 I3 k => ?_))
      exact w_ireturn (pI pM_6 rfl) rfl rfl rfl k
    · replace k := itp (Int32.not_le.mp c) k
      refine w_bipush (p := 17) (v := -2) (pI pM_6 rfl) rfl rfl ?_
      exact w_ireturn (pI pM_6 rfl) rfl rfl rfl k
  · replace k := itp (Decidable.not_not.mp c) k
    refine w_bipush (p := 9) (v := -3) (pI pM_6 rfl) rfl rfl ?_
    exact w_ireturn (pI pM_6 rfl) rfl rfl rfl k
set_option maxRecDepth 100000 in
set_option maxHeartbeats 4000000 in
theorem d7_told {d L : Nat} {x : Int32} {A I : HA} {Q : bm_Q} (k : D7_told x A I (fun v => Q (some (.int v)) (hp L A I))) : bm_M (d + 1) 7 [.ref 3, .int x] (hp L A I) Q := by
  unfold D7_told at k
  refine bw_enter rfl rfl rfl rfl ?_
  refine w_aload_n (p := 1) (pI pM_7 rfl) rfl rfl ?_
  refine v_getI (p := 4) (kf := 7) (pI pM_7 rfl) rfl rfl rfl (by decide) (by decide) rfl rfl rfl ?_
  refine w_if_ne (p := 7) (q := 10) (pI pM_7 rfl) rfl rfl rfl (fun c => ?_) (fun c => ?_)
  · replace k := itn c k
    refine w_iload_n (p := 11) (pI pM_7 rfl) rfl rfl ?_
    by_cases c11_0 : x = nI 0
    · replace k := itp c11_0 k
      refine w_table (p := 44) (off := 33) (pI pM_7 rfl) (sw_at c11_0 (by decide)) rfl rfl ?_
      refine w_aload_n (p := 45) (pI pM_7 rfl) rfl rfl ?_
      refine v_getR (p := 48) (kf := 0) (pI pM_7 rfl) rfl rfl rfl (by decide) (by decide) rfl rfl ?_
      refine v_getR (p := 51) (kf := 5) (pI pM_7 rfl) rfl rfl rfl (by decide) (by decide) rfl rfl ?_
      refine v_getI (p := 54) (kf := 1) (pI pM_7 rfl) rfl rfl rfl (by decide) (by decide) rfl rfl rfl ?_
      exact w_ireturn (pI pM_7 rfl) rfl rfl rfl k
    · replace k := itn c11_0 k
      by_cases c11_1 : x = nI 1
      · replace k := itp c11_1 k
        refine w_table (p := 55) (off := 44) (pI pM_7 rfl) (sw_at c11_1 (by decide)) rfl rfl ?_
        refine w_aload_n (p := 56) (pI pM_7 rfl) rfl rfl ?_
        refine v_getR (p := 59) (kf := 0) (pI pM_7 rfl) rfl rfl rfl (by decide) (by decide) rfl rfl ?_
        refine v_getI (p := 62) (kf := 10) (pI pM_7 rfl) rfl rfl rfl (by decide) (by decide) rfl rfl rfl ?_
        exact w_ireturn (pI pM_7 rfl) rfl rfl rfl k
      · replace k := itn c11_1 k
        by_cases c11_2 : x = nI 2
        · replace k := itp c11_2 k
          refine w_table (p := 63) (off := 52) (pI pM_7 rfl) (sw_at c11_2 (by decide)) rfl rfl ?_
          refine w_aload_n (p := 64) (pI pM_7 rfl) rfl rfl ?_
          refine v_getR (p := 67) (kf := 0) (pI pM_7 rfl) rfl rfl rfl (by decide) (by decide) rfl rfl ?_
          refine v_getI (p := 70) (kf := 12) (pI pM_7 rfl) rfl rfl rfl (by decide) (by decide) rfl rfl rfl ?_
          exact w_ireturn (pI pM_7 rfl) rfl rfl rfl k
        · replace k := itn c11_2 k
          by_cases c11_3 : x = nI 3
          · replace k := itp c11_3 k
            refine w_table (p := 71) (off := 60) (pI pM_7 rfl) (sw_at c11_3 (by decide)) rfl rfl ?_
            refine w_aload_n (p := 72) (pI pM_7 rfl) rfl rfl ?_
            refine v_getR (p := 75) (kf := 0) (pI pM_7 rfl) rfl rfl rfl (by decide) (by decide) rfl rfl ?_
            refine v_getI (p := 78) (kf := 9) (pI pM_7 rfl) rfl rfl rfl (by decide) (by decide) rfl rfl rfl ?_
            exact w_ireturn (pI pM_7 rfl) rfl rfl rfl k
          · replace k := itn c11_3 k
            by_cases c11_4 : x = nI 4
            · replace k := itp c11_4 k
              refine w_table (p := 79) (off := 68) (pI pM_7 rfl) (sw_at c11_4 (by decide)) rfl rfl ?_
              refine w_aload_n (p := 80) (pI pM_7 rfl) rfl rfl ?_
              refine v_getR (p := 83) (kf := 0) (pI pM_7 rfl) rfl rfl rfl (by decide) (by decide) rfl rfl ?_
              refine v_getI (p := 86) (kf := 7) (pI pM_7 rfl) rfl rfl rfl (by decide) (by decide) rfl rfl rfl ?_
              exact w_ireturn (pI pM_7 rfl) rfl rfl rfl k
            · replace k := itn c11_4 k
              refine w_table (p := 87) (off := 76) (pI pM_7 rfl) (by have e0 := neT 0 (by decide) c11_0; have e1 := neT 1 (by decide) c11_1; have e2 := neT 2 (by decide) c11_2; have e3 := neT 3 (by decide) c11_3; have e4 := neT 4 (by decide) c11_4; exact sw_df (fun h1 h2 => by omega)) rfl rfl ?_
              refine w_bipush (p := 89) (v := -2) (pI pM_7 rfl) rfl rfl ?_
              exact w_ireturn (pI pM_7 rfl) rfl rfl rfl k
  · replace k := itp (Decidable.not_not.mp c) k
    refine w_bipush (p := 9) (v := -3) (pI pM_7 rfl) rfl rfl ?_
    exact w_ireturn (pI pM_7 rfl) rfl rfl rfl k
set_option maxRecDepth 100000 in
set_option maxHeartbeats 4000000 in
theorem d100_hasPath {d L : Nat} {x : Int32} {A I : HA} {Q : bm_Q} (k : D100_hasPath x A I (fun v => Q (some (.int v)) (hp L A I))) : bm_M (d + 1) 100 [.ref 20, .int x] (hp L A I) Q := by
  unfold D100_hasPath at k
  refine bw_enter rfl rfl rfl rfl ?_
  refine w_iload_n (p := 1) (pI pM_100 rfl) rfl rfl ?_
  refine w_if_lt (p := 4) (q := 16) (pI pM_100 rfl) rfl rfl rfl (fun c => ?_) (fun c => ?_)
  · replace k := itp c k
    refine w_iconst (p := 17) (v := nI 0) (pI pM_100 rfl) rfl rfl ?_
    exact w_ireturn (pI pM_100 rfl) rfl rfl rfl k
  · replace k := itn c k
    refine w_iload_n (p := 5) (pI pM_100 rfl) rfl rfl ?_
    refine w_aload_n (p := 6) (pI pM_100 rfl) rfl rfl ?_
    refine v_getI (p := 9) (kf := 7) (pI pM_100 rfl) rfl rfl rfl (by decide) (by decide) rfl rfl rfl ?_
    refine w_icmp_ge (p := 12) (q := 16) (pI pM_100 rfl) rfl rfl rfl (fun c => ?_) (fun c => ?_)
    · replace k := itn (Int32.not_lt.mpr c) k
      refine w_iconst (p := 17) (v := nI 0) (pI pM_100 rfl) rfl rfl ?_
      exact w_ireturn (pI pM_100 rfl) rfl rfl rfl k
    · replace k := itp (Int32.not_le.mp c) k
      refine w_iconst (p := 13) (v := nI 1) (pI pM_100 rfl) rfl rfl ?_
      refine w_goto (p := 17) (pI pM_100 rfl) rfl rfl ?_
      exact w_ireturn (pI pM_100 rfl) rfl rfl rfl k
set_option maxRecDepth 100000 in
set_option maxHeartbeats 4000000 in
theorem d101_pathAt {d L : Nat} {x : Int32} {A I : HA} {Q : bm_Q} (k : D101_pathAt x A I (fun v => Q (some (.ref v)) (hp L A I))) : bm_M (d + 1) 101 [.ref 20, .int x] (hp L A I) Q := by
  unfold D101_pathAt at k
  refine bw_enter rfl rfl rfl rfl ?_
  refine w_aload_n (p := 1) (pI pM_101 rfl) rfl rfl ?_
  refine v_getR (p := 4) (kf := 2) (pI pM_101 rfl) rfl rfl rfl (by decide) (by decide) rfl rfl ?_
  refine w_aload_n (p := 5) (pI pM_101 rfl) rfl rfl ?_
  refine v_getR (p := 8) (kf := 6) (pI pM_101 rfl) rfl rfl rfl (by decide) (by decide) rfl rfl ?_
  refine w_iload_n (p := 9) (pI pM_101 rfl) rfl rfl ?_
  obtain ⟨s1, k⟩ := k
  refine v_iald (p := 10) (pI pM_101 rfl) rfl (by decide) rfl s1 rfl ?_
  obtain ⟨s2, k⟩ := k
  refine v_aald (p := 11) (pI pM_101 rfl) rfl (by decide) (by decide) rfl s2 (if_pos (vp_lt s2)) ?_
  exact w_areturn (pI pM_101 rfl) rfl k
set_option maxRecDepth 100000 in
set_option maxHeartbeats 4000000 in
theorem d212_bitCount {d L : Nat} {x : Int32} {A I : HA} {Q : bm_Q} (k : D212_bitCount x (fun v => Q (some (.int v)) (hp L A I))) : bm_M (d + 1) 212 [.int x] (hp L A I) Q := by
  unfold D212_bitCount at k
  refine bw_enter rfl rfl rfl rfl ?_
  refine w_iload_n (p := 1) (pI pM_212 rfl) rfl rfl ?_
  refine w_iload_n (p := 2) (pI pM_212 rfl) rfl rfl ?_
  refine w_iconst (p := 3) (v := nI 1) (pI pM_212 rfl) rfl rfl ?_
  refine w_iushr (p := 4) (pI pM_212 rfl) rfl ?_
  refine w_ldc_w (p := 7) (v := nI 1431655765) (pI pM_212 rfl) rfl rfl rfl ?_
  refine w_iand (p := 8) (pI pM_212 rfl) rfl ?_
  refine w_isub (p := 9) (pI pM_212 rfl) rfl ?_
  refine w_istore_n (p := 10) (pI pM_212 rfl) rfl rfl rfl ?_
  refine w_iload_n (p := 11) (pI pM_212 rfl) rfl rfl ?_
  refine w_ldc_w (p := 14) (v := nI 858993459) (pI pM_212 rfl) rfl rfl rfl ?_
  refine w_iand (p := 15) (pI pM_212 rfl) rfl ?_
  refine w_iload_n (p := 16) (pI pM_212 rfl) rfl rfl ?_
  refine w_iconst (p := 17) (v := nI 2) (pI pM_212 rfl) rfl rfl ?_
  refine w_iushr (p := 18) (pI pM_212 rfl) rfl ?_
  refine w_ldc_w (p := 21) (v := nI 858993459) (pI pM_212 rfl) rfl rfl rfl ?_
  refine w_iand (p := 22) (pI pM_212 rfl) rfl ?_
  refine w_iadd (p := 23) (pI pM_212 rfl) rfl ?_
  refine w_istore_n (p := 24) (pI pM_212 rfl) rfl rfl rfl ?_
  refine w_iload_n (p := 25) (pI pM_212 rfl) rfl rfl ?_
  refine w_iload_n (p := 26) (pI pM_212 rfl) rfl rfl ?_
  refine w_iconst (p := 27) (v := nI 4) (pI pM_212 rfl) rfl rfl ?_
  refine w_iushr (p := 28) (pI pM_212 rfl) rfl ?_
  refine w_iadd (p := 29) (pI pM_212 rfl) rfl ?_
  refine w_ldc_w (p := 32) (v := nI 252645135) (pI pM_212 rfl) rfl rfl rfl ?_
  refine w_iand (p := 33) (pI pM_212 rfl) rfl ?_
  refine w_istore_n (p := 34) (pI pM_212 rfl) rfl rfl rfl ?_
  refine w_iload_n (p := 35) (pI pM_212 rfl) rfl rfl ?_
  refine w_iload_n (p := 36) (pI pM_212 rfl) rfl rfl ?_
  refine w_bipush (p := 38) (v := nI 8) (pI pM_212 rfl) rfl rfl ?_
  refine w_iushr (p := 39) (pI pM_212 rfl) rfl ?_
  refine w_iadd (p := 40) (pI pM_212 rfl) rfl ?_
  refine w_istore_n (p := 41) (pI pM_212 rfl) rfl rfl rfl ?_
  refine w_iload_n (p := 42) (pI pM_212 rfl) rfl rfl ?_
  refine w_iload_n (p := 43) (pI pM_212 rfl) rfl rfl ?_
  refine w_bipush (p := 45) (v := nI 16) (pI pM_212 rfl) rfl rfl ?_
  refine w_iushr (p := 46) (pI pM_212 rfl) rfl ?_
  refine w_iadd (p := 47) (pI pM_212 rfl) rfl ?_
  refine w_istore_n (p := 48) (pI pM_212 rfl) rfl rfl rfl ?_
  refine w_iload_n (p := 49) (pI pM_212 rfl) rfl rfl ?_
  refine w_bipush (p := 51) (v := nI 63) (pI pM_212 rfl) rfl rfl ?_
  refine w_iand (p := 52) (pI pM_212 rfl) rfl ?_
  exact w_ireturn (pI pM_212 rfl) rfl rfl rfl k
set_option maxRecDepth 100000 in
set_option maxHeartbeats 4000000 in
theorem d43_size {d L : Nat} {n : Nat} {A I : HA} {Q : bm_Q} (h_n : isN n) (k : D43_size n A I (fun v => Q (some (.int v)) (hp L A I))) : bm_M (d + 2) 43 [.ref n] (hp L A I) Q := by
  unfold D43_size at k
  refine bw_enter rfl rfl rfl rfl ?_
  refine w_iconst (p := 1) (v := nI 0) (pI pM_43 rfl) rfl rfl ?_
  refine w_istore_n (p := 2) (pI pM_43 rfl) rfl rfl rfl ?_
  refine w_iconst (p := 3) (v := nI 0) (pI pM_43 rfl) rfl rfl ?_
  refine w_istore_n (p := 4) (pI pM_43 rfl) rfl rfl rfl ?_
  refine k (fun a2 a3 => bm_W (bm_M (d + 1)) 43 Q 4 [.ref n, .int a2, .int a3] [] (hp L A I)) (fun a2 a3 k => ?_)
  refine w_iload_n (p := 5) (pI pM_43 rfl) rfl rfl ?_
  refine w_bipush (p := 7) (v := nI 32) (pI pM_43 rfl) rfl rfl ?_
  refine w_icmp_ge (p := 10) (q := 28) (pI pM_43 rfl) rfl rfl rfl (fun c => ?_) (fun c => ?_)
  · replace k := itn (Int32.not_lt.mpr c) k
    refine w_iload_n (p := 29) (pI pM_43 rfl) rfl rfl ?_
    exact w_ireturn (pI pM_43 rfl) rfl rfl rfl k
  · replace k := itp (Int32.not_le.mp c) k
    refine w_iload_n (p := 11) (pI pM_43 rfl) rfl rfl ?_
    refine w_aload_n (p := 12) (pI pM_43 rfl) rfl rfl ?_
    refine v_getR (p := 15) (kf := 0) (pI pM_43 rfl) rfl rfl rfl (isN.ge h_n 0) (isN.lt h_n 0 (by decide)) (isN.sk h_n 0 (by decide)) rfl ?_
    refine w_iload_n (p := 16) (pI pM_43 rfl) rfl rfl ?_
    obtain ⟨s5, k⟩ := k
    refine v_iald (p := 17) (pI pM_43 rfl) rfl (isN.lt h_n 1 (by decide)) (isN.sk h_n 1 (by decide)) s5 rfl ?_
    refine w_static (p := 20) (mj := 212) (pI pM_43 rfl) rfl rfl rfl rfl rfl rfl rfl rfl rfl ?_
    refine d212_bitCount (D212_bitCount_mono k (fun v6 k => ?_))
    refine w_iadd (p := 21) (pI pM_43 rfl) rfl ?_
    refine w_istore_n (p := 22) (pI pM_43 rfl) rfl rfl rfl ?_
    refine w_iinc (p := 25) (v := (a3 + nI 1)) (pI pM_43 rfl) rfl rfl rfl rfl ?_
    refine w_goto (p := 4) (pI pM_43 rfl) rfl rfl ?_
    exact k
set_option maxRecDepth 100000 in
set_option maxHeartbeats 4000000 in
theorem d9_factOf {d L : Nat} {w : Nat} {x : Int32} {A I : HA} {Q : bm_Q} (h_w : isW w) (k : D9_factOf w x A I (fun v => Q (some (.int v)) (hp L A I))) : bm_M (d + 3) 9 [.ref 3, .ref w, .int x] (hp L A I) Q := by
  unfold D9_factOf at k
  refine bw_enter rfl rfl rfl rfl ?_
  refine w_iload_n (p := 1) (pI pM_9 rfl) rfl rfl ?_
  by_cases c1_0 : x = nI 0
  · replace k := itp c1_0 k
    refine w_table (p := 40) (off := 39) (pI pM_9 rfl) (sw_at c1_0 (by decide)) rfl rfl ?_
    refine w_aload_n (p := 41) (pI pM_9 rfl) rfl rfl ?_
    refine v_getI (p := 44) (kf := 12) (pI pM_9 rfl) rfl rfl rfl (isW.ge h_w 0) (isW.lt h_w 0 (by decide)) (isW.sk h_w 0 (by decide)) rfl rfl ?_
    exact w_ireturn (pI pM_9 rfl) rfl rfl rfl k
  · replace k := itn c1_0 k
    by_cases c1_1 : x = nI 1
    · replace k := itp c1_1 k
      refine w_table (p := 45) (off := 44) (pI pM_9 rfl) (sw_at c1_1 (by decide)) rfl rfl ?_
      refine w_aload_n (p := 46) (pI pM_9 rfl) rfl rfl ?_
      refine v_getI (p := 49) (kf := 13) (pI pM_9 rfl) rfl rfl rfl (isW.ge h_w 0) (isW.lt h_w 0 (by decide)) (isW.sk h_w 0 (by decide)) rfl rfl ?_
      exact w_ireturn (pI pM_9 rfl) rfl rfl rfl k
    · replace k := itn c1_1 k
      by_cases c1_2 : x = nI 2
      · replace k := itp c1_2 k
        refine w_table (p := 50) (off := 49) (pI pM_9 rfl) (sw_at c1_2 (by decide)) rfl rfl ?_
        refine w_aload_n (p := 51) (pI pM_9 rfl) rfl rfl ?_
        refine v_getI (p := 54) (kf := 14) (pI pM_9 rfl) rfl rfl rfl (isW.ge h_w 0) (isW.lt h_w 0 (by decide)) (isW.sk h_w 0 (by decide)) rfl rfl ?_
        exact w_ireturn (pI pM_9 rfl) rfl rfl rfl k
      · replace k := itn c1_2 k
        by_cases c1_3 : x = nI 3
        · replace k := itp c1_3 k
          refine w_table (p := 55) (off := 54) (pI pM_9 rfl) (sw_at c1_3 (by decide)) rfl rfl ?_
          refine w_aload_n (p := 56) (pI pM_9 rfl) rfl rfl ?_
          refine v_getI (p := 59) (kf := 11) (pI pM_9 rfl) rfl rfl rfl (isW.ge h_w 0) (isW.lt h_w 0 (by decide)) (isW.sk h_w 0 (by decide)) rfl rfl ?_
          exact w_ireturn (pI pM_9 rfl) rfl rfl rfl k
        · replace k := itn c1_3 k
          by_cases c1_4 : x = nI 4
          · replace k := itp c1_4 k
            refine w_table (p := 60) (off := 59) (pI pM_9 rfl) (sw_at c1_4 (by decide)) rfl rfl ?_
            refine w_aload_n (p := 61) (pI pM_9 rfl) rfl rfl ?_
            refine v_getI (p := 64) (kf := 9) (pI pM_9 rfl) rfl rfl rfl (isW.ge h_w 0) (isW.lt h_w 0 (by decide)) (isW.sk h_w 0 (by decide)) rfl rfl ?_
            exact w_ireturn (pI pM_9 rfl) rfl rfl rfl k
          · replace k := itn c1_4 k
            by_cases c1_5 : x = nI 5
            · replace k := itp c1_5 k
              refine w_table (p := 65) (off := 64) (pI pM_9 rfl) (sw_at c1_5 (by decide)) rfl rfl ?_
              refine w_aload_n (p := 66) (pI pM_9 rfl) rfl rfl ?_
              refine v_getR (p := 69) (kf := 10) (pI pM_9 rfl) rfl rfl rfl (isW.ge h_w 0) (isW.lt h_w 0 (by decide)) (isW.sk h_w 0 (by decide)) rfl ?_
              refine v_virtual (p := 72) (mj := 43) (pI pM_9 rfl) rfl rfl rfl rfl rfl rfl rfl rfl rfl rfl (isN.ge (isN_w h_w) 0) (isN.lt (isN_w h_w) 0 (by decide)) (isN.sk (isN_w h_w) 0 (by decide)) ?_
              refine d43_size (isN_w h_w) (D43_size_mono k (fun v1 k => ?_))
              exact w_ireturn (pI pM_9 rfl) rfl rfl rfl k
            · replace k := itn c1_5 k
              refine w_table (p := 73) (off := 72) (pI pM_9 rfl) (by have e0 := neT 0 (by decide) c1_0; have e1 := neT 1 (by decide) c1_1; have e2 := neT 2 (by decide) c1_2; have e3 := neT 3 (by decide) c1_3; have e4 := neT 4 (by decide) c1_4; have e5 := neT 5 (by decide) c1_5; exact sw_df (fun h1 h2 => by omega)) rfl rfl ?_
              refine w_aload_n (p := 74) (pI pM_9 rfl) rfl rfl ?_
              refine v_getI (p := 77) (kf := 12) (pI pM_9 rfl) rfl rfl rfl (isW.ge h_w 0) (isW.lt h_w 0 (by decide)) (isW.sk h_w 0 (by decide)) rfl rfl ?_
              refine w_iconst (p := 78) (v := nI 1) (pI pM_9 rfl) rfl rfl ?_
              refine w_icmp_ne (p := 81) (q := 95) (pI pM_9 rfl) rfl rfl rfl (fun c => ?_) (fun c => ?_)
              · replace k := itn c k
                refine w_iconst (p := 96) (v := nI 0) (pI pM_9 rfl) rfl rfl ?_
                exact w_ireturn (pI pM_9 rfl) rfl rfl rfl k
              · replace k := itp (Decidable.not_not.mp c) k
                refine w_aload_n (p := 82) (pI pM_9 rfl) rfl rfl ?_
                refine v_getR (p := 85) (kf := 3) (pI pM_9 rfl) rfl rfl rfl (by decide) (by decide) rfl rfl ?_
                refine w_aload_n (p := 86) (pI pM_9 rfl) rfl rfl ?_
                refine v_getI (p := 89) (kf := 15) (pI pM_9 rfl) rfl rfl rfl (isW.ge h_w 0) (isW.lt h_w 0 (by decide)) (isW.sk h_w 0 (by decide)) rfl rfl ?_
                refine v_virtual (p := 92) (mj := 28) (pI pM_9 rfl) rfl rfl rfl rfl rfl rfl rfl rfl rfl rfl (by decide) (by decide) rfl ?_
                refine d28_sizeOf (D28_sizeOf_mono k (fun v2 k => ?_))
                refine w_goto (p := 96) (pI pM_9 rfl) rfl rfl ?_
                exact w_ireturn (pI pM_9 rfl) rfl rfl rfl k
set_option maxRecDepth 100000 in
set_option maxHeartbeats 4000000 in
theorem d8_path {d L : Nat} {x : Int32} {y : Int32} {A I : HA} {Q : bm_Q} (k : D8_path x y A I (fun v => Q (some (.int v)) (hp L A I))) : bm_M (d + 4) 8 [.ref 3, .int x, .int y] (hp L A I) Q := by
  unfold D8_path at k
  refine bw_enter rfl rfl rfl rfl ?_
  refine w_aload_n (p := 1) (pI pM_8 rfl) rfl rfl ?_
  refine v_getI (p := 4) (kf := 7) (pI pM_8 rfl) rfl rfl rfl (by decide) (by decide) rfl rfl rfl ?_
  refine w_if_ne (p := 7) (q := 10) (pI pM_8 rfl) rfl rfl rfl (fun c => ?_) (fun c => ?_)
  · replace k := itn c k
    refine w_iload_n (p := 11) (pI pM_8 rfl) rfl rfl ?_
    refine w_iconst (p := 12) (v := nI 0) (pI pM_8 rfl) rfl rfl ?_
    refine w_bipush (p := 14) (v := nI 6) (pI pM_8 rfl) rfl rfl ?_
    refine w_static (p := 17) (mj := 2) (pI pM_8 rfl) rfl rfl rfl rfl rfl rfl rfl rfl rfl ?_
    refine d2_within (D2_within_mono k (fun v1 k => ?_))
    refine w_if_ne (p := 20) (q := 23) (pI pM_8 rfl) rfl rfl rfl (fun c => ?_) (fun c => ?_)
    · replace k := itn c k
      refine w_aload_n (p := 24) (pI pM_8 rfl) rfl rfl ?_
      refine v_getR (p := 27) (kf := 0) (pI pM_8 rfl) rfl rfl rfl (by decide) (by decide) rfl rfl ?_
      refine w_iload_n (p := 28) (pI pM_8 rfl) rfl rfl ?_
      refine v_virtual (p := 31) (mj := 100) (pI pM_8 rfl) rfl rfl rfl rfl rfl rfl rfl rfl rfl rfl (by decide) (by decide) rfl ?_
      refine d100_hasPath (D100_hasPath_mono k (fun v2 k => ?_))
      refine w_if_eq (p := 34) (q := 50) (pI pM_8 rfl) rfl rfl rfl (fun c => ?_) (fun c => ?_)
      · replace k := itp c k
        refine w_iconst (p := 51) (v := -1) (pI pM_8 rfl) rfl rfl ?_
        exact w_ireturn (pI pM_8 rfl) rfl rfl rfl k
      · replace k := itn c k
        refine w_aload_n (p := 35) (pI pM_8 rfl) rfl rfl ?_
        refine w_aload_n (p := 36) (pI pM_8 rfl) rfl rfl ?_
        refine v_getR (p := 39) (kf := 0) (pI pM_8 rfl) rfl rfl rfl (by decide) (by decide) rfl rfl ?_
        refine w_iload_n (p := 40) (pI pM_8 rfl) rfl rfl ?_
        refine v_virtual (p := 43) (mj := 101) (pI pM_8 rfl) rfl rfl rfl rfl rfl rfl rfl rfl rfl rfl (by decide) (by decide) rfl ?_
        refine d101_pathAt (D101_pathAt_mono k (fun v3 k => ?_))
        obtain ⟨h4, k⟩ := k
        refine w_iload_n (p := 44) (pI pM_8 rfl) rfl rfl ?_
        refine v_virtual (p := 47) (mj := 9) (pI pM_8 rfl) rfl rfl rfl rfl rfl rfl rfl rfl rfl rfl (by decide) (by decide) rfl ?_
        refine d9_factOf h4 (D9_factOf_mono k (fun v5 k => ?_))
        refine w_goto (p := 51) (pI pM_8 rfl) rfl rfl ?_
        exact w_ireturn (pI pM_8 rfl) rfl rfl rfl k
    · replace k := itp (Decidable.not_not.mp c) k
      refine w_bipush (p := 22) (v := -2) (pI pM_8 rfl) rfl rfl ?_
      exact w_ireturn (pI pM_8 rfl) rfl rfl rfl k
  · replace k := itp (Decidable.not_not.mp c) k
    refine w_bipush (p := 9) (v := -3) (pI pM_8 rfl) rfl rfl ?_
    exact w_ireturn (pI pM_8 rfl) rfl rfl rfl k
set_option maxRecDepth 100000 in
set_option maxHeartbeats 4000000 in
theorem d143_hasCondition {d L : Nat} {w : Nat} {x : Int32} {A I : HA} {Q : bm_Q} (h_w : isW w) (k : D143_hasCondition w x A I (fun v => Q (some (.int v)) (hp L A I))) : bm_M (d + 1) 143 [.ref w, .int x] (hp L A I) Q := by
  unfold D143_hasCondition at k
  refine bw_enter rfl rfl rfl rfl ?_
  refine w_iload_n (p := 1) (pI pM_143 rfl) rfl rfl ?_
  refine w_if_lt (p := 4) (q := 16) (pI pM_143 rfl) rfl rfl rfl (fun c => ?_) (fun c => ?_)
  · replace k := itp c k
    refine w_iconst (p := 17) (v := nI 0) (pI pM_143 rfl) rfl rfl ?_
    exact w_ireturn (pI pM_143 rfl) rfl rfl rfl k
  · replace k := itn c k
    refine w_iload_n (p := 5) (pI pM_143 rfl) rfl rfl ?_
    refine w_aload_n (p := 6) (pI pM_143 rfl) rfl rfl ?_
    refine v_getI (p := 9) (kf := 9) (pI pM_143 rfl) rfl rfl rfl (isW.ge h_w 0) (isW.lt h_w 0 (by decide)) (isW.sk h_w 0 (by decide)) rfl rfl ?_
    refine w_icmp_ge (p := 12) (q := 16) (pI pM_143 rfl) rfl rfl rfl (fun c => ?_) (fun c => ?_)
    · replace k := itn (Int32.not_lt.mpr c) k
      refine w_iconst (p := 17) (v := nI 0) (pI pM_143 rfl) rfl rfl ?_
      exact w_ireturn (pI pM_143 rfl) rfl rfl rfl k
    · replace k := itp (Int32.not_le.mp c) k
      refine w_iconst (p := 13) (v := nI 1) (pI pM_143 rfl) rfl rfl ?_
      refine w_goto (p := 17) (pI pM_143 rfl) rfl rfl ?_
      exact w_ireturn (pI pM_143 rfl) rfl rfl rfl k
set_option maxRecDepth 100000 in
set_option maxHeartbeats 4000000 in
theorem d144_conditionPlace {d L : Nat} {w : Nat} {x : Int32} {A I : HA} {Q : bm_Q} (h_w : isW w) (k : D144_conditionPlace w x A I (fun v => Q (some (.int v)) (hp L A I))) : bm_M (d + 1) 144 [.ref w, .int x] (hp L A I) Q := by
  unfold D144_conditionPlace at k
  refine bw_enter rfl rfl rfl rfl ?_
  refine w_aload_n (p := 1) (pI pM_144 rfl) rfl rfl ?_
  refine v_getR (p := 4) (kf := 8) (pI pM_144 rfl) rfl rfl rfl (isW.ge h_w 0) (isW.lt h_w 0 (by decide)) (isW.sk h_w 0 (by decide)) rfl ?_
  refine w_iload_n (p := 5) (pI pM_144 rfl) rfl rfl ?_
  obtain ⟨s1, k⟩ := k
  refine v_iald (p := 6) (pI pM_144 rfl) rfl (isW.lt h_w 7 (by decide)) (isW.sk h_w 7 (by decide)) s1 rfl ?_
  refine w_sipush (p := 9) (v := nI 1000) (pI pM_144 rfl) rfl rfl ?_
  refine w_irem (p := 10) (pI pM_144 rfl) rfl (by decide) ?_
  exact w_ireturn (pI pM_144 rfl) rfl rfl rfl k
set_option maxRecDepth 100000 in
set_option maxHeartbeats 4000000 in
theorem d145_conditionAlternative {d L : Nat} {w : Nat} {x : Int32} {A I : HA} {Q : bm_Q} (h_w : isW w) (k : D145_conditionAlternative w x A I (fun v => Q (some (.int v)) (hp L A I))) : bm_M (d + 1) 145 [.ref w, .int x] (hp L A I) Q := by
  unfold D145_conditionAlternative at k
  refine bw_enter rfl rfl rfl rfl ?_
  refine w_aload_n (p := 1) (pI pM_145 rfl) rfl rfl ?_
  refine v_getR (p := 4) (kf := 8) (pI pM_145 rfl) rfl rfl rfl (isW.ge h_w 0) (isW.lt h_w 0 (by decide)) (isW.sk h_w 0 (by decide)) rfl ?_
  refine w_iload_n (p := 5) (pI pM_145 rfl) rfl rfl ?_
  obtain ⟨s1, k⟩ := k
  refine v_iald (p := 6) (pI pM_145 rfl) rfl (isW.lt h_w 7 (by decide)) (isW.sk h_w 7 (by decide)) s1 rfl ?_
  refine w_sipush (p := 9) (v := nI 1000) (pI pM_145 rfl) rfl rfl ?_
  refine w_idiv (p := 10) (pI pM_145 rfl) rfl (by decide) ?_
  refine w_bipush (p := 12) (v := nI 8) (pI pM_145 rfl) rfl rfl ?_
  refine w_irem (p := 13) (pI pM_145 rfl) rfl (by decide) ?_
  exact w_ireturn (pI pM_145 rfl) rfl rfl rfl k
set_option maxRecDepth 100000 in
set_option maxHeartbeats 4000000 in
theorem d10_condition {d L : Nat} {x : Int32} {y : Int32} {z : Int32} {A I : HA} {Q : bm_Q} (k : D10_condition x y z A I (fun v => Q (some (.int v)) (hp L A I))) : bm_M (d + 2) 10 [.ref 3, .int x, .int y, .int z] (hp L A I) Q := by
  unfold D10_condition at k
  refine bw_enter rfl rfl rfl rfl ?_
  refine w_aload_n (p := 1) (pI pM_10 rfl) rfl rfl ?_
  refine v_getI (p := 4) (kf := 7) (pI pM_10 rfl) rfl rfl rfl (by decide) (by decide) rfl rfl rfl ?_
  refine w_if_ne (p := 7) (q := 10) (pI pM_10 rfl) rfl rfl rfl (fun c => ?_) (fun c => ?_)
  · replace k := itn c k
    refine w_iload_n (p := 11) (pI pM_10 rfl) rfl rfl ?_
    refine w_iconst (p := 12) (v := nI 0) (pI pM_10 rfl) rfl rfl ?_
    refine w_iconst (p := 13) (v := nI 1) (pI pM_10 rfl) rfl rfl ?_
    refine w_static (p := 16) (mj := 2) (pI pM_10 rfl) rfl rfl rfl rfl rfl rfl rfl rfl rfl ?_
    refine d2_within (D2_within_mono k (fun v1 k => ?_))
    refine w_if_ne (p := 19) (q := 22) (pI pM_10 rfl) rfl rfl rfl (fun c => ?_) (fun c => ?_)
    · replace k := itn c k
      refine w_aload_n (p := 23) (pI pM_10 rfl) rfl rfl ?_
      refine v_getR (p := 26) (kf := 0) (pI pM_10 rfl) rfl rfl rfl (by decide) (by decide) rfl rfl ?_
      refine w_iload_n (p := 27) (pI pM_10 rfl) rfl rfl ?_
      refine v_virtual (p := 30) (mj := 100) (pI pM_10 rfl) rfl rfl rfl rfl rfl rfl rfl rfl rfl rfl (by decide) (by decide) rfl ?_
      refine d100_hasPath (D100_hasPath_mono k (fun v2 k => ?_))
      refine w_if_eq (p := 33) (q := 48) (pI pM_10 rfl) rfl rfl rfl (fun c => ?_) (fun c => ?_)
      · replace k := itp c k
        refine w_iconst (p := 49) (v := -1) (pI pM_10 rfl) rfl rfl ?_
        exact w_ireturn (pI pM_10 rfl) rfl rfl rfl k
      · replace k := itn c k
        refine w_aload_n (p := 34) (pI pM_10 rfl) rfl rfl ?_
        refine v_getR (p := 37) (kf := 0) (pI pM_10 rfl) rfl rfl rfl (by decide) (by decide) rfl rfl ?_
        refine w_iload_n (p := 38) (pI pM_10 rfl) rfl rfl ?_
        refine v_virtual (p := 41) (mj := 101) (pI pM_10 rfl) rfl rfl rfl rfl rfl rfl rfl rfl rfl rfl (by decide) (by decide) rfl ?_
        refine d101_pathAt (D101_pathAt_mono k (fun v3 k => ?_))
        obtain ⟨h4, k⟩ := k
        refine w_iload_n (p := 42) (pI pM_10 rfl) rfl rfl ?_
        refine v_virtual (p := 45) (mj := 143) (pI pM_10 rfl) rfl rfl rfl rfl rfl rfl rfl rfl rfl rfl (isW.ge h4 0) (isW.lt h4 0 (by decide)) (isW.sk h4 0 (by decide)) ?_
        refine d143_hasCondition h4 (D143_hasCondition_mono k (fun v5 k => ?_))
        refine w_if_ne (p := 48) (q := 50) (pI pM_10 rfl) rfl rfl rfl (fun c => ?_) (fun c => ?_)
        · replace k := itn c k
          refine w_aload_n (p := 51) (pI pM_10 rfl) rfl rfl ?_
          refine v_getR (p := 54) (kf := 0) (pI pM_10 rfl) rfl rfl rfl (by decide) (by decide) rfl rfl ?_
          refine w_iload_n (p := 55) (pI pM_10 rfl) rfl rfl ?_
          refine v_virtual (p := 58) (mj := 101) (pI pM_10 rfl) rfl rfl rfl rfl rfl rfl rfl rfl rfl rfl (by decide) (by decide) rfl ?_
          refine d101_pathAt (D101_pathAt_mono k (fun v6 k => ?_))
          obtain ⟨h7, k⟩ := k
          refine w_astore (p := 60) (pI pM_10 rfl) rfl rfl rfl ?_
          refine w_iload_n (p := 61) (pI pM_10 rfl) rfl rfl ?_
          refine w_if_ne (p := 64) (q := 73) (pI pM_10 rfl) rfl rfl rfl (fun c => ?_) (fun c => ?_)
          · replace k := itn c k
            refine w_aload (p := 75) (pI pM_10 rfl) rfl rfl ?_
            refine w_iload_n (p := 76) (pI pM_10 rfl) rfl rfl ?_
            refine v_virtual (p := 79) (mj := 145) (pI pM_10 rfl) rfl rfl rfl rfl rfl rfl rfl rfl rfl rfl (isW.ge h7 0) (isW.lt h7 0 (by decide)) (isW.sk h7 0 (by decide)) ?_
            refine d145_conditionAlternative h7 (D145_conditionAlternative_mono k (fun v8 k => ?_))
            exact w_ireturn (pI pM_10 rfl) rfl rfl rfl k
          · replace k := itp (Decidable.not_not.mp c) k
            refine w_aload (p := 66) (pI pM_10 rfl) rfl rfl ?_
            refine w_iload_n (p := 67) (pI pM_10 rfl) rfl rfl ?_
            refine v_virtual (p := 70) (mj := 144) (pI pM_10 rfl) rfl rfl rfl rfl rfl rfl rfl rfl rfl rfl (isW.ge h7 0) (isW.lt h7 0 (by decide)) (isW.sk h7 0 (by decide)) ?_
            refine d144_conditionPlace h7 (D144_conditionPlace_mono k (fun v9 k => ?_))
            refine w_goto (p := 79) (pI pM_10 rfl) rfl rfl ?_
            exact w_ireturn (pI pM_10 rfl) rfl rfl rfl k
        · replace k := itp (Decidable.not_not.mp c) k
          refine w_iconst (p := 49) (v := -1) (pI pM_10 rfl) rfl rfl ?_
          exact w_ireturn (pI pM_10 rfl) rfl rfl rfl k
    · replace k := itp (Decidable.not_not.mp c) k
      refine w_bipush (p := 21) (v := -2) (pI pM_10 rfl) rfl rfl ?_
      exact w_ireturn (pI pM_10 rfl) rfl rfl rfl k
  · replace k := itp (Decidable.not_not.mp c) k
    refine w_bipush (p := 9) (v := -3) (pI pM_10 rfl) rfl rfl ?_
    exact w_ireturn (pI pM_10 rfl) rfl rfl rfl k
set_option maxRecDepth 100000 in
set_option maxHeartbeats 4000000 in
theorem d114_at {d L : Nat} {t : Nat} {x : Int32} {A I : HA} {Q : bm_Q} (h_t : isT t) (k : D114_at t x A I (fun v => Q (some (.int v)) (hp L A I))) : bm_M (d + 1) 114 [.ref t, .int x] (hp L A I) Q := by
  unfold D114_at at k
  refine bw_enter rfl rfl rfl rfl ?_
  refine w_aload_n (p := 1) (pI pM_114 rfl) rfl rfl ?_
  refine v_getR (p := 4) (kf := 0) (pI pM_114 rfl) rfl rfl rfl (isT.ge h_t 0) (isT.lt h_t 0 (by decide)) (isT.sk h_t 0 (by decide)) rfl ?_
  refine w_iload_n (p := 5) (pI pM_114 rfl) rfl rfl ?_
  obtain ⟨s1, k⟩ := k
  refine v_iald (p := 6) (pI pM_114 rfl) rfl (isT.lt h_t 1 (by decide)) (isT.sk h_t 1 (by decide)) s1 rfl ?_
  exact w_ireturn (pI pM_114 rfl) rfl rfl rfl k
set_option maxRecDepth 100000 in
set_option maxHeartbeats 4000000 in
theorem d11_token {d L : Nat} {x : Int32} {y : Int32} {A I : HA} {Q : bm_Q} (k : D11_token x y A I (fun v A I => Q (some (.int v)) (hp L A I))) : bm_M (d + 4) 11 [.ref 3, .int x, .int y] (hp L A I) Q := by
  unfold D11_token at k
  refine bw_enter rfl rfl rfl rfl ?_
  refine w_aload_n (p := 1) (pI pM_11 rfl) rfl rfl ?_
  refine v_getI (p := 4) (kf := 7) (pI pM_11 rfl) rfl rfl rfl (by decide) (by decide) rfl rfl rfl ?_
  refine w_if_ne (p := 7) (q := 10) (pI pM_11 rfl) rfl rfl rfl (fun c => ?_) (fun c => ?_)
  · replace k := itn c k
    refine w_aload_n (p := 11) (pI pM_11 rfl) rfl rfl ?_
    refine v_getR (p := 14) (kf := 0) (pI pM_11 rfl) rfl rfl rfl (by decide) (by decide) rfl rfl ?_
    refine w_iload_n (p := 15) (pI pM_11 rfl) rfl rfl ?_
    refine v_virtual (p := 18) (mj := 100) (pI pM_11 rfl) rfl rfl rfl rfl rfl rfl rfl rfl rfl rfl (by decide) (by decide) rfl ?_
    refine d100_hasPath (D100_hasPath_mono k (fun v1 k => ?_))
    refine w_if_eq (p := 21) (q := 36) (pI pM_11 rfl) rfl rfl rfl (fun c => ?_) (fun c => ?_)
    · replace k := itp c k
      refine w_iconst (p := 37) (v := -1) (pI pM_11 rfl) rfl rfl ?_
      exact w_ireturn (pI pM_11 rfl) rfl rfl rfl k
    · replace k := itn c k
      refine w_aload_n (p := 22) (pI pM_11 rfl) rfl rfl ?_
      refine v_getR (p := 25) (kf := 0) (pI pM_11 rfl) rfl rfl rfl (by decide) (by decide) rfl rfl ?_
      refine w_iload_n (p := 26) (pI pM_11 rfl) rfl rfl ?_
      refine v_virtual (p := 29) (mj := 101) (pI pM_11 rfl) rfl rfl rfl rfl rfl rfl rfl rfl rfl rfl (by decide) (by decide) rfl ?_
      refine d101_pathAt (D101_pathAt_mono k (fun v2 k => ?_))
      obtain ⟨h3, k⟩ := k
      refine v_getI (p := 32) (kf := 12) (pI pM_11 rfl) rfl rfl rfl (isW.ge h3 0) (isW.lt h3 0 (by decide)) (isW.sk h3 0 (by decide)) rfl rfl ?_
      refine w_iconst (p := 33) (v := nI 1) (pI pM_11 rfl) rfl rfl ?_
      refine w_icmp_eq (p := 36) (q := 38) (pI pM_11 rfl) rfl rfl rfl (fun c => ?_) (fun c => ?_)
      · replace k := itp c k
        refine w_aload_n (p := 39) (pI pM_11 rfl) rfl rfl ?_
        refine v_getR (p := 42) (kf := 5) (pI pM_11 rfl) rfl rfl rfl (by decide) (by decide) rfl rfl ?_
        refine w_aload_n (p := 43) (pI pM_11 rfl) rfl rfl ?_
        refine v_getR (p := 46) (kf := 3) (pI pM_11 rfl) rfl rfl rfl (by decide) (by decide) rfl rfl ?_
        refine w_aload_n (p := 47) (pI pM_11 rfl) rfl rfl ?_
        refine v_getR (p := 50) (kf := 0) (pI pM_11 rfl) rfl rfl rfl (by decide) (by decide) rfl rfl ?_
        refine w_iload_n (p := 51) (pI pM_11 rfl) rfl rfl ?_
        refine v_virtual (p := 54) (mj := 101) (pI pM_11 rfl) rfl rfl rfl rfl rfl rfl rfl rfl rfl rfl (by decide) (by decide) rfl ?_
        refine d101_pathAt (D101_pathAt_mono k (fun v4 k => ?_))
        obtain ⟨h5, k⟩ := k
        refine v_getI (p := 57) (kf := 15) (pI pM_11 rfl) rfl rfl rfl (isW.ge h5 0) (isW.lt h5 0 (by decide)) (isW.sk h5 0 (by decide)) rfl rfl ?_
        refine v_virtual (p := 60) (mj := 110) (pI pM_11 rfl) rfl rfl rfl rfl rfl rfl rfl rfl rfl rfl (isT.ge isT14 0) (isT.lt isT14 0 (by decide)) (isT.sk isT14 0 (by decide)) ?_
        refine d110_write isT14 (D110_write_mono k (fun A6 I7 k => ?_))
        refine w_iload_n (p := 61) (pI pM_11 rfl) rfl rfl ?_
        refine w_iconst (p := 62) (v := nI 0) (pI pM_11 rfl) rfl rfl ?_
        refine w_aload_n (p := 63) (pI pM_11 rfl) rfl rfl ?_
        refine v_getR (p := 66) (kf := 5) (pI pM_11 rfl) rfl rfl rfl (by decide) (by decide) rfl rfl ?_
        refine v_getI (p := 69) (kf := 3) (pI pM_11 rfl) rfl rfl rfl (isT.ge isT14 0) (isT.lt isT14 0 (by decide)) (isT.sk isT14 0 (by decide)) rfl rfl ?_
        refine w_iconst (p := 70) (v := nI 1) (pI pM_11 rfl) rfl rfl ?_
        refine w_isub (p := 71) (pI pM_11 rfl) rfl ?_
        refine w_static (p := 74) (mj := 2) (pI pM_11 rfl) rfl rfl rfl rfl rfl rfl rfl rfl rfl ?_
        refine d2_within (D2_within_mono k (fun v8 k => ?_))
        refine w_if_eq (p := 77) (q := 88) (pI pM_11 rfl) rfl rfl rfl (fun c => ?_) (fun c => ?_)
        · replace k := itp c k
          refine w_iconst (p := 89) (v := -1) (pI pM_11 rfl) rfl rfl ?_
          exact w_ireturn (pI pM_11 rfl) rfl rfl rfl k
        · replace k := itn c k
          refine w_aload_n (p := 78) (pI pM_11 rfl) rfl rfl ?_
          refine v_getR (p := 81) (kf := 5) (pI pM_11 rfl) rfl rfl rfl (by decide) (by decide) rfl rfl ?_
          refine w_iload_n (p := 82) (pI pM_11 rfl) rfl rfl ?_
          refine v_virtual (p := 85) (mj := 114) (pI pM_11 rfl) rfl rfl rfl rfl rfl rfl rfl rfl rfl rfl (isT.ge isT14 0) (isT.lt isT14 0 (by decide)) (isT.sk isT14 0 (by decide)) ?_
          refine d114_at isT14 (D114_at_mono k (fun v9 k => ?_))
          refine w_goto (p := 89) (pI pM_11 rfl) rfl rfl ?_
          exact w_ireturn (pI pM_11 rfl) rfl rfl rfl k
      · replace k := itn c k
        refine w_iconst (p := 37) (v := -1) (pI pM_11 rfl) rfl rfl ?_
        exact w_ireturn (pI pM_11 rfl) rfl rfl rfl k
  · replace k := itp (Decidable.not_not.mp c) k
    refine w_bipush (p := 9) (v := -3) (pI pM_11 rfl) rfl rfl ?_
    exact w_ireturn (pI pM_11 rfl) rfl rfl rfl k
set_option maxRecDepth 100000 in
set_option maxHeartbeats 4000000 in
theorem d13_isInput {d L : Nat} {x : Int32} {y : Int32} {A I : HA} {Q : bm_Q} (k : D13_isInput x y (fun v => Q (some (.int v)) (hp L A I))) : bm_M (d + 2) 13 [.int x, .int y] (hp L A I) Q := by
  unfold D13_isInput at k
  refine bw_enter rfl rfl rfl rfl ?_
  refine w_iload_n (p := 1) (pI pM_13 rfl) rfl rfl ?_
  refine w_bipush (p := 3) (v := -16) (pI pM_13 rfl) rfl rfl ?_
  refine w_bipush (p := 5) (v := nI 15) (pI pM_13 rfl) rfl rfl ?_
  refine w_static (p := 8) (mj := 2) (pI pM_13 rfl) rfl rfl rfl rfl rfl rfl rfl rfl rfl ?_
  refine d2_within (D2_within_mono k (fun v1 k => ?_))
  refine w_if_eq (p := 11) (q := 26) (pI pM_13 rfl) rfl rfl rfl (fun c => ?_) (fun c => ?_)
  · replace k := itp c k
    refine w_iconst (p := 27) (v := nI 0) (pI pM_13 rfl) rfl rfl ?_
    exact w_ireturn (pI pM_13 rfl) rfl rfl rfl k
  · replace k := itn c k
    refine w_iload_n (p := 12) (pI pM_13 rfl) rfl rfl ?_
    refine w_bipush (p := 14) (v := -16) (pI pM_13 rfl) rfl rfl ?_
    refine w_bipush (p := 16) (v := nI 15) (pI pM_13 rfl) rfl rfl ?_
    refine w_static (p := 19) (mj := 2) (pI pM_13 rfl) rfl rfl rfl rfl rfl rfl rfl rfl rfl ?_
    refine d2_within (D2_within_mono k (fun v2 k => ?_))
    refine w_if_eq (p := 22) (q := 26) (pI pM_13 rfl) rfl rfl rfl (fun c => ?_) (fun c => ?_)
    · replace k := itp c k
      refine w_iconst (p := 27) (v := nI 0) (pI pM_13 rfl) rfl rfl ?_
      exact w_ireturn (pI pM_13 rfl) rfl rfl rfl k
    · replace k := itn c k
      refine w_iconst (p := 23) (v := nI 1) (pI pM_13 rfl) rfl rfl ?_
      refine w_goto (p := 27) (pI pM_13 rfl) rfl rfl ?_
      exact w_ireturn (pI pM_13 rfl) rfl rfl rfl k
set_option maxRecDepth 100000 in
set_option maxHeartbeats 4000000 in
theorem d12_value {d L : Nat} {x : Int32} {y : Int32} {z : Int32} {A I : HA} {Q : bm_Q} (k : D12_value x y z A I (fun v A I => Q (some (.int v)) (hp L A I))) : bm_M (d + 4) 12 [.ref 3, .int x, .int y, .int z] (hp L A I) Q := by
  unfold D12_value at k
  refine bw_enter rfl rfl rfl rfl ?_
  refine w_aload_n (p := 1) (pI pM_12 rfl) rfl rfl ?_
  refine v_getI (p := 4) (kf := 7) (pI pM_12 rfl) rfl rfl rfl (by decide) (by decide) rfl rfl rfl ?_
  refine w_if_ne (p := 7) (q := 10) (pI pM_12 rfl) rfl rfl rfl (fun c => ?_) (fun c => ?_)
  · replace k := itn c k
    refine w_iload_n (p := 11) (pI pM_12 rfl) rfl rfl ?_
    refine w_iload_n (p := 12) (pI pM_12 rfl) rfl rfl ?_
    refine w_static (p := 15) (mj := 13) (pI pM_12 rfl) rfl rfl rfl rfl rfl rfl rfl rfl rfl ?_
    refine d13_isInput (D13_isInput_mono k (fun v1 k => ?_))
    refine w_if_ne (p := 18) (q := 21) (pI pM_12 rfl) rfl rfl rfl (fun c => ?_) (fun c => ?_)
    · replace k := itn c k
      refine w_aload_n (p := 22) (pI pM_12 rfl) rfl rfl ?_
      refine v_getR (p := 25) (kf := 0) (pI pM_12 rfl) rfl rfl rfl (by decide) (by decide) rfl rfl ?_
      refine w_iload_n (p := 26) (pI pM_12 rfl) rfl rfl ?_
      refine v_virtual (p := 29) (mj := 100) (pI pM_12 rfl) rfl rfl rfl rfl rfl rfl rfl rfl rfl rfl (by decide) (by decide) rfl ?_
      refine d100_hasPath (D100_hasPath_mono k (fun v2 k => ?_))
      refine w_if_eq (p := 32) (q := 47) (pI pM_12 rfl) rfl rfl rfl (fun c => ?_) (fun c => ?_)
      · replace k := itp c k
        refine w_iconst (p := 48) (v := -1) (pI pM_12 rfl) rfl rfl ?_
        exact w_ireturn (pI pM_12 rfl) rfl rfl rfl k
      · replace k := itn c k
        refine w_aload_n (p := 33) (pI pM_12 rfl) rfl rfl ?_
        refine v_getR (p := 36) (kf := 0) (pI pM_12 rfl) rfl rfl rfl (by decide) (by decide) rfl rfl ?_
        refine w_iload_n (p := 37) (pI pM_12 rfl) rfl rfl ?_
        refine v_virtual (p := 40) (mj := 101) (pI pM_12 rfl) rfl rfl rfl rfl rfl rfl rfl rfl rfl rfl (by decide) (by decide) rfl ?_
        refine d101_pathAt (D101_pathAt_mono k (fun v3 k => ?_))
        obtain ⟨h4, k⟩ := k
        refine v_getI (p := 43) (kf := 12) (pI pM_12 rfl) rfl rfl rfl (isW.ge h4 0) (isW.lt h4 0 (by decide)) (isW.sk h4 0 (by decide)) rfl rfl ?_
        refine w_iconst (p := 44) (v := nI 1) (pI pM_12 rfl) rfl rfl ?_
        refine w_icmp_eq (p := 47) (q := 49) (pI pM_12 rfl) rfl rfl rfl (fun c => ?_) (fun c => ?_)
        · replace k := itp c k
          refine w_aload_n (p := 50) (pI pM_12 rfl) rfl rfl ?_
          refine v_getR (p := 53) (kf := 5) (pI pM_12 rfl) rfl rfl rfl (by decide) (by decide) rfl rfl ?_
          refine w_aload_n (p := 54) (pI pM_12 rfl) rfl rfl ?_
          refine v_getR (p := 57) (kf := 3) (pI pM_12 rfl) rfl rfl rfl (by decide) (by decide) rfl rfl ?_
          refine w_aload_n (p := 58) (pI pM_12 rfl) rfl rfl ?_
          refine v_getR (p := 61) (kf := 0) (pI pM_12 rfl) rfl rfl rfl (by decide) (by decide) rfl rfl ?_
          refine w_iload_n (p := 62) (pI pM_12 rfl) rfl rfl ?_
          refine v_virtual (p := 65) (mj := 101) (pI pM_12 rfl) rfl rfl rfl rfl rfl rfl rfl rfl rfl rfl (by decide) (by decide) rfl ?_
          refine d101_pathAt (D101_pathAt_mono k (fun v5 k => ?_))
          obtain ⟨h6, k⟩ := k
          refine v_getI (p := 68) (kf := 15) (pI pM_12 rfl) rfl rfl rfl (isW.ge h6 0) (isW.lt h6 0 (by decide)) (isW.sk h6 0 (by decide)) rfl rfl ?_
          refine v_virtual (p := 71) (mj := 110) (pI pM_12 rfl) rfl rfl rfl rfl rfl rfl rfl rfl rfl rfl (isT.ge isT14 0) (isT.lt isT14 0 (by decide)) (isT.sk isT14 0 (by decide)) ?_
          refine d110_write isT14 (D110_write_mono k (fun A7 I8 k => ?_))
          refine w_aload_n (p := 72) (pI pM_12 rfl) rfl rfl ?_
          refine v_getR (p := 75) (kf := 5) (pI pM_12 rfl) rfl rfl rfl (by decide) (by decide) rfl rfl ?_
          refine w_iload_n (p := 76) (pI pM_12 rfl) rfl rfl ?_
          refine w_iload_n (p := 77) (pI pM_12 rfl) rfl rfl ?_
          refine v_virtual (p := 80) (mj := 112) (pI pM_12 rfl) rfl rfl rfl rfl rfl rfl rfl rfl rfl rfl (isT.ge isT14 0) (isT.lt isT14 0 (by decide)) (isT.sk isT14 0 (by decide)) ?_
          refine d112_wordFor isT14 (D112_wordFor_mono k (fun v9 A10 I11 k => ?_))
          refine w_istore (p := 82) (pI pM_12 rfl) rfl rfl rfl ?_
          refine w_iload (p := 84) (pI pM_12 rfl) rfl rfl ?_
          refine w_sipush (p := 87) (v := nI 1000) (pI pM_12 rfl) rfl rfl ?_
          refine w_icmp_ne (p := 90) (q := 95) (pI pM_12 rfl) rfl rfl rfl (fun c => ?_) (fun c => ?_)
          · replace k := itn c k
            refine w_iload (p := 97) (pI pM_12 rfl) rfl rfl ?_
            exact w_ireturn (pI pM_12 rfl) rfl rfl rfl k
          · replace k := itp (Decidable.not_not.mp c) k
            refine w_bipush (p := 92) (v := -4) (pI pM_12 rfl) rfl rfl ?_
            refine w_goto (p := 97) (pI pM_12 rfl) rfl rfl ?_
            exact w_ireturn (pI pM_12 rfl) rfl rfl rfl k
        · replace k := itn c k
          refine w_iconst (p := 48) (v := -1) (pI pM_12 rfl) rfl rfl ?_
          exact w_ireturn (pI pM_12 rfl) rfl rfl rfl k
    · replace k := itp (Decidable.not_not.mp c) k
      refine w_bipush (p := 20) (v := -2) (pI pM_12 rfl) rfl rfl ?_
      exact w_ireturn (pI pM_12 rfl) rfl rfl rfl k
  · replace k := itp (Decidable.not_not.mp c) k
    refine w_bipush (p := 9) (v := -3) (pI pM_12 rfl) rfl rfl ?_
    exact w_ireturn (pI pM_12 rfl) rfl rfl rfl k
set_option maxRecDepth 100000 in
set_option maxHeartbeats 4000000 in
theorem d44_numberOf {d L : Nat} {x : Int32} {y : Int32} {A I : HA} {Q : bm_Q} (k : D44_numberOf x y (fun v => Q (some (.int v)) (hp L A I))) : bm_M (d + 1) 44 [.int x, .int y] (hp L A I) Q := by
  unfold D44_numberOf at k
  refine bw_enter rfl rfl rfl rfl ?_
  refine w_bipush (p := 2) (v := nI 32) (pI pM_44 rfl) rfl rfl ?_
  refine w_iload_n (p := 3) (pI pM_44 rfl) rfl rfl ?_
  refine w_bipush (p := 5) (v := -16) (pI pM_44 rfl) rfl rfl ?_
  refine w_isub (p := 6) (pI pM_44 rfl) rfl ?_
  refine w_imul (p := 7) (pI pM_44 rfl) rfl ?_
  refine w_iload_n (p := 8) (pI pM_44 rfl) rfl rfl ?_
  refine w_iadd (p := 9) (pI pM_44 rfl) rfl ?_
  refine w_bipush (p := 11) (v := -16) (pI pM_44 rfl) rfl rfl ?_
  refine w_isub (p := 12) (pI pM_44 rfl) rfl ?_
  exact w_ireturn (pI pM_44 rfl) rfl rfl rfl k
set_option maxRecDepth 100000 in
set_option maxHeartbeats 4000000 in
theorem d14_along {d L : Nat} {x : Int32} {y : Int32} {A I : HA} {Q : bm_Q} (k : D14_along x y A I (fun v => Q (some (.int v)) (hp L A I))) : bm_M (d + 3) 14 [.ref 3, .int x, .int y] (hp L A I) Q := by
  unfold D14_along at k
  refine bw_enter rfl rfl rfl rfl ?_
  refine w_aload_n (p := 1) (pI pM_14 rfl) rfl rfl ?_
  refine v_getI (p := 4) (kf := 7) (pI pM_14 rfl) rfl rfl rfl (by decide) (by decide) rfl rfl rfl ?_
  refine w_if_ne (p := 7) (q := 10) (pI pM_14 rfl) rfl rfl rfl (fun c => ?_) (fun c => ?_)
  · replace k := itn c k
    refine w_iload_n (p := 11) (pI pM_14 rfl) rfl rfl ?_
    refine w_iload_n (p := 12) (pI pM_14 rfl) rfl rfl ?_
    refine w_static (p := 15) (mj := 13) (pI pM_14 rfl) rfl rfl rfl rfl rfl rfl rfl rfl rfl ?_
    refine d13_isInput (D13_isInput_mono k (fun v1 k => ?_))
    refine w_if_ne (p := 18) (q := 21) (pI pM_14 rfl) rfl rfl rfl (fun c => ?_) (fun c => ?_)
    · replace k := itn c k
      refine w_iload_n (p := 22) (pI pM_14 rfl) rfl rfl ?_
      refine w_iload_n (p := 23) (pI pM_14 rfl) rfl rfl ?_
      refine w_static (p := 26) (mj := 44) (pI pM_14 rfl) rfl rfl rfl rfl rfl rfl rfl rfl rfl ?_
      refine d44_numberOf (D44_numberOf_mono k (fun v2 k => ?_))
      refine w_istore_n (p := 27) (pI pM_14 rfl) rfl rfl rfl ?_
      refine w_iconst (p := 28) (v := nI 0) (pI pM_14 rfl) rfl rfl ?_
      refine w_istore (p := 30) (pI pM_14 rfl) rfl rfl rfl ?_
      refine k (fun a4 => ∀ u5 u6 : Value, bm_W (bm_M (d + 2)) 14 Q 30 [.ref 3, u5, u6, .int v2, .int a4] [] (hp L A I)) (fun a4 k => ?_) _ _
      intro u5 u6
      refine w_iload (p := 32) (pI pM_14 rfl) rfl rfl ?_
      refine w_aload_n (p := 33) (pI pM_14 rfl) rfl rfl ?_
      refine v_getR (p := 36) (kf := 0) (pI pM_14 rfl) rfl rfl rfl (by decide) (by decide) rfl rfl ?_
      refine v_getI (p := 39) (kf := 7) (pI pM_14 rfl) rfl rfl rfl (by decide) (by decide) rfl rfl rfl ?_
      refine w_icmp_ge (p := 42) (q := 70) (pI pM_14 rfl) rfl rfl rfl (fun c => ?_) (fun c => ?_)
      · replace k := itn (Int32.not_lt.mpr c) k
        refine w_iconst (p := 71) (v := -1) (pI pM_14 rfl) rfl rfl ?_
        exact w_ireturn (pI pM_14 rfl) rfl rfl rfl k
      · replace k := itp (Int32.not_le.mp c) k
        refine w_aload_n (p := 43) (pI pM_14 rfl) rfl rfl ?_
        refine v_getR (p := 46) (kf := 0) (pI pM_14 rfl) rfl rfl rfl (by decide) (by decide) rfl rfl ?_
        refine w_iload (p := 48) (pI pM_14 rfl) rfl rfl ?_
        refine v_virtual (p := 51) (mj := 101) (pI pM_14 rfl) rfl rfl rfl rfl rfl rfl rfl rfl rfl rfl (by decide) (by decide) rfl ?_
        refine d101_pathAt (D101_pathAt_mono k (fun v8 k => ?_))
        obtain ⟨h9, k⟩ := k
        refine v_getR (p := 54) (kf := 10) (pI pM_14 rfl) rfl rfl rfl (isW.ge h9 0) (isW.lt h9 0 (by decide)) (isW.sk h9 0 (by decide)) rfl ?_
        refine w_iload_n (p := 55) (pI pM_14 rfl) rfl rfl ?_
        refine v_virtual (p := 58) (mj := 38) (pI pM_14 rfl) rfl rfl rfl rfl rfl rfl rfl rfl rfl rfl (isN.ge (isN_w h9) 0) (isN.lt (isN_w h9) 0 (by decide)) (isN.sk (isN_w h9) 0 (by decide)) ?_
        refine d38_has (isN_w h9) (D38_has_mono k (fun v10 k => ?_))
        refine w_if_eq (p := 61) (q := 64) (pI pM_14 rfl) rfl rfl rfl (fun c => ?_) (fun c => ?_)
        · replace k := itp c k
          refine w_iinc (p := 67) (v := (a4 + nI 1)) (pI pM_14 rfl) rfl rfl rfl rfl ?_
          refine w_goto (p := 30) (pI pM_14 rfl) rfl rfl ?_
          exact k _ _
        · replace k := itn c k
          refine w_iload (p := 63) (pI pM_14 rfl) rfl rfl ?_
          exact w_ireturn (pI pM_14 rfl) rfl rfl rfl k
    · replace k := itp (Decidable.not_not.mp c) k
      refine w_bipush (p := 20) (v := -2) (pI pM_14 rfl) rfl rfl ?_
      exact w_ireturn (pI pM_14 rfl) rfl rfl rfl k
  · replace k := itp (Decidable.not_not.mp c) k
    refine w_bipush (p := 9) (v := -3) (pI pM_14 rfl) rfl rfl ?_
    exact w_ireturn (pI pM_14 rfl) rfl rfl rfl k
set_option maxRecDepth 100000 in
set_option maxHeartbeats 4000000 in
theorem d45_inOrder {d L : Nat} {n : Nat} {x : Int32} {A I : HA} {Q : bm_Q} (h_n : isN n) (k : D45_inOrder n x A I (fun v => Q (some (.int v)) (hp L A I))) : bm_M (d + 2) 45 [.ref n, .int x] (hp L A I) Q := by
  unfold D45_inOrder at k
  refine bw_enter rfl rfl rfl rfl ?_
  refine w_iconst (p := 1) (v := nI 0) (pI pM_45 rfl) rfl rfl ?_
  refine w_istore_n (p := 2) (pI pM_45 rfl) rfl rfl rfl ?_
  refine w_iconst (p := 3) (v := nI 0) (pI pM_45 rfl) rfl rfl ?_
  refine w_istore_n (p := 4) (pI pM_45 rfl) rfl rfl rfl ?_
  refine k (fun a2 a3 => bm_W (bm_M (d + 1)) 45 Q 4 [.ref n, .int x, .int a2, .int a3] [] (hp L A I)) (fun a2 a3 k => ?_)
  refine w_iload_n (p := 5) (pI pM_45 rfl) rfl rfl ?_
  refine w_sipush (p := 8) (v := nI 1024) (pI pM_45 rfl) rfl rfl ?_
  refine w_icmp_ge (p := 11) (q := 35) (pI pM_45 rfl) rfl rfl rfl (fun c => ?_) (fun c => ?_)
  · replace k := itn (Int32.not_lt.mpr c) k
    refine w_iconst (p := 36) (v := -1) (pI pM_45 rfl) rfl rfl ?_
    exact w_ireturn (pI pM_45 rfl) rfl rfl rfl k
  · replace k := itp (Int32.not_le.mp c) k
    refine w_aload_n (p := 12) (pI pM_45 rfl) rfl rfl ?_
    refine w_iload_n (p := 13) (pI pM_45 rfl) rfl rfl ?_
    refine v_virtual (p := 16) (mj := 38) (pI pM_45 rfl) rfl rfl rfl rfl rfl rfl rfl rfl rfl rfl (isN.ge h_n 0) (isN.lt h_n 0 (by decide)) (isN.sk h_n 0 (by decide)) ?_
    refine d38_has h_n (D38_has_mono k (fun v5 k => ?_))
    refine w_if_eq (p := 19) (q := 29) (pI pM_45 rfl) rfl rfl rfl (fun c => ?_) (fun c => ?_)
    · replace k := itp c k
      refine w_iinc (p := 32) (v := (a3 + nI 1)) (pI pM_45 rfl) rfl rfl rfl rfl ?_
      refine w_goto (p := 4) (pI pM_45 rfl) rfl rfl ?_
      exact k
    · replace k := itn c k
      refine w_iload_n (p := 20) (pI pM_45 rfl) rfl rfl ?_
      refine w_iload_n (p := 21) (pI pM_45 rfl) rfl rfl ?_
      refine w_icmp_ne (p := 24) (q := 26) (pI pM_45 rfl) rfl rfl rfl (fun c => ?_) (fun c => ?_)
      · replace k := itn c k
        refine w_iinc (p := 29) (v := (a2 + nI 1)) (pI pM_45 rfl) rfl rfl rfl rfl ?_
        refine w_iinc (p := 32) (v := (a3 + nI 1)) (pI pM_45 rfl) rfl rfl rfl rfl ?_
        refine w_goto (p := 4) (pI pM_45 rfl) rfl rfl ?_
        exact k
      · replace k := itp (Decidable.not_not.mp c) k
        refine w_iload_n (p := 25) (pI pM_45 rfl) rfl rfl ?_
        exact w_ireturn (pI pM_45 rfl) rfl rfl rfl k
set_option maxRecDepth 100000 in
set_option maxHeartbeats 4000000 in
theorem d15_input {d L : Nat} {x : Int32} {y : Int32} {A I : HA} {Q : bm_Q} (k : D15_input x y A I (fun v => Q (some (.int v)) (hp L A I))) : bm_M (d + 3) 15 [.ref 3, .int x, .int y] (hp L A I) Q := by
  unfold D15_input at k
  refine bw_enter rfl rfl rfl rfl ?_
  refine w_aload_n (p := 1) (pI pM_15 rfl) rfl rfl ?_
  refine v_getI (p := 4) (kf := 7) (pI pM_15 rfl) rfl rfl rfl (by decide) (by decide) rfl rfl rfl ?_
  refine w_if_ne (p := 7) (q := 10) (pI pM_15 rfl) rfl rfl rfl (fun c => ?_) (fun c => ?_)
  · replace k := itn c k
    refine w_aload_n (p := 11) (pI pM_15 rfl) rfl rfl ?_
    refine v_getR (p := 14) (kf := 0) (pI pM_15 rfl) rfl rfl rfl (by decide) (by decide) rfl rfl ?_
    refine w_iload_n (p := 15) (pI pM_15 rfl) rfl rfl ?_
    refine v_virtual (p := 18) (mj := 100) (pI pM_15 rfl) rfl rfl rfl rfl rfl rfl rfl rfl rfl rfl (by decide) (by decide) rfl ?_
    refine d100_hasPath (D100_hasPath_mono k (fun v1 k => ?_))
    refine w_if_eq (p := 21) (q := 39) (pI pM_15 rfl) rfl rfl rfl (fun c => ?_) (fun c => ?_)
    · replace k := itp c k
      refine w_iconst (p := 40) (v := -1) (pI pM_15 rfl) rfl rfl ?_
      exact w_ireturn (pI pM_15 rfl) rfl rfl rfl k
    · replace k := itn c k
      refine w_aload_n (p := 22) (pI pM_15 rfl) rfl rfl ?_
      refine v_getR (p := 25) (kf := 0) (pI pM_15 rfl) rfl rfl rfl (by decide) (by decide) rfl rfl ?_
      refine w_iload_n (p := 26) (pI pM_15 rfl) rfl rfl ?_
      refine v_virtual (p := 29) (mj := 101) (pI pM_15 rfl) rfl rfl rfl rfl rfl rfl rfl rfl rfl rfl (by decide) (by decide) rfl ?_
      refine d101_pathAt (D101_pathAt_mono k (fun v2 k => ?_))
      obtain ⟨h3, k⟩ := k
      refine v_getR (p := 32) (kf := 10) (pI pM_15 rfl) rfl rfl rfl (isW.ge h3 0) (isW.lt h3 0 (by decide)) (isW.sk h3 0 (by decide)) rfl ?_
      refine w_iload_n (p := 33) (pI pM_15 rfl) rfl rfl ?_
      refine v_virtual (p := 36) (mj := 45) (pI pM_15 rfl) rfl rfl rfl rfl rfl rfl rfl rfl rfl rfl (isN.ge (isN_w h3) 0) (isN.lt (isN_w h3) 0 (by decide)) (isN.sk (isN_w h3) 0 (by decide)) ?_
      refine d45_inOrder (isN_w h3) (D45_inOrder_mono k (fun v4 k => ?_))
      refine w_goto (p := 40) (pI pM_15 rfl) rfl rfl ?_
      exact w_ireturn (pI pM_15 rfl) rfl rfl rfl k
  · replace k := itp (Decidable.not_not.mp c) k
    refine w_bipush (p := 9) (v := -3) (pI pM_15 rfl) rfl rfl ?_
    exact w_ireturn (pI pM_15 rfl) rfl rfl rfl k
set_option maxRecDepth 100000 in
set_option maxHeartbeats 4000000 in
theorem d146_conditionFlip {d L : Nat} {w : Nat} {x : Int32} {A I : HA} {Q : bm_Q} (h_w : isW w) (k : D146_conditionFlip w x A I (fun v => Q (some (.int v)) (hp L A I))) : bm_M (d + 1) 146 [.ref w, .int x] (hp L A I) Q := by
  unfold D146_conditionFlip at k
  refine bw_enter rfl rfl rfl rfl ?_
  refine w_aload_n (p := 1) (pI pM_146 rfl) rfl rfl ?_
  refine v_getR (p := 4) (kf := 8) (pI pM_146 rfl) rfl rfl rfl (isW.ge h_w 0) (isW.lt h_w 0 (by decide)) (isW.sk h_w 0 (by decide)) rfl ?_
  refine w_iload_n (p := 5) (pI pM_146 rfl) rfl rfl ?_
  obtain ⟨s1, k⟩ := k
  refine v_iald (p := 6) (pI pM_146 rfl) rfl (isW.lt h_w 7 (by decide)) (isW.sk h_w 7 (by decide)) s1 rfl ?_
  refine w_sipush (p := 9) (v := nI 1000) (pI pM_146 rfl) rfl rfl ?_
  refine w_idiv (p := 10) (pI pM_146 rfl) rfl (by decide) ?_
  refine w_bipush (p := 12) (v := nI 8) (pI pM_146 rfl) rfl rfl ?_
  refine w_idiv (p := 13) (pI pM_146 rfl) rfl (by decide) ?_
  refine w_iconst (p := 14) (v := nI 1) (pI pM_146 rfl) rfl rfl ?_
  refine w_isub (p := 15) (pI pM_146 rfl) rfl ?_
  exact w_ireturn (pI pM_146 rfl) rfl rfl rfl k
set_option maxRecDepth 100000 in
set_option maxHeartbeats 4000000 in
theorem d16_flip {d L : Nat} {x : Int32} {y : Int32} {A I : HA} {Q : bm_Q} (k : D16_flip x y A I (fun v => Q (some (.int v)) (hp L A I))) : bm_M (d + 2) 16 [.ref 3, .int x, .int y] (hp L A I) Q := by
  unfold D16_flip at k
  refine bw_enter rfl rfl rfl rfl ?_
  refine w_aload_n (p := 1) (pI pM_16 rfl) rfl rfl ?_
  refine v_getI (p := 4) (kf := 7) (pI pM_16 rfl) rfl rfl rfl (by decide) (by decide) rfl rfl rfl ?_
  refine w_if_ne (p := 7) (q := 10) (pI pM_16 rfl) rfl rfl rfl (fun c => ?_) (fun c => ?_)
  · replace k := itn c k
    refine w_aload_n (p := 11) (pI pM_16 rfl) rfl rfl ?_
    refine v_getR (p := 14) (kf := 0) (pI pM_16 rfl) rfl rfl rfl (by decide) (by decide) rfl rfl ?_
    refine w_iload_n (p := 15) (pI pM_16 rfl) rfl rfl ?_
    refine v_virtual (p := 18) (mj := 100) (pI pM_16 rfl) rfl rfl rfl rfl rfl rfl rfl rfl rfl rfl (by decide) (by decide) rfl ?_
    refine d100_hasPath (D100_hasPath_mono k (fun v1 k => ?_))
    refine w_if_eq (p := 21) (q := 36) (pI pM_16 rfl) rfl rfl rfl (fun c => ?_) (fun c => ?_)
    · replace k := itp c k
      refine w_iconst (p := 37) (v := -1) (pI pM_16 rfl) rfl rfl ?_
      exact w_ireturn (pI pM_16 rfl) rfl rfl rfl k
    · replace k := itn c k
      refine w_aload_n (p := 22) (pI pM_16 rfl) rfl rfl ?_
      refine v_getR (p := 25) (kf := 0) (pI pM_16 rfl) rfl rfl rfl (by decide) (by decide) rfl rfl ?_
      refine w_iload_n (p := 26) (pI pM_16 rfl) rfl rfl ?_
      refine v_virtual (p := 29) (mj := 101) (pI pM_16 rfl) rfl rfl rfl rfl rfl rfl rfl rfl rfl rfl (by decide) (by decide) rfl ?_
      refine d101_pathAt (D101_pathAt_mono k (fun v2 k => ?_))
      obtain ⟨h3, k⟩ := k
      refine w_iload_n (p := 30) (pI pM_16 rfl) rfl rfl ?_
      refine v_virtual (p := 33) (mj := 143) (pI pM_16 rfl) rfl rfl rfl rfl rfl rfl rfl rfl rfl rfl (isW.ge h3 0) (isW.lt h3 0 (by decide)) (isW.sk h3 0 (by decide)) ?_
      refine d143_hasCondition h3 (D143_hasCondition_mono k (fun v4 k => ?_))
      refine w_if_ne (p := 36) (q := 38) (pI pM_16 rfl) rfl rfl rfl (fun c => ?_) (fun c => ?_)
      · replace k := itn c k
        refine w_aload_n (p := 39) (pI pM_16 rfl) rfl rfl ?_
        refine v_getR (p := 42) (kf := 0) (pI pM_16 rfl) rfl rfl rfl (by decide) (by decide) rfl rfl ?_
        refine w_iload_n (p := 43) (pI pM_16 rfl) rfl rfl ?_
        refine v_virtual (p := 46) (mj := 101) (pI pM_16 rfl) rfl rfl rfl rfl rfl rfl rfl rfl rfl rfl (by decide) (by decide) rfl ?_
        refine d101_pathAt (D101_pathAt_mono k (fun v5 k => ?_))
        obtain ⟨h6, k⟩ := k
        refine w_iload_n (p := 47) (pI pM_16 rfl) rfl rfl ?_
        refine v_virtual (p := 50) (mj := 146) (pI pM_16 rfl) rfl rfl rfl rfl rfl rfl rfl rfl rfl rfl (isW.ge h6 0) (isW.lt h6 0 (by decide)) (isW.sk h6 0 (by decide)) ?_
        refine d146_conditionFlip h6 (D146_conditionFlip_mono k (fun v7 k => ?_))
        exact w_ireturn (pI pM_16 rfl) rfl rfl rfl k
      · replace k := itp (Decidable.not_not.mp c) k
        refine w_iconst (p := 37) (v := -1) (pI pM_16 rfl) rfl rfl ?_
        exact w_ireturn (pI pM_16 rfl) rfl rfl rfl k
  · replace k := itp (Decidable.not_not.mp c) k
    refine w_bipush (p := 9) (v := -3) (pI pM_16 rfl) rfl rfl ?_
    exact w_ireturn (pI pM_16 rfl) rfl rfl rfl k
set_option maxRecDepth 100000 in
set_option maxHeartbeats 4000000 in
theorem d102_prunedPlace {d L : Nat} {x : Int32} {A I : HA} {Q : bm_Q} (k : D102_prunedPlace x A I (fun v => Q (some (.int v)) (hp L A I))) : bm_M (d + 1) 102 [.ref 20, .int x] (hp L A I) Q := by
  unfold D102_prunedPlace at k
  refine bw_enter rfl rfl rfl rfl ?_
  refine w_aload_n (p := 1) (pI pM_102 rfl) rfl rfl ?_
  refine v_getR (p := 4) (kf := 11) (pI pM_102 rfl) rfl rfl rfl (by decide) (by decide) rfl rfl ?_
  refine w_aload_n (p := 5) (pI pM_102 rfl) rfl rfl ?_
  refine v_getI (p := 8) (kf := 12) (pI pM_102 rfl) rfl rfl rfl (by decide) (by decide) rfl rfl rfl ?_
  refine w_iconst (p := 9) (v := nI 1) (pI pM_102 rfl) rfl rfl ?_
  refine w_isub (p := 10) (pI pM_102 rfl) rfl ?_
  refine w_iload_n (p := 11) (pI pM_102 rfl) rfl rfl ?_
  refine w_isub (p := 12) (pI pM_102 rfl) rfl ?_
  refine w_bipush (p := 14) (v := nI 30) (pI pM_102 rfl) rfl rfl ?_
  refine w_irem (p := 15) (pI pM_102 rfl) rfl (by decide) ?_
  obtain ⟨s1, k⟩ := k
  refine v_iald (p := 16) (pI pM_102 rfl) rfl (by decide) rfl s1 rfl ?_
  refine w_bipush (p := 18) (v := nI 8) (pI pM_102 rfl) rfl rfl ?_
  refine w_idiv (p := 19) (pI pM_102 rfl) rfl (by decide) ?_
  exact w_ireturn (pI pM_102 rfl) rfl rfl rfl k
set_option maxRecDepth 100000 in
set_option maxHeartbeats 4000000 in
theorem d103_prunedAlternative {d L : Nat} {x : Int32} {A I : HA} {Q : bm_Q} (k : D103_prunedAlternative x A I (fun v => Q (some (.int v)) (hp L A I))) : bm_M (d + 1) 103 [.ref 20, .int x] (hp L A I) Q := by
  unfold D103_prunedAlternative at k
  refine bw_enter rfl rfl rfl rfl ?_
  refine w_aload_n (p := 1) (pI pM_103 rfl) rfl rfl ?_
  refine v_getR (p := 4) (kf := 11) (pI pM_103 rfl) rfl rfl rfl (by decide) (by decide) rfl rfl ?_
  refine w_aload_n (p := 5) (pI pM_103 rfl) rfl rfl ?_
  refine v_getI (p := 8) (kf := 12) (pI pM_103 rfl) rfl rfl rfl (by decide) (by decide) rfl rfl rfl ?_
  refine w_iconst (p := 9) (v := nI 1) (pI pM_103 rfl) rfl rfl ?_
  refine w_isub (p := 10) (pI pM_103 rfl) rfl ?_
  refine w_iload_n (p := 11) (pI pM_103 rfl) rfl rfl ?_
  refine w_isub (p := 12) (pI pM_103 rfl) rfl ?_
  refine w_bipush (p := 14) (v := nI 30) (pI pM_103 rfl) rfl rfl ?_
  refine w_irem (p := 15) (pI pM_103 rfl) rfl (by decide) ?_
  obtain ⟨s1, k⟩ := k
  refine v_iald (p := 16) (pI pM_103 rfl) rfl (by decide) rfl s1 rfl ?_
  refine w_bipush (p := 18) (v := nI 8) (pI pM_103 rfl) rfl rfl ?_
  refine w_irem (p := 19) (pI pM_103 rfl) rfl (by decide) ?_
  exact w_ireturn (pI pM_103 rfl) rfl rfl rfl k
set_option maxRecDepth 100000 in
set_option maxHeartbeats 4000000 in
theorem d17_pruned {d L : Nat} {x : Int32} {y : Int32} {A I : HA} {Q : bm_Q} (k : D17_pruned x y A I (fun v => Q (some (.int v)) (hp L A I))) : bm_M (d + 2) 17 [.ref 3, .int x, .int y] (hp L A I) Q := by
  unfold D17_pruned at k
  refine bw_enter rfl rfl rfl rfl ?_
  refine w_aload_n (p := 1) (pI pM_17 rfl) rfl rfl ?_
  refine v_getI (p := 4) (kf := 7) (pI pM_17 rfl) rfl rfl rfl (by decide) (by decide) rfl rfl rfl ?_
  refine w_if_ne (p := 7) (q := 10) (pI pM_17 rfl) rfl rfl rfl (fun c => ?_) (fun c => ?_)
  · replace k := itn c k
    refine w_iload_n (p := 11) (pI pM_17 rfl) rfl rfl ?_
    refine w_iconst (p := 12) (v := nI 0) (pI pM_17 rfl) rfl rfl ?_
    refine w_iconst (p := 13) (v := nI 1) (pI pM_17 rfl) rfl rfl ?_
    refine w_static (p := 16) (mj := 2) (pI pM_17 rfl) rfl rfl rfl rfl rfl rfl rfl rfl rfl ?_
    refine d2_within (D2_within_mono k (fun v1 k => ?_))
    refine w_if_ne (p := 19) (q := 22) (pI pM_17 rfl) rfl rfl rfl (fun c => ?_) (fun c => ?_)
    · replace k := itn c k
      refine w_iload_n (p := 23) (pI pM_17 rfl) rfl rfl ?_
      refine w_if_lt (p := 26) (q := 42) (pI pM_17 rfl) rfl rfl rfl (fun c => ?_) (fun c => ?_)
      · replace k := itp c k
        refine w_iconst (p := 43) (v := -1) (pI pM_17 rfl) rfl rfl ?_
        exact w_ireturn (pI pM_17 rfl) rfl rfl rfl k
      · replace k := itn c k
        refine w_iload_n (p := 27) (pI pM_17 rfl) rfl rfl ?_
        refine w_aload_n (p := 28) (pI pM_17 rfl) rfl rfl ?_
        refine v_getR (p := 31) (kf := 0) (pI pM_17 rfl) rfl rfl rfl (by decide) (by decide) rfl rfl ?_
        refine v_getI (p := 34) (kf := 12) (pI pM_17 rfl) rfl rfl rfl (by decide) (by decide) rfl rfl rfl ?_
        refine w_bipush (p := 36) (v := nI 30) (pI pM_17 rfl) rfl rfl ?_
        refine w_min (p := 39) (pI pM_17 rfl) rfl rfl rfl rfl rfl rfl ?_
        refine w_icmp_lt (p := 42) (q := 44) (pI pM_17 rfl) rfl rfl rfl (fun c => ?_) (fun c => ?_)
        · replace k := itp c k
          refine w_iload_n (p := 45) (pI pM_17 rfl) rfl rfl ?_
          refine w_if_ne (p := 48) (q := 59) (pI pM_17 rfl) rfl rfl rfl (fun c => ?_) (fun c => ?_)
          · replace k := itn c k
            refine w_aload_n (p := 60) (pI pM_17 rfl) rfl rfl ?_
            refine v_getR (p := 63) (kf := 0) (pI pM_17 rfl) rfl rfl rfl (by decide) (by decide) rfl rfl ?_
            refine w_iload_n (p := 64) (pI pM_17 rfl) rfl rfl ?_
            refine v_virtual (p := 67) (mj := 103) (pI pM_17 rfl) rfl rfl rfl rfl rfl rfl rfl rfl rfl rfl (by decide) (by decide) rfl ?_
            refine d103_prunedAlternative (D103_prunedAlternative_mono k (fun v2 k => ?_))
            exact w_ireturn (pI pM_17 rfl) rfl rfl rfl k
          · replace k := itp (Decidable.not_not.mp c) k
            refine w_aload_n (p := 49) (pI pM_17 rfl) rfl rfl ?_
            refine v_getR (p := 52) (kf := 0) (pI pM_17 rfl) rfl rfl rfl (by decide) (by decide) rfl rfl ?_
            refine w_iload_n (p := 53) (pI pM_17 rfl) rfl rfl ?_
            refine v_virtual (p := 56) (mj := 102) (pI pM_17 rfl) rfl rfl rfl rfl rfl rfl rfl rfl rfl rfl (by decide) (by decide) rfl ?_
            refine d102_prunedPlace (D102_prunedPlace_mono k (fun v3 k => ?_))
            refine w_goto (p := 67) (pI pM_17 rfl) rfl rfl ?_
            exact w_ireturn (pI pM_17 rfl) rfl rfl rfl k
        · replace k := itn c k
          refine w_iconst (p := 43) (v := -1) (pI pM_17 rfl) rfl rfl ?_
          exact w_ireturn (pI pM_17 rfl) rfl rfl rfl k
    · replace k := itp (Decidable.not_not.mp c) k
      refine w_bipush (p := 21) (v := -2) (pI pM_17 rfl) rfl rfl ?_
      exact w_ireturn (pI pM_17 rfl) rfl rfl rfl k
  · replace k := itp (Decidable.not_not.mp c) k
    refine w_bipush (p := 9) (v := -3) (pI pM_17 rfl) rfl rfl ?_
    exact w_ireturn (pI pM_17 rfl) rfl rfl rfl k
set_option maxRecDepth 100000 in
set_option maxHeartbeats 4000000 in
theorem d77_slot {d L : Nat} {x : Int32} {y : Int32} {A I : HA} {Q : bm_Q} (k : D77_slot x y (fun v => Q (some (.int v)) (hp L A I))) : bm_M (d + 1) 77 [.int x, .int y] (hp L A I) Q := by
  unfold D77_slot at k
  refine bw_enter rfl rfl rfl rfl ?_
  refine w_iload_n (p := 1) (pI pM_77 rfl) rfl rfl ?_
  refine w_bipush (p := 3) (v := nI 40) (pI pM_77 rfl) rfl rfl ?_
  refine w_imul (p := 4) (pI pM_77 rfl) rfl ?_
  refine w_iload_n (p := 5) (pI pM_77 rfl) rfl rfl ?_
  refine w_iadd (p := 6) (pI pM_77 rfl) rfl ?_
  exact w_ireturn (pI pM_77 rfl) rfl rfl rfl k
set_option maxRecDepth 100000 in
set_option maxHeartbeats 4000000 in
theorem d18_times {d L : Nat} {x : Int32} {y : Int32} {A I : HA} {Q : bm_Q} (k : D18_times x y A I (fun v => Q (some (.int v)) (hp L A I))) : bm_M (d + 2) 18 [.ref 3, .int x, .int y] (hp L A I) Q := by
  unfold D18_times at k
  refine bw_enter rfl rfl rfl rfl ?_
  refine w_aload_n (p := 1) (pI pM_18 rfl) rfl rfl ?_
  refine v_getI (p := 4) (kf := 7) (pI pM_18 rfl) rfl rfl rfl (by decide) (by decide) rfl rfl rfl ?_
  refine w_if_ne (p := 7) (q := 10) (pI pM_18 rfl) rfl rfl rfl (fun c => ?_) (fun c => ?_)
  · replace k := itn c k
    refine w_aload_n (p := 11) (pI pM_18 rfl) rfl rfl ?_
    refine v_getR (p := 14) (kf := 2) (pI pM_18 rfl) rfl rfl rfl (by decide) (by decide) rfl rfl ?_
    refine w_iload_n (p := 15) (pI pM_18 rfl) rfl rfl ?_
    refine v_virtual (p := 18) (mj := 74) (pI pM_18 rfl) rfl rfl rfl rfl rfl rfl rfl rfl rfl rfl (by decide) (by decide) rfl ?_
    refine d74_hasMethod (D74_hasMethod_mono k (fun v1 k => ?_))
    refine w_if_eq (p := 21) (q := 33) (pI pM_18 rfl) rfl rfl rfl (fun c => ?_) (fun c => ?_)
    · replace k := itp c k
      refine w_bipush (p := 35) (v := -2) (pI pM_18 rfl) rfl rfl ?_
      exact w_ireturn (pI pM_18 rfl) rfl rfl rfl k
    · replace k := itn c k
      refine w_aload_n (p := 22) (pI pM_18 rfl) rfl rfl ?_
      refine v_getR (p := 25) (kf := 2) (pI pM_18 rfl) rfl rfl rfl (by decide) (by decide) rfl rfl ?_
      refine w_iload_n (p := 26) (pI pM_18 rfl) rfl rfl ?_
      refine w_iload_n (p := 27) (pI pM_18 rfl) rfl rfl ?_
      refine v_virtual (p := 30) (mj := 83) (pI pM_18 rfl) rfl rfl rfl rfl rfl rfl rfl rfl rfl rfl (by decide) (by decide) rfl ?_
      refine d83_hasOperation (D83_hasOperation_mono k (fun v2 k => ?_))
      refine w_if_ne (p := 33) (q := 36) (pI pM_18 rfl) rfl rfl rfl (fun c => ?_) (fun c => ?_)
      · replace k := itn c k
        refine w_aload_n (p := 37) (pI pM_18 rfl) rfl rfl ?_
        refine v_getR (p := 40) (kf := 0) (pI pM_18 rfl) rfl rfl rfl (by decide) (by decide) rfl rfl ?_
        refine v_getR (p := 43) (kf := 8) (pI pM_18 rfl) rfl rfl rfl (by decide) (by decide) rfl rfl ?_
        refine w_iload_n (p := 44) (pI pM_18 rfl) rfl rfl ?_
        refine w_iload_n (p := 45) (pI pM_18 rfl) rfl rfl ?_
        refine w_static (p := 48) (mj := 77) (pI pM_18 rfl) rfl rfl rfl rfl rfl rfl rfl rfl rfl ?_
        refine d77_slot (D77_slot_mono k (fun v3 k => ?_))
        obtain ⟨s4, k⟩ := k
        refine v_iald (p := 49) (pI pM_18 rfl) rfl (by decide) rfl s4 rfl ?_
        exact w_ireturn (pI pM_18 rfl) rfl rfl rfl k
      · replace k := itp (Decidable.not_not.mp c) k
        refine w_bipush (p := 35) (v := -2) (pI pM_18 rfl) rfl rfl ?_
        exact w_ireturn (pI pM_18 rfl) rfl rfl rfl k
  · replace k := itp (Decidable.not_not.mp c) k
    refine w_bipush (p := 9) (v := -3) (pI pM_18 rfl) rfl rfl ?_
    exact w_ireturn (pI pM_18 rfl) rfl rfl rfl k
set_option maxRecDepth 100000 in
set_option maxHeartbeats 4000000 in
theorem d71_runPlain {d L : Nat} {w : Nat} {x : Int32} {y : Int32} {z : Int32} {u1 : Int32} {A I : HA} {Q : bm_Q} (h_w : isW w) (k : D71_runPlain w x y z u1 A I (fun A I => Q none (hp L A I))) : bm_M (d + 6) 71 [.ref 21, .ref w, .int x, .int y, .int z, .int u1] (hp L A I) Q := by
  unfold D71_runPlain at k
  refine bw_enter rfl rfl rfl rfl ?_
  refine w_aload_n (p := 1) (pI pM_71 rfl) rfl rfl ?_
  refine w_iload_n (p := 2) (pI pM_71 rfl) rfl rfl ?_
  refine w_iload_n (p := 3) (pI pM_71 rfl) rfl rfl ?_
  refine w_static (p := 6) (mj := 27) (pI pM_71 rfl) rfl rfl rfl rfl rfl rfl rfl rfl rfl ?_
  refine d27_number (D27_number_mono k (fun v1 k => ?_))
  refine w_iload (p := 8) (pI pM_71 rfl) rfl rfl ?_
  refine w_static (p := 11) (mj := 27) (pI pM_71 rfl) rfl rfl rfl rfl rfl rfl rfl rfl rfl ?_
  refine d27_number (D27_number_mono k (fun v2 k => ?_))
  refine v_virtual (p := 14) (mj := 116) (pI pM_71 rfl) rfl rfl rfl rfl rfl rfl rfl rfl rfl rfl (isW.ge h_w 0) (isW.lt h_w 0 (by decide)) (isW.sk h_w 0 (by decide)) ?_
  refine d116_begin h_w (D116_begin_mono k (fun A3 I4 k => ?_))
  refine w_iconst (p := 15) (v := nI 0) (pI pM_71 rfl) rfl rfl ?_
  refine w_istore (p := 17) (pI pM_71 rfl) rfl rfl rfl ?_
  refine k (fun a6 A10 I11 => ∀ u7 u8 u9 : Value, bm_W (bm_M (d + 5)) 71 Q 17 [.ref 21, .ref w, u7, u8, u9, .int u1, .int a6] [] (hp L A10 I11)) (fun a6 A10 I11 k => ?_) _ _ _
  intro u7 u8 u9
  refine w_iload (p := 19) (pI pM_71 rfl) rfl rfl ?_
  refine w_sipush (p := 22) (v := nI 200) (pI pM_71 rfl) rfl rfl ?_
  refine w_icmp_gt (p := 25) (q := 47) (pI pM_71 rfl) rfl rfl rfl (fun c => ?_) (fun c => ?_)
  · replace k := itp c k
    exact w_return (pI pM_71 rfl) rfl k
  · replace k := itn c k
    refine w_aload_n (p := 26) (pI pM_71 rfl) rfl rfl ?_
    refine w_aload_n (p := 27) (pI pM_71 rfl) rfl rfl ?_
    refine w_iload (p := 29) (pI pM_71 rfl) rfl rfl ?_
    refine v_virtual (p := 32) (mj := 57) (pI pM_71 rfl) rfl rfl rfl rfl rfl rfl rfl rfl rfl rfl (by decide) (by decide) rfl ?_
    refine d57_comesToOne h_w (D57_comesToOne_mono k (fun v13 A14 I15 k => ?_))
    refine w_if_eq (p := 35) (q := 47) (pI pM_71 rfl) rfl rfl rfl (fun c => ?_) (fun c => ?_)
    · replace k := itp c k
      exact w_return (pI pM_71 rfl) rfl k
    · replace k := itn c k
      refine w_aload_n (p := 36) (pI pM_71 rfl) rfl rfl ?_
      refine w_aload_n (p := 37) (pI pM_71 rfl) rfl rfl ?_
      refine v_virtual (p := 40) (mj := 58) (pI pM_71 rfl) rfl rfl rfl rfl rfl rfl rfl rfl rfl rfl (by decide) (by decide) rfl ?_
      refine d58_stopsToSplit h_w (D58_stopsToSplit_mono k (fun v16 A17 I18 k => ?_))
      refine w_pop (p := 41) (pI pM_71 rfl) rfl rfl ?_
      refine w_iinc (p := 44) (v := (a6 + nI 1)) (pI pM_71 rfl) rfl rfl rfl rfl ?_
      refine w_goto (p := 17) (pI pM_71 rfl) rfl rfl ?_
      exact k _ _ _
set_option maxRecDepth 100000 in
set_option maxHeartbeats 4000000 in
theorem d19_plain {d L : Nat} {x : Int32} {y : Int32} {z : Int32} {u1 : Int32} {u2 : Int32} {A I : HA} {Q : bm_Q} (k : D19_plain x y z u1 u2 A I (fun v A I => Q (some (.int v)) (hp L A I))) : bm_M (d + 7) 19 [.ref 3, .int x, .int y, .int z, .int u1, .int u2] (hp L A I) Q := by
  unfold D19_plain at k
  refine bw_enter rfl rfl rfl rfl ?_
  refine w_aload_n (p := 1) (pI pM_19 rfl) rfl rfl ?_
  refine v_getR (p := 4) (kf := 2) (pI pM_19 rfl) rfl rfl rfl (by decide) (by decide) rfl rfl ?_
  refine w_iload_n (p := 5) (pI pM_19 rfl) rfl rfl ?_
  refine v_virtual (p := 8) (mj := 79) (pI pM_19 rfl) rfl rfl rfl rfl rfl rfl rfl rfl rfl rfl (by decide) (by decide) rfl ?_
  refine d79_canBegin (D79_canBegin_mono k (fun v1 k => ?_))
  refine w_if_eq (p := 11) (q := 55) (pI pM_19 rfl) rfl rfl rfl (fun c => ?_) (fun c => ?_)
  · replace k := itp c k
    refine w_bipush (p := 57) (v := -2) (pI pM_19 rfl) rfl rfl ?_
    exact w_ireturn (pI pM_19 rfl) rfl rfl rfl k
  · replace k := itn c k
    refine w_iload_n (p := 12) (pI pM_19 rfl) rfl rfl ?_
    refine w_bipush (p := 14) (v := -128) (pI pM_19 rfl) rfl rfl ?_
    refine w_bipush (p := 16) (v := nI 127) (pI pM_19 rfl) rfl rfl ?_
    refine w_static (p := 19) (mj := 2) (pI pM_19 rfl) rfl rfl rfl rfl rfl rfl rfl rfl rfl ?_
    refine d2_within (D2_within_mono k (fun v2 k => ?_))
    refine w_if_eq (p := 22) (q := 55) (pI pM_19 rfl) rfl rfl rfl (fun c => ?_) (fun c => ?_)
    · replace k := itp c k
      refine w_bipush (p := 57) (v := -2) (pI pM_19 rfl) rfl rfl ?_
      exact w_ireturn (pI pM_19 rfl) rfl rfl rfl k
    · replace k := itn c k
      refine w_iload_n (p := 23) (pI pM_19 rfl) rfl rfl ?_
      refine w_bipush (p := 25) (v := -128) (pI pM_19 rfl) rfl rfl ?_
      refine w_bipush (p := 27) (v := nI 127) (pI pM_19 rfl) rfl rfl ?_
      refine w_static (p := 30) (mj := 2) (pI pM_19 rfl) rfl rfl rfl rfl rfl rfl rfl rfl rfl ?_
      refine d2_within (D2_within_mono k (fun v3 k => ?_))
      refine w_if_eq (p := 33) (q := 55) (pI pM_19 rfl) rfl rfl rfl (fun c => ?_) (fun c => ?_)
      · replace k := itp c k
        refine w_bipush (p := 57) (v := -2) (pI pM_19 rfl) rfl rfl ?_
        exact w_ireturn (pI pM_19 rfl) rfl rfl rfl k
      · replace k := itn c k
        refine w_iload (p := 35) (pI pM_19 rfl) rfl rfl ?_
        refine w_iconst (p := 36) (v := nI 1) (pI pM_19 rfl) rfl rfl ?_
        refine w_sipush (p := 39) (v := nI 200) (pI pM_19 rfl) rfl rfl ?_
        refine w_static (p := 42) (mj := 2) (pI pM_19 rfl) rfl rfl rfl rfl rfl rfl rfl rfl rfl ?_
        refine d2_within (D2_within_mono k (fun v4 k => ?_))
        refine w_if_eq (p := 45) (q := 55) (pI pM_19 rfl) rfl rfl rfl (fun c => ?_) (fun c => ?_)
        · replace k := itp c k
          refine w_bipush (p := 57) (v := -2) (pI pM_19 rfl) rfl rfl ?_
          exact w_ireturn (pI pM_19 rfl) rfl rfl rfl k
        · replace k := itn c k
          refine w_iload (p := 47) (pI pM_19 rfl) rfl rfl ?_
          refine w_iconst (p := 48) (v := nI 0) (pI pM_19 rfl) rfl rfl ?_
          refine w_iconst (p := 49) (v := nI 3) (pI pM_19 rfl) rfl rfl ?_
          refine w_static (p := 52) (mj := 2) (pI pM_19 rfl) rfl rfl rfl rfl rfl rfl rfl rfl rfl ?_
          refine d2_within (D2_within_mono k (fun v5 k => ?_))
          refine w_if_ne (p := 55) (q := 58) (pI pM_19 rfl) rfl rfl rfl (fun c => ?_) (fun c => ?_)
          · replace k := itn c k
            refine w_aload_n (p := 59) (pI pM_19 rfl) rfl rfl ?_
            refine v_getR (p := 62) (kf := 1) (pI pM_19 rfl) rfl rfl rfl (by decide) (by decide) rfl rfl ?_
            refine w_aload_n (p := 63) (pI pM_19 rfl) rfl rfl ?_
            refine v_getR (p := 66) (kf := 4) (pI pM_19 rfl) rfl rfl rfl (by decide) (by decide) rfl rfl ?_
            refine w_iload_n (p := 67) (pI pM_19 rfl) rfl rfl ?_
            refine w_iload_n (p := 68) (pI pM_19 rfl) rfl rfl ?_
            refine w_iload_n (p := 69) (pI pM_19 rfl) rfl rfl ?_
            refine w_iload (p := 71) (pI pM_19 rfl) rfl rfl ?_
            refine v_virtual (p := 74) (mj := 71) (pI pM_19 rfl) rfl rfl rfl rfl rfl rfl rfl rfl rfl rfl (by decide) (by decide) rfl ?_
            refine d71_runPlain isW4 (D71_runPlain_mono k (fun A6 I7 k => ?_))
            refine w_iload (p := 76) (pI pM_19 rfl) rfl rfl ?_
            by_cases c76_0 : u2 = nI 0
            · replace k := itp c76_0 k
              refine w_table (p := 104) (off := 28) (pI pM_19 rfl) (sw_at c76_0 (by decide)) rfl rfl ?_
              refine w_aload_n (p := 105) (pI pM_19 rfl) rfl rfl ?_
              refine v_getR (p := 108) (kf := 4) (pI pM_19 rfl) rfl rfl rfl (by decide) (by decide) rfl rfl ?_
              refine v_getI (p := 111) (kf := 12) (pI pM_19 rfl) rfl rfl rfl (isW.ge isW4 0) (isW.lt isW4 0 (by decide)) (isW.sk isW4 0 (by decide)) rfl rfl ?_
              exact w_ireturn (pI pM_19 rfl) rfl rfl rfl k
            · replace k := itn c76_0 k
              by_cases c76_1 : u2 = nI 1
              · replace k := itp c76_1 k
                refine w_table (p := 112) (off := 36) (pI pM_19 rfl) (sw_at c76_1 (by decide)) rfl rfl ?_
                refine w_aload_n (p := 113) (pI pM_19 rfl) rfl rfl ?_
                refine v_getR (p := 116) (kf := 4) (pI pM_19 rfl) rfl rfl rfl (by decide) (by decide) rfl rfl ?_
                refine v_getI (p := 119) (kf := 13) (pI pM_19 rfl) rfl rfl rfl (isW.ge isW4 0) (isW.lt isW4 0 (by decide)) (isW.sk isW4 0 (by decide)) rfl rfl ?_
                exact w_ireturn (pI pM_19 rfl) rfl rfl rfl k
              · replace k := itn c76_1 k
                by_cases c76_2 : u2 = nI 2
                · replace k := itp c76_2 k
                  refine w_table (p := 120) (off := 44) (pI pM_19 rfl) (sw_at c76_2 (by decide)) rfl rfl ?_
                  refine w_aload_n (p := 121) (pI pM_19 rfl) rfl rfl ?_
                  refine v_getR (p := 124) (kf := 4) (pI pM_19 rfl) rfl rfl rfl (by decide) (by decide) rfl rfl ?_
                  refine v_getI (p := 127) (kf := 12) (pI pM_19 rfl) rfl rfl rfl (isW.ge isW4 0) (isW.lt isW4 0 (by decide)) (isW.sk isW4 0 (by decide)) rfl rfl ?_
                  refine w_iconst (p := 128) (v := nI 1) (pI pM_19 rfl) rfl rfl ?_
                  refine w_icmp_ne (p := 131) (q := 144) (pI pM_19 rfl) rfl rfl rfl (fun c => ?_) (fun c => ?_)
                  · replace k := itn c k
                    refine w_aload_n (p := 145) (pI pM_19 rfl) rfl rfl ?_
                    refine v_getR (p := 148) (kf := 4) (pI pM_19 rfl) rfl rfl rfl (by decide) (by decide) rfl rfl ?_
                    refine v_getI (p := 151) (kf := 14) (pI pM_19 rfl) rfl rfl rfl (isW.ge isW4 0) (isW.lt isW4 0 (by decide)) (isW.sk isW4 0 (by decide)) rfl rfl ?_
                    exact w_ireturn (pI pM_19 rfl) rfl rfl rfl k
                  · replace k := itp (Decidable.not_not.mp c) k
                    refine w_aload_n (p := 132) (pI pM_19 rfl) rfl rfl ?_
                    refine v_getR (p := 135) (kf := 4) (pI pM_19 rfl) rfl rfl rfl (by decide) (by decide) rfl rfl ?_
                    refine v_getI (p := 138) (kf := 15) (pI pM_19 rfl) rfl rfl rfl (isW.ge isW4 0) (isW.lt isW4 0 (by decide)) (isW.sk isW4 0 (by decide)) rfl rfl ?_
                    refine w_static (p := 141) (mj := 26) (pI pM_19 rfl) rfl rfl rfl rfl rfl rfl rfl rfl rfl ?_
                    refine d26_numberIn (D26_numberIn_mono k (fun v8 k => ?_))
                    refine w_goto (p := 151) (pI pM_19 rfl) rfl rfl ?_
                    exact w_ireturn (pI pM_19 rfl) rfl rfl rfl k
                · replace k := itn c76_2 k
                  refine w_table (p := 152) (off := 76) (pI pM_19 rfl) (by have e0 := neT 0 (by decide) c76_0; have e1 := neT 1 (by decide) c76_1; have e2 := neT 2 (by decide) c76_2; exact sw_df (fun h1 h2 => by omega)) rfl rfl ?_
                  refine w_aload_n (p := 153) (pI pM_19 rfl) rfl rfl ?_
                  refine v_getR (p := 156) (kf := 4) (pI pM_19 rfl) rfl rfl rfl (by decide) (by decide) rfl rfl ?_
                  refine v_getI (p := 159) (kf := 11) (pI pM_19 rfl) rfl rfl rfl (isW.ge isW4 0) (isW.lt isW4 0 (by decide)) (isW.sk isW4 0 (by decide)) rfl rfl ?_
                  exact w_ireturn (pI pM_19 rfl) rfl rfl rfl k
          · replace k := itp (Decidable.not_not.mp c) k
            refine w_bipush (p := 57) (v := -2) (pI pM_19 rfl) rfl rfl ?_
            exact w_ireturn (pI pM_19 rfl) rfl rfl rfl k
set_option maxRecDepth 100000 in
set_option maxHeartbeats 4000000 in
theorem d21_inputHolds {d L : Nat} {w : Nat} {x : Int32} {A I : HA} {Q : bm_Q} (h_w : isW w) (k : D21_inputHolds w x A I (fun v A I => Q (some (.int v)) (hp L A I))) : bm_M (d + 7) 21 [.ref 3, .ref w, .int x] (hp L A I) Q := by
  unfold D21_inputHolds at k
  refine bw_enter rfl rfl rfl rfl ?_
  refine w_aload_n (p := 1) (pI pM_21 rfl) rfl rfl ?_
  refine v_getI (p := 4) (kf := 12) (pI pM_21 rfl) rfl rfl rfl (isW.ge h_w 0) (isW.lt h_w 0 (by decide)) (isW.sk h_w 0 (by decide)) rfl rfl ?_
  refine w_bipush (p := 6) (v := nI 7) (pI pM_21 rfl) rfl rfl ?_
  refine w_icmp_ne (p := 9) (q := 11) (pI pM_21 rfl) rfl rfl rfl (fun c => ?_) (fun c => ?_)
  · replace k := itn c k
    refine w_iload_n (p := 12) (pI pM_21 rfl) rfl rfl ?_
    refine w_static (p := 15) (mj := 39) (pI pM_21 rfl) rfl rfl rfl rfl rfl rfl rfl rfl rfl ?_
    refine d39_xOf (D39_xOf_mono k (fun v1 k => ?_))
    refine w_istore_n (p := 16) (pI pM_21 rfl) rfl rfl rfl ?_
    refine w_iload_n (p := 17) (pI pM_21 rfl) rfl rfl ?_
    refine w_static (p := 20) (mj := 40) (pI pM_21 rfl) rfl rfl rfl rfl rfl rfl rfl rfl rfl ?_
    refine d40_yOf (D40_yOf_mono k (fun v2 k => ?_))
    refine w_istore (p := 22) (pI pM_21 rfl) rfl rfl rfl ?_
    refine w_aload_n (p := 23) (pI pM_21 rfl) rfl rfl ?_
    refine v_getR (p := 26) (kf := 1) (pI pM_21 rfl) rfl rfl rfl (by decide) (by decide) rfl rfl ?_
    refine w_aload_n (p := 27) (pI pM_21 rfl) rfl rfl ?_
    refine v_getR (p := 30) (kf := 4) (pI pM_21 rfl) rfl rfl rfl (by decide) (by decide) rfl rfl ?_
    refine w_aload_n (p := 31) (pI pM_21 rfl) rfl rfl ?_
    refine v_getR (p := 34) (kf := 0) (pI pM_21 rfl) rfl rfl rfl (by decide) (by decide) rfl rfl ?_
    refine v_getI (p := 37) (kf := 14) (pI pM_21 rfl) rfl rfl rfl (by decide) (by decide) rfl rfl rfl ?_
    refine w_iload_n (p := 38) (pI pM_21 rfl) rfl rfl ?_
    refine w_iload (p := 40) (pI pM_21 rfl) rfl rfl ?_
    refine w_aload_n (p := 41) (pI pM_21 rfl) rfl rfl ?_
    refine v_getR (p := 44) (kf := 0) (pI pM_21 rfl) rfl rfl rfl (by decide) (by decide) rfl rfl ?_
    refine v_getI (p := 47) (kf := 15) (pI pM_21 rfl) rfl rfl rfl (by decide) (by decide) rfl rfl rfl ?_
    refine v_virtual (p := 50) (mj := 71) (pI pM_21 rfl) rfl rfl rfl rfl rfl rfl rfl rfl rfl rfl (by decide) (by decide) rfl ?_
    refine d71_runPlain isW4 (D71_runPlain_mono k (fun A3 I4 k => ?_))
    refine w_aload_n (p := 51) (pI pM_21 rfl) rfl rfl ?_
    refine v_getR (p := 54) (kf := 4) (pI pM_21 rfl) rfl rfl rfl (by decide) (by decide) rfl rfl ?_
    refine v_getI (p := 57) (kf := 12) (pI pM_21 rfl) rfl rfl rfl (isW.ge isW4 0) (isW.lt isW4 0 (by decide)) (isW.sk isW4 0 (by decide)) rfl rfl ?_
    refine w_aload_n (p := 58) (pI pM_21 rfl) rfl rfl ?_
    refine v_getI (p := 61) (kf := 12) (pI pM_21 rfl) rfl rfl rfl (isW.ge h_w 0) (isW.lt h_w 0 (by decide)) (isW.sk h_w 0 (by decide)) rfl rfl ?_
    refine w_icmp_ne (p := 64) (q := 106) (pI pM_21 rfl) rfl rfl rfl (fun c => ?_) (fun c => ?_)
    · replace k := itn c k
      refine w_iconst (p := 107) (v := nI 0) (pI pM_21 rfl) rfl rfl ?_
      exact w_ireturn (pI pM_21 rfl) rfl rfl rfl k
    · replace k := itp (Decidable.not_not.mp c) k
      refine w_aload_n (p := 65) (pI pM_21 rfl) rfl rfl ?_
      refine v_getR (p := 68) (kf := 4) (pI pM_21 rfl) rfl rfl rfl (by decide) (by decide) rfl rfl ?_
      refine v_getI (p := 71) (kf := 13) (pI pM_21 rfl) rfl rfl rfl (isW.ge isW4 0) (isW.lt isW4 0 (by decide)) (isW.sk isW4 0 (by decide)) rfl rfl ?_
      refine w_aload_n (p := 72) (pI pM_21 rfl) rfl rfl ?_
      refine v_getI (p := 75) (kf := 13) (pI pM_21 rfl) rfl rfl rfl (isW.ge h_w 0) (isW.lt h_w 0 (by decide)) (isW.sk h_w 0 (by decide)) rfl rfl ?_
      refine w_icmp_ne (p := 78) (q := 106) (pI pM_21 rfl) rfl rfl rfl (fun c => ?_) (fun c => ?_)
      · replace k := itn c k
        refine w_iconst (p := 107) (v := nI 0) (pI pM_21 rfl) rfl rfl ?_
        exact w_ireturn (pI pM_21 rfl) rfl rfl rfl k
      · replace k := itp (Decidable.not_not.mp c) k
        refine w_aload_n (p := 79) (pI pM_21 rfl) rfl rfl ?_
        refine v_getR (p := 82) (kf := 4) (pI pM_21 rfl) rfl rfl rfl (by decide) (by decide) rfl rfl ?_
        refine v_getI (p := 85) (kf := 14) (pI pM_21 rfl) rfl rfl rfl (isW.ge isW4 0) (isW.lt isW4 0 (by decide)) (isW.sk isW4 0 (by decide)) rfl rfl ?_
        refine w_aload_n (p := 86) (pI pM_21 rfl) rfl rfl ?_
        refine v_getI (p := 89) (kf := 14) (pI pM_21 rfl) rfl rfl rfl (isW.ge h_w 0) (isW.lt h_w 0 (by decide)) (isW.sk h_w 0 (by decide)) rfl rfl ?_
        refine w_icmp_ne (p := 92) (q := 106) (pI pM_21 rfl) rfl rfl rfl (fun c => ?_) (fun c => ?_)
        · replace k := itn c k
          refine w_iconst (p := 107) (v := nI 0) (pI pM_21 rfl) rfl rfl ?_
          exact w_ireturn (pI pM_21 rfl) rfl rfl rfl k
        · replace k := itp (Decidable.not_not.mp c) k
          refine w_aload_n (p := 93) (pI pM_21 rfl) rfl rfl ?_
          refine v_getR (p := 96) (kf := 4) (pI pM_21 rfl) rfl rfl rfl (by decide) (by decide) rfl rfl ?_
          refine v_getI (p := 99) (kf := 11) (pI pM_21 rfl) rfl rfl rfl (isW.ge isW4 0) (isW.lt isW4 0 (by decide)) (isW.sk isW4 0 (by decide)) rfl rfl ?_
          refine w_aload_n (p := 100) (pI pM_21 rfl) rfl rfl ?_
          refine v_getI (p := 103) (kf := 11) (pI pM_21 rfl) rfl rfl rfl (isW.ge h_w 0) (isW.lt h_w 0 (by decide)) (isW.sk h_w 0 (by decide)) rfl rfl ?_
          refine w_icmp_eq (p := 106) (q := 108) (pI pM_21 rfl) rfl rfl rfl (fun c => ?_) (fun c => ?_)
          · replace k := itp c k
            refine w_aload_n (p := 109) (pI pM_21 rfl) rfl rfl ?_
            refine v_getI (p := 112) (kf := 12) (pI pM_21 rfl) rfl rfl rfl (isW.ge h_w 0) (isW.lt h_w 0 (by decide)) (isW.sk h_w 0 (by decide)) rfl rfl ?_
            refine w_iconst (p := 113) (v := nI 1) (pI pM_21 rfl) rfl rfl ?_
            refine w_icmp_ne (p := 116) (q := 139) (pI pM_21 rfl) rfl rfl rfl (fun c => ?_) (fun c => ?_)
            · replace k := itn c k
              refine w_iconst (p := 140) (v := nI 1) (pI pM_21 rfl) rfl rfl ?_
              refine w_goto (p := 144) (pI pM_21 rfl) rfl rfl ?_
              exact w_ireturn (pI pM_21 rfl) rfl rfl rfl k
            · replace k := itp (Decidable.not_not.mp c) k
              refine w_aload_n (p := 117) (pI pM_21 rfl) rfl rfl ?_
              refine v_getR (p := 120) (kf := 4) (pI pM_21 rfl) rfl rfl rfl (by decide) (by decide) rfl rfl ?_
              refine v_getI (p := 123) (kf := 15) (pI pM_21 rfl) rfl rfl rfl (isW.ge isW4 0) (isW.lt isW4 0 (by decide)) (isW.sk isW4 0 (by decide)) rfl rfl ?_
              refine w_static (p := 126) (mj := 26) (pI pM_21 rfl) rfl rfl rfl rfl rfl rfl rfl rfl rfl ?_
              refine d26_numberIn (D26_numberIn_mono k (fun v5 k => ?_))
              refine w_aload_n (p := 127) (pI pM_21 rfl) rfl rfl ?_
              refine v_getR (p := 130) (kf := 5) (pI pM_21 rfl) rfl rfl rfl (by decide) (by decide) rfl rfl ?_
              refine w_iload_n (p := 131) (pI pM_21 rfl) rfl rfl ?_
              refine w_iload (p := 133) (pI pM_21 rfl) rfl rfl ?_
              refine v_virtual (p := 136) (mj := 112) (pI pM_21 rfl) rfl rfl rfl rfl rfl rfl rfl rfl rfl rfl (isT.ge isT14 0) (isT.lt isT14 0 (by decide)) (isT.sk isT14 0 (by decide)) ?_
              refine d112_wordFor isT14 (D112_wordFor_mono k (fun v6 A7 I8 k => ?_))
              refine w_icmp_ne (p := 139) (q := 143) (pI pM_21 rfl) rfl rfl rfl (fun c => ?_) (fun c => ?_)
              · replace k := itn c k
                refine w_iconst (p := 144) (v := nI 0) (pI pM_21 rfl) rfl rfl ?_
                exact w_ireturn (pI pM_21 rfl) rfl rfl rfl k
              · replace k := itp (Decidable.not_not.mp c) k
                refine w_iconst (p := 140) (v := nI 1) (pI pM_21 rfl) rfl rfl ?_
                refine w_goto (p := 144) (pI pM_21 rfl) rfl rfl ?_
                exact w_ireturn (pI pM_21 rfl) rfl rfl rfl k
          · replace k := itn c k
            refine w_iconst (p := 107) (v := nI 0) (pI pM_21 rfl) rfl rfl ?_
            exact w_ireturn (pI pM_21 rfl) rfl rfl rfl k
  · replace k := itp (Decidable.not_not.mp c) k
    refine w_iconst (p := 10) (v := nI 1) (pI pM_21 rfl) rfl rfl ?_
    exact w_ireturn (pI pM_21 rfl) rfl rfl rfl k
set_option maxRecDepth 100000 in
set_option maxHeartbeats 4000000 in
theorem d20_agrees {d L : Nat} {A I : HA} {Q : bm_Q} (k : D20_agrees A I (fun v A I => Q (some (.int v)) (hp L A I))) : bm_M (d + 8) 20 [.ref 3] (hp L A I) Q := by
  unfold D20_agrees at k
  refine bw_enter rfl rfl rfl rfl ?_
  refine w_aload_n (p := 1) (pI pM_20 rfl) rfl rfl ?_
  refine v_getI (p := 4) (kf := 7) (pI pM_20 rfl) rfl rfl rfl (by decide) (by decide) rfl rfl rfl ?_
  refine w_if_ne (p := 7) (q := 9) (pI pM_20 rfl) rfl rfl rfl (fun c => ?_) (fun c => ?_)
  · replace k := itn c k
    refine w_aload_n (p := 10) (pI pM_20 rfl) rfl rfl ?_
    refine v_getR (p := 13) (kf := 6) (pI pM_20 rfl) rfl rfl rfl (by decide) (by decide) rfl rfl ?_
    refine v_virtual (p := 16) (mj := 37) (pI pM_20 rfl) rfl rfl rfl rfl rfl rfl rfl rfl rfl rfl (isN.ge isN18 0) (isN.lt isN18 0 (by decide)) (isN.sk isN18 0 (by decide)) ?_
    refine d37_clear isN18 (D37_clear_mono k (fun A1 I2 k => ?_))
    refine w_iconst (p := 17) (v := nI 0) (pI pM_20 rfl) rfl rfl ?_
    refine w_istore_n (p := 18) (pI pM_20 rfl) rfl rfl rfl ?_
    refine k (fun a4 A7 I8 => ∀ u5 u6 : Value, bm_W (bm_M (d + 7)) 20 Q 18 [.ref 3, .int a4, u5, u6] [] (hp L A7 I8)) (fun a4 A7 I8 k => ?_) _ _
    intro u5 u6
    refine w_iload_n (p := 19) (pI pM_20 rfl) rfl rfl ?_
    refine w_aload_n (p := 20) (pI pM_20 rfl) rfl rfl ?_
    refine v_getR (p := 23) (kf := 0) (pI pM_20 rfl) rfl rfl rfl (by decide) (by decide) rfl rfl ?_
    refine v_getI (p := 26) (kf := 7) (pI pM_20 rfl) rfl rfl rfl (by decide) (by decide) rfl rfl rfl ?_
    refine w_icmp_ge (p := 29) (q := 123) (pI pM_20 rfl) rfl rfl rfl (fun c => ?_) (fun c => ?_)
    · replace k := itn (Int32.not_lt.mpr c) k
      refine w_iconst (p := 124) (v := nI 1) (pI pM_20 rfl) rfl rfl ?_
      exact w_ireturn (pI pM_20 rfl) rfl rfl rfl k
    · replace k := itp (Int32.not_le.mp c) k
      refine w_aload_n (p := 30) (pI pM_20 rfl) rfl rfl ?_
      refine v_getR (p := 33) (kf := 0) (pI pM_20 rfl) rfl rfl rfl (by decide) (by decide) rfl rfl ?_
      refine w_iload_n (p := 34) (pI pM_20 rfl) rfl rfl ?_
      refine v_virtual (p := 37) (mj := 101) (pI pM_20 rfl) rfl rfl rfl rfl rfl rfl rfl rfl rfl rfl (by decide) (by decide) rfl ?_
      refine d101_pathAt (D101_pathAt_mono k (fun v10 k => ?_))
      obtain ⟨h11, k⟩ := k
      refine w_astore_n (p := 38) (pI pM_20 rfl) rfl rfl rfl ?_
      refine w_aload_n (p := 39) (pI pM_20 rfl) rfl rfl ?_
      refine v_getI (p := 42) (kf := 12) (pI pM_20 rfl) rfl rfl rfl (isW.ge h11 0) (isW.lt h11 0 (by decide)) (isW.sk h11 0 (by decide)) rfl rfl ?_
      refine w_iconst (p := 43) (v := nI 1) (pI pM_20 rfl) rfl rfl ?_
      refine w_icmp_ne (p := 46) (q := 61) (pI pM_20 rfl) rfl rfl rfl (fun c => ?_) (fun c => ?_)
      · replace k := itn c k
        refine w_iconst (p := 62) (v := nI 0) (pI pM_20 rfl) rfl rfl ?_
        refine w_istore_n (p := 63) (pI pM_20 rfl) rfl rfl rfl ?_
        refine k (fun a13 A14 I15 => bm_W (bm_M (d + 7)) 20 Q 63 [.ref 3, .int a4, .ref v10, .int a13] [] (hp L A14 I15)) (fun a13 A14 I15 k => ?_)
        refine w_iload_n (p := 64) (pI pM_20 rfl) rfl rfl ?_
        refine w_sipush (p := 67) (v := nI 1024) (pI pM_20 rfl) rfl rfl ?_
        refine w_icmp_ge (p := 70) (q := 117) (pI pM_20 rfl) rfl rfl rfl (fun c => ?_) (fun c => ?_)
        · replace k := itn (Int32.not_lt.mpr c) k
          refine w_iinc (p := 120) (v := (a4 + nI 1)) (pI pM_20 rfl) rfl rfl rfl rfl ?_
          refine w_goto (p := 18) (pI pM_20 rfl) rfl rfl ?_
          exact k _ _
        · replace k := itp (Int32.not_le.mp c) k
          refine w_aload_n (p := 71) (pI pM_20 rfl) rfl rfl ?_
          refine v_getR (p := 74) (kf := 10) (pI pM_20 rfl) rfl rfl rfl (isW.ge h11 0) (isW.lt h11 0 (by decide)) (isW.sk h11 0 (by decide)) rfl ?_
          refine w_iload_n (p := 75) (pI pM_20 rfl) rfl rfl ?_
          refine v_virtual (p := 78) (mj := 38) (pI pM_20 rfl) rfl rfl rfl rfl rfl rfl rfl rfl rfl rfl (isN.ge (isN_w h11) 0) (isN.lt (isN_w h11) 0 (by decide)) (isN.sk (isN_w h11) 0 (by decide)) ?_
          refine d38_has (isN_w h11) (D38_has_mono k (fun v17 k => ?_))
          refine w_if_eq (p := 81) (q := 111) (pI pM_20 rfl) rfl rfl rfl (fun c => ?_) (fun c => ?_)
          · replace k := itp c k
            refine w_iinc (p := 114) (v := (a13 + nI 1)) (pI pM_20 rfl) rfl rfl rfl rfl ?_
            refine w_goto (p := 63) (pI pM_20 rfl) rfl rfl ?_
            exact k
          · replace k := itn c k
            refine w_aload_n (p := 82) (pI pM_20 rfl) rfl rfl ?_
            refine v_getR (p := 85) (kf := 6) (pI pM_20 rfl) rfl rfl rfl (by decide) (by decide) rfl rfl ?_
            refine w_iload_n (p := 86) (pI pM_20 rfl) rfl rfl ?_
            refine v_virtual (p := 89) (mj := 38) (pI pM_20 rfl) rfl rfl rfl rfl rfl rfl rfl rfl rfl rfl (isN.ge isN18 0) (isN.lt isN18 0 (by decide)) (isN.sk isN18 0 (by decide)) ?_
            refine d38_has isN18 (D38_has_mono k (fun v18 k => ?_))
            refine w_if_ne (p := 92) (q := 101) (pI pM_20 rfl) rfl rfl rfl (fun c => ?_) (fun c => ?_)
            · replace k := itn c k
              refine w_iconst (p := 102) (v := nI 0) (pI pM_20 rfl) rfl rfl ?_
              exact w_ireturn (pI pM_20 rfl) rfl rfl rfl k
            · replace k := itp (Decidable.not_not.mp c) k
              refine w_aload_n (p := 93) (pI pM_20 rfl) rfl rfl ?_
              refine w_aload_n (p := 94) (pI pM_20 rfl) rfl rfl ?_
              refine w_iload_n (p := 95) (pI pM_20 rfl) rfl rfl ?_
              refine v_virtual (p := 98) (mj := 21) (pI pM_20 rfl) rfl rfl rfl rfl rfl rfl rfl rfl rfl rfl (by decide) (by decide) rfl ?_
              refine d21_inputHolds h11 (D21_inputHolds_mono k (fun v19 A20 I21 k => ?_))
              refine w_if_ne (p := 101) (q := 103) (pI pM_20 rfl) rfl rfl rfl (fun c => ?_) (fun c => ?_)
              · replace k := itn c k
                refine w_aload_n (p := 104) (pI pM_20 rfl) rfl rfl ?_
                refine v_getR (p := 107) (kf := 6) (pI pM_20 rfl) rfl rfl rfl (by decide) (by decide) rfl rfl ?_
                refine w_iload_n (p := 108) (pI pM_20 rfl) rfl rfl ?_
                refine v_virtual (p := 111) (mj := 41) (pI pM_20 rfl) rfl rfl rfl rfl rfl rfl rfl rfl rfl rfl (isN.ge isN18 0) (isN.lt isN18 0 (by decide)) (isN.sk isN18 0 (by decide)) ?_
                refine d41_add isN18 (D41_add_mono k (fun A22 I23 k => ?_))
                refine w_iinc (p := 114) (v := (a13 + nI 1)) (pI pM_20 rfl) rfl rfl rfl rfl ?_
                refine w_goto (p := 63) (pI pM_20 rfl) rfl rfl ?_
                exact k
              · replace k := itp (Decidable.not_not.mp c) k
                refine w_iconst (p := 102) (v := nI 0) (pI pM_20 rfl) rfl rfl ?_
                exact w_ireturn (pI pM_20 rfl) rfl rfl rfl k
      · replace k := itp (Decidable.not_not.mp c) k
        refine w_aload_n (p := 47) (pI pM_20 rfl) rfl rfl ?_
        refine v_getR (p := 50) (kf := 5) (pI pM_20 rfl) rfl rfl rfl (by decide) (by decide) rfl rfl ?_
        refine w_aload_n (p := 51) (pI pM_20 rfl) rfl rfl ?_
        refine v_getR (p := 54) (kf := 3) (pI pM_20 rfl) rfl rfl rfl (by decide) (by decide) rfl rfl ?_
        refine w_aload_n (p := 55) (pI pM_20 rfl) rfl rfl ?_
        refine v_getI (p := 58) (kf := 15) (pI pM_20 rfl) rfl rfl rfl (isW.ge h11 0) (isW.lt h11 0 (by decide)) (isW.sk h11 0 (by decide)) rfl rfl ?_
        refine v_virtual (p := 61) (mj := 110) (pI pM_20 rfl) rfl rfl rfl rfl rfl rfl rfl rfl rfl rfl (isT.ge isT14 0) (isT.lt isT14 0 (by decide)) (isT.sk isT14 0 (by decide)) ?_
        refine d110_write isT14 (D110_write_mono k (fun A24 I25 k => ?_))
        refine w_iconst (p := 62) (v := nI 0) (pI pM_20 rfl) rfl rfl ?_
        refine w_istore_n (p := 63) (pI pM_20 rfl) rfl rfl rfl ?_
        refine k (fun a27 A28 I29 => bm_W (bm_M (d + 7)) 20 Q 63 [.ref 3, .int a4, .ref v10, .int a27] [] (hp L A28 I29)) (fun a27 A28 I29 k => ?_)
        refine w_iload_n (p := 64) (pI pM_20 rfl) rfl rfl ?_
        refine w_sipush (p := 67) (v := nI 1024) (pI pM_20 rfl) rfl rfl ?_
        refine w_icmp_ge (p := 70) (q := 117) (pI pM_20 rfl) rfl rfl rfl (fun c => ?_) (fun c => ?_)
        · replace k := itn (Int32.not_lt.mpr c) k
          refine w_iinc (p := 120) (v := (a4 + nI 1)) (pI pM_20 rfl) rfl rfl rfl rfl ?_
          refine w_goto (p := 18) (pI pM_20 rfl) rfl rfl ?_
          exact k _ _
        · replace k := itp (Int32.not_le.mp c) k
          refine w_aload_n (p := 71) (pI pM_20 rfl) rfl rfl ?_
          refine v_getR (p := 74) (kf := 10) (pI pM_20 rfl) rfl rfl rfl (isW.ge h11 0) (isW.lt h11 0 (by decide)) (isW.sk h11 0 (by decide)) rfl ?_
          refine w_iload_n (p := 75) (pI pM_20 rfl) rfl rfl ?_
          refine v_virtual (p := 78) (mj := 38) (pI pM_20 rfl) rfl rfl rfl rfl rfl rfl rfl rfl rfl rfl (isN.ge (isN_w h11) 0) (isN.lt (isN_w h11) 0 (by decide)) (isN.sk (isN_w h11) 0 (by decide)) ?_
          refine d38_has (isN_w h11) (D38_has_mono k (fun v31 k => ?_))
          refine w_if_eq (p := 81) (q := 111) (pI pM_20 rfl) rfl rfl rfl (fun c => ?_) (fun c => ?_)
          · replace k := itp c k
            refine w_iinc (p := 114) (v := (a27 + nI 1)) (pI pM_20 rfl) rfl rfl rfl rfl ?_
            refine w_goto (p := 63) (pI pM_20 rfl) rfl rfl ?_
            exact k
          · replace k := itn c k
            refine w_aload_n (p := 82) (pI pM_20 rfl) rfl rfl ?_
            refine v_getR (p := 85) (kf := 6) (pI pM_20 rfl) rfl rfl rfl (by decide) (by decide) rfl rfl ?_
            refine w_iload_n (p := 86) (pI pM_20 rfl) rfl rfl ?_
            refine v_virtual (p := 89) (mj := 38) (pI pM_20 rfl) rfl rfl rfl rfl rfl rfl rfl rfl rfl rfl (isN.ge isN18 0) (isN.lt isN18 0 (by decide)) (isN.sk isN18 0 (by decide)) ?_
            refine d38_has isN18 (D38_has_mono k (fun v32 k => ?_))
            refine w_if_ne (p := 92) (q := 101) (pI pM_20 rfl) rfl rfl rfl (fun c => ?_) (fun c => ?_)
            · replace k := itn c k
              refine w_iconst (p := 102) (v := nI 0) (pI pM_20 rfl) rfl rfl ?_
              exact w_ireturn (pI pM_20 rfl) rfl rfl rfl k
            · replace k := itp (Decidable.not_not.mp c) k
              refine w_aload_n (p := 93) (pI pM_20 rfl) rfl rfl ?_
              refine w_aload_n (p := 94) (pI pM_20 rfl) rfl rfl ?_
              refine w_iload_n (p := 95) (pI pM_20 rfl) rfl rfl ?_
              refine v_virtual (p := 98) (mj := 21) (pI pM_20 rfl) rfl rfl rfl rfl rfl rfl rfl rfl rfl rfl (by decide) (by decide) rfl ?_
              refine d21_inputHolds h11 (D21_inputHolds_mono k (fun v33 A34 I35 k => ?_))
              refine w_if_ne (p := 101) (q := 103) (pI pM_20 rfl) rfl rfl rfl (fun c => ?_) (fun c => ?_)
              · replace k := itn c k
                refine w_aload_n (p := 104) (pI pM_20 rfl) rfl rfl ?_
                refine v_getR (p := 107) (kf := 6) (pI pM_20 rfl) rfl rfl rfl (by decide) (by decide) rfl rfl ?_
                refine w_iload_n (p := 108) (pI pM_20 rfl) rfl rfl ?_
                refine v_virtual (p := 111) (mj := 41) (pI pM_20 rfl) rfl rfl rfl rfl rfl rfl rfl rfl rfl rfl (isN.ge isN18 0) (isN.lt isN18 0 (by decide)) (isN.sk isN18 0 (by decide)) ?_
                refine d41_add isN18 (D41_add_mono k (fun A36 I37 k => ?_))
                refine w_iinc (p := 114) (v := (a27 + nI 1)) (pI pM_20 rfl) rfl rfl rfl rfl ?_
                refine w_goto (p := 63) (pI pM_20 rfl) rfl rfl ?_
                exact k
              · replace k := itp (Decidable.not_not.mp c) k
                refine w_iconst (p := 102) (v := nI 0) (pI pM_20 rfl) rfl rfl ?_
                exact w_ireturn (pI pM_20 rfl) rfl rfl rfl k
  · replace k := itp (Decidable.not_not.mp c) k
    refine w_iconst (p := 8) (v := nI 0) (pI pM_20 rfl) rfl rfl ?_
    exact w_ireturn (pI pM_20 rfl) rfl rfl rfl k
