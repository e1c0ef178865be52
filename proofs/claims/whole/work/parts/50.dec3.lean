/-! each method runs as its formula says (written by wip/gen/dec.py) -/
set_option maxRecDepth 100000 in
set_option maxHeartbeats 4000000 in
theorem d149_isIn {d L : Nat} {x : Int32} {y : Int32} {z : Int32} {A I : HA} {Q : bm_Q} (k : D149_isIn x y z (fun v => Q (some (.int v)) (hp L A I))) : bm_M (d + 1) 149 [.int x, .int y, .int z] (hp L A I) Q := by
  unfold D149_isIn at k
  refine bw_enter rfl rfl rfl rfl ?_
  refine w_iload_n (p := 1) (pI pM_149 rfl) rfl rfl ?_
  refine w_iload_n (p := 2) (pI pM_149 rfl) rfl rfl ?_
  refine w_icmp_lt (p := 5) (q := 14) (pI pM_149 rfl) rfl rfl rfl (fun c => ?_) (fun c => ?_)
  · replace k := itp c k
    refine w_iconst (p := 15) (v := nI 0) (pI pM_149 rfl) rfl rfl ?_
    exact w_ireturn (pI pM_149 rfl) rfl rfl rfl k
  · replace k := itn c k
    refine w_iload_n (p := 6) (pI pM_149 rfl) rfl rfl ?_
    refine w_iload_n (p := 7) (pI pM_149 rfl) rfl rfl ?_
    refine w_icmp_gt (p := 10) (q := 14) (pI pM_149 rfl) rfl rfl rfl (fun c => ?_) (fun c => ?_)
    · replace k := itp c k
      refine w_iconst (p := 15) (v := nI 0) (pI pM_149 rfl) rfl rfl ?_
      exact w_ireturn (pI pM_149 rfl) rfl rfl rfl k
    · replace k := itn c k
      refine w_iconst (p := 11) (v := nI 1) (pI pM_149 rfl) rfl rfl ?_
      refine w_goto (p := 15) (pI pM_149 rfl) rfl rfl ?_
      exact w_ireturn (pI pM_149 rfl) rfl rfl rfl k
set_option maxRecDepth 100000 in
set_option maxHeartbeats 4000000 in
theorem d155_slot {d L : Nat} {A I : HA} {Q : bm_Q} (k : D155_slot A I (fun v A I => Q (some (.int v)) (hp L A I))) : bm_M (d + 1) 155 [.ref 1681] (hp L A I) Q := by
  unfold D155_slot at k
  refine bw_enter rfl rfl rfl rfl ?_
  refine w_iconst (p := 1) (v := nI 0) (pI pM_155 rfl) rfl rfl ?_
  refine w_istore_n (p := 2) (pI pM_155 rfl) rfl rfl rfl ?_
  refine k (fun a2 => bm_W (bm_M (d + 0)) 155 Q 2 [.ref 1681, .int a2] [] (hp L A I)) (fun a2 k => ?_)
  refine w_aload_n (p := 3) (pI pM_155 rfl) rfl rfl ?_
  refine v_getR (p := 6) (kf := 10) (pI pM_155 rfl) rfl rfl rfl (by decide) (by decide) rfl rfl ?_
  refine w_iload_n (p := 7) (pI pM_155 rfl) rfl rfl ?_
  obtain ⟨s4, k⟩ := k
  refine v_bald (p := 8) (pI pM_155 rfl) rfl (by decide) (by decide) rfl (by decide) s4 rfl ?_
  refine w_if_eq (p := 11) (q := 17) (pI pM_155 rfl) rfl rfl rfl (fun c => ?_) (fun c => ?_)
  · replace k := itp c k
    refine w_aload_n (p := 18) (pI pM_155 rfl) rfl rfl ?_
    refine v_getR (p := 21) (kf := 10) (pI pM_155 rfl) rfl rfl rfl (by decide) (by decide) rfl rfl ?_
    refine w_iload_n (p := 22) (pI pM_155 rfl) rfl rfl ?_
    refine w_iconst (p := 23) (v := nI 1) (pI pM_155 rfl) rfl rfl ?_
    obtain ⟨s5, k⟩ := k
    refine s_bast (p := 24) (pI pM_155 rfl) rfl (by decide) (by decide) rfl (by decide) s5 ?_
    refine w_iload_n (p := 25) (pI pM_155 rfl) rfl rfl ?_
    exact w_ireturn (pI pM_155 rfl) rfl rfl rfl k
  · replace k := itn c k
    refine w_iinc (p := 14) (v := (a2 + nI 1)) (pI pM_155 rfl) rfl rfl rfl rfl ?_
    refine w_goto (p := 2) (pI pM_155 rfl) rfl rfl ?_
    exact k
set_option maxRecDepth 100000 in
set_option maxHeartbeats 4000000 in
theorem d158_frame {d L : Nat} {A I : HA} {Q : bm_Q} (k : D158_frame A I (fun A I => Q none (hp L A I))) : bm_M (d + 1) 158 [.ref 1681] (hp L A I) Q := by
  unfold D158_frame at k
  refine bw_enter rfl rfl rfl rfl ?_
  refine w_aload_n (p := 1) (pI pM_158 rfl) rfl rfl ?_
  refine w_aload_n (p := 2) (pI pM_158 rfl) rfl rfl ?_
  refine v_getI (p := 5) (kf := 35) (pI pM_158 rfl) rfl rfl rfl (by decide) (by decide) rfl rfl rfl ?_
  refine w_bipush (p := 7) (v := nI 30) (pI pM_158 rfl) rfl rfl ?_
  refine w_iadd (p := 8) (pI pM_158 rfl) rfl ?_
  refine w_bipush (p := 10) (v := nI 21) (pI pM_158 rfl) rfl rfl ?_
  refine w_aload_n (p := 11) (pI pM_158 rfl) rfl rfl ?_
  refine v_getR (p := 14) (kf := 8) (pI pM_158 rfl) rfl rfl rfl (by decide) (by decide) rfl rfl ?_
  refine w_aload_n (p := 15) (pI pM_158 rfl) rfl rfl ?_
  refine v_getI (p := 18) (kf := 35) (pI pM_158 rfl) rfl rfl rfl (by decide) (by decide) rfl rfl rfl ?_
  refine w_iconst (p := 19) (v := nI 0) (pI pM_158 rfl) rfl rfl ?_
  refine w_iadd (p := 20) (pI pM_158 rfl) rfl ?_
  obtain ⟨s1, k⟩ := k
  refine v_iald (p := 21) (pI pM_158 rfl) rfl (by decide) rfl s1 rfl ?_
  refine w_iconst (p := 22) (v := nI 1) (pI pM_158 rfl) rfl rfl ?_
  refine w_isub (p := 23) (pI pM_158 rfl) rfl ?_
  refine w_imul (p := 24) (pI pM_158 rfl) rfl ?_
  refine w_iadd (p := 25) (pI pM_158 rfl) rfl ?_
  refine s_putI (p := 28) (kf := 36) (pI pM_158 rfl) rfl rfl rfl (by decide) (by decide) rfl rfl rfl rfl rfl rfl ?_
  exact w_return (pI pM_158 rfl) rfl k
set_option maxRecDepth 100000 in
set_option maxHeartbeats 4000000 in
theorem d157_enter {d L : Nat} {x : Int32} {A I : HA} {Q : bm_Q} (k : D157_enter x A I (fun A I => Q none (hp L A I))) : bm_M (d + 2) 157 [.ref 1681, .int x] (hp L A I) Q := by
  unfold D157_enter at k
  refine bw_enter rfl rfl rfl rfl ?_
  refine w_aload_n (p := 1) (pI pM_157 rfl) rfl rfl ?_
  refine v_getR (p := 4) (kf := 8) (pI pM_157 rfl) rfl rfl rfl (by decide) (by decide) rfl rfl ?_
  refine w_aload_n (p := 5) (pI pM_157 rfl) rfl rfl ?_
  refine v_getI (p := 8) (kf := 35) (pI pM_157 rfl) rfl rfl rfl (by decide) (by decide) rfl rfl rfl ?_
  refine w_iconst (p := 9) (v := nI 0) (pI pM_157 rfl) rfl rfl ?_
  refine w_iadd (p := 10) (pI pM_157 rfl) rfl ?_
  refine w_dup2 (p := 11) (pI pM_157 rfl) rfl rfl rfl ?_
  obtain ⟨s1, k⟩ := k
  refine v_iald (p := 12) (pI pM_157 rfl) rfl (by decide) rfl s1 rfl ?_
  refine w_iconst (p := 13) (v := nI 1) (pI pM_157 rfl) rfl rfl ?_
  refine w_iadd (p := 14) (pI pM_157 rfl) rfl ?_
  obtain ⟨s2, k⟩ := k
  refine s_iast (p := 15) (pI pM_157 rfl) rfl (by decide) (by decide) rfl s2 ?_
  refine w_aload_n (p := 16) (pI pM_157 rfl) rfl rfl ?_
  refine v_virtual (p := 19) (mj := 158) (pI pM_157 rfl) rfl rfl rfl rfl rfl rfl rfl rfl rfl rfl (by decide) (by decide) rfl ?_
  refine d158_frame (D158_frame_mono k (fun A3 I4 k => ?_))
  refine w_aload_n (p := 20) (pI pM_157 rfl) rfl rfl ?_
  refine v_getR (p := 23) (kf := 8) (pI pM_157 rfl) rfl rfl rfl (by decide) (by decide) rfl rfl ?_
  refine w_aload_n (p := 24) (pI pM_157 rfl) rfl rfl ?_
  refine v_getI (p := 27) (kf := 36) (pI pM_157 rfl) rfl rfl rfl (by decide) (by decide) rfl rfl rfl ?_
  refine w_iconst (p := 28) (v := nI 0) (pI pM_157 rfl) rfl rfl ?_
  refine w_iadd (p := 29) (pI pM_157 rfl) rfl ?_
  refine w_iload_n (p := 30) (pI pM_157 rfl) rfl rfl ?_
  obtain ⟨s5, k⟩ := k
  refine s_iast (p := 31) (pI pM_157 rfl) rfl (by decide) (by decide) rfl s5 ?_
  refine w_aload_n (p := 32) (pI pM_157 rfl) rfl rfl ?_
  refine v_getR (p := 35) (kf := 8) (pI pM_157 rfl) rfl rfl rfl (by decide) (by decide) rfl rfl ?_
  refine w_aload_n (p := 36) (pI pM_157 rfl) rfl rfl ?_
  refine v_getI (p := 39) (kf := 36) (pI pM_157 rfl) rfl rfl rfl (by decide) (by decide) rfl rfl rfl ?_
  refine w_iconst (p := 40) (v := nI 1) (pI pM_157 rfl) rfl rfl ?_
  refine w_iadd (p := 41) (pI pM_157 rfl) rfl ?_
  refine w_iconst (p := 42) (v := nI 0) (pI pM_157 rfl) rfl rfl ?_
  obtain ⟨s6, k⟩ := k
  refine s_iast (p := 43) (pI pM_157 rfl) rfl (by decide) (by decide) rfl s6 ?_
  refine w_aload_n (p := 44) (pI pM_157 rfl) rfl rfl ?_
  refine v_getR (p := 47) (kf := 8) (pI pM_157 rfl) rfl rfl rfl (by decide) (by decide) rfl rfl ?_
  refine w_aload_n (p := 48) (pI pM_157 rfl) rfl rfl ?_
  refine v_getI (p := 51) (kf := 36) (pI pM_157 rfl) rfl rfl rfl (by decide) (by decide) rfl rfl rfl ?_
  refine w_iconst (p := 52) (v := nI 2) (pI pM_157 rfl) rfl rfl ?_
  refine w_iadd (p := 53) (pI pM_157 rfl) rfl ?_
  refine w_iconst (p := 54) (v := nI 0) (pI pM_157 rfl) rfl rfl ?_
  obtain ⟨s7, k⟩ := k
  refine s_iast (p := 55) (pI pM_157 rfl) rfl (by decide) (by decide) rfl s7 ?_
  refine w_iconst (p := 56) (v := nI 0) (pI pM_157 rfl) rfl rfl ?_
  refine w_istore_n (p := 57) (pI pM_157 rfl) rfl rfl rfl ?_
  refine k (fun a9 A11 I12 => ∀ u10 : Value, bm_W (bm_M (d + 1)) 157 Q 57 [.ref 1681, u10, .int a9] [] (hp L A11 I12)) (fun a9 A11 I12 k => ?_) _
  intro u10
  refine w_iload_n (p := 58) (pI pM_157 rfl) rfl rfl ?_
  refine w_bipush (p := 60) (v := nI 6) (pI pM_157 rfl) rfl rfl ?_
  refine w_icmp_ge (p := 63) (q := 84) (pI pM_157 rfl) rfl rfl rfl (fun c => ?_) (fun c => ?_)
  · replace k := itn (Int32.not_lt.mpr c) k
    exact w_return (pI pM_157 rfl) rfl k
  · replace k := itp (Int32.not_le.mp c) k
    refine w_aload_n (p := 64) (pI pM_157 rfl) rfl rfl ?_
    refine v_getR (p := 67) (kf := 8) (pI pM_157 rfl) rfl rfl rfl (by decide) (by decide) rfl rfl ?_
    refine w_aload_n (p := 68) (pI pM_157 rfl) rfl rfl ?_
    refine v_getI (p := 71) (kf := 36) (pI pM_157 rfl) rfl rfl rfl (by decide) (by decide) rfl rfl rfl ?_
    refine w_iconst (p := 72) (v := nI 3) (pI pM_157 rfl) rfl rfl ?_
    refine w_iadd (p := 73) (pI pM_157 rfl) rfl ?_
    refine w_iload_n (p := 74) (pI pM_157 rfl) rfl rfl ?_
    refine w_iadd (p := 75) (pI pM_157 rfl) rfl ?_
    refine w_bipush (p := 77) (v := -100) (pI pM_157 rfl) rfl rfl ?_
    obtain ⟨s14, k⟩ := k
    refine s_iast (p := 78) (pI pM_157 rfl) rfl (by decide) (by decide) rfl s14 ?_
    refine w_iinc (p := 81) (v := (a9 + nI 1)) (pI pM_157 rfl) rfl rfl rfl rfl ?_
    refine w_goto (p := 57) (pI pM_157 rfl) rfl rfl ?_
    exact k _
set_option maxRecDepth 100000 in
set_option maxHeartbeats 4000000 in
theorem d156_begin {d L : Nat} {x : Int32} {y : Int32} {z : Int32} {A I : HA} {Q : bm_Q} (k : D156_begin x y z A I (fun A I => Q none (hp L A I))) : bm_M (d + 3) 156 [.ref 1681, .int x, .int y, .int z] (hp L A I) Q := by
  unfold D156_begin at k
  refine bw_enter rfl rfl rfl rfl ?_
  refine w_aload_n (p := 1) (pI pM_156 rfl) rfl rfl ?_
  refine v_getR (p := 4) (kf := 8) (pI pM_156 rfl) rfl rfl rfl (by decide) (by decide) rfl rfl ?_
  refine w_aload_n (p := 5) (pI pM_156 rfl) rfl rfl ?_
  refine v_getI (p := 8) (kf := 35) (pI pM_156 rfl) rfl rfl rfl (by decide) (by decide) rfl rfl rfl ?_
  refine w_iconst (p := 9) (v := nI 0) (pI pM_156 rfl) rfl rfl ?_
  refine w_iadd (p := 10) (pI pM_156 rfl) rfl ?_
  refine w_iconst (p := 11) (v := nI 0) (pI pM_156 rfl) rfl rfl ?_
  obtain ⟨s1, k⟩ := k
  refine s_iast (p := 12) (pI pM_156 rfl) rfl (by decide) (by decide) rfl s1 ?_
  refine w_aload_n (p := 13) (pI pM_156 rfl) rfl rfl ?_
  refine v_getR (p := 16) (kf := 8) (pI pM_156 rfl) rfl rfl rfl (by decide) (by decide) rfl rfl ?_
  refine w_aload_n (p := 17) (pI pM_156 rfl) rfl rfl ?_
  refine v_getI (p := 20) (kf := 35) (pI pM_156 rfl) rfl rfl rfl (by decide) (by decide) rfl rfl rfl ?_
  refine w_iconst (p := 21) (v := nI 1) (pI pM_156 rfl) rfl rfl ?_
  refine w_iadd (p := 22) (pI pM_156 rfl) rfl ?_
  refine w_iconst (p := 23) (v := nI 0) (pI pM_156 rfl) rfl rfl ?_
  obtain ⟨s2, k⟩ := k
  refine s_iast (p := 24) (pI pM_156 rfl) rfl (by decide) (by decide) rfl s2 ?_
  refine w_aload_n (p := 25) (pI pM_156 rfl) rfl rfl ?_
  refine v_getR (p := 28) (kf := 8) (pI pM_156 rfl) rfl rfl rfl (by decide) (by decide) rfl rfl ?_
  refine w_aload_n (p := 29) (pI pM_156 rfl) rfl rfl ?_
  refine v_getI (p := 32) (kf := 35) (pI pM_156 rfl) rfl rfl rfl (by decide) (by decide) rfl rfl rfl ?_
  refine w_iconst (p := 33) (v := nI 2) (pI pM_156 rfl) rfl rfl ?_
  refine w_iadd (p := 34) (pI pM_156 rfl) rfl ?_
  refine w_iconst (p := 35) (v := nI 0) (pI pM_156 rfl) rfl rfl ?_
  obtain ⟨s3, k⟩ := k
  refine s_iast (p := 36) (pI pM_156 rfl) rfl (by decide) (by decide) rfl s3 ?_
  refine w_aload_n (p := 37) (pI pM_156 rfl) rfl rfl ?_
  refine v_getR (p := 40) (kf := 8) (pI pM_156 rfl) rfl rfl rfl (by decide) (by decide) rfl rfl ?_
  refine w_aload_n (p := 41) (pI pM_156 rfl) rfl rfl ?_
  refine v_getI (p := 44) (kf := 35) (pI pM_156 rfl) rfl rfl rfl (by decide) (by decide) rfl rfl rfl ?_
  refine w_iconst (p := 45) (v := nI 3) (pI pM_156 rfl) rfl rfl ?_
  refine w_iadd (p := 46) (pI pM_156 rfl) rfl ?_
  refine w_iconst (p := 47) (v := -1) (pI pM_156 rfl) rfl rfl ?_
  obtain ⟨s4, k⟩ := k
  refine s_iast (p := 48) (pI pM_156 rfl) rfl (by decide) (by decide) rfl s4 ?_
  refine w_aload_n (p := 49) (pI pM_156 rfl) rfl rfl ?_
  refine v_getR (p := 52) (kf := 8) (pI pM_156 rfl) rfl rfl rfl (by decide) (by decide) rfl rfl ?_
  refine w_aload_n (p := 53) (pI pM_156 rfl) rfl rfl ?_
  refine v_getI (p := 56) (kf := 35) (pI pM_156 rfl) rfl rfl rfl (by decide) (by decide) rfl rfl rfl ?_
  refine w_iconst (p := 57) (v := nI 4) (pI pM_156 rfl) rfl rfl ?_
  refine w_iadd (p := 58) (pI pM_156 rfl) rfl ?_
  refine w_iconst (p := 59) (v := nI 0) (pI pM_156 rfl) rfl rfl ?_
  obtain ⟨s5, k⟩ := k
  refine s_iast (p := 60) (pI pM_156 rfl) rfl (by decide) (by decide) rfl s5 ?_
  refine w_aload_n (p := 61) (pI pM_156 rfl) rfl rfl ?_
  refine v_getR (p := 64) (kf := 8) (pI pM_156 rfl) rfl rfl rfl (by decide) (by decide) rfl rfl ?_
  refine w_aload_n (p := 65) (pI pM_156 rfl) rfl rfl ?_
  refine v_getI (p := 68) (kf := 35) (pI pM_156 rfl) rfl rfl rfl (by decide) (by decide) rfl rfl rfl ?_
  refine w_iconst (p := 69) (v := nI 5) (pI pM_156 rfl) rfl rfl ?_
  refine w_iadd (p := 70) (pI pM_156 rfl) rfl ?_
  refine w_iconst (p := 71) (v := nI 0) (pI pM_156 rfl) rfl rfl ?_
  obtain ⟨s6, k⟩ := k
  refine s_iast (p := 72) (pI pM_156 rfl) rfl (by decide) (by decide) rfl s6 ?_
  refine w_aload_n (p := 73) (pI pM_156 rfl) rfl rfl ?_
  refine w_iload_n (p := 74) (pI pM_156 rfl) rfl rfl ?_
  refine v_virtual (p := 77) (mj := 157) (pI pM_156 rfl) rfl rfl rfl rfl rfl rfl rfl rfl rfl rfl (by decide) (by decide) rfl ?_
  refine d157_enter (D157_enter_mono k (fun A7 I8 k => ?_))
  refine w_aload_n (p := 78) (pI pM_156 rfl) rfl rfl ?_
  refine v_getR (p := 81) (kf := 8) (pI pM_156 rfl) rfl rfl rfl (by decide) (by decide) rfl rfl ?_
  refine w_aload_n (p := 82) (pI pM_156 rfl) rfl rfl ?_
  refine v_getI (p := 85) (kf := 36) (pI pM_156 rfl) rfl rfl rfl (by decide) (by decide) rfl rfl rfl ?_
  refine w_iconst (p := 86) (v := nI 3) (pI pM_156 rfl) rfl rfl ?_
  refine w_iadd (p := 87) (pI pM_156 rfl) rfl ?_
  refine w_iload_n (p := 88) (pI pM_156 rfl) rfl rfl ?_
  obtain ⟨s9, k⟩ := k
  refine s_iast (p := 89) (pI pM_156 rfl) rfl (by decide) (by decide) rfl s9 ?_
  refine w_aload_n (p := 90) (pI pM_156 rfl) rfl rfl ?_
  refine v_getR (p := 93) (kf := 8) (pI pM_156 rfl) rfl rfl rfl (by decide) (by decide) rfl rfl ?_
  refine w_aload_n (p := 94) (pI pM_156 rfl) rfl rfl ?_
  refine v_getI (p := 97) (kf := 36) (pI pM_156 rfl) rfl rfl rfl (by decide) (by decide) rfl rfl rfl ?_
  refine w_iconst (p := 98) (v := nI 3) (pI pM_156 rfl) rfl rfl ?_
  refine w_iadd (p := 99) (pI pM_156 rfl) rfl ?_
  refine w_iconst (p := 100) (v := nI 1) (pI pM_156 rfl) rfl rfl ?_
  refine w_iadd (p := 101) (pI pM_156 rfl) rfl ?_
  refine w_iload_n (p := 102) (pI pM_156 rfl) rfl rfl ?_
  obtain ⟨s10, k⟩ := k
  refine s_iast (p := 103) (pI pM_156 rfl) rfl (by decide) (by decide) rfl s10 ?_
  exact w_return (pI pM_156 rfl) rfl k
set_option maxRecDepth 100000 in
set_option maxHeartbeats 4000000 in
theorem d161_timesAt {d L : Nat} {x : Int32} {A I : HA} {Q : bm_Q} (k : D161_timesAt x A I (fun v => Q (some (.int v)) (hp L A I))) : bm_M (d + 1) 161 [.ref 1681, .int x] (hp L A I) Q := by
  unfold D161_timesAt at k
  refine bw_enter rfl rfl rfl rfl ?_
  refine w_iload_n (p := 1) (pI pM_161 rfl) rfl rfl ?_
  refine w_bipush (p := 3) (v := nI 30) (pI pM_161 rfl) rfl rfl ?_
  refine w_iadd (p := 4) (pI pM_161 rfl) rfl ?_
  refine w_bipush (p := 6) (v := nI 21) (pI pM_161 rfl) rfl rfl ?_
  refine w_aload_n (p := 7) (pI pM_161 rfl) rfl rfl ?_
  refine v_getR (p := 10) (kf := 8) (pI pM_161 rfl) rfl rfl rfl (by decide) (by decide) rfl rfl ?_
  refine w_iload_n (p := 11) (pI pM_161 rfl) rfl rfl ?_
  refine w_iconst (p := 12) (v := nI 0) (pI pM_161 rfl) rfl rfl ?_
  refine w_iadd (p := 13) (pI pM_161 rfl) rfl ?_
  obtain ⟨s1, k⟩ := k
  refine v_iald (p := 14) (pI pM_161 rfl) rfl (by decide) rfl s1 rfl ?_
  refine w_iconst (p := 15) (v := nI 1) (pI pM_161 rfl) rfl rfl ?_
  refine w_isub (p := 16) (pI pM_161 rfl) rfl ?_
  refine w_imul (p := 17) (pI pM_161 rfl) rfl ?_
  refine w_iadd (p := 18) (pI pM_161 rfl) rfl ?_
  refine w_istore_n (p := 19) (pI pM_161 rfl) rfl rfl rfl ?_
  refine w_aload_n (p := 20) (pI pM_161 rfl) rfl rfl ?_
  refine v_getR (p := 23) (kf := 8) (pI pM_161 rfl) rfl rfl rfl (by decide) (by decide) rfl rfl ?_
  refine w_iload_n (p := 24) (pI pM_161 rfl) rfl rfl ?_
  refine w_iconst (p := 25) (v := nI 1) (pI pM_161 rfl) rfl rfl ?_
  refine w_iadd (p := 26) (pI pM_161 rfl) rfl ?_
  obtain ⟨s2, k⟩ := k
  refine v_iald (p := 27) (pI pM_161 rfl) rfl (by decide) rfl s2 rfl ?_
  refine w_bipush (p := 29) (v := nI 40) (pI pM_161 rfl) rfl rfl ?_
  refine w_icmp_ge (p := 32) (q := 60) (pI pM_161 rfl) rfl rfl rfl (fun c => ?_) (fun c => ?_)
  · replace k := itn (Int32.not_lt.mpr c) k
    refine w_iconst (p := 61) (v := nI 0) (pI pM_161 rfl) rfl rfl ?_
    exact w_ireturn (pI pM_161 rfl) rfl rfl rfl k
  · replace k := itp (Int32.not_le.mp c) k
    refine w_aload_n (p := 33) (pI pM_161 rfl) rfl rfl ?_
    refine v_getR (p := 36) (kf := 29) (pI pM_161 rfl) rfl rfl rfl (by decide) (by decide) rfl rfl ?_
    refine w_bipush (p := 38) (v := nI 40) (pI pM_161 rfl) rfl rfl ?_
    refine w_aload_n (p := 39) (pI pM_161 rfl) rfl rfl ?_
    refine v_getR (p := 42) (kf := 8) (pI pM_161 rfl) rfl rfl rfl (by decide) (by decide) rfl rfl ?_
    refine w_iload_n (p := 43) (pI pM_161 rfl) rfl rfl ?_
    refine w_iconst (p := 44) (v := nI 0) (pI pM_161 rfl) rfl rfl ?_
    refine w_iadd (p := 45) (pI pM_161 rfl) rfl ?_
    obtain ⟨s3, k⟩ := k
    refine v_iald (p := 46) (pI pM_161 rfl) rfl (by decide) rfl s3 rfl ?_
    refine w_imul (p := 47) (pI pM_161 rfl) rfl ?_
    refine w_aload_n (p := 48) (pI pM_161 rfl) rfl rfl ?_
    refine v_getR (p := 51) (kf := 8) (pI pM_161 rfl) rfl rfl rfl (by decide) (by decide) rfl rfl ?_
    refine w_iload_n (p := 52) (pI pM_161 rfl) rfl rfl ?_
    refine w_iconst (p := 53) (v := nI 1) (pI pM_161 rfl) rfl rfl ?_
    refine w_iadd (p := 54) (pI pM_161 rfl) rfl ?_
    obtain ⟨s4, k⟩ := k
    refine v_iald (p := 55) (pI pM_161 rfl) rfl (by decide) rfl s4 rfl ?_
    refine w_iadd (p := 56) (pI pM_161 rfl) rfl ?_
    obtain ⟨s5, k⟩ := k
    refine v_iald (p := 57) (pI pM_161 rfl) rfl (by decide) rfl s5 rfl ?_
    refine w_goto (p := 61) (pI pM_161 rfl) rfl rfl ?_
    exact w_ireturn (pI pM_161 rfl) rfl rfl rfl k
set_option maxRecDepth 100000 in
set_option maxHeartbeats 4000000 in
theorem d160_pick {d L : Nat} {A I : HA} {Q : bm_Q} (k : D160_pick A I (fun v A I => Q (some (.int v)) (hp L A I))) : bm_M (d + 2) 160 [.ref 1681] (hp L A I) Q := by
  unfold D160_pick at k
  refine bw_enter rfl rfl rfl rfl ?_
  refine w_aload_n (p := 1) (pI pM_160 rfl) rfl rfl ?_
  refine v_getI (p := 4) (kf := 17) (pI pM_160 rfl) rfl rfl rfl (by decide) (by decide) rfl rfl rfl ?_
  refine w_iconst (p := 5) (v := nI 1) (pI pM_160 rfl) rfl rfl ?_
  refine w_icmp_ne (p := 8) (q := 10) (pI pM_160 rfl) rfl rfl rfl (fun c => ?_) (fun c => ?_)
  · replace k := itn c k
    refine w_aload_n (p := 11) (pI pM_160 rfl) rfl rfl ?_
    refine v_getI (p := 14) (kf := 17) (pI pM_160 rfl) rfl rfl rfl (by decide) (by decide) rfl rfl rfl ?_
    refine w_iconst (p := 15) (v := nI 2) (pI pM_160 rfl) rfl rfl ?_
    refine w_icmp_ne (p := 18) (q := 45) (pI pM_160 rfl) rfl rfl rfl (fun c => ?_) (fun c => ?_)
    · replace k := itn c k
      refine w_iconst (p := 46) (v := nI 0) (pI pM_160 rfl) rfl rfl ?_
      refine w_istore_n (p := 47) (pI pM_160 rfl) rfl rfl rfl ?_
      refine w_iconst (p := 48) (v := nI 1) (pI pM_160 rfl) rfl rfl ?_
      refine w_istore_n (p := 49) (pI pM_160 rfl) rfl rfl rfl ?_
      refine k (fun a2 a3 => ∀ u4 u5 u6 : Value, bm_W (bm_M (d + 1)) 160 Q 49 [.ref 1681, .int a2, .int a3, u4, u5, u6] [] (hp L A I)) (fun a2 a3 k => ?_) _ _ _
      intro u4 u5 u6
      refine w_iload_n (p := 50) (pI pM_160 rfl) rfl rfl ?_
      refine w_aload_n (p := 51) (pI pM_160 rfl) rfl rfl ?_
      refine v_getI (p := 54) (kf := 21) (pI pM_160 rfl) rfl rfl rfl (by decide) (by decide) rfl rfl rfl ?_
      refine w_icmp_ge (p := 57) (q := 153) (pI pM_160 rfl) rfl rfl rfl (fun c => ?_) (fun c => ?_)
      · replace k := itn (Int32.not_lt.mpr c) k
        refine w_iload_n (p := 154) (pI pM_160 rfl) rfl rfl ?_
        exact w_ireturn (pI pM_160 rfl) rfl rfl rfl k
      · replace k := itp (Int32.not_le.mp c) k
        refine w_sipush (p := 60) (v := nI 520) (pI pM_160 rfl) rfl rfl ?_
        refine w_aload_n (p := 61) (pI pM_160 rfl) rfl rfl ?_
        refine v_getR (p := 64) (kf := 20) (pI pM_160 rfl) rfl rfl rfl (by decide) (by decide) rfl rfl ?_
        refine w_iload_n (p := 65) (pI pM_160 rfl) rfl rfl ?_
        obtain ⟨s8, k⟩ := k
        refine v_iald (p := 66) (pI pM_160 rfl) rfl (by decide) rfl s8 rfl ?_
        refine w_imul (p := 67) (pI pM_160 rfl) rfl ?_
        refine w_istore_n (p := 68) (pI pM_160 rfl) rfl rfl rfl ?_
        refine w_sipush (p := 71) (v := nI 520) (pI pM_160 rfl) rfl rfl ?_
        refine w_aload_n (p := 72) (pI pM_160 rfl) rfl rfl ?_
        refine v_getR (p := 75) (kf := 20) (pI pM_160 rfl) rfl rfl rfl (by decide) (by decide) rfl rfl ?_
        refine w_iload_n (p := 76) (pI pM_160 rfl) rfl rfl ?_
        obtain ⟨s9, k⟩ := k
        refine v_iald (p := 77) (pI pM_160 rfl) rfl (by decide) rfl s9 rfl ?_
        refine w_imul (p := 78) (pI pM_160 rfl) rfl ?_
        refine w_istore (p := 80) (pI pM_160 rfl) rfl rfl rfl ?_
        refine w_aload_n (p := 81) (pI pM_160 rfl) rfl rfl ?_
        refine v_getI (p := 84) (kf := 17) (pI pM_160 rfl) rfl rfl rfl (by decide) (by decide) rfl rfl rfl ?_
        refine w_if_ne (p := 87) (q := 115) (pI pM_160 rfl) rfl rfl rfl (fun c => ?_) (fun c => ?_)
        · replace k := itn c k
          refine w_aload_n (p := 116) (pI pM_160 rfl) rfl rfl ?_
          refine w_iload_n (p := 117) (pI pM_160 rfl) rfl rfl ?_
          refine v_virtual (p := 120) (mj := 161) (pI pM_160 rfl) rfl rfl rfl rfl rfl rfl rfl rfl rfl rfl (by decide) (by decide) rfl ?_
          refine d161_timesAt (D161_timesAt_mono k (fun v10 k => ?_))
          refine w_aload_n (p := 121) (pI pM_160 rfl) rfl rfl ?_
          refine w_iload (p := 123) (pI pM_160 rfl) rfl rfl ?_
          refine v_virtual (p := 126) (mj := 161) (pI pM_160 rfl) rfl rfl rfl rfl rfl rfl rfl rfl rfl rfl (by decide) (by decide) rfl ?_
          refine d161_timesAt (D161_timesAt_mono k (fun v11 k => ?_))
          refine w_icmp_ge (p := 129) (q := 133) (pI pM_160 rfl) rfl rfl rfl (fun c => ?_) (fun c => ?_)
          · replace k := itn (Int32.not_lt.mpr c) k
            refine w_iconst (p := 134) (v := nI 0) (pI pM_160 rfl) rfl rfl ?_
            refine w_istore (p := 136) (pI pM_160 rfl) rfl rfl rfl ?_
            refine w_iload (p := 138) (pI pM_160 rfl) rfl rfl ?_
            refine w_if_eq (p := 141) (q := 145) (pI pM_160 rfl) rfl rfl rfl (fun _ => ?_) (fun c => absurd (by decide) c)
            refine w_iload_n (p := 146) (pI pM_160 rfl) rfl rfl ?_
            refine w_istore_n (p := 147) (pI pM_160 rfl) rfl rfl rfl ?_
            refine w_iinc (p := 150) (v := (a3 + nI 1)) (pI pM_160 rfl) rfl rfl rfl rfl ?_
            refine w_goto (p := 49) (pI pM_160 rfl) rfl rfl ?_
            exact k _ _ _
          · replace k := itp (Int32.not_le.mp c) k
            refine w_iconst (p := 130) (v := nI 1) (pI pM_160 rfl) rfl rfl ?_
            refine w_goto (p := 134) (pI pM_160 rfl) rfl rfl ?_
            refine w_istore (p := 136) (pI pM_160 rfl) rfl rfl rfl ?_
            refine w_iload (p := 138) (pI pM_160 rfl) rfl rfl ?_
            refine w_if_eq (p := 141) (q := 145) (pI pM_160 rfl) rfl rfl rfl (fun c => absurd c (by decide)) (fun _ => ?_)
            refine w_iload_n (p := 142) (pI pM_160 rfl) rfl rfl ?_
            refine w_goto (p := 146) (pI pM_160 rfl) rfl rfl ?_
            refine w_istore_n (p := 147) (pI pM_160 rfl) rfl rfl rfl ?_
            refine w_iinc (p := 150) (v := (a3 + nI 1)) (pI pM_160 rfl) rfl rfl rfl rfl ?_
            refine w_goto (p := 49) (pI pM_160 rfl) rfl rfl ?_
            exact k _ _ _
        · replace k := itp (Decidable.not_not.mp c) k
          refine w_aload_n (p := 88) (pI pM_160 rfl) rfl rfl ?_
          refine v_getR (p := 91) (kf := 8) (pI pM_160 rfl) rfl rfl rfl (by decide) (by decide) rfl rfl ?_
          refine w_iload_n (p := 92) (pI pM_160 rfl) rfl rfl ?_
          refine w_iconst (p := 93) (v := nI 4) (pI pM_160 rfl) rfl rfl ?_
          refine w_iadd (p := 94) (pI pM_160 rfl) rfl ?_
          obtain ⟨s12, k⟩ := k
          refine v_iald (p := 95) (pI pM_160 rfl) rfl (by decide) rfl s12 rfl ?_
          refine w_aload_n (p := 96) (pI pM_160 rfl) rfl rfl ?_
          refine v_getR (p := 99) (kf := 8) (pI pM_160 rfl) rfl rfl rfl (by decide) (by decide) rfl rfl ?_
          refine w_iload (p := 101) (pI pM_160 rfl) rfl rfl ?_
          refine w_iconst (p := 102) (v := nI 4) (pI pM_160 rfl) rfl rfl ?_
          refine w_iadd (p := 103) (pI pM_160 rfl) rfl ?_
          obtain ⟨s13, k⟩ := k
          refine v_iald (p := 104) (pI pM_160 rfl) rfl (by decide) rfl s13 rfl ?_
          refine w_icmp_le (p := 107) (q := 111) (pI pM_160 rfl) rfl rfl rfl (fun c => ?_) (fun c => ?_)
          · replace k := itn (Int32.not_lt.mpr c) k
            refine w_iconst (p := 112) (v := nI 0) (pI pM_160 rfl) rfl rfl ?_
            refine w_goto (p := 134) (pI pM_160 rfl) rfl rfl ?_
            refine w_istore (p := 136) (pI pM_160 rfl) rfl rfl rfl ?_
            refine w_iload (p := 138) (pI pM_160 rfl) rfl rfl ?_
            refine w_if_eq (p := 141) (q := 145) (pI pM_160 rfl) rfl rfl rfl (fun _ => ?_) (fun c => absurd (by decide) c)
            refine w_iload_n (p := 146) (pI pM_160 rfl) rfl rfl ?_
            refine w_istore_n (p := 147) (pI pM_160 rfl) rfl rfl rfl ?_
            refine w_iinc (p := 150) (v := (a3 + nI 1)) (pI pM_160 rfl) rfl rfl rfl rfl ?_
            refine w_goto (p := 49) (pI pM_160 rfl) rfl rfl ?_
            exact k _ _ _
          · replace k := itp (Int32.not_le.mp c) k
            refine w_iconst (p := 108) (v := nI 1) (pI pM_160 rfl) rfl rfl ?_
            refine w_goto (p := 134) (pI pM_160 rfl) rfl rfl ?_
            refine w_istore (p := 136) (pI pM_160 rfl) rfl rfl rfl ?_
            refine w_iload (p := 138) (pI pM_160 rfl) rfl rfl ?_
            refine w_if_eq (p := 141) (q := 145) (pI pM_160 rfl) rfl rfl rfl (fun c => absurd c (by decide)) (fun _ => ?_)
            refine w_iload_n (p := 142) (pI pM_160 rfl) rfl rfl ?_
            refine w_goto (p := 146) (pI pM_160 rfl) rfl rfl ?_
            refine w_istore_n (p := 147) (pI pM_160 rfl) rfl rfl rfl ?_
            refine w_iinc (p := 150) (v := (a3 + nI 1)) (pI pM_160 rfl) rfl rfl rfl rfl ?_
            refine w_goto (p := 49) (pI pM_160 rfl) rfl rfl ?_
            exact k _ _ _
    · replace k := itp (Decidable.not_not.mp c) k
      refine w_aload_n (p := 19) (pI pM_160 rfl) rfl rfl ?_
      refine w_aload_n (p := 20) (pI pM_160 rfl) rfl rfl ?_
      refine v_getI (p := 23) (kf := 19) (pI pM_160 rfl) rfl rfl rfl (by decide) (by decide) rfl rfl rfl ?_
      refine w_ldc (p := 25) (v := nI 1664525) (pI pM_160 rfl) rfl rfl rfl ?_
      refine w_imul (p := 26) (pI pM_160 rfl) rfl ?_
      refine w_ldc (p := 28) (v := nI 1013904223) (pI pM_160 rfl) rfl rfl rfl ?_
      refine w_iadd (p := 29) (pI pM_160 rfl) rfl ?_
      refine s_putI (p := 32) (kf := 19) (pI pM_160 rfl) rfl rfl rfl (by decide) (by decide) rfl rfl rfl rfl rfl rfl ?_
      refine w_aload_n (p := 33) (pI pM_160 rfl) rfl rfl ?_
      refine v_getI (p := 36) (kf := 19) (pI pM_160 rfl) rfl rfl rfl (by decide) (by decide) rfl rfl rfl ?_
      refine w_bipush (p := 38) (v := nI 8) (pI pM_160 rfl) rfl rfl ?_
      refine w_iushr (p := 39) (pI pM_160 rfl) rfl ?_
      refine w_aload_n (p := 40) (pI pM_160 rfl) rfl rfl ?_
      refine v_getI (p := 43) (kf := 21) (pI pM_160 rfl) rfl rfl rfl (by decide) (by decide) rfl rfl rfl ?_
      obtain ⟨s14, k⟩ := k
      refine w_irem (p := 44) (pI pM_160 rfl) rfl s14 ?_
      exact w_ireturn (pI pM_160 rfl) rfl rfl rfl k
  · replace k := itp (Decidable.not_not.mp c) k
    refine w_iconst (p := 9) (v := nI 0) (pI pM_160 rfl) rfl rfl ?_
    exact w_ireturn (pI pM_160 rfl) rfl rfl rfl k
set_option maxRecDepth 100000 in
set_option maxHeartbeats 4000000 in
theorem d166_place {d L : Nat} {A I : HA} {Q : bm_Q} (k : D166_place A I (fun v => Q (some (.int v)) (hp L A I))) : bm_M (d + 1) 166 [.ref 1681] (hp L A I) Q := by
  unfold D166_place at k
  refine bw_enter rfl rfl rfl rfl ?_
  refine w_bipush (p := 2) (v := nI 100) (pI pM_166 rfl) rfl rfl ?_
  refine w_aload_n (p := 3) (pI pM_166 rfl) rfl rfl ?_
  refine v_getR (p := 6) (kf := 8) (pI pM_166 rfl) rfl rfl rfl (by decide) (by decide) rfl rfl ?_
  refine w_aload_n (p := 7) (pI pM_166 rfl) rfl rfl ?_
  refine v_getI (p := 10) (kf := 36) (pI pM_166 rfl) rfl rfl rfl (by decide) (by decide) rfl rfl rfl ?_
  refine w_iconst (p := 11) (v := nI 0) (pI pM_166 rfl) rfl rfl ?_
  refine w_iadd (p := 12) (pI pM_166 rfl) rfl ?_
  obtain ⟨s1, k⟩ := k
  refine v_iald (p := 13) (pI pM_166 rfl) rfl (by decide) rfl s1 rfl ?_
  refine w_imul (p := 14) (pI pM_166 rfl) rfl ?_
  refine w_aload_n (p := 15) (pI pM_166 rfl) rfl rfl ?_
  refine v_getR (p := 18) (kf := 8) (pI pM_166 rfl) rfl rfl rfl (by decide) (by decide) rfl rfl ?_
  refine w_aload_n (p := 19) (pI pM_166 rfl) rfl rfl ?_
  refine v_getI (p := 22) (kf := 36) (pI pM_166 rfl) rfl rfl rfl (by decide) (by decide) rfl rfl rfl ?_
  refine w_iconst (p := 23) (v := nI 1) (pI pM_166 rfl) rfl rfl ?_
  refine w_iadd (p := 24) (pI pM_166 rfl) rfl ?_
  obtain ⟨s2, k⟩ := k
  refine v_iald (p := 25) (pI pM_166 rfl) rfl (by decide) rfl s2 rfl ?_
  refine w_iadd (p := 26) (pI pM_166 rfl) rfl ?_
  exact w_ireturn (pI pM_166 rfl) rfl rfl rfl k
set_option maxRecDepth 100000 in
set_option maxHeartbeats 4000000 in
theorem d167_ends {d L : Nat} {x : Int32} {y : Int32} {z : Int32} {A I : HA} {Q : bm_Q} (k : D167_ends x y z A I (fun v A I => Q (some (.int v)) (hp L A I))) : bm_M (d + 1) 167 [.ref 1681, .int x, .int y, .int z] (hp L A I) Q := by
  unfold D167_ends at k
  refine bw_enter rfl rfl rfl rfl ?_
  refine w_aload_n (p := 1) (pI pM_167 rfl) rfl rfl ?_
  refine v_getR (p := 4) (kf := 8) (pI pM_167 rfl) rfl rfl rfl (by decide) (by decide) rfl rfl ?_
  refine w_aload_n (p := 5) (pI pM_167 rfl) rfl rfl ?_
  refine v_getI (p := 8) (kf := 35) (pI pM_167 rfl) rfl rfl rfl (by decide) (by decide) rfl rfl rfl ?_
  refine w_sipush (p := 11) (v := nI 514) (pI pM_167 rfl) rfl rfl ?_
  refine w_iadd (p := 12) (pI pM_167 rfl) rfl ?_
  refine w_iload_n (p := 13) (pI pM_167 rfl) rfl rfl ?_
  obtain ⟨s1, k⟩ := k
  refine s_iast (p := 14) (pI pM_167 rfl) rfl (by decide) (by decide) rfl s1 ?_
  refine w_aload_n (p := 15) (pI pM_167 rfl) rfl rfl ?_
  refine v_getR (p := 18) (kf := 8) (pI pM_167 rfl) rfl rfl rfl (by decide) (by decide) rfl rfl ?_
  refine w_aload_n (p := 19) (pI pM_167 rfl) rfl rfl ?_
  refine v_getI (p := 22) (kf := 35) (pI pM_167 rfl) rfl rfl rfl (by decide) (by decide) rfl rfl rfl ?_
  refine w_sipush (p := 25) (v := nI 515) (pI pM_167 rfl) rfl rfl ?_
  refine w_iadd (p := 26) (pI pM_167 rfl) rfl ?_
  refine w_iload_n (p := 27) (pI pM_167 rfl) rfl rfl ?_
  obtain ⟨s2, k⟩ := k
  refine s_iast (p := 28) (pI pM_167 rfl) rfl (by decide) (by decide) rfl s2 ?_
  refine w_aload_n (p := 29) (pI pM_167 rfl) rfl rfl ?_
  refine v_getR (p := 32) (kf := 8) (pI pM_167 rfl) rfl rfl rfl (by decide) (by decide) rfl rfl ?_
  refine w_aload_n (p := 33) (pI pM_167 rfl) rfl rfl ?_
  refine v_getI (p := 36) (kf := 35) (pI pM_167 rfl) rfl rfl rfl (by decide) (by decide) rfl rfl rfl ?_
  refine w_sipush (p := 39) (v := nI 516) (pI pM_167 rfl) rfl rfl ?_
  refine w_iadd (p := 40) (pI pM_167 rfl) rfl ?_
  refine w_iload_n (p := 41) (pI pM_167 rfl) rfl rfl ?_
  obtain ⟨s3, k⟩ := k
  refine s_iast (p := 42) (pI pM_167 rfl) rfl (by decide) (by decide) rfl s3 ?_
  refine w_iconst (p := 43) (v := nI 1) (pI pM_167 rfl) rfl rfl ?_
  exact w_ireturn (pI pM_167 rfl) rfl rfl rfl k
set_option maxRecDepth 100000 in
set_option maxHeartbeats 4000000 in
theorem d165_broken {d L : Nat} {A I : HA} {Q : bm_Q} (k : D165_broken A I (fun v A I => Q (some (.int v)) (hp L A I))) : bm_M (d + 2) 165 [.ref 1681] (hp L A I) Q := by
  unfold D165_broken at k
  refine bw_enter rfl rfl rfl rfl ?_
  refine w_aload_n (p := 1) (pI pM_165 rfl) rfl rfl ?_
  refine w_iconst (p := 2) (v := nI 5) (pI pM_165 rfl) rfl rfl ?_
  refine w_aload_n (p := 3) (pI pM_165 rfl) rfl rfl ?_
  refine v_virtual (p := 6) (mj := 166) (pI pM_165 rfl) rfl rfl rfl rfl rfl rfl rfl rfl rfl rfl (by decide) (by decide) rfl ?_
  refine d166_place (D166_place_mono k (fun v1 k => ?_))
  refine w_iconst (p := 7) (v := nI 0) (pI pM_165 rfl) rfl rfl ?_
  refine v_virtual (p := 10) (mj := 167) (pI pM_165 rfl) rfl rfl rfl rfl rfl rfl rfl rfl rfl rfl (by decide) (by decide) rfl ?_
  refine d167_ends (D167_ends_mono k (fun v2 A3 I4 k => ?_))
  exact w_ireturn (pI pM_165 rfl) rfl rfl rfl k
set_option maxRecDepth 100000 in
set_option maxHeartbeats 4000000 in
theorem d169_word {d L : Nat} {x : Int32} {A I : HA} {Q : bm_Q} (k : D169_word x (fun v => Q (some (.int v)) (hp L A I))) : bm_M (d + 1) 169 [.int x] (hp L A I) Q := by
  unfold D169_word at k
  refine bw_enter rfl rfl rfl rfl ?_
  refine w_iload_n (p := 1) (pI pM_169 rfl) rfl rfl ?_
  refine w_bipush (p := 3) (v := nI 24) (pI pM_169 rfl) rfl rfl ?_
  refine w_ishl (p := 4) (pI pM_169 rfl) rfl ?_
  refine w_bipush (p := 6) (v := nI 24) (pI pM_169 rfl) rfl rfl ?_
  refine w_ishr (p := 7) (pI pM_169 rfl) rfl ?_
  exact w_ireturn (pI pM_169 rfl) rfl rfl rfl k
set_option maxRecDepth 100000 in
set_option maxHeartbeats 4000000 in
theorem d168_node {d L : Nat} {x : Int32} {A I : HA} {Q : bm_Q} (k : D168_node x (fun v => Q (some (.int v)) (hp L A I))) : bm_M (d + 2) 168 [.int x] (hp L A I) Q := by
  unfold D168_node at k
  refine bw_enter rfl rfl rfl rfl ?_
  refine w_iload_n (p := 1) (pI pM_168 rfl) rfl rfl ?_
  refine w_static (p := 4) (mj := 169) (pI pM_168 rfl) rfl rfl rfl rfl rfl rfl rfl rfl rfl ?_
  refine d169_word (D169_word_mono k (fun v1 k => ?_))
  refine w_sipush (p := 7) (v := nI 128) (pI pM_168 rfl) rfl rfl ?_
  refine w_iadd (p := 8) (pI pM_168 rfl) rfl ?_
  exact w_ireturn (pI pM_168 rfl) rfl rfl rfl k
set_option maxRecDepth 100000 in
set_option maxHeartbeats 4000000 in
theorem d171_push {d L : Nat} {x : Int32} {A I : HA} {Q : bm_Q} (k : D171_push x A I (fun A I => Q none (hp L A I))) : bm_M (d + 1) 171 [.ref 1681, .int x] (hp L A I) Q := by
  unfold D171_push at k
  refine bw_enter rfl rfl rfl rfl ?_
  refine w_aload_n (p := 1) (pI pM_171 rfl) rfl rfl ?_
  refine v_getR (p := 4) (kf := 8) (pI pM_171 rfl) rfl rfl rfl (by decide) (by decide) rfl rfl ?_
  refine w_aload_n (p := 5) (pI pM_171 rfl) rfl rfl ?_
  refine v_getI (p := 8) (kf := 36) (pI pM_171 rfl) rfl rfl rfl (by decide) (by decide) rfl rfl rfl ?_
  refine w_bipush (p := 10) (v := nI 9) (pI pM_171 rfl) rfl rfl ?_
  refine w_iadd (p := 11) (pI pM_171 rfl) rfl ?_
  refine w_aload_n (p := 12) (pI pM_171 rfl) rfl rfl ?_
  refine v_getR (p := 15) (kf := 8) (pI pM_171 rfl) rfl rfl rfl (by decide) (by decide) rfl rfl ?_
  refine w_aload_n (p := 16) (pI pM_171 rfl) rfl rfl ?_
  refine v_getI (p := 19) (kf := 36) (pI pM_171 rfl) rfl rfl rfl (by decide) (by decide) rfl rfl rfl ?_
  refine w_iconst (p := 20) (v := nI 2) (pI pM_171 rfl) rfl rfl ?_
  refine w_iadd (p := 21) (pI pM_171 rfl) rfl ?_
  obtain ⟨s1, k⟩ := k
  refine v_iald (p := 22) (pI pM_171 rfl) rfl (by decide) rfl s1 rfl ?_
  refine w_iadd (p := 23) (pI pM_171 rfl) rfl ?_
  refine w_iload_n (p := 24) (pI pM_171 rfl) rfl rfl ?_
  obtain ⟨s2, k⟩ := k
  refine s_iast (p := 25) (pI pM_171 rfl) rfl (by decide) (by decide) rfl s2 ?_
  refine w_aload_n (p := 26) (pI pM_171 rfl) rfl rfl ?_
  refine v_getR (p := 29) (kf := 8) (pI pM_171 rfl) rfl rfl rfl (by decide) (by decide) rfl rfl ?_
  refine w_aload_n (p := 30) (pI pM_171 rfl) rfl rfl ?_
  refine v_getI (p := 33) (kf := 36) (pI pM_171 rfl) rfl rfl rfl (by decide) (by decide) rfl rfl rfl ?_
  refine w_iconst (p := 34) (v := nI 2) (pI pM_171 rfl) rfl rfl ?_
  refine w_iadd (p := 35) (pI pM_171 rfl) rfl ?_
  refine w_dup2 (p := 36) (pI pM_171 rfl) rfl rfl rfl ?_
  obtain ⟨s3, k⟩ := k
  refine v_iald (p := 37) (pI pM_171 rfl) rfl (by decide) rfl s3 rfl ?_
  refine w_iconst (p := 38) (v := nI 1) (pI pM_171 rfl) rfl rfl ?_
  refine w_iadd (p := 39) (pI pM_171 rfl) rfl ?_
  obtain ⟨s4, k⟩ := k
  refine s_iast (p := 40) (pI pM_171 rfl) rfl (by decide) (by decide) rfl s4 ?_
  exact w_return (pI pM_171 rfl) rfl k
set_option maxRecDepth 100000 in
set_option maxHeartbeats 4000000 in
theorem d170_next {d L : Nat} {x : Int32} {y : Int32} {A I : HA} {Q : bm_Q} (k : D170_next x y A I (fun v A I => Q (some (.int v)) (hp L A I))) : bm_M (d + 2) 170 [.ref 1681, .int x, .int y] (hp L A I) Q := by
  unfold D170_next at k
  refine bw_enter rfl rfl rfl rfl ?_
  refine w_aload_n (p := 1) (pI pM_170 rfl) rfl rfl ?_
  refine v_getR (p := 4) (kf := 8) (pI pM_170 rfl) rfl rfl rfl (by decide) (by decide) rfl rfl ?_
  refine w_aload_n (p := 5) (pI pM_170 rfl) rfl rfl ?_
  refine v_getI (p := 8) (kf := 36) (pI pM_170 rfl) rfl rfl rfl (by decide) (by decide) rfl rfl rfl ?_
  refine w_iconst (p := 9) (v := nI 2) (pI pM_170 rfl) rfl rfl ?_
  refine w_iadd (p := 10) (pI pM_170 rfl) rfl ?_
  refine w_dup2 (p := 11) (pI pM_170 rfl) rfl rfl rfl ?_
  obtain ⟨s1, k⟩ := k
  refine v_iald (p := 12) (pI pM_170 rfl) rfl (by decide) rfl s1 rfl ?_
  refine w_iload_n (p := 13) (pI pM_170 rfl) rfl rfl ?_
  refine w_isub (p := 14) (pI pM_170 rfl) rfl ?_
  obtain ⟨s2, k⟩ := k
  refine s_iast (p := 15) (pI pM_170 rfl) rfl (by decide) (by decide) rfl s2 ?_
  refine w_iload_n (p := 16) (pI pM_170 rfl) rfl rfl ?_
  refine w_bipush (p := 18) (v := -100) (pI pM_170 rfl) rfl rfl ?_
  refine w_icmp_eq (p := 21) (q := 26) (pI pM_170 rfl) rfl rfl rfl (fun c => ?_) (fun c => ?_)
  · replace k := itp c k
    refine w_aload_n (p := 27) (pI pM_170 rfl) rfl rfl ?_
    refine v_getR (p := 30) (kf := 8) (pI pM_170 rfl) rfl rfl rfl (by decide) (by decide) rfl rfl ?_
    refine w_aload_n (p := 31) (pI pM_170 rfl) rfl rfl ?_
    refine v_getI (p := 34) (kf := 36) (pI pM_170 rfl) rfl rfl rfl (by decide) (by decide) rfl rfl rfl ?_
    refine w_iconst (p := 35) (v := nI 1) (pI pM_170 rfl) rfl rfl ?_
    refine w_iadd (p := 36) (pI pM_170 rfl) rfl ?_
    refine w_dup2 (p := 37) (pI pM_170 rfl) rfl rfl rfl ?_
    obtain ⟨s3, k⟩ := k
    refine v_iald (p := 38) (pI pM_170 rfl) rfl (by decide) rfl s3 rfl ?_
    refine w_iconst (p := 39) (v := nI 1) (pI pM_170 rfl) rfl rfl ?_
    refine w_iadd (p := 40) (pI pM_170 rfl) rfl ?_
    obtain ⟨s4, k⟩ := k
    refine s_iast (p := 41) (pI pM_170 rfl) rfl (by decide) (by decide) rfl s4 ?_
    refine w_iconst (p := 42) (v := nI 0) (pI pM_170 rfl) rfl rfl ?_
    exact w_ireturn (pI pM_170 rfl) rfl rfl rfl k
  · replace k := itn c k
    refine w_aload_n (p := 22) (pI pM_170 rfl) rfl rfl ?_
    refine w_iload_n (p := 23) (pI pM_170 rfl) rfl rfl ?_
    refine v_virtual (p := 26) (mj := 171) (pI pM_170 rfl) rfl rfl rfl rfl rfl rfl rfl rfl rfl rfl (by decide) (by decide) rfl ?_
    refine d171_push (D171_push_mono k (fun A5 I6 k => ?_))
    refine w_aload_n (p := 27) (pI pM_170 rfl) rfl rfl ?_
    refine v_getR (p := 30) (kf := 8) (pI pM_170 rfl) rfl rfl rfl (by decide) (by decide) rfl rfl ?_
    refine w_aload_n (p := 31) (pI pM_170 rfl) rfl rfl ?_
    refine v_getI (p := 34) (kf := 36) (pI pM_170 rfl) rfl rfl rfl (by decide) (by decide) rfl rfl rfl ?_
    refine w_iconst (p := 35) (v := nI 1) (pI pM_170 rfl) rfl rfl ?_
    refine w_iadd (p := 36) (pI pM_170 rfl) rfl ?_
    refine w_dup2 (p := 37) (pI pM_170 rfl) rfl rfl rfl ?_
    obtain ⟨s7, k⟩ := k
    refine v_iald (p := 38) (pI pM_170 rfl) rfl (by decide) rfl s7 rfl ?_
    refine w_iconst (p := 39) (v := nI 1) (pI pM_170 rfl) rfl rfl ?_
    refine w_iadd (p := 40) (pI pM_170 rfl) rfl ?_
    obtain ⟨s8, k⟩ := k
    refine s_iast (p := 41) (pI pM_170 rfl) rfl (by decide) (by decide) rfl s8 ?_
    refine w_iconst (p := 42) (v := nI 0) (pI pM_170 rfl) rfl rfl ?_
    exact w_ireturn (pI pM_170 rfl) rfl rfl rfl k
set_option maxRecDepth 100000 in
set_option maxHeartbeats 4000000 in
theorem d172_top {d L : Nat} {x : Int32} {A I : HA} {Q : bm_Q} (k : D172_top x A I (fun v => Q (some (.int v)) (hp L A I))) : bm_M (d + 1) 172 [.ref 1681, .int x] (hp L A I) Q := by
  unfold D172_top at k
  refine bw_enter rfl rfl rfl rfl ?_
  refine w_aload_n (p := 1) (pI pM_172 rfl) rfl rfl ?_
  refine v_getR (p := 4) (kf := 8) (pI pM_172 rfl) rfl rfl rfl (by decide) (by decide) rfl rfl ?_
  refine w_aload_n (p := 5) (pI pM_172 rfl) rfl rfl ?_
  refine v_getI (p := 8) (kf := 36) (pI pM_172 rfl) rfl rfl rfl (by decide) (by decide) rfl rfl rfl ?_
  refine w_bipush (p := 10) (v := nI 9) (pI pM_172 rfl) rfl rfl ?_
  refine w_iadd (p := 11) (pI pM_172 rfl) rfl ?_
  refine w_aload_n (p := 12) (pI pM_172 rfl) rfl rfl ?_
  refine v_getR (p := 15) (kf := 8) (pI pM_172 rfl) rfl rfl rfl (by decide) (by decide) rfl rfl ?_
  refine w_aload_n (p := 16) (pI pM_172 rfl) rfl rfl ?_
  refine v_getI (p := 19) (kf := 36) (pI pM_172 rfl) rfl rfl rfl (by decide) (by decide) rfl rfl rfl ?_
  refine w_iconst (p := 20) (v := nI 2) (pI pM_172 rfl) rfl rfl ?_
  refine w_iadd (p := 21) (pI pM_172 rfl) rfl ?_
  obtain ⟨s1, k⟩ := k
  refine v_iald (p := 22) (pI pM_172 rfl) rfl (by decide) rfl s1 rfl ?_
  refine w_iadd (p := 23) (pI pM_172 rfl) rfl ?_
  refine w_iconst (p := 24) (v := nI 1) (pI pM_172 rfl) rfl rfl ?_
  refine w_isub (p := 25) (pI pM_172 rfl) rfl ?_
  refine w_iload_n (p := 26) (pI pM_172 rfl) rfl rfl ?_
  refine w_isub (p := 27) (pI pM_172 rfl) rfl ?_
  obtain ⟨s2, k⟩ := k
  refine v_iald (p := 28) (pI pM_172 rfl) rfl (by decide) rfl s2 rfl ?_
  exact w_ireturn (pI pM_172 rfl) rfl rfl rfl k
set_option maxRecDepth 100000 in
set_option maxHeartbeats 4000000 in
theorem d164_moves {d L : Nat} {x : Int32} {y : Int32} {z : Int32} {A I : HA} {Q : bm_Q} (k : D164_moves x y z A I (fun v A I => Q (some (.int v)) (hp L A I))) : bm_M (d + 3) 164 [.ref 1681, .int x, .int y, .int z] (hp L A I) Q := by
  unfold D164_moves at k
  refine bw_enter rfl rfl rfl rfl ?_
  refine w_iload_n (p := 1) (pI pM_164 rfl) rfl rfl ?_
  by_cases c1_0 : x = nI 0
  · replace k := itp c1_0 k
    refine w_table (p := 36) (off := 35) (pI pM_164 rfl) (sw_at c1_0 (by decide)) rfl rfl ?_
    refine w_iload_n (p := 37) (pI pM_164 rfl) rfl rfl ?_
    refine w_bipush (p := 39) (v := nI 12) (pI pM_164 rfl) rfl rfl ?_
    refine w_icmp_ne (p := 42) (q := 49) (pI pM_164 rfl) rfl rfl rfl (fun c => ?_) (fun c => ?_)
    · replace k := itn c k
      refine w_aload_n (p := 50) (pI pM_164 rfl) rfl rfl ?_
      refine w_iconst (p := 51) (v := nI 0) (pI pM_164 rfl) rfl rfl ?_
      refine w_iload_n (p := 52) (pI pM_164 rfl) rfl rfl ?_
      refine w_static (p := 55) (mj := 168) (pI pM_164 rfl) rfl rfl rfl rfl rfl rfl rfl rfl rfl ?_
      refine d168_node (D168_node_mono k (fun v1 k => ?_))
      refine v_virtual (p := 58) (mj := 170) (pI pM_164 rfl) rfl rfl rfl rfl rfl rfl rfl rfl rfl rfl (by decide) (by decide) rfl ?_
      refine d170_next (D170_next_mono k (fun v2 A3 I4 k => ?_))
      exact w_ireturn (pI pM_164 rfl) rfl rfl rfl k
    · replace k := itp (Decidable.not_not.mp c) k
      refine w_aload_n (p := 43) (pI pM_164 rfl) rfl rfl ?_
      refine v_virtual (p := 46) (mj := 165) (pI pM_164 rfl) rfl rfl rfl rfl rfl rfl rfl rfl rfl rfl (by decide) (by decide) rfl ?_
      refine d165_broken (D165_broken_mono k (fun v5 A6 I7 k => ?_))
      refine w_goto (p := 58) (pI pM_164 rfl) rfl rfl ?_
      exact w_ireturn (pI pM_164 rfl) rfl rfl rfl k
  · replace k := itn c1_0 k
    by_cases c1_1 : x = nI 1
    · replace k := itp c1_1 k
      refine w_table (p := 59) (off := 58) (pI pM_164 rfl) (sw_at c1_1 (by decide)) rfl rfl ?_
      refine w_iload_n (p := 60) (pI pM_164 rfl) rfl rfl ?_
      refine w_bipush (p := 62) (v := nI 12) (pI pM_164 rfl) rfl rfl ?_
      refine w_icmp_eq (p := 65) (q := 83) (pI pM_164 rfl) rfl rfl rfl (fun c => ?_) (fun c => ?_)
      · replace k := itp c k
        refine w_aload_n (p := 84) (pI pM_164 rfl) rfl rfl ?_
        refine v_virtual (p := 87) (mj := 165) (pI pM_164 rfl) rfl rfl rfl rfl rfl rfl rfl rfl rfl rfl (by decide) (by decide) rfl ?_
        refine d165_broken (D165_broken_mono k (fun v8 A9 I10 k => ?_))
        refine w_goto (p := 108) (pI pM_164 rfl) rfl rfl ?_
        exact w_ireturn (pI pM_164 rfl) rfl rfl rfl k
      · replace k := itn c k
        refine w_aload_n (p := 66) (pI pM_164 rfl) rfl rfl ?_
        refine v_getR (p := 69) (kf := 8) (pI pM_164 rfl) rfl rfl rfl (by decide) (by decide) rfl rfl ?_
        refine w_aload_n (p := 70) (pI pM_164 rfl) rfl rfl ?_
        refine v_getI (p := 73) (kf := 36) (pI pM_164 rfl) rfl rfl rfl (by decide) (by decide) rfl rfl rfl ?_
        refine w_iconst (p := 74) (v := nI 3) (pI pM_164 rfl) rfl rfl ?_
        refine w_iadd (p := 75) (pI pM_164 rfl) rfl ?_
        refine w_iload_n (p := 76) (pI pM_164 rfl) rfl rfl ?_
        refine w_iadd (p := 77) (pI pM_164 rfl) rfl ?_
        obtain ⟨s11, k⟩ := k
        refine v_iald (p := 78) (pI pM_164 rfl) rfl (by decide) rfl s11 rfl ?_
        refine w_bipush (p := 80) (v := -100) (pI pM_164 rfl) rfl rfl ?_
        refine w_icmp_ne (p := 83) (q := 90) (pI pM_164 rfl) rfl rfl rfl (fun c => ?_) (fun c => ?_)
        · replace k := itn c k
          refine w_aload_n (p := 91) (pI pM_164 rfl) rfl rfl ?_
          refine w_iconst (p := 92) (v := nI 0) (pI pM_164 rfl) rfl rfl ?_
          refine w_aload_n (p := 93) (pI pM_164 rfl) rfl rfl ?_
          refine v_getR (p := 96) (kf := 8) (pI pM_164 rfl) rfl rfl rfl (by decide) (by decide) rfl rfl ?_
          refine w_aload_n (p := 97) (pI pM_164 rfl) rfl rfl ?_
          refine v_getI (p := 100) (kf := 36) (pI pM_164 rfl) rfl rfl rfl (by decide) (by decide) rfl rfl rfl ?_
          refine w_iconst (p := 101) (v := nI 3) (pI pM_164 rfl) rfl rfl ?_
          refine w_iadd (p := 102) (pI pM_164 rfl) rfl ?_
          refine w_iload_n (p := 103) (pI pM_164 rfl) rfl rfl ?_
          refine w_iadd (p := 104) (pI pM_164 rfl) rfl ?_
          obtain ⟨s12, k⟩ := k
          refine v_iald (p := 105) (pI pM_164 rfl) rfl (by decide) rfl s12 rfl ?_
          refine v_virtual (p := 108) (mj := 170) (pI pM_164 rfl) rfl rfl rfl rfl rfl rfl rfl rfl rfl rfl (by decide) (by decide) rfl ?_
          refine d170_next (D170_next_mono k (fun v13 A14 I15 k => ?_))
          exact w_ireturn (pI pM_164 rfl) rfl rfl rfl k
        · replace k := itp (Decidable.not_not.mp c) k
          refine w_aload_n (p := 84) (pI pM_164 rfl) rfl rfl ?_
          refine v_virtual (p := 87) (mj := 165) (pI pM_164 rfl) rfl rfl rfl rfl rfl rfl rfl rfl rfl rfl (by decide) (by decide) rfl ?_
          refine d165_broken (D165_broken_mono k (fun v16 A17 I18 k => ?_))
          refine w_goto (p := 108) (pI pM_164 rfl) rfl rfl ?_
          exact w_ireturn (pI pM_164 rfl) rfl rfl rfl k
    · replace k := itn c1_1 k
      by_cases c1_2 : x = nI 2
      · replace k := itp c1_2 k
        refine w_table (p := 109) (off := 108) (pI pM_164 rfl) (sw_at c1_2 (by decide)) rfl rfl ?_
        refine w_iload_n (p := 110) (pI pM_164 rfl) rfl rfl ?_
        refine w_iconst (p := 111) (v := nI 1) (pI pM_164 rfl) rfl rfl ?_
        refine w_icmp_ge (p := 114) (q := 119) (pI pM_164 rfl) rfl rfl rfl (fun c => ?_) (fun c => ?_)
        · replace k := itn (Int32.not_lt.mpr c) k
          refine w_aload_n (p := 120) (pI pM_164 rfl) rfl rfl ?_
          refine v_getR (p := 123) (kf := 8) (pI pM_164 rfl) rfl rfl rfl (by decide) (by decide) rfl rfl ?_
          refine w_aload_n (p := 124) (pI pM_164 rfl) rfl rfl ?_
          refine v_getI (p := 127) (kf := 36) (pI pM_164 rfl) rfl rfl rfl (by decide) (by decide) rfl rfl rfl ?_
          refine w_iconst (p := 128) (v := nI 3) (pI pM_164 rfl) rfl rfl ?_
          refine w_iadd (p := 129) (pI pM_164 rfl) rfl ?_
          refine w_iload_n (p := 130) (pI pM_164 rfl) rfl rfl ?_
          refine w_iadd (p := 131) (pI pM_164 rfl) rfl ?_
          refine w_aload_n (p := 132) (pI pM_164 rfl) rfl rfl ?_
          refine w_iconst (p := 133) (v := nI 0) (pI pM_164 rfl) rfl rfl ?_
          refine v_virtual (p := 136) (mj := 172) (pI pM_164 rfl) rfl rfl rfl rfl rfl rfl rfl rfl rfl rfl (by decide) (by decide) rfl ?_
          refine d172_top (D172_top_mono k (fun v19 k => ?_))
          obtain ⟨s20, k⟩ := k
          refine s_iast (p := 137) (pI pM_164 rfl) rfl (by decide) (by decide) rfl s20 ?_
          refine w_aload_n (p := 138) (pI pM_164 rfl) rfl rfl ?_
          refine w_iconst (p := 139) (v := nI 1) (pI pM_164 rfl) rfl rfl ?_
          refine w_bipush (p := 141) (v := -100) (pI pM_164 rfl) rfl rfl ?_
          refine v_virtual (p := 144) (mj := 170) (pI pM_164 rfl) rfl rfl rfl rfl rfl rfl rfl rfl rfl rfl (by decide) (by decide) rfl ?_
          refine d170_next (D170_next_mono k (fun v21 A22 I23 k => ?_))
          exact w_ireturn (pI pM_164 rfl) rfl rfl rfl k
        · replace k := itp (Int32.not_le.mp c) k
          refine w_aload_n (p := 115) (pI pM_164 rfl) rfl rfl ?_
          refine v_virtual (p := 118) (mj := 165) (pI pM_164 rfl) rfl rfl rfl rfl rfl rfl rfl rfl rfl rfl (by decide) (by decide) rfl ?_
          refine d165_broken (D165_broken_mono k (fun v24 A25 I26 k => ?_))
          exact w_ireturn (pI pM_164 rfl) rfl rfl rfl k
      · replace k := itn c1_2 k
        by_cases c1_3 : x = nI 3
        · replace k := itp c1_3 k
          refine w_table (p := 145) (off := 144) (pI pM_164 rfl) (sw_at c1_3 (by decide)) rfl rfl ?_
          refine w_iload_n (p := 146) (pI pM_164 rfl) rfl rfl ?_
          refine w_iconst (p := 147) (v := nI 1) (pI pM_164 rfl) rfl rfl ?_
          refine w_icmp_ge (p := 150) (q := 157) (pI pM_164 rfl) rfl rfl rfl (fun c => ?_) (fun c => ?_)
          · replace k := itn (Int32.not_lt.mpr c) k
            refine w_aload_n (p := 158) (pI pM_164 rfl) rfl rfl ?_
            refine w_iconst (p := 159) (v := nI 1) (pI pM_164 rfl) rfl rfl ?_
            refine w_bipush (p := 161) (v := -100) (pI pM_164 rfl) rfl rfl ?_
            refine v_virtual (p := 164) (mj := 170) (pI pM_164 rfl) rfl rfl rfl rfl rfl rfl rfl rfl rfl rfl (by decide) (by decide) rfl ?_
            refine d170_next (D170_next_mono k (fun v27 A28 I29 k => ?_))
            exact w_ireturn (pI pM_164 rfl) rfl rfl rfl k
          · replace k := itp (Int32.not_le.mp c) k
            refine w_aload_n (p := 151) (pI pM_164 rfl) rfl rfl ?_
            refine v_virtual (p := 154) (mj := 165) (pI pM_164 rfl) rfl rfl rfl rfl rfl rfl rfl rfl rfl rfl (by decide) (by decide) rfl ?_
            refine d165_broken (D165_broken_mono k (fun v30 A31 I32 k => ?_))
            refine w_goto (p := 164) (pI pM_164 rfl) rfl rfl ?_
            exact w_ireturn (pI pM_164 rfl) rfl rfl rfl k
        · replace k := itn c1_3 k
          by_cases c1_4 : x = nI 4
          · replace k := itp c1_4 k
            refine w_table (p := 165) (off := 164) (pI pM_164 rfl) (sw_at c1_4 (by decide)) rfl rfl ?_
            refine w_iload_n (p := 166) (pI pM_164 rfl) rfl rfl ?_
            refine w_iconst (p := 167) (v := nI 1) (pI pM_164 rfl) rfl rfl ?_
            refine w_icmp_lt (p := 170) (q := 176) (pI pM_164 rfl) rfl rfl rfl (fun c => ?_) (fun c => ?_)
            · replace k := itp c k
              refine w_aload_n (p := 177) (pI pM_164 rfl) rfl rfl ?_
              refine v_virtual (p := 180) (mj := 165) (pI pM_164 rfl) rfl rfl rfl rfl rfl rfl rfl rfl rfl rfl (by decide) (by decide) rfl ?_
              refine d165_broken (D165_broken_mono k (fun v33 A34 I35 k => ?_))
              refine w_goto (p := 193) (pI pM_164 rfl) rfl rfl ?_
              exact w_ireturn (pI pM_164 rfl) rfl rfl rfl k
            · replace k := itn c k
              refine w_iload_n (p := 171) (pI pM_164 rfl) rfl rfl ?_
              refine w_bipush (p := 173) (v := nI 12) (pI pM_164 rfl) rfl rfl ?_
              refine w_icmp_ne (p := 176) (q := 183) (pI pM_164 rfl) rfl rfl rfl (fun c => ?_) (fun c => ?_)
              · replace k := itn c k
                refine w_aload_n (p := 184) (pI pM_164 rfl) rfl rfl ?_
                refine w_iconst (p := 185) (v := nI 0) (pI pM_164 rfl) rfl rfl ?_
                refine w_aload_n (p := 186) (pI pM_164 rfl) rfl rfl ?_
                refine w_iconst (p := 187) (v := nI 0) (pI pM_164 rfl) rfl rfl ?_
                refine v_virtual (p := 190) (mj := 172) (pI pM_164 rfl) rfl rfl rfl rfl rfl rfl rfl rfl rfl rfl (by decide) (by decide) rfl ?_
                refine d172_top (D172_top_mono k (fun v36 k => ?_))
                refine v_virtual (p := 193) (mj := 170) (pI pM_164 rfl) rfl rfl rfl rfl rfl rfl rfl rfl rfl rfl (by decide) (by decide) rfl ?_
                refine d170_next (D170_next_mono k (fun v37 A38 I39 k => ?_))
                exact w_ireturn (pI pM_164 rfl) rfl rfl rfl k
              · replace k := itp (Decidable.not_not.mp c) k
                refine w_aload_n (p := 177) (pI pM_164 rfl) rfl rfl ?_
                refine v_virtual (p := 180) (mj := 165) (pI pM_164 rfl) rfl rfl rfl rfl rfl rfl rfl rfl rfl rfl (by decide) (by decide) rfl ?_
                refine d165_broken (D165_broken_mono k (fun v40 A41 I42 k => ?_))
                refine w_goto (p := 193) (pI pM_164 rfl) rfl rfl ?_
                exact w_ireturn (pI pM_164 rfl) rfl rfl rfl k
          · replace k := itn c1_4 k
            refine w_table (p := 194) (off := 193) (pI pM_164 rfl) (by have e0 := neT 0 (by decide) c1_0; have e1 := neT 1 (by decide) c1_1; have e2 := neT 2 (by decide) c1_2; have e3 := neT 3 (by decide) c1_3; have e4 := neT 4 (by decide) c1_4; exact sw_df (fun h1 h2 => by omega)) rfl rfl ?_
            refine w_iload_n (p := 195) (pI pM_164 rfl) rfl rfl ?_
            refine w_iconst (p := 196) (v := nI 2) (pI pM_164 rfl) rfl rfl ?_
            refine w_icmp_ge (p := 199) (q := 204) (pI pM_164 rfl) rfl rfl rfl (fun c => ?_) (fun c => ?_)
            · replace k := itn (Int32.not_lt.mpr c) k
              refine w_aload_n (p := 205) (pI pM_164 rfl) rfl rfl ?_
              refine w_iconst (p := 206) (v := nI 0) (pI pM_164 rfl) rfl rfl ?_
              refine v_virtual (p := 209) (mj := 172) (pI pM_164 rfl) rfl rfl rfl rfl rfl rfl rfl rfl rfl rfl (by decide) (by decide) rfl ?_
              refine d172_top (D172_top_mono k (fun v43 k => ?_))
              refine w_istore (p := 211) (pI pM_164 rfl) rfl rfl rfl ?_
              refine w_aload_n (p := 212) (pI pM_164 rfl) rfl rfl ?_
              refine w_iconst (p := 213) (v := nI 1) (pI pM_164 rfl) rfl rfl ?_
              refine v_virtual (p := 216) (mj := 172) (pI pM_164 rfl) rfl rfl rfl rfl rfl rfl rfl rfl rfl rfl (by decide) (by decide) rfl ?_
              refine d172_top (D172_top_mono k (fun v44 k => ?_))
              refine w_istore (p := 218) (pI pM_164 rfl) rfl rfl rfl ?_
              refine w_aload_n (p := 219) (pI pM_164 rfl) rfl rfl ?_
              refine v_getR (p := 222) (kf := 8) (pI pM_164 rfl) rfl rfl rfl (by decide) (by decide) rfl rfl ?_
              refine w_aload_n (p := 223) (pI pM_164 rfl) rfl rfl ?_
              refine v_getI (p := 226) (kf := 36) (pI pM_164 rfl) rfl rfl rfl (by decide) (by decide) rfl rfl rfl ?_
              refine w_bipush (p := 228) (v := nI 9) (pI pM_164 rfl) rfl rfl ?_
              refine w_iadd (p := 229) (pI pM_164 rfl) rfl ?_
              refine w_iload_n (p := 230) (pI pM_164 rfl) rfl rfl ?_
              refine w_iadd (p := 231) (pI pM_164 rfl) rfl ?_
              refine w_iconst (p := 232) (v := nI 2) (pI pM_164 rfl) rfl rfl ?_
              refine w_isub (p := 233) (pI pM_164 rfl) rfl ?_
              refine w_iload (p := 235) (pI pM_164 rfl) rfl rfl ?_
              obtain ⟨s45, k⟩ := k
              refine s_iast (p := 236) (pI pM_164 rfl) rfl (by decide) (by decide) rfl s45 ?_
              refine w_aload_n (p := 237) (pI pM_164 rfl) rfl rfl ?_
              refine v_getR (p := 240) (kf := 8) (pI pM_164 rfl) rfl rfl rfl (by decide) (by decide) rfl rfl ?_
              refine w_aload_n (p := 241) (pI pM_164 rfl) rfl rfl ?_
              refine v_getI (p := 244) (kf := 36) (pI pM_164 rfl) rfl rfl rfl (by decide) (by decide) rfl rfl rfl ?_
              refine w_bipush (p := 246) (v := nI 9) (pI pM_164 rfl) rfl rfl ?_
              refine w_iadd (p := 247) (pI pM_164 rfl) rfl ?_
              refine w_iload_n (p := 248) (pI pM_164 rfl) rfl rfl ?_
              refine w_iadd (p := 249) (pI pM_164 rfl) rfl ?_
              refine w_iconst (p := 250) (v := nI 1) (pI pM_164 rfl) rfl rfl ?_
              refine w_isub (p := 251) (pI pM_164 rfl) rfl ?_
              refine w_iload (p := 253) (pI pM_164 rfl) rfl rfl ?_
              obtain ⟨s46, k⟩ := k
              refine s_iast (p := 254) (pI pM_164 rfl) rfl (by decide) (by decide) rfl s46 ?_
              refine w_aload_n (p := 255) (pI pM_164 rfl) rfl rfl ?_
              refine w_iconst (p := 256) (v := nI 0) (pI pM_164 rfl) rfl rfl ?_
              refine w_bipush (p := 258) (v := -100) (pI pM_164 rfl) rfl rfl ?_
              refine v_virtual (p := 261) (mj := 170) (pI pM_164 rfl) rfl rfl rfl rfl rfl rfl rfl rfl rfl rfl (by decide) (by decide) rfl ?_
              refine d170_next (D170_next_mono k (fun v47 A48 I49 k => ?_))
              exact w_ireturn (pI pM_164 rfl) rfl rfl rfl k
            · replace k := itp (Int32.not_le.mp c) k
              refine w_aload_n (p := 200) (pI pM_164 rfl) rfl rfl ?_
              refine v_virtual (p := 203) (mj := 165) (pI pM_164 rfl) rfl rfl rfl rfl rfl rfl rfl rfl rfl rfl (by decide) (by decide) rfl ?_
              refine d165_broken (D165_broken_mono k (fun v50 A51 I52 k => ?_))
              exact w_ireturn (pI pM_164 rfl) rfl rfl rfl k
set_option maxRecDepth 100000 in
set_option maxHeartbeats 4000000 in
theorem d174_isWord {d L : Nat} {x : Int32} {A I : HA} {Q : bm_Q} (k : D174_isWord x A I (fun v => Q (some (.int v)) (hp L A I))) : bm_M (d + 2) 174 [.ref 1681, .int x] (hp L A I) Q := by
  unfold D174_isWord at k
  refine bw_enter rfl rfl rfl rfl ?_
  refine w_aload_n (p := 1) (pI pM_174 rfl) rfl rfl ?_
  refine w_iload_n (p := 2) (pI pM_174 rfl) rfl rfl ?_
  refine v_virtual (p := 5) (mj := 172) (pI pM_174 rfl) rfl rfl rfl rfl rfl rfl rfl rfl rfl rfl (by decide) (by decide) rfl ?_
  refine d172_top (D172_top_mono k (fun v1 k => ?_))
  refine w_if_lt (p := 8) (q := 12) (pI pM_174 rfl) rfl rfl rfl (fun c => ?_) (fun c => ?_)
  · replace k := itp c k
    refine w_iconst (p := 13) (v := nI 0) (pI pM_174 rfl) rfl rfl ?_
    exact w_ireturn (pI pM_174 rfl) rfl rfl rfl k
  · replace k := itn c k
    refine w_iconst (p := 9) (v := nI 1) (pI pM_174 rfl) rfl rfl ?_
    refine w_goto (p := 13) (pI pM_174 rfl) rfl rfl ?_
    exact w_ireturn (pI pM_174 rfl) rfl rfl rfl k
set_option maxRecDepth 100000 in
set_option maxHeartbeats 4000000 in
theorem d177_isNumber {d L : Nat} {x : Int32} {A I : HA} {Q : bm_Q} (k : D177_isNumber x (fun v => Q (some (.int v)) (hp L A I))) : bm_M (d + 1) 177 [.int x] (hp L A I) Q := by
  unfold D177_isNumber at k
  refine bw_enter rfl rfl rfl rfl ?_
  refine w_iload_n (p := 1) (pI pM_177 rfl) rfl rfl ?_
  refine w_if_lt (p := 4) (q := 15) (pI pM_177 rfl) rfl rfl rfl (fun c => ?_) (fun c => ?_)
  · replace k := itp c k
    refine w_iconst (p := 16) (v := nI 0) (pI pM_177 rfl) rfl rfl ?_
    exact w_ireturn (pI pM_177 rfl) rfl rfl rfl k
  · replace k := itn c k
    refine w_iload_n (p := 5) (pI pM_177 rfl) rfl rfl ?_
    refine w_sipush (p := 8) (v := nI 256) (pI pM_177 rfl) rfl rfl ?_
    refine w_icmp_ge (p := 11) (q := 15) (pI pM_177 rfl) rfl rfl rfl (fun c => ?_) (fun c => ?_)
    · replace k := itn (Int32.not_lt.mpr c) k
      refine w_iconst (p := 16) (v := nI 0) (pI pM_177 rfl) rfl rfl ?_
      exact w_ireturn (pI pM_177 rfl) rfl rfl rfl k
    · replace k := itp (Int32.not_le.mp c) k
      refine w_iconst (p := 12) (v := nI 1) (pI pM_177 rfl) rfl rfl ?_
      refine w_goto (p := 16) (pI pM_177 rfl) rfl rfl ?_
      exact w_ireturn (pI pM_177 rfl) rfl rfl rfl k
set_option maxRecDepth 100000 in
set_option maxHeartbeats 4000000 in
theorem d178_number {d L : Nat} {x : Int32} {A I : HA} {Q : bm_Q} (k : D178_number x (fun v => Q (some (.int v)) (hp L A I))) : bm_M (d + 1) 178 [.int x] (hp L A I) Q := by
  unfold D178_number at k
  refine bw_enter rfl rfl rfl rfl ?_
  refine w_iload_n (p := 1) (pI pM_178 rfl) rfl rfl ?_
  refine w_sipush (p := 4) (v := nI 128) (pI pM_178 rfl) rfl rfl ?_
  refine w_isub (p := 5) (pI pM_178 rfl) rfl ?_
  exact w_ireturn (pI pM_178 rfl) rfl rfl rfl k
set_option maxRecDepth 100000 in
set_option maxHeartbeats 4000000 in
theorem d179_reckon {d L : Nat} {x : Int32} {y : Int32} {z : Int32} {A I : HA} {Q : bm_Q} (k : D179_reckon x y z (fun v => Q (some (.int v)) (hp L A I))) : bm_M (d + 2) 179 [.int x, .int y, .int z] (hp L A I) Q := by
  unfold D179_reckon at k
  refine bw_enter rfl rfl rfl rfl ?_
  refine w_iload_n (p := 1) (pI pM_179 rfl) rfl rfl ?_
  by_cases c1_6 : x = nI 6
  · replace k := itp c1_6 k
    refine w_table (p := 60) (off := 59) (pI pM_179 rfl) (sw_at c1_6 (by decide)) rfl rfl ?_
    refine w_iload_n (p := 61) (pI pM_179 rfl) rfl rfl ?_
    refine w_iload_n (p := 62) (pI pM_179 rfl) rfl rfl ?_
    refine w_iadd (p := 63) (pI pM_179 rfl) rfl ?_
    refine w_static (p := 66) (mj := 169) (pI pM_179 rfl) rfl rfl rfl rfl rfl rfl rfl rfl rfl ?_
    refine d169_word (D169_word_mono k (fun v1 k => ?_))
    exact w_ireturn (pI pM_179 rfl) rfl rfl rfl k
  · replace k := itn c1_6 k
    by_cases c1_7 : x = nI 7
    · replace k := itp c1_7 k
      refine w_table (p := 67) (off := 66) (pI pM_179 rfl) (sw_at c1_7 (by decide)) rfl rfl ?_
      refine w_iload_n (p := 68) (pI pM_179 rfl) rfl rfl ?_
      refine w_iload_n (p := 69) (pI pM_179 rfl) rfl rfl ?_
      refine w_isub (p := 70) (pI pM_179 rfl) rfl ?_
      refine w_static (p := 73) (mj := 169) (pI pM_179 rfl) rfl rfl rfl rfl rfl rfl rfl rfl rfl ?_
      refine d169_word (D169_word_mono k (fun v2 k => ?_))
      exact w_ireturn (pI pM_179 rfl) rfl rfl rfl k
    · replace k := itn c1_7 k
      by_cases c1_8 : x = nI 8
      · replace k := itp c1_8 k
        refine w_table (p := 74) (off := 73) (pI pM_179 rfl) (sw_at c1_8 (by decide)) rfl rfl ?_
        refine w_iload_n (p := 75) (pI pM_179 rfl) rfl rfl ?_
        refine w_iload_n (p := 76) (pI pM_179 rfl) rfl rfl ?_
        refine w_imul (p := 77) (pI pM_179 rfl) rfl ?_
        refine w_static (p := 80) (mj := 169) (pI pM_179 rfl) rfl rfl rfl rfl rfl rfl rfl rfl rfl ?_
        refine d169_word (D169_word_mono k (fun v3 k => ?_))
        exact w_ireturn (pI pM_179 rfl) rfl rfl rfl k
      · replace k := itn c1_8 k
        by_cases c1_9 : x = nI 9
        · replace k := itp c1_9 k
          refine w_table (p := 81) (off := 80) (pI pM_179 rfl) (sw_at c1_9 (by decide)) rfl rfl ?_
          refine w_iload_n (p := 82) (pI pM_179 rfl) rfl rfl ?_
          refine w_iload_n (p := 83) (pI pM_179 rfl) rfl rfl ?_
          obtain ⟨s4, k⟩ := k
          refine w_idiv (p := 84) (pI pM_179 rfl) rfl s4 ?_
          refine w_static (p := 87) (mj := 169) (pI pM_179 rfl) rfl rfl rfl rfl rfl rfl rfl rfl rfl ?_
          refine d169_word (D169_word_mono k (fun v5 k => ?_))
          exact w_ireturn (pI pM_179 rfl) rfl rfl rfl k
        · replace k := itn c1_9 k
          by_cases c1_10 : x = nI 10
          · replace k := itp c1_10 k
            refine w_table (p := 88) (off := 87) (pI pM_179 rfl) (sw_at c1_10 (by decide)) rfl rfl ?_
            refine w_iload_n (p := 89) (pI pM_179 rfl) rfl rfl ?_
            refine w_iload_n (p := 90) (pI pM_179 rfl) rfl rfl ?_
            obtain ⟨s6, k⟩ := k
            refine w_irem (p := 91) (pI pM_179 rfl) rfl s6 ?_
            refine w_static (p := 94) (mj := 169) (pI pM_179 rfl) rfl rfl rfl rfl rfl rfl rfl rfl rfl ?_
            refine d169_word (D169_word_mono k (fun v7 k => ?_))
            exact w_ireturn (pI pM_179 rfl) rfl rfl rfl k
          · replace k := itn c1_10 k
            by_cases c1_11 : x = nI 11
            · replace k := itp c1_11 k
              refine w_table (p := 95) (off := 94) (pI pM_179 rfl) (sw_at c1_11 (by decide)) rfl rfl ?_
              refine w_iload_n (p := 96) (pI pM_179 rfl) rfl rfl ?_
              refine w_ineg (p := 97) (pI pM_179 rfl) rfl ?_
              refine w_static (p := 100) (mj := 169) (pI pM_179 rfl) rfl rfl rfl rfl rfl rfl rfl rfl rfl ?_
              refine d169_word (D169_word_mono k (fun v8 k => ?_))
              exact w_ireturn (pI pM_179 rfl) rfl rfl rfl k
            · replace k := itn c1_11 k
              by_cases c1_12 : x = nI 12
              · replace k := itp c1_12 k
                refine w_table (p := 101) (off := 100) (pI pM_179 rfl) (sw_at c1_12 (by decide)) rfl rfl ?_
                refine w_iload_n (p := 102) (pI pM_179 rfl) rfl rfl ?_
                refine w_iload_n (p := 103) (pI pM_179 rfl) rfl rfl ?_
                refine w_iand (p := 104) (pI pM_179 rfl) rfl ?_
                exact w_ireturn (pI pM_179 rfl) rfl rfl rfl k
              · replace k := itn c1_12 k
                by_cases c1_13 : x = nI 13
                · replace k := itp c1_13 k
                  refine w_table (p := 105) (off := 104) (pI pM_179 rfl) (sw_at c1_13 (by decide)) rfl rfl ?_
                  refine w_iload_n (p := 106) (pI pM_179 rfl) rfl rfl ?_
                  refine w_iload_n (p := 107) (pI pM_179 rfl) rfl rfl ?_
                  refine w_ior (p := 108) (pI pM_179 rfl) rfl ?_
                  exact w_ireturn (pI pM_179 rfl) rfl rfl rfl k
                · replace k := itn c1_13 k
                  by_cases c1_14 : x = nI 14
                  · replace k := itp c1_14 k
                    refine w_table (p := 109) (off := 108) (pI pM_179 rfl) (sw_at c1_14 (by decide)) rfl rfl ?_
                    refine w_iload_n (p := 110) (pI pM_179 rfl) rfl rfl ?_
                    refine w_iload_n (p := 111) (pI pM_179 rfl) rfl rfl ?_
                    refine w_ixor (p := 112) (pI pM_179 rfl) rfl ?_
                    exact w_ireturn (pI pM_179 rfl) rfl rfl rfl k
                  · replace k := itn c1_14 k
                    by_cases c1_15 : x = nI 15
                    · replace k := itp c1_15 k
                      refine w_table (p := 113) (off := 112) (pI pM_179 rfl) (sw_at c1_15 (by decide)) rfl rfl ?_
                      refine w_iload_n (p := 114) (pI pM_179 rfl) rfl rfl ?_
                      refine w_iload_n (p := 115) (pI pM_179 rfl) rfl rfl ?_
                      refine w_bipush (p := 117) (v := nI 7) (pI pM_179 rfl) rfl rfl ?_
                      refine w_iand (p := 118) (pI pM_179 rfl) rfl ?_
                      refine w_ishl (p := 119) (pI pM_179 rfl) rfl ?_
                      refine w_static (p := 122) (mj := 169) (pI pM_179 rfl) rfl rfl rfl rfl rfl rfl rfl rfl rfl ?_
                      refine d169_word (D169_word_mono k (fun v9 k => ?_))
                      exact w_ireturn (pI pM_179 rfl) rfl rfl rfl k
                    · replace k := itn c1_15 k
                      by_cases c1_16 : x = nI 16
                      · replace k := itp c1_16 k
                        refine w_table (p := 123) (off := 122) (pI pM_179 rfl) (sw_at c1_16 (by decide)) rfl rfl ?_
                        refine w_iload_n (p := 124) (pI pM_179 rfl) rfl rfl ?_
                        refine w_iload_n (p := 125) (pI pM_179 rfl) rfl rfl ?_
                        refine w_bipush (p := 127) (v := nI 7) (pI pM_179 rfl) rfl rfl ?_
                        refine w_iand (p := 128) (pI pM_179 rfl) rfl ?_
                        refine w_ishr (p := 129) (pI pM_179 rfl) rfl ?_
                        exact w_ireturn (pI pM_179 rfl) rfl rfl rfl k
                      · replace k := itn c1_16 k
                        refine w_table (p := 130) (off := 129) (pI pM_179 rfl) (by have e6 := neT 6 (by decide) c1_6; have e7 := neT 7 (by decide) c1_7; have e8 := neT 8 (by decide) c1_8; have e9 := neT 9 (by decide) c1_9; have e10 := neT 10 (by decide) c1_10; have e11 := neT 11 (by decide) c1_11; have e12 := neT 12 (by decide) c1_12; have e13 := neT 13 (by decide) c1_13; have e14 := neT 14 (by decide) c1_14; have e15 := neT 15 (by decide) c1_15; have e16 := neT 16 (by decide) c1_16; exact sw_df (fun h1 h2 => by omega)) rfl rfl ?_
                        refine w_iload_n (p := 131) (pI pM_179 rfl) rfl rfl ?_
                        refine w_if_ge (p := 134) (q := 139) (pI pM_179 rfl) rfl rfl rfl (fun c => ?_) (fun c => ?_)
                        · replace k := itn (Int32.not_lt.mpr c) k
                          refine w_iload_n (p := 140) (pI pM_179 rfl) rfl rfl ?_
                          refine w_static (p := 143) (mj := 169) (pI pM_179 rfl) rfl rfl rfl rfl rfl rfl rfl rfl rfl ?_
                          refine d169_word (D169_word_mono k (fun v10 k => ?_))
                          exact w_ireturn (pI pM_179 rfl) rfl rfl rfl k
                        · replace k := itp (Int32.not_le.mp c) k
                          refine w_iload_n (p := 135) (pI pM_179 rfl) rfl rfl ?_
                          refine w_ineg (p := 136) (pI pM_179 rfl) rfl ?_
                          refine w_goto (p := 140) (pI pM_179 rfl) rfl rfl ?_
                          refine w_static (p := 143) (mj := 169) (pI pM_179 rfl) rfl rfl rfl rfl rfl rfl rfl rfl rfl ?_
                          refine d169_word (D169_word_mono k (fun v11 k => ?_))
                          exact w_ireturn (pI pM_179 rfl) rfl rfl rfl k
set_option maxRecDepth 100000 in
set_option maxHeartbeats 4000000 in
theorem d176_formula {d L : Nat} {x : Int32} {y : Int32} {z : Int32} {A I : HA} {Q : bm_Q} (k : D176_formula x y z A I (fun v A I => Q (some (.int v)) (hp L A I))) : bm_M (d + 3) 176 [.ref 1681, .int x, .int y, .int z] (hp L A I) Q := by
  unfold D176_formula at k
  refine bw_enter rfl rfl rfl rfl ?_
  refine w_iload_n (p := 1) (pI pM_176 rfl) rfl rfl ?_
  refine w_static (p := 4) (mj := 177) (pI pM_176 rfl) rfl rfl rfl rfl rfl rfl rfl rfl rfl ?_
  refine d177_isNumber (D177_isNumber_mono k (fun v1 k => ?_))
  refine w_if_eq (p := 7) (q := 44) (pI pM_176 rfl) rfl rfl rfl (fun c => ?_) (fun c => ?_)
  · replace k := itp c k
    refine w_iconst (p := 45) (v := nI 1) (pI pM_176 rfl) rfl rfl ?_
    refine w_aload_n (p := 46) (pI pM_176 rfl) rfl rfl ?_
    refine v_getR (p := 49) (kf := 14) (pI pM_176 rfl) rfl rfl rfl (by decide) (by decide) rfl rfl ?_
    refine w_iload_n (p := 50) (pI pM_176 rfl) rfl rfl ?_
    obtain ⟨s2, k⟩ := k
    refine v_iald (p := 51) (pI pM_176 rfl) rfl (by decide) rfl s2 rfl ?_
    refine w_iadd (p := 52) (pI pM_176 rfl) rfl ?_
    refine w_iload_n (p := 53) (pI pM_176 rfl) rfl rfl ?_
    refine w_iconst (p := 54) (v := -1) (pI pM_176 rfl) rfl rfl ?_
    refine w_icmp_ne (p := 57) (q := 61) (pI pM_176 rfl) rfl rfl rfl (fun c => ?_) (fun c => ?_)
    · replace k := itn c k
      refine w_aload_n (p := 62) (pI pM_176 rfl) rfl rfl ?_
      refine v_getR (p := 65) (kf := 14) (pI pM_176 rfl) rfl rfl rfl (by decide) (by decide) rfl rfl ?_
      refine w_iload_n (p := 66) (pI pM_176 rfl) rfl rfl ?_
      obtain ⟨s3, k⟩ := k
      refine v_iald (p := 67) (pI pM_176 rfl) rfl (by decide) rfl s3 rfl ?_
      refine w_iadd (p := 68) (pI pM_176 rfl) rfl ?_
      refine w_istore (p := 70) (pI pM_176 rfl) rfl rfl rfl ?_
      refine w_iload (p := 72) (pI pM_176 rfl) rfl rfl ?_
      refine w_bipush (p := 74) (v := nI 60) (pI pM_176 rfl) rfl rfl ?_
      refine w_icmp_le (p := 77) (q := 79) (pI pM_176 rfl) rfl rfl rfl (fun c => ?_) (fun c => ?_)
      · replace k := itn (Int32.not_lt.mpr c) k
        refine w_aload_n (p := 80) (pI pM_176 rfl) rfl rfl ?_
        refine v_getR (p := 83) (kf := 11) (pI pM_176 rfl) rfl rfl rfl (by decide) (by decide) rfl rfl ?_
        refine w_aload_n (p := 84) (pI pM_176 rfl) rfl rfl ?_
        refine v_getI (p := 87) (kf := 15) (pI pM_176 rfl) rfl rfl rfl (by decide) (by decide) rfl rfl rfl ?_
        refine w_iload_n (p := 88) (pI pM_176 rfl) rfl rfl ?_
        obtain ⟨s4, k⟩ := k
        refine s_iast (p := 89) (pI pM_176 rfl) rfl (by decide) (by decide) rfl s4 ?_
        refine w_aload_n (p := 90) (pI pM_176 rfl) rfl rfl ?_
        refine v_getR (p := 93) (kf := 12) (pI pM_176 rfl) rfl rfl rfl (by decide) (by decide) rfl rfl ?_
        refine w_aload_n (p := 94) (pI pM_176 rfl) rfl rfl ?_
        refine v_getI (p := 97) (kf := 15) (pI pM_176 rfl) rfl rfl rfl (by decide) (by decide) rfl rfl rfl ?_
        refine w_iload_n (p := 98) (pI pM_176 rfl) rfl rfl ?_
        obtain ⟨s5, k⟩ := k
        refine s_iast (p := 99) (pI pM_176 rfl) rfl (by decide) (by decide) rfl s5 ?_
        refine w_aload_n (p := 100) (pI pM_176 rfl) rfl rfl ?_
        refine v_getR (p := 103) (kf := 13) (pI pM_176 rfl) rfl rfl rfl (by decide) (by decide) rfl rfl ?_
        refine w_aload_n (p := 104) (pI pM_176 rfl) rfl rfl ?_
        refine v_getI (p := 107) (kf := 15) (pI pM_176 rfl) rfl rfl rfl (by decide) (by decide) rfl rfl rfl ?_
        refine w_iload_n (p := 108) (pI pM_176 rfl) rfl rfl ?_
        obtain ⟨s6, k⟩ := k
        refine s_iast (p := 109) (pI pM_176 rfl) rfl (by decide) (by decide) rfl s6 ?_
        refine w_aload_n (p := 110) (pI pM_176 rfl) rfl rfl ?_
        refine v_getR (p := 113) (kf := 14) (pI pM_176 rfl) rfl rfl rfl (by decide) (by decide) rfl rfl ?_
        refine w_aload_n (p := 114) (pI pM_176 rfl) rfl rfl ?_
        refine v_getI (p := 117) (kf := 15) (pI pM_176 rfl) rfl rfl rfl (by decide) (by decide) rfl rfl rfl ?_
        refine w_iload (p := 119) (pI pM_176 rfl) rfl rfl ?_
        obtain ⟨s7, k⟩ := k
        refine s_iast (p := 120) (pI pM_176 rfl) rfl (by decide) (by decide) rfl s7 ?_
        refine w_aload_n (p := 121) (pI pM_176 rfl) rfl rfl ?_
        refine w_dup (p := 122) (pI pM_176 rfl) rfl rfl ?_
        refine v_getI (p := 125) (kf := 15) (pI pM_176 rfl) rfl rfl rfl (by decide) (by decide) rfl rfl rfl ?_
        refine w_iconst (p := 126) (v := nI 1) (pI pM_176 rfl) rfl rfl ?_
        refine w_iadd (p := 127) (pI pM_176 rfl) rfl ?_
        refine s_putI (p := 130) (kf := 15) (pI pM_176 rfl) rfl rfl rfl (by decide) (by decide) rfl rfl rfl rfl rfl rfl ?_
        refine w_aload_n (p := 131) (pI pM_176 rfl) rfl rfl ?_
        refine v_getI (p := 134) (kf := 15) (pI pM_176 rfl) rfl rfl rfl (by decide) (by decide) rfl rfl rfl ?_
        refine w_iconst (p := 135) (v := nI 1) (pI pM_176 rfl) rfl rfl ?_
        refine w_isub (p := 136) (pI pM_176 rfl) rfl ?_
        exact w_ireturn (pI pM_176 rfl) rfl rfl rfl k
      · replace k := itp (Int32.not_le.mp c) k
        refine w_iconst (p := 78) (v := -1) (pI pM_176 rfl) rfl rfl ?_
        exact w_ireturn (pI pM_176 rfl) rfl rfl rfl k
    · replace k := itp (Decidable.not_not.mp c) k
      refine w_iconst (p := 58) (v := nI 0) (pI pM_176 rfl) rfl rfl ?_
      refine w_goto (p := 67) (pI pM_176 rfl) rfl rfl ?_
      refine w_iadd (p := 68) (pI pM_176 rfl) rfl ?_
      refine w_istore (p := 70) (pI pM_176 rfl) rfl rfl rfl ?_
      refine w_iload (p := 72) (pI pM_176 rfl) rfl rfl ?_
      refine w_bipush (p := 74) (v := nI 60) (pI pM_176 rfl) rfl rfl ?_
      refine w_icmp_le (p := 77) (q := 79) (pI pM_176 rfl) rfl rfl rfl (fun c => ?_) (fun c => ?_)
      · replace k := itn (Int32.not_lt.mpr c) k
        refine w_aload_n (p := 80) (pI pM_176 rfl) rfl rfl ?_
        refine v_getR (p := 83) (kf := 11) (pI pM_176 rfl) rfl rfl rfl (by decide) (by decide) rfl rfl ?_
        refine w_aload_n (p := 84) (pI pM_176 rfl) rfl rfl ?_
        refine v_getI (p := 87) (kf := 15) (pI pM_176 rfl) rfl rfl rfl (by decide) (by decide) rfl rfl rfl ?_
        refine w_iload_n (p := 88) (pI pM_176 rfl) rfl rfl ?_
        obtain ⟨s8, k⟩ := k
        refine s_iast (p := 89) (pI pM_176 rfl) rfl (by decide) (by decide) rfl s8 ?_
        refine w_aload_n (p := 90) (pI pM_176 rfl) rfl rfl ?_
        refine v_getR (p := 93) (kf := 12) (pI pM_176 rfl) rfl rfl rfl (by decide) (by decide) rfl rfl ?_
        refine w_aload_n (p := 94) (pI pM_176 rfl) rfl rfl ?_
        refine v_getI (p := 97) (kf := 15) (pI pM_176 rfl) rfl rfl rfl (by decide) (by decide) rfl rfl rfl ?_
        refine w_iload_n (p := 98) (pI pM_176 rfl) rfl rfl ?_
        obtain ⟨s9, k⟩ := k
        refine s_iast (p := 99) (pI pM_176 rfl) rfl (by decide) (by decide) rfl s9 ?_
        refine w_aload_n (p := 100) (pI pM_176 rfl) rfl rfl ?_
        refine v_getR (p := 103) (kf := 13) (pI pM_176 rfl) rfl rfl rfl (by decide) (by decide) rfl rfl ?_
        refine w_aload_n (p := 104) (pI pM_176 rfl) rfl rfl ?_
        refine v_getI (p := 107) (kf := 15) (pI pM_176 rfl) rfl rfl rfl (by decide) (by decide) rfl rfl rfl ?_
        refine w_iload_n (p := 108) (pI pM_176 rfl) rfl rfl ?_
        obtain ⟨s10, k⟩ := k
        refine s_iast (p := 109) (pI pM_176 rfl) rfl (by decide) (by decide) rfl s10 ?_
        refine w_aload_n (p := 110) (pI pM_176 rfl) rfl rfl ?_
        refine v_getR (p := 113) (kf := 14) (pI pM_176 rfl) rfl rfl rfl (by decide) (by decide) rfl rfl ?_
        refine w_aload_n (p := 114) (pI pM_176 rfl) rfl rfl ?_
        refine v_getI (p := 117) (kf := 15) (pI pM_176 rfl) rfl rfl rfl (by decide) (by decide) rfl rfl rfl ?_
        refine w_iload (p := 119) (pI pM_176 rfl) rfl rfl ?_
        obtain ⟨s11, k⟩ := k
        refine s_iast (p := 120) (pI pM_176 rfl) rfl (by decide) (by decide) rfl s11 ?_
        refine w_aload_n (p := 121) (pI pM_176 rfl) rfl rfl ?_
        refine w_dup (p := 122) (pI pM_176 rfl) rfl rfl ?_
        refine v_getI (p := 125) (kf := 15) (pI pM_176 rfl) rfl rfl rfl (by decide) (by decide) rfl rfl rfl ?_
        refine w_iconst (p := 126) (v := nI 1) (pI pM_176 rfl) rfl rfl ?_
        refine w_iadd (p := 127) (pI pM_176 rfl) rfl ?_
        refine s_putI (p := 130) (kf := 15) (pI pM_176 rfl) rfl rfl rfl (by decide) (by decide) rfl rfl rfl rfl rfl rfl ?_
        refine w_aload_n (p := 131) (pI pM_176 rfl) rfl rfl ?_
        refine v_getI (p := 134) (kf := 15) (pI pM_176 rfl) rfl rfl rfl (by decide) (by decide) rfl rfl rfl ?_
        refine w_iconst (p := 135) (v := nI 1) (pI pM_176 rfl) rfl rfl ?_
        refine w_isub (p := 136) (pI pM_176 rfl) rfl ?_
        exact w_ireturn (pI pM_176 rfl) rfl rfl rfl k
      · replace k := itp (Int32.not_le.mp c) k
        refine w_iconst (p := 78) (v := -1) (pI pM_176 rfl) rfl rfl ?_
        exact w_ireturn (pI pM_176 rfl) rfl rfl rfl k
  · replace k := itn c k
    refine w_iload_n (p := 8) (pI pM_176 rfl) rfl rfl ?_
    refine w_iconst (p := 9) (v := -1) (pI pM_176 rfl) rfl rfl ?_
    refine w_icmp_eq (p := 12) (q := 19) (pI pM_176 rfl) rfl rfl rfl (fun c => ?_) (fun c => ?_)
    · replace k := itp c k
      refine w_iload_n (p := 20) (pI pM_176 rfl) rfl rfl ?_
      refine w_iload_n (p := 21) (pI pM_176 rfl) rfl rfl ?_
      refine w_static (p := 24) (mj := 178) (pI pM_176 rfl) rfl rfl rfl rfl rfl rfl rfl rfl rfl ?_
      refine d178_number (D178_number_mono k (fun v12 k => ?_))
      refine w_iload_n (p := 25) (pI pM_176 rfl) rfl rfl ?_
      refine w_iconst (p := 26) (v := -1) (pI pM_176 rfl) rfl rfl ?_
      refine w_icmp_ne (p := 29) (q := 33) (pI pM_176 rfl) rfl rfl rfl (fun c => ?_) (fun c => ?_)
      · replace k := itn c k
        refine w_iload_n (p := 34) (pI pM_176 rfl) rfl rfl ?_
        refine w_static (p := 37) (mj := 178) (pI pM_176 rfl) rfl rfl rfl rfl rfl rfl rfl rfl rfl ?_
        refine d178_number (D178_number_mono k (fun v13 k => ?_))
        refine w_static (p := 40) (mj := 179) (pI pM_176 rfl) rfl rfl rfl rfl rfl rfl rfl rfl rfl ?_
        refine d179_reckon (D179_reckon_mono k (fun v14 k => ?_))
        refine w_static (p := 43) (mj := 168) (pI pM_176 rfl) rfl rfl rfl rfl rfl rfl rfl rfl rfl ?_
        refine d168_node (D168_node_mono k (fun v15 k => ?_))
        exact w_ireturn (pI pM_176 rfl) rfl rfl rfl k
      · replace k := itp (Decidable.not_not.mp c) k
        refine w_iconst (p := 30) (v := nI 0) (pI pM_176 rfl) rfl rfl ?_
        refine w_goto (p := 37) (pI pM_176 rfl) rfl rfl ?_
        refine w_static (p := 40) (mj := 179) (pI pM_176 rfl) rfl rfl rfl rfl rfl rfl rfl rfl rfl ?_
        refine d179_reckon (D179_reckon_mono k (fun v16 k => ?_))
        refine w_static (p := 43) (mj := 168) (pI pM_176 rfl) rfl rfl rfl rfl rfl rfl rfl rfl rfl ?_
        refine d168_node (D168_node_mono k (fun v17 k => ?_))
        exact w_ireturn (pI pM_176 rfl) rfl rfl rfl k
    · replace k := itn c k
      refine w_iload_n (p := 13) (pI pM_176 rfl) rfl rfl ?_
      refine w_static (p := 16) (mj := 177) (pI pM_176 rfl) rfl rfl rfl rfl rfl rfl rfl rfl rfl ?_
      refine d177_isNumber (D177_isNumber_mono k (fun v18 k => ?_))
      refine w_if_eq (p := 19) (q := 44) (pI pM_176 rfl) rfl rfl rfl (fun c => ?_) (fun c => ?_)
      · replace k := itp c k
        refine w_iconst (p := 45) (v := nI 1) (pI pM_176 rfl) rfl rfl ?_
        refine w_aload_n (p := 46) (pI pM_176 rfl) rfl rfl ?_
        refine v_getR (p := 49) (kf := 14) (pI pM_176 rfl) rfl rfl rfl (by decide) (by decide) rfl rfl ?_
        refine w_iload_n (p := 50) (pI pM_176 rfl) rfl rfl ?_
        obtain ⟨s19, k⟩ := k
        refine v_iald (p := 51) (pI pM_176 rfl) rfl (by decide) rfl s19 rfl ?_
        refine w_iadd (p := 52) (pI pM_176 rfl) rfl ?_
        refine w_iload_n (p := 53) (pI pM_176 rfl) rfl rfl ?_
        refine w_iconst (p := 54) (v := -1) (pI pM_176 rfl) rfl rfl ?_
        refine w_icmp_ne (p := 57) (q := 61) (pI pM_176 rfl) rfl rfl rfl (fun c => ?_) (fun c => ?_)
        · replace k := itn c k
          refine w_aload_n (p := 62) (pI pM_176 rfl) rfl rfl ?_
          refine v_getR (p := 65) (kf := 14) (pI pM_176 rfl) rfl rfl rfl (by decide) (by decide) rfl rfl ?_
          refine w_iload_n (p := 66) (pI pM_176 rfl) rfl rfl ?_
          obtain ⟨s20, k⟩ := k
          refine v_iald (p := 67) (pI pM_176 rfl) rfl (by decide) rfl s20 rfl ?_
          refine w_iadd (p := 68) (pI pM_176 rfl) rfl ?_
          refine w_istore (p := 70) (pI pM_176 rfl) rfl rfl rfl ?_
          refine w_iload (p := 72) (pI pM_176 rfl) rfl rfl ?_
          refine w_bipush (p := 74) (v := nI 60) (pI pM_176 rfl) rfl rfl ?_
          refine w_icmp_le (p := 77) (q := 79) (pI pM_176 rfl) rfl rfl rfl (fun c => ?_) (fun c => ?_)
          · replace k := itn (Int32.not_lt.mpr c) k
            refine w_aload_n (p := 80) (pI pM_176 rfl) rfl rfl ?_
            refine v_getR (p := 83) (kf := 11) (pI pM_176 rfl) rfl rfl rfl (by decide) (by decide) rfl rfl ?_
            refine w_aload_n (p := 84) (pI pM_176 rfl) rfl rfl ?_
            refine v_getI (p := 87) (kf := 15) (pI pM_176 rfl) rfl rfl rfl (by decide) (by decide) rfl rfl rfl ?_
            refine w_iload_n (p := 88) (pI pM_176 rfl) rfl rfl ?_
            obtain ⟨s21, k⟩ := k
            refine s_iast (p := 89) (pI pM_176 rfl) rfl (by decide) (by decide) rfl s21 ?_
            refine w_aload_n (p := 90) (pI pM_176 rfl) rfl rfl ?_
            refine v_getR (p := 93) (kf := 12) (pI pM_176 rfl) rfl rfl rfl (by decide) (by decide) rfl rfl ?_
            refine w_aload_n (p := 94) (pI pM_176 rfl) rfl rfl ?_
            refine v_getI (p := 97) (kf := 15) (pI pM_176 rfl) rfl rfl rfl (by decide) (by decide) rfl rfl rfl ?_
            refine w_iload_n (p := 98) (pI pM_176 rfl) rfl rfl ?_
            obtain ⟨s22, k⟩ := k
            refine s_iast (p := 99) (pI pM_176 rfl) rfl (by decide) (by decide) rfl s22 ?_
            refine w_aload_n (p := 100) (pI pM_176 rfl) rfl rfl ?_
            refine v_getR (p := 103) (kf := 13) (pI pM_176 rfl) rfl rfl rfl (by decide) (by decide) rfl rfl ?_
            refine w_aload_n (p := 104) (pI pM_176 rfl) rfl rfl ?_
            refine v_getI (p := 107) (kf := 15) (pI pM_176 rfl) rfl rfl rfl (by decide) (by decide) rfl rfl rfl ?_
            refine w_iload_n (p := 108) (pI pM_176 rfl) rfl rfl ?_
            obtain ⟨s23, k⟩ := k
            refine s_iast (p := 109) (pI pM_176 rfl) rfl (by decide) (by decide) rfl s23 ?_
            refine w_aload_n (p := 110) (pI pM_176 rfl) rfl rfl ?_
            refine v_getR (p := 113) (kf := 14) (pI pM_176 rfl) rfl rfl rfl (by decide) (by decide) rfl rfl ?_
            refine w_aload_n (p := 114) (pI pM_176 rfl) rfl rfl ?_
            refine v_getI (p := 117) (kf := 15) (pI pM_176 rfl) rfl rfl rfl (by decide) (by decide) rfl rfl rfl ?_
            refine w_iload (p := 119) (pI pM_176 rfl) rfl rfl ?_
            obtain ⟨s24, k⟩ := k
            refine s_iast (p := 120) (pI pM_176 rfl) rfl (by decide) (by decide) rfl s24 ?_
            refine w_aload_n (p := 121) (pI pM_176 rfl) rfl rfl ?_
            refine w_dup (p := 122) (pI pM_176 rfl) rfl rfl ?_
            refine v_getI (p := 125) (kf := 15) (pI pM_176 rfl) rfl rfl rfl (by decide) (by decide) rfl rfl rfl ?_
            refine w_iconst (p := 126) (v := nI 1) (pI pM_176 rfl) rfl rfl ?_
            refine w_iadd (p := 127) (pI pM_176 rfl) rfl ?_
            refine s_putI (p := 130) (kf := 15) (pI pM_176 rfl) rfl rfl rfl (by decide) (by decide) rfl rfl rfl rfl rfl rfl ?_
            refine w_aload_n (p := 131) (pI pM_176 rfl) rfl rfl ?_
            refine v_getI (p := 134) (kf := 15) (pI pM_176 rfl) rfl rfl rfl (by decide) (by decide) rfl rfl rfl ?_
            refine w_iconst (p := 135) (v := nI 1) (pI pM_176 rfl) rfl rfl ?_
            refine w_isub (p := 136) (pI pM_176 rfl) rfl ?_
            exact w_ireturn (pI pM_176 rfl) rfl rfl rfl k
          · replace k := itp (Int32.not_le.mp c) k
            refine w_iconst (p := 78) (v := -1) (pI pM_176 rfl) rfl rfl ?_
            exact w_ireturn (pI pM_176 rfl) rfl rfl rfl k
        · replace k := itp (Decidable.not_not.mp c) k
          refine w_iconst (p := 58) (v := nI 0) (pI pM_176 rfl) rfl rfl ?_
          refine w_goto (p := 67) (pI pM_176 rfl) rfl rfl ?_
          refine w_iadd (p := 68) (pI pM_176 rfl) rfl ?_
          refine w_istore (p := 70) (pI pM_176 rfl) rfl rfl rfl ?_
          refine w_iload (p := 72) (pI pM_176 rfl) rfl rfl ?_
          refine w_bipush (p := 74) (v := nI 60) (pI pM_176 rfl) rfl rfl ?_
          refine w_icmp_le (p := 77) (q := 79) (pI pM_176 rfl) rfl rfl rfl (fun c => ?_) (fun c => ?_)
          · replace k := itn (Int32.not_lt.mpr c) k
            refine w_aload_n (p := 80) (pI pM_176 rfl) rfl rfl ?_
            refine v_getR (p := 83) (kf := 11) (pI pM_176 rfl) rfl rfl rfl (by decide) (by decide) rfl rfl ?_
            refine w_aload_n (p := 84) (pI pM_176 rfl) rfl rfl ?_
            refine v_getI (p := 87) (kf := 15) (pI pM_176 rfl) rfl rfl rfl (by decide) (by decide) rfl rfl rfl ?_
            refine w_iload_n (p := 88) (pI pM_176 rfl) rfl rfl ?_
            obtain ⟨s25, k⟩ := k
            refine s_iast (p := 89) (pI pM_176 rfl) rfl (by decide) (by decide) rfl s25 ?_
            refine w_aload_n (p := 90) (pI pM_176 rfl) rfl rfl ?_
            refine v_getR (p := 93) (kf := 12) (pI pM_176 rfl) rfl rfl rfl (by decide) (by decide) rfl rfl ?_
            refine w_aload_n (p := 94) (pI pM_176 rfl) rfl rfl ?_
            refine v_getI (p := 97) (kf := 15) (pI pM_176 rfl) rfl rfl rfl (by decide) (by decide) rfl rfl rfl ?_
            refine w_iload_n (p := 98) (pI pM_176 rfl) rfl rfl ?_
            obtain ⟨s26, k⟩ := k
            refine s_iast (p := 99) (pI pM_176 rfl) rfl (by decide) (by decide) rfl s26 ?_
            refine w_aload_n (p := 100) (pI pM_176 rfl) rfl rfl ?_
            refine v_getR (p := 103) (kf := 13) (pI pM_176 rfl) rfl rfl rfl (by decide) (by decide) rfl rfl ?_
            refine w_aload_n (p := 104) (pI pM_176 rfl) rfl rfl ?_
            refine v_getI (p := 107) (kf := 15) (pI pM_176 rfl) rfl rfl rfl (by decide) (by decide) rfl rfl rfl ?_
            refine w_iload_n (p := 108) (pI pM_176 rfl) rfl rfl ?_
            obtain ⟨s27, k⟩ := k
            refine s_iast (p := 109) (pI pM_176 rfl) rfl (by decide) (by decide) rfl s27 ?_
            refine w_aload_n (p := 110) (pI pM_176 rfl) rfl rfl ?_
            refine v_getR (p := 113) (kf := 14) (pI pM_176 rfl) rfl rfl rfl (by decide) (by decide) rfl rfl ?_
            refine w_aload_n (p := 114) (pI pM_176 rfl) rfl rfl ?_
            refine v_getI (p := 117) (kf := 15) (pI pM_176 rfl) rfl rfl rfl (by decide) (by decide) rfl rfl rfl ?_
            refine w_iload (p := 119) (pI pM_176 rfl) rfl rfl ?_
            obtain ⟨s28, k⟩ := k
            refine s_iast (p := 120) (pI pM_176 rfl) rfl (by decide) (by decide) rfl s28 ?_
            refine w_aload_n (p := 121) (pI pM_176 rfl) rfl rfl ?_
            refine w_dup (p := 122) (pI pM_176 rfl) rfl rfl ?_
            refine v_getI (p := 125) (kf := 15) (pI pM_176 rfl) rfl rfl rfl (by decide) (by decide) rfl rfl rfl ?_
            refine w_iconst (p := 126) (v := nI 1) (pI pM_176 rfl) rfl rfl ?_
            refine w_iadd (p := 127) (pI pM_176 rfl) rfl ?_
            refine s_putI (p := 130) (kf := 15) (pI pM_176 rfl) rfl rfl rfl (by decide) (by decide) rfl rfl rfl rfl rfl rfl ?_
            refine w_aload_n (p := 131) (pI pM_176 rfl) rfl rfl ?_
            refine v_getI (p := 134) (kf := 15) (pI pM_176 rfl) rfl rfl rfl (by decide) (by decide) rfl rfl rfl ?_
            refine w_iconst (p := 135) (v := nI 1) (pI pM_176 rfl) rfl rfl ?_
            refine w_isub (p := 136) (pI pM_176 rfl) rfl ?_
            exact w_ireturn (pI pM_176 rfl) rfl rfl rfl k
          · replace k := itp (Int32.not_le.mp c) k
            refine w_iconst (p := 78) (v := -1) (pI pM_176 rfl) rfl rfl ?_
            exact w_ireturn (pI pM_176 rfl) rfl rfl rfl k
      · replace k := itn c k
        refine w_iload_n (p := 20) (pI pM_176 rfl) rfl rfl ?_
        refine w_iload_n (p := 21) (pI pM_176 rfl) rfl rfl ?_
        refine w_static (p := 24) (mj := 178) (pI pM_176 rfl) rfl rfl rfl rfl rfl rfl rfl rfl rfl ?_
        refine d178_number (D178_number_mono k (fun v29 k => ?_))
        refine w_iload_n (p := 25) (pI pM_176 rfl) rfl rfl ?_
        refine w_iconst (p := 26) (v := -1) (pI pM_176 rfl) rfl rfl ?_
        refine w_icmp_ne (p := 29) (q := 33) (pI pM_176 rfl) rfl rfl rfl (fun c => ?_) (fun c => ?_)
        · replace k := itn c k
          refine w_iload_n (p := 34) (pI pM_176 rfl) rfl rfl ?_
          refine w_static (p := 37) (mj := 178) (pI pM_176 rfl) rfl rfl rfl rfl rfl rfl rfl rfl rfl ?_
          refine d178_number (D178_number_mono k (fun v30 k => ?_))
          refine w_static (p := 40) (mj := 179) (pI pM_176 rfl) rfl rfl rfl rfl rfl rfl rfl rfl rfl ?_
          refine d179_reckon (D179_reckon_mono k (fun v31 k => ?_))
          refine w_static (p := 43) (mj := 168) (pI pM_176 rfl) rfl rfl rfl rfl rfl rfl rfl rfl rfl ?_
          refine d168_node (D168_node_mono k (fun v32 k => ?_))
          exact w_ireturn (pI pM_176 rfl) rfl rfl rfl k
        · replace k := itp (Decidable.not_not.mp c) k
          refine w_iconst (p := 30) (v := nI 0) (pI pM_176 rfl) rfl rfl ?_
          refine w_goto (p := 37) (pI pM_176 rfl) rfl rfl ?_
          refine w_static (p := 40) (mj := 179) (pI pM_176 rfl) rfl rfl rfl rfl rfl rfl rfl rfl rfl ?_
          refine d179_reckon (D179_reckon_mono k (fun v33 k => ?_))
          refine w_static (p := 43) (mj := 168) (pI pM_176 rfl) rfl rfl rfl rfl rfl rfl rfl rfl rfl ?_
          refine d168_node (D168_node_mono k (fun v34 k => ?_))
          exact w_ireturn (pI pM_176 rfl) rfl rfl rfl k
set_option maxRecDepth 100000 in
set_option maxHeartbeats 4000000 in
theorem d175_reckons {d L : Nat} {x : Int32} {y : Int32} {z : Int32} {u1 : Int32} {A I : HA} {Q : bm_Q} (k : D175_reckons x y z u1 A I (fun v A I => Q (some (.int v)) (hp L A I))) : bm_M (d + 4) 175 [.ref 1681, .int x, .int y, .int z, .int u1] (hp L A I) Q := by
  unfold D175_reckons at k
  refine bw_enter rfl rfl rfl rfl ?_
  refine w_aload_n (p := 1) (pI pM_175 rfl) rfl rfl ?_
  refine w_iload_n (p := 2) (pI pM_175 rfl) rfl rfl ?_
  refine w_iload_n (p := 3) (pI pM_175 rfl) rfl rfl ?_
  refine w_iload_n (p := 4) (pI pM_175 rfl) rfl rfl ?_
  refine v_virtual (p := 7) (mj := 176) (pI pM_175 rfl) rfl rfl rfl rfl rfl rfl rfl rfl rfl rfl (by decide) (by decide) rfl ?_
  refine d176_formula (D176_formula_mono k (fun v1 A2 I3 k => ?_))
  refine w_istore (p := 9) (pI pM_175 rfl) rfl rfl rfl ?_
  refine w_iload (p := 11) (pI pM_175 rfl) rfl rfl ?_
  refine w_iconst (p := 12) (v := -1) (pI pM_175 rfl) rfl rfl ?_
  refine w_icmp_ne (p := 15) (q := 29) (pI pM_175 rfl) rfl rfl rfl (fun c => ?_) (fun c => ?_)
  · replace k := itn c k
    refine w_aload_n (p := 30) (pI pM_175 rfl) rfl rfl ?_
    refine w_iload (p := 32) (pI pM_175 rfl) rfl rfl ?_
    refine w_iload (p := 34) (pI pM_175 rfl) rfl rfl ?_
    refine v_virtual (p := 37) (mj := 170) (pI pM_175 rfl) rfl rfl rfl rfl rfl rfl rfl rfl rfl rfl (by decide) (by decide) rfl ?_
    refine d170_next (D170_next_mono k (fun v4 A5 I6 k => ?_))
    exact w_ireturn (pI pM_175 rfl) rfl rfl rfl k
  · replace k := itp (Decidable.not_not.mp c) k
    refine w_aload_n (p := 16) (pI pM_175 rfl) rfl rfl ?_
    refine w_bipush (p := 18) (v := nI 7) (pI pM_175 rfl) rfl rfl ?_
    refine w_aload_n (p := 19) (pI pM_175 rfl) rfl rfl ?_
    refine v_virtual (p := 22) (mj := 166) (pI pM_175 rfl) rfl rfl rfl rfl rfl rfl rfl rfl rfl rfl (by decide) (by decide) rfl ?_
    refine d166_place (D166_place_mono k (fun v7 k => ?_))
    refine w_iconst (p := 23) (v := nI 0) (pI pM_175 rfl) rfl rfl ?_
    refine v_virtual (p := 26) (mj := 167) (pI pM_175 rfl) rfl rfl rfl rfl rfl rfl rfl rfl rfl rfl (by decide) (by decide) rfl ?_
    refine d167_ends (D167_ends_mono k (fun v8 A9 I10 k => ?_))
    refine w_goto (p := 37) (pI pM_175 rfl) rfl rfl ?_
    exact w_ireturn (pI pM_175 rfl) rfl rfl rfl k
set_option maxRecDepth 100000 in
set_option maxHeartbeats 4000000 in
theorem d180_splits {d L : Nat} {x : Int32} {y : Int32} {z : Int32} {A I : HA} {Q : bm_Q} (k : D180_splits x y z A I (fun v A I => Q (some (.int v)) (hp L A I))) : bm_M (d + 1) 180 [.ref 1681, .int x, .int y, .int z] (hp L A I) Q := by
  unfold D180_splits at k
  refine bw_enter rfl rfl rfl rfl ?_
  refine w_aload_n (p := 1) (pI pM_180 rfl) rfl rfl ?_
  refine w_iload_n (p := 2) (pI pM_180 rfl) rfl rfl ?_
  refine s_putI (p := 5) (kf := 37) (pI pM_180 rfl) rfl rfl rfl (by decide) (by decide) rfl rfl rfl rfl rfl rfl ?_
  refine w_aload_n (p := 6) (pI pM_180 rfl) rfl rfl ?_
  refine w_iload_n (p := 7) (pI pM_180 rfl) rfl rfl ?_
  refine s_putI (p := 10) (kf := 38) (pI pM_180 rfl) rfl rfl rfl (by decide) (by decide) rfl rfl rfl rfl rfl rfl ?_
  refine w_aload_n (p := 11) (pI pM_180 rfl) rfl rfl ?_
  refine w_iload_n (p := 12) (pI pM_180 rfl) rfl rfl ?_
  refine s_putI (p := 15) (kf := 39) (pI pM_180 rfl) rfl rfl rfl (by decide) (by decide) rfl rfl rfl rfl rfl rfl ?_
  refine w_iconst (p := 16) (v := nI 2) (pI pM_180 rfl) rfl rfl ?_
  exact w_ireturn (pI pM_180 rfl) rfl rfl rfl k
set_option maxRecDepth 100000 in
set_option maxHeartbeats 4000000 in
theorem d181_throwing {d L : Nat} {x : Int32} {A I : HA} {Q : bm_Q} (k : D181_throwing x A I (fun v A I => Q (some (.int v)) (hp L A I))) : bm_M (d + 3) 181 [.ref 1681, .int x] (hp L A I) Q := by
  unfold D181_throwing at k
  refine bw_enter rfl rfl rfl rfl ?_
  refine w_aload_n (p := 1) (pI pM_181 rfl) rfl rfl ?_
  refine v_virtual (p := 4) (mj := 166) (pI pM_181 rfl) rfl rfl rfl rfl rfl rfl rfl rfl rfl rfl (by decide) (by decide) rfl ?_
  refine d166_place (D166_place_mono k (fun v1 k => ?_))
  refine w_istore_n (p := 5) (pI pM_181 rfl) rfl rfl rfl ?_
  refine k (fun A7 I8 => ∀ u3 u4 u5 u6 : Value, bm_W (bm_M (d + 2)) 181 Q 5 [.ref 1681, .int x, .int v1, u3, u4, u5, u6] [] (hp L A7 I8)) (fun A7 I8 k => ?_) _ _ _ _
  intro u3 u4 u5 u6
  refine w_aload_n (p := 6) (pI pM_181 rfl) rfl rfl ?_
  refine v_getR (p := 9) (kf := 8) (pI pM_181 rfl) rfl rfl rfl (by decide) (by decide) rfl rfl ?_
  refine w_aload_n (p := 10) (pI pM_181 rfl) rfl rfl ?_
  refine v_getI (p := 13) (kf := 35) (pI pM_181 rfl) rfl rfl rfl (by decide) (by decide) rfl rfl rfl ?_
  refine w_iconst (p := 14) (v := nI 0) (pI pM_181 rfl) rfl rfl ?_
  refine w_iadd (p := 15) (pI pM_181 rfl) rfl ?_
  obtain ⟨s10, k⟩ := k
  refine v_iald (p := 16) (pI pM_181 rfl) rfl (by decide) rfl s10 rfl ?_
  refine w_if_le (p := 19) (q := 207) (pI pM_181 rfl) rfl rfl rfl (fun c => ?_) (fun c => ?_)
  · replace k := itn (Int32.not_lt.mpr c) k
    refine w_aload_n (p := 208) (pI pM_181 rfl) rfl rfl ?_
    refine w_iconst (p := 209) (v := nI 3) (pI pM_181 rfl) rfl rfl ?_
    refine w_iload_n (p := 210) (pI pM_181 rfl) rfl rfl ?_
    refine w_iload_n (p := 211) (pI pM_181 rfl) rfl rfl ?_
    refine v_virtual (p := 214) (mj := 167) (pI pM_181 rfl) rfl rfl rfl rfl rfl rfl rfl rfl rfl rfl (by decide) (by decide) rfl ?_
    refine d167_ends (D167_ends_mono k (fun v11 A12 I13 k => ?_))
    exact w_ireturn (pI pM_181 rfl) rfl rfl rfl k
  · replace k := itp (Int32.not_le.mp c) k
    refine w_aload_n (p := 20) (pI pM_181 rfl) rfl rfl ?_
    refine v_virtual (p := 23) (mj := 158) (pI pM_181 rfl) rfl rfl rfl rfl rfl rfl rfl rfl rfl rfl (by decide) (by decide) rfl ?_
    refine d158_frame (D158_frame_mono k (fun A14 I15 k => ?_))
    refine w_aload_n (p := 24) (pI pM_181 rfl) rfl rfl ?_
    refine v_getR (p := 27) (kf := 8) (pI pM_181 rfl) rfl rfl rfl (by decide) (by decide) rfl rfl ?_
    refine w_aload_n (p := 28) (pI pM_181 rfl) rfl rfl ?_
    refine v_getI (p := 31) (kf := 36) (pI pM_181 rfl) rfl rfl rfl (by decide) (by decide) rfl rfl rfl ?_
    refine w_iconst (p := 32) (v := nI 0) (pI pM_181 rfl) rfl rfl ?_
    refine w_iadd (p := 33) (pI pM_181 rfl) rfl ?_
    obtain ⟨s16, k⟩ := k
    refine v_iald (p := 34) (pI pM_181 rfl) rfl (by decide) rfl s16 rfl ?_
    refine w_istore_n (p := 35) (pI pM_181 rfl) rfl rfl rfl ?_
    refine w_iconst (p := 36) (v := nI 0) (pI pM_181 rfl) rfl rfl ?_
    refine w_istore (p := 38) (pI pM_181 rfl) rfl rfl rfl ?_
    refine k (fun a18 A21 I22 => ∀ u19 u20 : Value, bm_W (bm_M (d + 2)) 181 Q 38 [.ref 1681, .int x, .int v1, .int (A14 1688 ((I15 1681 36) + (nI 0)).toNatClampNeg), .int a18, u19, u20] [] (hp L A21 I22)) (fun a18 A21 I22 k => ?_) _ _
    intro u19 u20
    refine w_iload (p := 40) (pI pM_181 rfl) rfl rfl ?_
    refine w_aload_n (p := 41) (pI pM_181 rfl) rfl rfl ?_
    refine v_getR (p := 44) (kf := 6) (pI pM_181 rfl) rfl rfl rfl (by decide) (by decide) rfl rfl ?_
    refine w_iload_n (p := 45) (pI pM_181 rfl) rfl rfl ?_
    obtain ⟨s24, k⟩ := k
    refine v_iald (p := 46) (pI pM_181 rfl) rfl (by decide) rfl s24 rfl ?_
    refine w_icmp_ge (p := 49) (q := 189) (pI pM_181 rfl) rfl rfl rfl (fun c => ?_) (fun c => ?_)
    · replace k := itn (Int32.not_lt.mpr c) k
      refine w_aload_n (p := 190) (pI pM_181 rfl) rfl rfl ?_
      refine v_getR (p := 193) (kf := 8) (pI pM_181 rfl) rfl rfl rfl (by decide) (by decide) rfl rfl ?_
      refine w_aload_n (p := 194) (pI pM_181 rfl) rfl rfl ?_
      refine v_getI (p := 197) (kf := 35) (pI pM_181 rfl) rfl rfl rfl (by decide) (by decide) rfl rfl rfl ?_
      refine w_iconst (p := 198) (v := nI 0) (pI pM_181 rfl) rfl rfl ?_
      refine w_iadd (p := 199) (pI pM_181 rfl) rfl ?_
      refine w_dup2 (p := 200) (pI pM_181 rfl) rfl rfl rfl ?_
      obtain ⟨s25, k⟩ := k
      refine v_iald (p := 201) (pI pM_181 rfl) rfl (by decide) rfl s25 rfl ?_
      refine w_iconst (p := 202) (v := nI 1) (pI pM_181 rfl) rfl rfl ?_
      refine w_isub (p := 203) (pI pM_181 rfl) rfl ?_
      obtain ⟨s26, k⟩ := k
      refine s_iast (p := 204) (pI pM_181 rfl) rfl (by decide) (by decide) rfl s26 ?_
      refine w_goto (p := 5) (pI pM_181 rfl) rfl rfl ?_
      exact k _ _ _ _
    · replace k := itp (Int32.not_le.mp c) k
      refine w_bipush (p := 51) (v := nI 16) (pI pM_181 rfl) rfl rfl ?_
      refine w_iload_n (p := 52) (pI pM_181 rfl) rfl rfl ?_
      refine w_imul (p := 53) (pI pM_181 rfl) rfl ?_
      refine w_iconst (p := 54) (v := nI 4) (pI pM_181 rfl) rfl rfl ?_
      refine w_iload (p := 56) (pI pM_181 rfl) rfl rfl ?_
      refine w_imul (p := 57) (pI pM_181 rfl) rfl ?_
      refine w_iadd (p := 58) (pI pM_181 rfl) rfl ?_
      refine w_istore (p := 60) (pI pM_181 rfl) rfl rfl rfl ?_
      refine w_aload_n (p := 61) (pI pM_181 rfl) rfl rfl ?_
      refine v_getR (p := 64) (kf := 8) (pI pM_181 rfl) rfl rfl rfl (by decide) (by decide) rfl rfl ?_
      refine w_aload_n (p := 65) (pI pM_181 rfl) rfl rfl ?_
      refine v_getI (p := 68) (kf := 36) (pI pM_181 rfl) rfl rfl rfl (by decide) (by decide) rfl rfl rfl ?_
      refine w_iconst (p := 69) (v := nI 1) (pI pM_181 rfl) rfl rfl ?_
      refine w_iadd (p := 70) (pI pM_181 rfl) rfl ?_
      obtain ⟨s27, k⟩ := k
      refine v_iald (p := 71) (pI pM_181 rfl) rfl (by decide) rfl s27 rfl ?_
      refine w_aload_n (p := 72) (pI pM_181 rfl) rfl rfl ?_
      refine v_getR (p := 75) (kf := 7) (pI pM_181 rfl) rfl rfl rfl (by decide) (by decide) rfl rfl ?_
      refine w_iload (p := 77) (pI pM_181 rfl) rfl rfl ?_
      obtain ⟨s28, k⟩ := k
      refine v_iald (p := 78) (pI pM_181 rfl) rfl (by decide) rfl s28 rfl ?_
      refine w_icmp_lt (p := 81) (q := 133) (pI pM_181 rfl) rfl rfl rfl (fun c => ?_) (fun c => ?_)
      · replace k := itp c k
        refine w_iconst (p := 134) (v := nI 0) (pI pM_181 rfl) rfl rfl ?_
        refine w_istore (p := 136) (pI pM_181 rfl) rfl rfl rfl ?_
        refine w_iload (p := 138) (pI pM_181 rfl) rfl rfl ?_
        refine w_if_eq (p := 141) (q := 183) (pI pM_181 rfl) rfl rfl rfl (fun _ => ?_) (fun c => absurd (by decide) c)
        refine w_iinc (p := 186) (v := (a18 + nI 1)) (pI pM_181 rfl) rfl rfl rfl rfl ?_
        refine w_goto (p := 38) (pI pM_181 rfl) rfl rfl ?_
        exact k _ _
      · replace k := itn c k
        refine w_aload_n (p := 82) (pI pM_181 rfl) rfl rfl ?_
        refine v_getR (p := 85) (kf := 8) (pI pM_181 rfl) rfl rfl rfl (by decide) (by decide) rfl rfl ?_
        refine w_aload_n (p := 86) (pI pM_181 rfl) rfl rfl ?_
        refine v_getI (p := 89) (kf := 36) (pI pM_181 rfl) rfl rfl rfl (by decide) (by decide) rfl rfl rfl ?_
        refine w_iconst (p := 90) (v := nI 1) (pI pM_181 rfl) rfl rfl ?_
        refine w_iadd (p := 91) (pI pM_181 rfl) rfl ?_
        obtain ⟨s29, k⟩ := k
        refine v_iald (p := 92) (pI pM_181 rfl) rfl (by decide) rfl s29 rfl ?_
        refine w_aload_n (p := 93) (pI pM_181 rfl) rfl rfl ?_
        refine v_getR (p := 96) (kf := 7) (pI pM_181 rfl) rfl rfl rfl (by decide) (by decide) rfl rfl ?_
        refine w_iload (p := 98) (pI pM_181 rfl) rfl rfl ?_
        refine w_iconst (p := 99) (v := nI 1) (pI pM_181 rfl) rfl rfl ?_
        refine w_iadd (p := 100) (pI pM_181 rfl) rfl ?_
        obtain ⟨s30, k⟩ := k
        refine v_iald (p := 101) (pI pM_181 rfl) rfl (by decide) rfl s30 rfl ?_
        refine w_icmp_ge (p := 104) (q := 133) (pI pM_181 rfl) rfl rfl rfl (fun c => ?_) (fun c => ?_)
        · replace k := itn (Int32.not_lt.mpr c) k
          refine w_iconst (p := 134) (v := nI 0) (pI pM_181 rfl) rfl rfl ?_
          refine w_istore (p := 136) (pI pM_181 rfl) rfl rfl rfl ?_
          refine w_iload (p := 138) (pI pM_181 rfl) rfl rfl ?_
          refine w_if_eq (p := 141) (q := 183) (pI pM_181 rfl) rfl rfl rfl (fun _ => ?_) (fun c => absurd (by decide) c)
          refine w_iinc (p := 186) (v := (a18 + nI 1)) (pI pM_181 rfl) rfl rfl rfl rfl ?_
          refine w_goto (p := 38) (pI pM_181 rfl) rfl rfl ?_
          exact k _ _
        · replace k := itp (Int32.not_le.mp c) k
          refine w_aload_n (p := 105) (pI pM_181 rfl) rfl rfl ?_
          refine v_getR (p := 108) (kf := 7) (pI pM_181 rfl) rfl rfl rfl (by decide) (by decide) rfl rfl ?_
          refine w_iload (p := 110) (pI pM_181 rfl) rfl rfl ?_
          refine w_iconst (p := 111) (v := nI 3) (pI pM_181 rfl) rfl rfl ?_
          refine w_iadd (p := 112) (pI pM_181 rfl) rfl ?_
          obtain ⟨s31, k⟩ := k
          refine v_iald (p := 113) (pI pM_181 rfl) rfl (by decide) rfl s31 rfl ?_
          refine w_if_eq (p := 116) (q := 129) (pI pM_181 rfl) rfl rfl rfl (fun c => ?_) (fun c => ?_)
          · replace k := itp c k
            refine w_iconst (p := 130) (v := nI 1) (pI pM_181 rfl) rfl rfl ?_
            refine w_goto (p := 134) (pI pM_181 rfl) rfl rfl ?_
            refine w_istore (p := 136) (pI pM_181 rfl) rfl rfl rfl ?_
            refine w_iload (p := 138) (pI pM_181 rfl) rfl rfl ?_
            refine w_if_eq (p := 141) (q := 183) (pI pM_181 rfl) rfl rfl rfl (fun c => absurd c (by decide)) (fun _ => ?_)
            refine w_aload_n (p := 142) (pI pM_181 rfl) rfl rfl ?_
            refine v_getR (p := 145) (kf := 8) (pI pM_181 rfl) rfl rfl rfl (by decide) (by decide) rfl rfl ?_
            refine w_aload_n (p := 146) (pI pM_181 rfl) rfl rfl ?_
            refine v_getI (p := 149) (kf := 36) (pI pM_181 rfl) rfl rfl rfl (by decide) (by decide) rfl rfl rfl ?_
            refine w_iconst (p := 150) (v := nI 2) (pI pM_181 rfl) rfl rfl ?_
            refine w_iadd (p := 151) (pI pM_181 rfl) rfl ?_
            refine w_iconst (p := 152) (v := nI 0) (pI pM_181 rfl) rfl rfl ?_
            obtain ⟨s32, k⟩ := k
            refine s_iast (p := 153) (pI pM_181 rfl) rfl (by decide) (by decide) rfl s32 ?_
            refine w_aload_n (p := 154) (pI pM_181 rfl) rfl rfl ?_
            refine w_iload_n (p := 155) (pI pM_181 rfl) rfl rfl ?_
            refine w_static (p := 158) (mj := 168) (pI pM_181 rfl) rfl rfl rfl rfl rfl rfl rfl rfl rfl ?_
            refine d168_node (D168_node_mono k (fun v33 k => ?_))
            refine v_virtual (p := 161) (mj := 171) (pI pM_181 rfl) rfl rfl rfl rfl rfl rfl rfl rfl rfl rfl (by decide) (by decide) rfl ?_
            refine d171_push (D171_push_mono k (fun A34 I35 k => ?_))
            refine w_aload_n (p := 162) (pI pM_181 rfl) rfl rfl ?_
            refine v_getR (p := 165) (kf := 8) (pI pM_181 rfl) rfl rfl rfl (by decide) (by decide) rfl rfl ?_
            refine w_aload_n (p := 166) (pI pM_181 rfl) rfl rfl ?_
            refine v_getI (p := 169) (kf := 36) (pI pM_181 rfl) rfl rfl rfl (by decide) (by decide) rfl rfl rfl ?_
            refine w_iconst (p := 170) (v := nI 1) (pI pM_181 rfl) rfl rfl ?_
            refine w_iadd (p := 171) (pI pM_181 rfl) rfl ?_
            refine w_aload_n (p := 172) (pI pM_181 rfl) rfl rfl ?_
            refine v_getR (p := 175) (kf := 7) (pI pM_181 rfl) rfl rfl rfl (by decide) (by decide) rfl rfl ?_
            refine w_iload (p := 177) (pI pM_181 rfl) rfl rfl ?_
            refine w_iconst (p := 178) (v := nI 2) (pI pM_181 rfl) rfl rfl ?_
            refine w_iadd (p := 179) (pI pM_181 rfl) rfl ?_
            obtain ⟨s36, k⟩ := k
            refine v_iald (p := 180) (pI pM_181 rfl) rfl (by decide) rfl s36 rfl ?_
            obtain ⟨s37, k⟩ := k
            refine s_iast (p := 181) (pI pM_181 rfl) rfl (by decide) (by decide) rfl s37 ?_
            refine w_iconst (p := 182) (v := nI 0) (pI pM_181 rfl) rfl rfl ?_
            exact w_ireturn (pI pM_181 rfl) rfl rfl rfl k
          · replace k := itn c k
            refine w_aload_n (p := 117) (pI pM_181 rfl) rfl rfl ?_
            refine v_getR (p := 120) (kf := 7) (pI pM_181 rfl) rfl rfl rfl (by decide) (by decide) rfl rfl ?_
            refine w_iload (p := 122) (pI pM_181 rfl) rfl rfl ?_
            refine w_iconst (p := 123) (v := nI 3) (pI pM_181 rfl) rfl rfl ?_
            refine w_iadd (p := 124) (pI pM_181 rfl) rfl ?_
            obtain ⟨s38, k⟩ := k
            refine v_iald (p := 125) (pI pM_181 rfl) rfl (by decide) rfl s38 rfl ?_
            refine w_iload_n (p := 126) (pI pM_181 rfl) rfl rfl ?_
            refine w_icmp_ne (p := 129) (q := 133) (pI pM_181 rfl) rfl rfl rfl (fun c => ?_) (fun c => ?_)
            · replace k := itn c k
              refine w_iconst (p := 134) (v := nI 0) (pI pM_181 rfl) rfl rfl ?_
              refine w_istore (p := 136) (pI pM_181 rfl) rfl rfl rfl ?_
              refine w_iload (p := 138) (pI pM_181 rfl) rfl rfl ?_
              refine w_if_eq (p := 141) (q := 183) (pI pM_181 rfl) rfl rfl rfl (fun _ => ?_) (fun c => absurd (by decide) c)
              refine w_iinc (p := 186) (v := (a18 + nI 1)) (pI pM_181 rfl) rfl rfl rfl rfl ?_
              refine w_goto (p := 38) (pI pM_181 rfl) rfl rfl ?_
              exact k _ _
            · replace k := itp (Decidable.not_not.mp c) k
              refine w_iconst (p := 130) (v := nI 1) (pI pM_181 rfl) rfl rfl ?_
              refine w_goto (p := 134) (pI pM_181 rfl) rfl rfl ?_
              refine w_istore (p := 136) (pI pM_181 rfl) rfl rfl rfl ?_
              refine w_iload (p := 138) (pI pM_181 rfl) rfl rfl ?_
              refine w_if_eq (p := 141) (q := 183) (pI pM_181 rfl) rfl rfl rfl (fun c => absurd c (by decide)) (fun _ => ?_)
              refine w_aload_n (p := 142) (pI pM_181 rfl) rfl rfl ?_
              refine v_getR (p := 145) (kf := 8) (pI pM_181 rfl) rfl rfl rfl (by decide) (by decide) rfl rfl ?_
              refine w_aload_n (p := 146) (pI pM_181 rfl) rfl rfl ?_
              refine v_getI (p := 149) (kf := 36) (pI pM_181 rfl) rfl rfl rfl (by decide) (by decide) rfl rfl rfl ?_
              refine w_iconst (p := 150) (v := nI 2) (pI pM_181 rfl) rfl rfl ?_
              refine w_iadd (p := 151) (pI pM_181 rfl) rfl ?_
              refine w_iconst (p := 152) (v := nI 0) (pI pM_181 rfl) rfl rfl ?_
              obtain ⟨s39, k⟩ := k
              refine s_iast (p := 153) (pI pM_181 rfl) rfl (by decide) (by decide) rfl s39 ?_
              refine w_aload_n (p := 154) (pI pM_181 rfl) rfl rfl ?_
              refine w_iload_n (p := 155) (pI pM_181 rfl) rfl rfl ?_
              refine w_static (p := 158) (mj := 168) (pI pM_181 rfl) rfl rfl rfl rfl rfl rfl rfl rfl rfl ?_
              refine d168_node (D168_node_mono k (fun v40 k => ?_))
              refine v_virtual (p := 161) (mj := 171) (pI pM_181 rfl) rfl rfl rfl rfl rfl rfl rfl rfl rfl rfl (by decide) (by decide) rfl ?_
              refine d171_push (D171_push_mono k (fun A41 I42 k => ?_))
              refine w_aload_n (p := 162) (pI pM_181 rfl) rfl rfl ?_
              refine v_getR (p := 165) (kf := 8) (pI pM_181 rfl) rfl rfl rfl (by decide) (by decide) rfl rfl ?_
              refine w_aload_n (p := 166) (pI pM_181 rfl) rfl rfl ?_
              refine v_getI (p := 169) (kf := 36) (pI pM_181 rfl) rfl rfl rfl (by decide) (by decide) rfl rfl rfl ?_
              refine w_iconst (p := 170) (v := nI 1) (pI pM_181 rfl) rfl rfl ?_
              refine w_iadd (p := 171) (pI pM_181 rfl) rfl ?_
              refine w_aload_n (p := 172) (pI pM_181 rfl) rfl rfl ?_
              refine v_getR (p := 175) (kf := 7) (pI pM_181 rfl) rfl rfl rfl (by decide) (by decide) rfl rfl ?_
              refine w_iload (p := 177) (pI pM_181 rfl) rfl rfl ?_
              refine w_iconst (p := 178) (v := nI 2) (pI pM_181 rfl) rfl rfl ?_
              refine w_iadd (p := 179) (pI pM_181 rfl) rfl ?_
              obtain ⟨s43, k⟩ := k
              refine v_iald (p := 180) (pI pM_181 rfl) rfl (by decide) rfl s43 rfl ?_
              obtain ⟨s44, k⟩ := k
              refine s_iast (p := 181) (pI pM_181 rfl) rfl (by decide) (by decide) rfl s44 ?_
              refine w_iconst (p := 182) (v := nI 0) (pI pM_181 rfl) rfl rfl ?_
              exact w_ireturn (pI pM_181 rfl) rfl rfl rfl k
set_option maxRecDepth 100000 in
set_option maxHeartbeats 4000000 in
theorem d173_words {d L : Nat} {x : Int32} {y : Int32} {z : Int32} {A I : HA} {Q : bm_Q} (k : D173_words x y z A I (fun v A I => Q (some (.int v)) (hp L A I))) : bm_M (d + 5) 173 [.ref 1681, .int x, .int y, .int z] (hp L A I) Q := by
  unfold D173_words at k
  refine bw_enter rfl rfl rfl rfl ?_
  refine w_iload_n (p := 1) (pI pM_173 rfl) rfl rfl ?_
  refine w_bipush (p := 3) (v := nI 11) (pI pM_173 rfl) rfl rfl ?_
  refine w_icmp_ne (p := 6) (q := 39) (pI pM_173 rfl) rfl rfl rfl (fun c => ?_) (fun c => ?_)
  · replace k := itn c k
    refine w_iload_n (p := 40) (pI pM_173 rfl) rfl rfl ?_
    refine w_iconst (p := 41) (v := nI 2) (pI pM_173 rfl) rfl rfl ?_
    refine w_icmp_lt (p := 44) (q := 60) (pI pM_173 rfl) rfl rfl rfl (fun c => ?_) (fun c => ?_)
    · replace k := itp c k
      refine w_aload_n (p := 61) (pI pM_173 rfl) rfl rfl ?_
      refine v_virtual (p := 64) (mj := 165) (pI pM_173 rfl) rfl rfl rfl rfl rfl rfl rfl rfl rfl rfl (by decide) (by decide) rfl ?_
      refine d165_broken (D165_broken_mono k (fun v1 A2 I3 k => ?_))
      exact w_ireturn (pI pM_173 rfl) rfl rfl rfl k
    · replace k := itn c k
      refine w_aload_n (p := 45) (pI pM_173 rfl) rfl rfl ?_
      refine w_iconst (p := 46) (v := nI 0) (pI pM_173 rfl) rfl rfl ?_
      refine v_virtual (p := 49) (mj := 174) (pI pM_173 rfl) rfl rfl rfl rfl rfl rfl rfl rfl rfl rfl (by decide) (by decide) rfl ?_
      refine d174_isWord (D174_isWord_mono k (fun v4 k => ?_))
      refine w_if_eq (p := 52) (q := 60) (pI pM_173 rfl) rfl rfl rfl (fun c => ?_) (fun c => ?_)
      · replace k := itp c k
        refine w_aload_n (p := 61) (pI pM_173 rfl) rfl rfl ?_
        refine v_virtual (p := 64) (mj := 165) (pI pM_173 rfl) rfl rfl rfl rfl rfl rfl rfl rfl rfl rfl (by decide) (by decide) rfl ?_
        refine d165_broken (D165_broken_mono k (fun v5 A6 I7 k => ?_))
        exact w_ireturn (pI pM_173 rfl) rfl rfl rfl k
      · replace k := itn c k
        refine w_aload_n (p := 53) (pI pM_173 rfl) rfl rfl ?_
        refine w_iconst (p := 54) (v := nI 1) (pI pM_173 rfl) rfl rfl ?_
        refine v_virtual (p := 57) (mj := 174) (pI pM_173 rfl) rfl rfl rfl rfl rfl rfl rfl rfl rfl rfl (by decide) (by decide) rfl ?_
        refine d174_isWord (D174_isWord_mono k (fun v8 k => ?_))
        refine w_if_ne (p := 60) (q := 65) (pI pM_173 rfl) rfl rfl rfl (fun c => ?_) (fun c => ?_)
        · replace k := itn c k
          refine w_aload_n (p := 66) (pI pM_173 rfl) rfl rfl ?_
          refine w_iconst (p := 67) (v := nI 0) (pI pM_173 rfl) rfl rfl ?_
          refine v_virtual (p := 70) (mj := 172) (pI pM_173 rfl) rfl rfl rfl rfl rfl rfl rfl rfl rfl rfl (by decide) (by decide) rfl ?_
          refine d172_top (D172_top_mono k (fun v9 k => ?_))
          refine w_istore (p := 72) (pI pM_173 rfl) rfl rfl rfl ?_
          refine w_iload_n (p := 73) (pI pM_173 rfl) rfl rfl ?_
          refine w_bipush (p := 75) (v := nI 9) (pI pM_173 rfl) rfl rfl ?_
          refine w_icmp_eq (p := 78) (q := 84) (pI pM_173 rfl) rfl rfl rfl (fun c => ?_) (fun c => ?_)
          · replace k := itp c k
            refine w_iload (p := 86) (pI pM_173 rfl) rfl rfl ?_
            refine w_static (p := 89) (mj := 177) (pI pM_173 rfl) rfl rfl rfl rfl rfl rfl rfl rfl rfl ?_
            refine d177_isNumber (D177_isNumber_mono k (fun v10 k => ?_))
            refine w_if_ne (p := 92) (q := 106) (pI pM_173 rfl) rfl rfl rfl (fun c => ?_) (fun c => ?_)
            · replace k := itn c k
              refine w_iload (p := 108) (pI pM_173 rfl) rfl rfl ?_
              refine w_static (p := 111) (mj := 177) (pI pM_173 rfl) rfl rfl rfl rfl rfl rfl rfl rfl rfl ?_
              refine d177_isNumber (D177_isNumber_mono k (fun v11 k => ?_))
              refine w_if_eq (p := 114) (q := 125) (pI pM_173 rfl) rfl rfl rfl (fun c => ?_) (fun c => ?_)
              · replace k := itp c k
                refine w_iload_n (p := 126) (pI pM_173 rfl) rfl rfl ?_
                refine w_iconst (p := 127) (v := nI 1) (pI pM_173 rfl) rfl rfl ?_
                refine w_icmp_ne (p := 130) (q := 136) (pI pM_173 rfl) rfl rfl rfl (fun c => ?_) (fun c => ?_)
                · replace k := itn c k
                  refine w_aload_n (p := 137) (pI pM_173 rfl) rfl rfl ?_
                  refine w_iload_n (p := 138) (pI pM_173 rfl) rfl rfl ?_
                  refine w_aload_n (p := 139) (pI pM_173 rfl) rfl rfl ?_
                  refine w_iconst (p := 140) (v := nI 1) (pI pM_173 rfl) rfl rfl ?_
                  refine v_virtual (p := 143) (mj := 172) (pI pM_173 rfl) rfl rfl rfl rfl rfl rfl rfl rfl rfl rfl (by decide) (by decide) rfl ?_
                  refine d172_top (D172_top_mono k (fun v12 k => ?_))
                  refine w_iload (p := 145) (pI pM_173 rfl) rfl rfl ?_
                  refine w_iconst (p := 146) (v := nI 2) (pI pM_173 rfl) rfl rfl ?_
                  refine v_virtual (p := 149) (mj := 175) (pI pM_173 rfl) rfl rfl rfl rfl rfl rfl rfl rfl rfl rfl (by decide) (by decide) rfl ?_
                  refine d175_reckons (D175_reckons_mono k (fun v13 A14 I15 k => ?_))
                  exact w_ireturn (pI pM_173 rfl) rfl rfl rfl k
                · replace k := itp (Decidable.not_not.mp c) k
                  refine w_aload_n (p := 131) (pI pM_173 rfl) rfl rfl ?_
                  refine w_iconst (p := 132) (v := nI 1) (pI pM_173 rfl) rfl rfl ?_
                  refine v_virtual (p := 135) (mj := 181) (pI pM_173 rfl) rfl rfl rfl rfl rfl rfl rfl rfl rfl rfl (by decide) (by decide) rfl ?_
                  refine d181_throwing (D181_throwing_mono k (fun v16 A17 I18 k => ?_))
                  exact w_ireturn (pI pM_173 rfl) rfl rfl rfl k
              · replace k := itn c k
                refine w_iload (p := 116) (pI pM_173 rfl) rfl rfl ?_
                refine w_static (p := 119) (mj := 178) (pI pM_173 rfl) rfl rfl rfl rfl rfl rfl rfl rfl rfl ?_
                refine d178_number (D178_number_mono k (fun v19 k => ?_))
                refine w_if_ne (p := 122) (q := 136) (pI pM_173 rfl) rfl rfl rfl (fun c => ?_) (fun c => ?_)
                · replace k := itn c k
                  refine w_aload_n (p := 137) (pI pM_173 rfl) rfl rfl ?_
                  refine w_iload_n (p := 138) (pI pM_173 rfl) rfl rfl ?_
                  refine w_aload_n (p := 139) (pI pM_173 rfl) rfl rfl ?_
                  refine w_iconst (p := 140) (v := nI 1) (pI pM_173 rfl) rfl rfl ?_
                  refine v_virtual (p := 143) (mj := 172) (pI pM_173 rfl) rfl rfl rfl rfl rfl rfl rfl rfl rfl rfl (by decide) (by decide) rfl ?_
                  refine d172_top (D172_top_mono k (fun v20 k => ?_))
                  refine w_iload (p := 145) (pI pM_173 rfl) rfl rfl ?_
                  refine w_iconst (p := 146) (v := nI 2) (pI pM_173 rfl) rfl rfl ?_
                  refine v_virtual (p := 149) (mj := 175) (pI pM_173 rfl) rfl rfl rfl rfl rfl rfl rfl rfl rfl rfl (by decide) (by decide) rfl ?_
                  refine d175_reckons (D175_reckons_mono k (fun v21 A22 I23 k => ?_))
                  exact w_ireturn (pI pM_173 rfl) rfl rfl rfl k
                · replace k := itp (Decidable.not_not.mp c) k
                  refine w_goto (p := 130) (pI pM_173 rfl) rfl rfl ?_
                  refine w_aload_n (p := 131) (pI pM_173 rfl) rfl rfl ?_
                  refine w_iconst (p := 132) (v := nI 1) (pI pM_173 rfl) rfl rfl ?_
                  refine v_virtual (p := 135) (mj := 181) (pI pM_173 rfl) rfl rfl rfl rfl rfl rfl rfl rfl rfl rfl (by decide) (by decide) rfl ?_
                  refine d181_throwing (D181_throwing_mono k (fun v24 A25 I26 k => ?_))
                  exact w_ireturn (pI pM_173 rfl) rfl rfl rfl k
            · replace k := itp (Decidable.not_not.mp c) k
              refine w_iload_n (p := 93) (pI pM_173 rfl) rfl rfl ?_
              refine w_iconst (p := 94) (v := -1) (pI pM_173 rfl) rfl rfl ?_
              refine w_icmp_ne (p := 97) (q := 106) (pI pM_173 rfl) rfl rfl rfl (fun c => ?_) (fun c => ?_)
              · replace k := itn c k
                refine w_iload (p := 108) (pI pM_173 rfl) rfl rfl ?_
                refine w_static (p := 111) (mj := 177) (pI pM_173 rfl) rfl rfl rfl rfl rfl rfl rfl rfl rfl ?_
                refine d177_isNumber (D177_isNumber_mono k (fun v27 k => ?_))
                refine w_if_eq (p := 114) (q := 125) (pI pM_173 rfl) rfl rfl rfl (fun c => ?_) (fun c => ?_)
                · replace k := itp c k
                  refine w_iload_n (p := 126) (pI pM_173 rfl) rfl rfl ?_
                  refine w_iconst (p := 127) (v := nI 1) (pI pM_173 rfl) rfl rfl ?_
                  refine w_icmp_ne (p := 130) (q := 136) (pI pM_173 rfl) rfl rfl rfl (fun c => ?_) (fun c => ?_)
                  · replace k := itn c k
                    refine w_aload_n (p := 137) (pI pM_173 rfl) rfl rfl ?_
                    refine w_iload_n (p := 138) (pI pM_173 rfl) rfl rfl ?_
                    refine w_aload_n (p := 139) (pI pM_173 rfl) rfl rfl ?_
                    refine w_iconst (p := 140) (v := nI 1) (pI pM_173 rfl) rfl rfl ?_
                    refine v_virtual (p := 143) (mj := 172) (pI pM_173 rfl) rfl rfl rfl rfl rfl rfl rfl rfl rfl rfl (by decide) (by decide) rfl ?_
                    refine d172_top (D172_top_mono k (fun v28 k => ?_))
                    refine w_iload (p := 145) (pI pM_173 rfl) rfl rfl ?_
                    refine w_iconst (p := 146) (v := nI 2) (pI pM_173 rfl) rfl rfl ?_
                    refine v_virtual (p := 149) (mj := 175) (pI pM_173 rfl) rfl rfl rfl rfl rfl rfl rfl rfl rfl rfl (by decide) (by decide) rfl ?_
                    refine d175_reckons (D175_reckons_mono k (fun v29 A30 I31 k => ?_))
                    exact w_ireturn (pI pM_173 rfl) rfl rfl rfl k
                  · replace k := itp (Decidable.not_not.mp c) k
                    refine w_aload_n (p := 131) (pI pM_173 rfl) rfl rfl ?_
                    refine w_iconst (p := 132) (v := nI 1) (pI pM_173 rfl) rfl rfl ?_
                    refine v_virtual (p := 135) (mj := 181) (pI pM_173 rfl) rfl rfl rfl rfl rfl rfl rfl rfl rfl rfl (by decide) (by decide) rfl ?_
                    refine d181_throwing (D181_throwing_mono k (fun v32 A33 I34 k => ?_))
                    exact w_ireturn (pI pM_173 rfl) rfl rfl rfl k
                · replace k := itn c k
                  refine w_iload (p := 116) (pI pM_173 rfl) rfl rfl ?_
                  refine w_static (p := 119) (mj := 178) (pI pM_173 rfl) rfl rfl rfl rfl rfl rfl rfl rfl rfl ?_
                  refine d178_number (D178_number_mono k (fun v35 k => ?_))
                  refine w_if_ne (p := 122) (q := 136) (pI pM_173 rfl) rfl rfl rfl (fun c => ?_) (fun c => ?_)
                  · replace k := itn c k
                    refine w_aload_n (p := 137) (pI pM_173 rfl) rfl rfl ?_
                    refine w_iload_n (p := 138) (pI pM_173 rfl) rfl rfl ?_
                    refine w_aload_n (p := 139) (pI pM_173 rfl) rfl rfl ?_
                    refine w_iconst (p := 140) (v := nI 1) (pI pM_173 rfl) rfl rfl ?_
                    refine v_virtual (p := 143) (mj := 172) (pI pM_173 rfl) rfl rfl rfl rfl rfl rfl rfl rfl rfl rfl (by decide) (by decide) rfl ?_
                    refine d172_top (D172_top_mono k (fun v36 k => ?_))
                    refine w_iload (p := 145) (pI pM_173 rfl) rfl rfl ?_
                    refine w_iconst (p := 146) (v := nI 2) (pI pM_173 rfl) rfl rfl ?_
                    refine v_virtual (p := 149) (mj := 175) (pI pM_173 rfl) rfl rfl rfl rfl rfl rfl rfl rfl rfl rfl (by decide) (by decide) rfl ?_
                    refine d175_reckons (D175_reckons_mono k (fun v37 A38 I39 k => ?_))
                    exact w_ireturn (pI pM_173 rfl) rfl rfl rfl k
                  · replace k := itp (Decidable.not_not.mp c) k
                    refine w_goto (p := 130) (pI pM_173 rfl) rfl rfl ?_
                    refine w_aload_n (p := 131) (pI pM_173 rfl) rfl rfl ?_
                    refine w_iconst (p := 132) (v := nI 1) (pI pM_173 rfl) rfl rfl ?_
                    refine v_virtual (p := 135) (mj := 181) (pI pM_173 rfl) rfl rfl rfl rfl rfl rfl rfl rfl rfl rfl (by decide) (by decide) rfl ?_
                    refine d181_throwing (D181_throwing_mono k (fun v40 A41 I42 k => ?_))
                    exact w_ireturn (pI pM_173 rfl) rfl rfl rfl k
              · replace k := itp (Decidable.not_not.mp c) k
                refine w_aload_n (p := 98) (pI pM_173 rfl) rfl rfl ?_
                refine w_iconst (p := 99) (v := nI 2) (pI pM_173 rfl) rfl rfl ?_
                refine w_iload (p := 101) (pI pM_173 rfl) rfl rfl ?_
                refine w_iconst (p := 102) (v := -1) (pI pM_173 rfl) rfl rfl ?_
                refine v_virtual (p := 105) (mj := 180) (pI pM_173 rfl) rfl rfl rfl rfl rfl rfl rfl rfl rfl rfl (by decide) (by decide) rfl ?_
                refine d180_splits (D180_splits_mono k (fun v43 A44 I45 k => ?_))
                exact w_ireturn (pI pM_173 rfl) rfl rfl rfl k
          · replace k := itn c k
            refine w_iload_n (p := 79) (pI pM_173 rfl) rfl rfl ?_
            refine w_bipush (p := 81) (v := nI 10) (pI pM_173 rfl) rfl rfl ?_
            refine w_icmp_ne (p := 84) (q := 136) (pI pM_173 rfl) rfl rfl rfl (fun c => ?_) (fun c => ?_)
            · replace k := itn c k
              refine w_aload_n (p := 137) (pI pM_173 rfl) rfl rfl ?_
              refine w_iload_n (p := 138) (pI pM_173 rfl) rfl rfl ?_
              refine w_aload_n (p := 139) (pI pM_173 rfl) rfl rfl ?_
              refine w_iconst (p := 140) (v := nI 1) (pI pM_173 rfl) rfl rfl ?_
              refine v_virtual (p := 143) (mj := 172) (pI pM_173 rfl) rfl rfl rfl rfl rfl rfl rfl rfl rfl rfl (by decide) (by decide) rfl ?_
              refine d172_top (D172_top_mono k (fun v46 k => ?_))
              refine w_iload (p := 145) (pI pM_173 rfl) rfl rfl ?_
              refine w_iconst (p := 146) (v := nI 2) (pI pM_173 rfl) rfl rfl ?_
              refine v_virtual (p := 149) (mj := 175) (pI pM_173 rfl) rfl rfl rfl rfl rfl rfl rfl rfl rfl rfl (by decide) (by decide) rfl ?_
              refine d175_reckons (D175_reckons_mono k (fun v47 A48 I49 k => ?_))
              exact w_ireturn (pI pM_173 rfl) rfl rfl rfl k
            · replace k := itp (Decidable.not_not.mp c) k
              refine w_iload (p := 86) (pI pM_173 rfl) rfl rfl ?_
              refine w_static (p := 89) (mj := 177) (pI pM_173 rfl) rfl rfl rfl rfl rfl rfl rfl rfl rfl ?_
              refine d177_isNumber (D177_isNumber_mono k (fun v50 k => ?_))
              refine w_if_ne (p := 92) (q := 106) (pI pM_173 rfl) rfl rfl rfl (fun c => ?_) (fun c => ?_)
              · replace k := itn c k
                refine w_iload (p := 108) (pI pM_173 rfl) rfl rfl ?_
                refine w_static (p := 111) (mj := 177) (pI pM_173 rfl) rfl rfl rfl rfl rfl rfl rfl rfl rfl ?_
                refine d177_isNumber (D177_isNumber_mono k (fun v51 k => ?_))
                refine w_if_eq (p := 114) (q := 125) (pI pM_173 rfl) rfl rfl rfl (fun c => ?_) (fun c => ?_)
                · replace k := itp c k
                  refine w_iload_n (p := 126) (pI pM_173 rfl) rfl rfl ?_
                  refine w_iconst (p := 127) (v := nI 1) (pI pM_173 rfl) rfl rfl ?_
                  refine w_icmp_ne (p := 130) (q := 136) (pI pM_173 rfl) rfl rfl rfl (fun c => ?_) (fun c => ?_)
                  · replace k := itn c k
                    refine w_aload_n (p := 137) (pI pM_173 rfl) rfl rfl ?_
                    refine w_iload_n (p := 138) (pI pM_173 rfl) rfl rfl ?_
                    refine w_aload_n (p := 139) (pI pM_173 rfl) rfl rfl ?_
                    refine w_iconst (p := 140) (v := nI 1) (pI pM_173 rfl) rfl rfl ?_
                    refine v_virtual (p := 143) (mj := 172) (pI pM_173 rfl) rfl rfl rfl rfl rfl rfl rfl rfl rfl rfl (by decide) (by decide) rfl ?_
                    refine d172_top (D172_top_mono k (fun v52 k => ?_))
                    refine w_iload (p := 145) (pI pM_173 rfl) rfl rfl ?_
                    refine w_iconst (p := 146) (v := nI 2) (pI pM_173 rfl) rfl rfl ?_
                    refine v_virtual (p := 149) (mj := 175) (pI pM_173 rfl) rfl rfl rfl rfl rfl rfl rfl rfl rfl rfl (by decide) (by decide) rfl ?_
                    refine d175_reckons (D175_reckons_mono k (fun v53 A54 I55 k => ?_))
                    exact w_ireturn (pI pM_173 rfl) rfl rfl rfl k
                  · replace k := itp (Decidable.not_not.mp c) k
                    refine w_aload_n (p := 131) (pI pM_173 rfl) rfl rfl ?_
                    refine w_iconst (p := 132) (v := nI 1) (pI pM_173 rfl) rfl rfl ?_
                    refine v_virtual (p := 135) (mj := 181) (pI pM_173 rfl) rfl rfl rfl rfl rfl rfl rfl rfl rfl rfl (by decide) (by decide) rfl ?_
                    refine d181_throwing (D181_throwing_mono k (fun v56 A57 I58 k => ?_))
                    exact w_ireturn (pI pM_173 rfl) rfl rfl rfl k
                · replace k := itn c k
                  refine w_iload (p := 116) (pI pM_173 rfl) rfl rfl ?_
                  refine w_static (p := 119) (mj := 178) (pI pM_173 rfl) rfl rfl rfl rfl rfl rfl rfl rfl rfl ?_
                  refine d178_number (D178_number_mono k (fun v59 k => ?_))
                  refine w_if_ne (p := 122) (q := 136) (pI pM_173 rfl) rfl rfl rfl (fun c => ?_) (fun c => ?_)
                  · replace k := itn c k
                    refine w_aload_n (p := 137) (pI pM_173 rfl) rfl rfl ?_
                    refine w_iload_n (p := 138) (pI pM_173 rfl) rfl rfl ?_
                    refine w_aload_n (p := 139) (pI pM_173 rfl) rfl rfl ?_
                    refine w_iconst (p := 140) (v := nI 1) (pI pM_173 rfl) rfl rfl ?_
                    refine v_virtual (p := 143) (mj := 172) (pI pM_173 rfl) rfl rfl rfl rfl rfl rfl rfl rfl rfl rfl (by decide) (by decide) rfl ?_
                    refine d172_top (D172_top_mono k (fun v60 k => ?_))
                    refine w_iload (p := 145) (pI pM_173 rfl) rfl rfl ?_
                    refine w_iconst (p := 146) (v := nI 2) (pI pM_173 rfl) rfl rfl ?_
                    refine v_virtual (p := 149) (mj := 175) (pI pM_173 rfl) rfl rfl rfl rfl rfl rfl rfl rfl rfl rfl (by decide) (by decide) rfl ?_
                    refine d175_reckons (D175_reckons_mono k (fun v61 A62 I63 k => ?_))
                    exact w_ireturn (pI pM_173 rfl) rfl rfl rfl k
                  · replace k := itp (Decidable.not_not.mp c) k
                    refine w_goto (p := 130) (pI pM_173 rfl) rfl rfl ?_
                    refine w_aload_n (p := 131) (pI pM_173 rfl) rfl rfl ?_
                    refine w_iconst (p := 132) (v := nI 1) (pI pM_173 rfl) rfl rfl ?_
                    refine v_virtual (p := 135) (mj := 181) (pI pM_173 rfl) rfl rfl rfl rfl rfl rfl rfl rfl rfl rfl (by decide) (by decide) rfl ?_
                    refine d181_throwing (D181_throwing_mono k (fun v64 A65 I66 k => ?_))
                    exact w_ireturn (pI pM_173 rfl) rfl rfl rfl k
              · replace k := itp (Decidable.not_not.mp c) k
                refine w_iload_n (p := 93) (pI pM_173 rfl) rfl rfl ?_
                refine w_iconst (p := 94) (v := -1) (pI pM_173 rfl) rfl rfl ?_
                refine w_icmp_ne (p := 97) (q := 106) (pI pM_173 rfl) rfl rfl rfl (fun c => ?_) (fun c => ?_)
                · replace k := itn c k
                  refine w_iload (p := 108) (pI pM_173 rfl) rfl rfl ?_
                  refine w_static (p := 111) (mj := 177) (pI pM_173 rfl) rfl rfl rfl rfl rfl rfl rfl rfl rfl ?_
                  refine d177_isNumber (D177_isNumber_mono k (fun v67 k => ?_))
                  refine w_if_eq (p := 114) (q := 125) (pI pM_173 rfl) rfl rfl rfl (fun c => ?_) (fun c => ?_)
                  · replace k := itp c k
                    refine w_iload_n (p := 126) (pI pM_173 rfl) rfl rfl ?_
                    refine w_iconst (p := 127) (v := nI 1) (pI pM_173 rfl) rfl rfl ?_
                    refine w_icmp_ne (p := 130) (q := 136) (pI pM_173 rfl) rfl rfl rfl (fun c => ?_) (fun c => ?_)
                    · replace k := itn c k
                      refine w_aload_n (p := 137) (pI pM_173 rfl) rfl rfl ?_
                      refine w_iload_n (p := 138) (pI pM_173 rfl) rfl rfl ?_
                      refine w_aload_n (p := 139) (pI pM_173 rfl) rfl rfl ?_
                      refine w_iconst (p := 140) (v := nI 1) (pI pM_173 rfl) rfl rfl ?_
                      refine v_virtual (p := 143) (mj := 172) (pI pM_173 rfl) rfl rfl rfl rfl rfl rfl rfl rfl rfl rfl (by decide) (by decide) rfl ?_
                      refine d172_top (D172_top_mono k (fun v68 k => ?_))
                      refine w_iload (p := 145) (pI pM_173 rfl) rfl rfl ?_
                      refine w_iconst (p := 146) (v := nI 2) (pI pM_173 rfl) rfl rfl ?_
                      refine v_virtual (p := 149) (mj := 175) (pI pM_173 rfl) rfl rfl rfl rfl rfl rfl rfl rfl rfl rfl (by decide) (by decide) rfl ?_
                      refine d175_reckons (D175_reckons_mono k (fun v69 A70 I71 k => ?_))
                      exact w_ireturn (pI pM_173 rfl) rfl rfl rfl k
                    · replace k := itp (Decidable.not_not.mp c) k
                      refine w_aload_n (p := 131) (pI pM_173 rfl) rfl rfl ?_
                      refine w_iconst (p := 132) (v := nI 1) (pI pM_173 rfl) rfl rfl ?_
                      refine v_virtual (p := 135) (mj := 181) (pI pM_173 rfl) rfl rfl rfl rfl rfl rfl rfl rfl rfl rfl (by decide) (by decide) rfl ?_
                      refine d181_throwing (D181_throwing_mono k (fun v72 A73 I74 k => ?_))
                      exact w_ireturn (pI pM_173 rfl) rfl rfl rfl k
                  · replace k := itn c k
                    refine w_iload (p := 116) (pI pM_173 rfl) rfl rfl ?_
                    refine w_static (p := 119) (mj := 178) (pI pM_173 rfl) rfl rfl rfl rfl rfl rfl rfl rfl rfl ?_
                    refine d178_number (D178_number_mono k (fun v75 k => ?_))
                    refine w_if_ne (p := 122) (q := 136) (pI pM_173 rfl) rfl rfl rfl (fun c => ?_) (fun c => ?_)
                    · replace k := itn c k
                      refine w_aload_n (p := 137) (pI pM_173 rfl) rfl rfl ?_
                      refine w_iload_n (p := 138) (pI pM_173 rfl) rfl rfl ?_
                      refine w_aload_n (p := 139) (pI pM_173 rfl) rfl rfl ?_
                      refine w_iconst (p := 140) (v := nI 1) (pI pM_173 rfl) rfl rfl ?_
                      refine v_virtual (p := 143) (mj := 172) (pI pM_173 rfl) rfl rfl rfl rfl rfl rfl rfl rfl rfl rfl (by decide) (by decide) rfl ?_
                      refine d172_top (D172_top_mono k (fun v76 k => ?_))
                      refine w_iload (p := 145) (pI pM_173 rfl) rfl rfl ?_
                      refine w_iconst (p := 146) (v := nI 2) (pI pM_173 rfl) rfl rfl ?_
                      refine v_virtual (p := 149) (mj := 175) (pI pM_173 rfl) rfl rfl rfl rfl rfl rfl rfl rfl rfl rfl (by decide) (by decide) rfl ?_
                      refine d175_reckons (D175_reckons_mono k (fun v77 A78 I79 k => ?_))
                      exact w_ireturn (pI pM_173 rfl) rfl rfl rfl k
                    · replace k := itp (Decidable.not_not.mp c) k
                      refine w_goto (p := 130) (pI pM_173 rfl) rfl rfl ?_
                      refine w_aload_n (p := 131) (pI pM_173 rfl) rfl rfl ?_
                      refine w_iconst (p := 132) (v := nI 1) (pI pM_173 rfl) rfl rfl ?_
                      refine v_virtual (p := 135) (mj := 181) (pI pM_173 rfl) rfl rfl rfl rfl rfl rfl rfl rfl rfl rfl (by decide) (by decide) rfl ?_
                      refine d181_throwing (D181_throwing_mono k (fun v80 A81 I82 k => ?_))
                      exact w_ireturn (pI pM_173 rfl) rfl rfl rfl k
                · replace k := itp (Decidable.not_not.mp c) k
                  refine w_aload_n (p := 98) (pI pM_173 rfl) rfl rfl ?_
                  refine w_iconst (p := 99) (v := nI 2) (pI pM_173 rfl) rfl rfl ?_
                  refine w_iload (p := 101) (pI pM_173 rfl) rfl rfl ?_
                  refine w_iconst (p := 102) (v := -1) (pI pM_173 rfl) rfl rfl ?_
                  refine v_virtual (p := 105) (mj := 180) (pI pM_173 rfl) rfl rfl rfl rfl rfl rfl rfl rfl rfl rfl (by decide) (by decide) rfl ?_
                  refine d180_splits (D180_splits_mono k (fun v83 A84 I85 k => ?_))
                  exact w_ireturn (pI pM_173 rfl) rfl rfl rfl k
        · replace k := itp (Decidable.not_not.mp c) k
          refine w_aload_n (p := 61) (pI pM_173 rfl) rfl rfl ?_
          refine v_virtual (p := 64) (mj := 165) (pI pM_173 rfl) rfl rfl rfl rfl rfl rfl rfl rfl rfl rfl (by decide) (by decide) rfl ?_
          refine d165_broken (D165_broken_mono k (fun v86 A87 I88 k => ?_))
          exact w_ireturn (pI pM_173 rfl) rfl rfl rfl k
  · replace k := itp (Decidable.not_not.mp c) k
    refine w_iload_n (p := 7) (pI pM_173 rfl) rfl rfl ?_
    refine w_iconst (p := 8) (v := nI 1) (pI pM_173 rfl) rfl rfl ?_
    refine w_icmp_lt (p := 11) (q := 19) (pI pM_173 rfl) rfl rfl rfl (fun c => ?_) (fun c => ?_)
    · replace k := itp c k
      refine w_aload_n (p := 20) (pI pM_173 rfl) rfl rfl ?_
      refine v_virtual (p := 23) (mj := 165) (pI pM_173 rfl) rfl rfl rfl rfl rfl rfl rfl rfl rfl rfl (by decide) (by decide) rfl ?_
      refine d165_broken (D165_broken_mono k (fun v89 A90 I91 k => ?_))
      refine w_goto (p := 38) (pI pM_173 rfl) rfl rfl ?_
      exact w_ireturn (pI pM_173 rfl) rfl rfl rfl k
    · replace k := itn c k
      refine w_aload_n (p := 12) (pI pM_173 rfl) rfl rfl ?_
      refine w_iconst (p := 13) (v := nI 0) (pI pM_173 rfl) rfl rfl ?_
      refine v_virtual (p := 16) (mj := 174) (pI pM_173 rfl) rfl rfl rfl rfl rfl rfl rfl rfl rfl rfl (by decide) (by decide) rfl ?_
      refine d174_isWord (D174_isWord_mono k (fun v92 k => ?_))
      refine w_if_ne (p := 19) (q := 26) (pI pM_173 rfl) rfl rfl rfl (fun c => ?_) (fun c => ?_)
      · replace k := itn c k
        refine w_aload_n (p := 27) (pI pM_173 rfl) rfl rfl ?_
        refine w_iload_n (p := 28) (pI pM_173 rfl) rfl rfl ?_
        refine w_aload_n (p := 29) (pI pM_173 rfl) rfl rfl ?_
        refine w_iconst (p := 30) (v := nI 0) (pI pM_173 rfl) rfl rfl ?_
        refine v_virtual (p := 33) (mj := 172) (pI pM_173 rfl) rfl rfl rfl rfl rfl rfl rfl rfl rfl rfl (by decide) (by decide) rfl ?_
        refine d172_top (D172_top_mono k (fun v93 k => ?_))
        refine w_iconst (p := 34) (v := -1) (pI pM_173 rfl) rfl rfl ?_
        refine w_iconst (p := 35) (v := nI 1) (pI pM_173 rfl) rfl rfl ?_
        refine v_virtual (p := 38) (mj := 175) (pI pM_173 rfl) rfl rfl rfl rfl rfl rfl rfl rfl rfl rfl (by decide) (by decide) rfl ?_
        refine d175_reckons (D175_reckons_mono k (fun v94 A95 I96 k => ?_))
        exact w_ireturn (pI pM_173 rfl) rfl rfl rfl k
      · replace k := itp (Decidable.not_not.mp c) k
        refine w_aload_n (p := 20) (pI pM_173 rfl) rfl rfl ?_
        refine v_virtual (p := 23) (mj := 165) (pI pM_173 rfl) rfl rfl rfl rfl rfl rfl rfl rfl rfl rfl (by decide) (by decide) rfl ?_
        refine d165_broken (D165_broken_mono k (fun v97 A98 I99 k => ?_))
        refine w_goto (p := 38) (pI pM_173 rfl) rfl rfl ?_
        exact w_ireturn (pI pM_173 rfl) rfl rfl rfl k
set_option maxRecDepth 100000 in
set_option maxHeartbeats 4000000 in
theorem d183_isReference {d L : Nat} {x : Int32} {A I : HA} {Q : bm_Q} (k : D183_isReference x A I (fun v => Q (some (.int v)) (hp L A I))) : bm_M (d + 2) 183 [.ref 1681, .int x] (hp L A I) Q := by
  unfold D183_isReference at k
  refine bw_enter rfl rfl rfl rfl ?_
  refine w_aload_n (p := 1) (pI pM_183 rfl) rfl rfl ?_
  refine w_iload_n (p := 2) (pI pM_183 rfl) rfl rfl ?_
  refine v_virtual (p := 5) (mj := 172) (pI pM_183 rfl) rfl rfl rfl rfl rfl rfl rfl rfl rfl rfl (by decide) (by decide) rfl ?_
  refine d172_top (D172_top_mono k (fun v1 k => ?_))
  refine w_if_ge (p := 8) (q := 12) (pI pM_183 rfl) rfl rfl rfl (fun c => ?_) (fun c => ?_)
  · replace k := itn (Int32.not_lt.mpr c) k
    refine w_iconst (p := 13) (v := nI 0) (pI pM_183 rfl) rfl rfl ?_
    exact w_ireturn (pI pM_183 rfl) rfl rfl rfl k
  · replace k := itp (Int32.not_le.mp c) k
    refine w_iconst (p := 9) (v := nI 1) (pI pM_183 rfl) rfl rfl ?_
    refine w_goto (p := 13) (pI pM_183 rfl) rfl rfl ?_
    exact w_ireturn (pI pM_183 rfl) rfl rfl rfl k
set_option maxRecDepth 100000 in
set_option maxHeartbeats 4000000 in
theorem d182_jumps {d L : Nat} {x : Int32} {y : Int32} {z : Int32} {u1 : Int32} {A I : HA} {Q : bm_Q} (k : D182_jumps x y z u1 A I (fun v A I => Q (some (.int v)) (hp L A I))) : bm_M (d + 3) 182 [.ref 1681, .int x, .int y, .int z, .int u1] (hp L A I) Q := by
  unfold D182_jumps at k
  refine bw_enter rfl rfl rfl rfl ?_
  refine w_iload_n (p := 1) (pI pM_182 rfl) rfl rfl ?_
  refine w_bipush (p := 3) (v := nI 17) (pI pM_182 rfl) rfl rfl ?_
  refine w_icmp_ne (p := 6) (q := 20) (pI pM_182 rfl) rfl rfl rfl (fun c => ?_) (fun c => ?_)
  · replace k := itn c k
    refine w_iload_n (p := 21) (pI pM_182 rfl) rfl rfl ?_
    refine w_bipush (p := 23) (v := nI 20) (pI pM_182 rfl) rfl rfl ?_
    refine w_icmp_ne (p := 26) (q := 110) (pI pM_182 rfl) rfl rfl rfl (fun c => ?_) (fun c => ?_)
    · replace k := itn c k
      refine w_iload_n (p := 111) (pI pM_182 rfl) rfl rfl ?_
      refine w_iconst (p := 112) (v := nI 2) (pI pM_182 rfl) rfl rfl ?_
      refine w_icmp_lt (p := 115) (q := 131) (pI pM_182 rfl) rfl rfl rfl (fun c => ?_) (fun c => ?_)
      · replace k := itp c k
        refine w_aload_n (p := 132) (pI pM_182 rfl) rfl rfl ?_
        refine v_virtual (p := 135) (mj := 165) (pI pM_182 rfl) rfl rfl rfl rfl rfl rfl rfl rfl rfl rfl (by decide) (by decide) rfl ?_
        refine d165_broken (D165_broken_mono k (fun v1 A2 I3 k => ?_))
        exact w_ireturn (pI pM_182 rfl) rfl rfl rfl k
      · replace k := itn c k
        refine w_aload_n (p := 116) (pI pM_182 rfl) rfl rfl ?_
        refine w_iconst (p := 117) (v := nI 0) (pI pM_182 rfl) rfl rfl ?_
        refine v_virtual (p := 120) (mj := 174) (pI pM_182 rfl) rfl rfl rfl rfl rfl rfl rfl rfl rfl rfl (by decide) (by decide) rfl ?_
        refine d174_isWord (D174_isWord_mono k (fun v4 k => ?_))
        refine w_if_eq (p := 123) (q := 131) (pI pM_182 rfl) rfl rfl rfl (fun c => ?_) (fun c => ?_)
        · replace k := itp c k
          refine w_aload_n (p := 132) (pI pM_182 rfl) rfl rfl ?_
          refine v_virtual (p := 135) (mj := 165) (pI pM_182 rfl) rfl rfl rfl rfl rfl rfl rfl rfl rfl rfl (by decide) (by decide) rfl ?_
          refine d165_broken (D165_broken_mono k (fun v5 A6 I7 k => ?_))
          exact w_ireturn (pI pM_182 rfl) rfl rfl rfl k
        · replace k := itn c k
          refine w_aload_n (p := 124) (pI pM_182 rfl) rfl rfl ?_
          refine w_iconst (p := 125) (v := nI 1) (pI pM_182 rfl) rfl rfl ?_
          refine v_virtual (p := 128) (mj := 174) (pI pM_182 rfl) rfl rfl rfl rfl rfl rfl rfl rfl rfl rfl (by decide) (by decide) rfl ?_
          refine d174_isWord (D174_isWord_mono k (fun v8 k => ?_))
          refine w_if_ne (p := 131) (q := 136) (pI pM_182 rfl) rfl rfl rfl (fun c => ?_) (fun c => ?_)
          · replace k := itn c k
            refine w_aload_n (p := 137) (pI pM_182 rfl) rfl rfl ?_
            refine w_iconst (p := 138) (v := nI 1) (pI pM_182 rfl) rfl rfl ?_
            refine v_virtual (p := 141) (mj := 172) (pI pM_182 rfl) rfl rfl rfl rfl rfl rfl rfl rfl rfl rfl (by decide) (by decide) rfl ?_
            refine d172_top (D172_top_mono k (fun v9 k => ?_))
            refine w_istore (p := 143) (pI pM_182 rfl) rfl rfl rfl ?_
            refine w_aload_n (p := 144) (pI pM_182 rfl) rfl rfl ?_
            refine w_iconst (p := 145) (v := nI 0) (pI pM_182 rfl) rfl rfl ?_
            refine v_virtual (p := 148) (mj := 172) (pI pM_182 rfl) rfl rfl rfl rfl rfl rfl rfl rfl rfl rfl (by decide) (by decide) rfl ?_
            refine d172_top (D172_top_mono k (fun v10 k => ?_))
            refine w_istore (p := 150) (pI pM_182 rfl) rfl rfl rfl ?_
            refine w_iload (p := 152) (pI pM_182 rfl) rfl rfl ?_
            refine w_static (p := 155) (mj := 177) (pI pM_182 rfl) rfl rfl rfl rfl rfl rfl rfl rfl rfl ?_
            refine d177_isNumber (D177_isNumber_mono k (fun v11 k => ?_))
            refine w_if_eq (p := 158) (q := 170) (pI pM_182 rfl) rfl rfl rfl (fun c => ?_) (fun c => ?_)
            · replace k := itp c k
              refine w_iconst (p := 171) (v := nI 0) (pI pM_182 rfl) rfl rfl ?_
              refine w_istore (p := 173) (pI pM_182 rfl) rfl rfl rfl ?_
              refine w_iload (p := 175) (pI pM_182 rfl) rfl rfl ?_
              refine w_if_ne (p := 178) (q := 194) (pI pM_182 rfl) rfl rfl rfl (fun c => absurd c (by decide)) (fun _ => ?_)
              refine w_iload (p := 180) (pI pM_182 rfl) rfl rfl ?_
              refine w_iconst (p := 181) (v := -1) (pI pM_182 rfl) rfl rfl ?_
              refine w_icmp_ne (p := 184) (q := 194) (pI pM_182 rfl) rfl rfl rfl (fun c => ?_) (fun c => ?_)
              · replace k := itn c k
                refine w_iload (p := 196) (pI pM_182 rfl) rfl rfl ?_
                refine w_if_eq (p := 199) (q := 241) (pI pM_182 rfl) rfl rfl rfl (fun _ => ?_) (fun c => absurd (by decide) c)
                refine w_iload (p := 243) (pI pM_182 rfl) rfl rfl ?_
                refine w_if_ne (p := 246) (q := 250) (pI pM_182 rfl) rfl rfl rfl (fun c => ?_) (fun c => ?_)
                · replace k := itn c k
                  refine w_iconst (p := 251) (v := nI 0) (pI pM_182 rfl) rfl rfl ?_
                  refine w_istore (p := 253) (pI pM_182 rfl) rfl rfl rfl ?_
                  refine w_aload_n (p := 254) (pI pM_182 rfl) rfl rfl ?_
                  refine v_getR (p := 257) (kf := 8) (pI pM_182 rfl) rfl rfl rfl (by decide) (by decide) rfl rfl ?_
                  refine w_aload_n (p := 258) (pI pM_182 rfl) rfl rfl ?_
                  refine v_getI (p := 261) (kf := 36) (pI pM_182 rfl) rfl rfl rfl (by decide) (by decide) rfl rfl rfl ?_
                  refine w_iconst (p := 262) (v := nI 2) (pI pM_182 rfl) rfl rfl ?_
                  refine w_iadd (p := 263) (pI pM_182 rfl) rfl ?_
                  refine w_dup2 (p := 264) (pI pM_182 rfl) rfl rfl rfl ?_
                  obtain ⟨s12, k⟩ := k
                  refine v_iald (p := 265) (pI pM_182 rfl) rfl (by decide) rfl s12 rfl ?_
                  refine w_iconst (p := 266) (v := nI 2) (pI pM_182 rfl) rfl rfl ?_
                  refine w_isub (p := 267) (pI pM_182 rfl) rfl ?_
                  obtain ⟨s13, k⟩ := k
                  refine s_iast (p := 268) (pI pM_182 rfl) rfl (by decide) (by decide) rfl s13 ?_
                  refine w_aload_n (p := 269) (pI pM_182 rfl) rfl rfl ?_
                  refine v_getR (p := 272) (kf := 8) (pI pM_182 rfl) rfl rfl rfl (by decide) (by decide) rfl rfl ?_
                  refine w_aload_n (p := 273) (pI pM_182 rfl) rfl rfl ?_
                  refine v_getI (p := 276) (kf := 36) (pI pM_182 rfl) rfl rfl rfl (by decide) (by decide) rfl rfl rfl ?_
                  refine w_iconst (p := 277) (v := nI 1) (pI pM_182 rfl) rfl rfl ?_
                  refine w_iadd (p := 278) (pI pM_182 rfl) rfl ?_
                  refine w_iload (p := 280) (pI pM_182 rfl) rfl rfl ?_
                  refine w_if_eq (p := 283) (q := 287) (pI pM_182 rfl) rfl rfl rfl (fun _ => ?_) (fun c => absurd (by decide) c)
                  refine w_aload_n (p := 288) (pI pM_182 rfl) rfl rfl ?_
                  refine v_getR (p := 291) (kf := 8) (pI pM_182 rfl) rfl rfl rfl (by decide) (by decide) rfl rfl ?_
                  refine w_aload_n (p := 292) (pI pM_182 rfl) rfl rfl ?_
                  refine v_getI (p := 295) (kf := 36) (pI pM_182 rfl) rfl rfl rfl (by decide) (by decide) rfl rfl rfl ?_
                  refine w_iconst (p := 296) (v := nI 1) (pI pM_182 rfl) rfl rfl ?_
                  refine w_iadd (p := 297) (pI pM_182 rfl) rfl ?_
                  obtain ⟨s14, k⟩ := k
                  refine v_iald (p := 298) (pI pM_182 rfl) rfl (by decide) rfl s14 rfl ?_
                  refine w_iconst (p := 299) (v := nI 1) (pI pM_182 rfl) rfl rfl ?_
                  refine w_iadd (p := 300) (pI pM_182 rfl) rfl ?_
                  obtain ⟨s15, k⟩ := k
                  refine s_iast (p := 301) (pI pM_182 rfl) rfl (by decide) (by decide) rfl s15 ?_
                  refine w_iconst (p := 302) (v := nI 0) (pI pM_182 rfl) rfl rfl ?_
                  exact w_ireturn (pI pM_182 rfl) rfl rfl rfl k
                · replace k := itp (Decidable.not_not.mp c) k
                  refine w_iconst (p := 247) (v := nI 1) (pI pM_182 rfl) rfl rfl ?_
                  refine w_goto (p := 251) (pI pM_182 rfl) rfl rfl ?_
                  refine w_istore (p := 253) (pI pM_182 rfl) rfl rfl rfl ?_
                  refine w_aload_n (p := 254) (pI pM_182 rfl) rfl rfl ?_
                  refine v_getR (p := 257) (kf := 8) (pI pM_182 rfl) rfl rfl rfl (by decide) (by decide) rfl rfl ?_
                  refine w_aload_n (p := 258) (pI pM_182 rfl) rfl rfl ?_
                  refine v_getI (p := 261) (kf := 36) (pI pM_182 rfl) rfl rfl rfl (by decide) (by decide) rfl rfl rfl ?_
                  refine w_iconst (p := 262) (v := nI 2) (pI pM_182 rfl) rfl rfl ?_
                  refine w_iadd (p := 263) (pI pM_182 rfl) rfl ?_
                  refine w_dup2 (p := 264) (pI pM_182 rfl) rfl rfl rfl ?_
                  obtain ⟨s16, k⟩ := k
                  refine v_iald (p := 265) (pI pM_182 rfl) rfl (by decide) rfl s16 rfl ?_
                  refine w_iconst (p := 266) (v := nI 2) (pI pM_182 rfl) rfl rfl ?_
                  refine w_isub (p := 267) (pI pM_182 rfl) rfl ?_
                  obtain ⟨s17, k⟩ := k
                  refine s_iast (p := 268) (pI pM_182 rfl) rfl (by decide) (by decide) rfl s17 ?_
                  refine w_aload_n (p := 269) (pI pM_182 rfl) rfl rfl ?_
                  refine v_getR (p := 272) (kf := 8) (pI pM_182 rfl) rfl rfl rfl (by decide) (by decide) rfl rfl ?_
                  refine w_aload_n (p := 273) (pI pM_182 rfl) rfl rfl ?_
                  refine v_getI (p := 276) (kf := 36) (pI pM_182 rfl) rfl rfl rfl (by decide) (by decide) rfl rfl rfl ?_
                  refine w_iconst (p := 277) (v := nI 1) (pI pM_182 rfl) rfl rfl ?_
                  refine w_iadd (p := 278) (pI pM_182 rfl) rfl ?_
                  refine w_iload (p := 280) (pI pM_182 rfl) rfl rfl ?_
                  refine w_if_eq (p := 283) (q := 287) (pI pM_182 rfl) rfl rfl rfl (fun c => absurd c (by decide)) (fun _ => ?_)
                  refine w_iload_n (p := 284) (pI pM_182 rfl) rfl rfl ?_
                  refine w_goto (p := 300) (pI pM_182 rfl) rfl rfl ?_
                  obtain ⟨s18, k⟩ := k
                  refine s_iast (p := 301) (pI pM_182 rfl) rfl (by decide) (by decide) rfl s18 ?_
                  refine w_iconst (p := 302) (v := nI 0) (pI pM_182 rfl) rfl rfl ?_
                  exact w_ireturn (pI pM_182 rfl) rfl rfl rfl k
              · replace k := itp (Decidable.not_not.mp c) k
                refine w_aload_n (p := 185) (pI pM_182 rfl) rfl rfl ?_
                refine w_iconst (p := 186) (v := nI 2) (pI pM_182 rfl) rfl rfl ?_
                refine w_iload (p := 188) (pI pM_182 rfl) rfl rfl ?_
                refine w_iload (p := 190) (pI pM_182 rfl) rfl rfl ?_
                refine v_virtual (p := 193) (mj := 180) (pI pM_182 rfl) rfl rfl rfl rfl rfl rfl rfl rfl rfl rfl (by decide) (by decide) rfl ?_
                refine d180_splits (D180_splits_mono k (fun v19 A20 I21 k => ?_))
                exact w_ireturn (pI pM_182 rfl) rfl rfl rfl k
            · replace k := itn c k
              refine w_iload (p := 160) (pI pM_182 rfl) rfl rfl ?_
              refine w_static (p := 163) (mj := 177) (pI pM_182 rfl) rfl rfl rfl rfl rfl rfl rfl rfl rfl ?_
              refine d177_isNumber (D177_isNumber_mono k (fun v22 k => ?_))
              refine w_if_eq (p := 166) (q := 170) (pI pM_182 rfl) rfl rfl rfl (fun c => ?_) (fun c => ?_)
              · replace k := itp c k
                refine w_iconst (p := 171) (v := nI 0) (pI pM_182 rfl) rfl rfl ?_
                refine w_istore (p := 173) (pI pM_182 rfl) rfl rfl rfl ?_
                refine w_iload (p := 175) (pI pM_182 rfl) rfl rfl ?_
                refine w_if_ne (p := 178) (q := 194) (pI pM_182 rfl) rfl rfl rfl (fun c => absurd c (by decide)) (fun _ => ?_)
                refine w_iload (p := 180) (pI pM_182 rfl) rfl rfl ?_
                refine w_iconst (p := 181) (v := -1) (pI pM_182 rfl) rfl rfl ?_
                refine w_icmp_ne (p := 184) (q := 194) (pI pM_182 rfl) rfl rfl rfl (fun c => ?_) (fun c => ?_)
                · replace k := itn c k
                  refine w_iload (p := 196) (pI pM_182 rfl) rfl rfl ?_
                  refine w_if_eq (p := 199) (q := 241) (pI pM_182 rfl) rfl rfl rfl (fun _ => ?_) (fun c => absurd (by decide) c)
                  refine w_iload (p := 243) (pI pM_182 rfl) rfl rfl ?_
                  refine w_if_ne (p := 246) (q := 250) (pI pM_182 rfl) rfl rfl rfl (fun c => ?_) (fun c => ?_)
                  · replace k := itn c k
                    refine w_iconst (p := 251) (v := nI 0) (pI pM_182 rfl) rfl rfl ?_
                    refine w_istore (p := 253) (pI pM_182 rfl) rfl rfl rfl ?_
                    refine w_aload_n (p := 254) (pI pM_182 rfl) rfl rfl ?_
                    refine v_getR (p := 257) (kf := 8) (pI pM_182 rfl) rfl rfl rfl (by decide) (by decide) rfl rfl ?_
                    refine w_aload_n (p := 258) (pI pM_182 rfl) rfl rfl ?_
                    refine v_getI (p := 261) (kf := 36) (pI pM_182 rfl) rfl rfl rfl (by decide) (by decide) rfl rfl rfl ?_
                    refine w_iconst (p := 262) (v := nI 2) (pI pM_182 rfl) rfl rfl ?_
                    refine w_iadd (p := 263) (pI pM_182 rfl) rfl ?_
                    refine w_dup2 (p := 264) (pI pM_182 rfl) rfl rfl rfl ?_
                    obtain ⟨s23, k⟩ := k
                    refine v_iald (p := 265) (pI pM_182 rfl) rfl (by decide) rfl s23 rfl ?_
                    refine w_iconst (p := 266) (v := nI 2) (pI pM_182 rfl) rfl rfl ?_
                    refine w_isub (p := 267) (pI pM_182 rfl) rfl ?_
                    obtain ⟨s24, k⟩ := k
                    refine s_iast (p := 268) (pI pM_182 rfl) rfl (by decide) (by decide) rfl s24 ?_
                    refine w_aload_n (p := 269) (pI pM_182 rfl) rfl rfl ?_
                    refine v_getR (p := 272) (kf := 8) (pI pM_182 rfl) rfl rfl rfl (by decide) (by decide) rfl rfl ?_
                    refine w_aload_n (p := 273) (pI pM_182 rfl) rfl rfl ?_
                    refine v_getI (p := 276) (kf := 36) (pI pM_182 rfl) rfl rfl rfl (by decide) (by decide) rfl rfl rfl ?_
                    refine w_iconst (p := 277) (v := nI 1) (pI pM_182 rfl) rfl rfl ?_
                    refine w_iadd (p := 278) (pI pM_182 rfl) rfl ?_
                    refine w_iload (p := 280) (pI pM_182 rfl) rfl rfl ?_
                    refine w_if_eq (p := 283) (q := 287) (pI pM_182 rfl) rfl rfl rfl (fun _ => ?_) (fun c => absurd (by decide) c)
                    refine w_aload_n (p := 288) (pI pM_182 rfl) rfl rfl ?_
                    refine v_getR (p := 291) (kf := 8) (pI pM_182 rfl) rfl rfl rfl (by decide) (by decide) rfl rfl ?_
                    refine w_aload_n (p := 292) (pI pM_182 rfl) rfl rfl ?_
                    refine v_getI (p := 295) (kf := 36) (pI pM_182 rfl) rfl rfl rfl (by decide) (by decide) rfl rfl rfl ?_
                    refine w_iconst (p := 296) (v := nI 1) (pI pM_182 rfl) rfl rfl ?_
                    refine w_iadd (p := 297) (pI pM_182 rfl) rfl ?_
                    obtain ⟨s25, k⟩ := k
                    refine v_iald (p := 298) (pI pM_182 rfl) rfl (by decide) rfl s25 rfl ?_
                    refine w_iconst (p := 299) (v := nI 1) (pI pM_182 rfl) rfl rfl ?_
                    refine w_iadd (p := 300) (pI pM_182 rfl) rfl ?_
                    obtain ⟨s26, k⟩ := k
                    refine s_iast (p := 301) (pI pM_182 rfl) rfl (by decide) (by decide) rfl s26 ?_
                    refine w_iconst (p := 302) (v := nI 0) (pI pM_182 rfl) rfl rfl ?_
                    exact w_ireturn (pI pM_182 rfl) rfl rfl rfl k
                  · replace k := itp (Decidable.not_not.mp c) k
                    refine w_iconst (p := 247) (v := nI 1) (pI pM_182 rfl) rfl rfl ?_
                    refine w_goto (p := 251) (pI pM_182 rfl) rfl rfl ?_
                    refine w_istore (p := 253) (pI pM_182 rfl) rfl rfl rfl ?_
                    refine w_aload_n (p := 254) (pI pM_182 rfl) rfl rfl ?_
                    refine v_getR (p := 257) (kf := 8) (pI pM_182 rfl) rfl rfl rfl (by decide) (by decide) rfl rfl ?_
                    refine w_aload_n (p := 258) (pI pM_182 rfl) rfl rfl ?_
                    refine v_getI (p := 261) (kf := 36) (pI pM_182 rfl) rfl rfl rfl (by decide) (by decide) rfl rfl rfl ?_
                    refine w_iconst (p := 262) (v := nI 2) (pI pM_182 rfl) rfl rfl ?_
                    refine w_iadd (p := 263) (pI pM_182 rfl) rfl ?_
                    refine w_dup2 (p := 264) (pI pM_182 rfl) rfl rfl rfl ?_
                    obtain ⟨s27, k⟩ := k
                    refine v_iald (p := 265) (pI pM_182 rfl) rfl (by decide) rfl s27 rfl ?_
                    refine w_iconst (p := 266) (v := nI 2) (pI pM_182 rfl) rfl rfl ?_
                    refine w_isub (p := 267) (pI pM_182 rfl) rfl ?_
                    obtain ⟨s28, k⟩ := k
                    refine s_iast (p := 268) (pI pM_182 rfl) rfl (by decide) (by decide) rfl s28 ?_
                    refine w_aload_n (p := 269) (pI pM_182 rfl) rfl rfl ?_
                    refine v_getR (p := 272) (kf := 8) (pI pM_182 rfl) rfl rfl rfl (by decide) (by decide) rfl rfl ?_
                    refine w_aload_n (p := 273) (pI pM_182 rfl) rfl rfl ?_
                    refine v_getI (p := 276) (kf := 36) (pI pM_182 rfl) rfl rfl rfl (by decide) (by decide) rfl rfl rfl ?_
                    refine w_iconst (p := 277) (v := nI 1) (pI pM_182 rfl) rfl rfl ?_
                    refine w_iadd (p := 278) (pI pM_182 rfl) rfl ?_
                    refine w_iload (p := 280) (pI pM_182 rfl) rfl rfl ?_
                    refine w_if_eq (p := 283) (q := 287) (pI pM_182 rfl) rfl rfl rfl (fun c => absurd c (by decide)) (fun _ => ?_)
                    refine w_iload_n (p := 284) (pI pM_182 rfl) rfl rfl ?_
                    refine w_goto (p := 300) (pI pM_182 rfl) rfl rfl ?_
                    obtain ⟨s29, k⟩ := k
                    refine s_iast (p := 301) (pI pM_182 rfl) rfl (by decide) (by decide) rfl s29 ?_
                    refine w_iconst (p := 302) (v := nI 0) (pI pM_182 rfl) rfl rfl ?_
                    exact w_ireturn (pI pM_182 rfl) rfl rfl rfl k
                · replace k := itp (Decidable.not_not.mp c) k
                  refine w_aload_n (p := 185) (pI pM_182 rfl) rfl rfl ?_
                  refine w_iconst (p := 186) (v := nI 2) (pI pM_182 rfl) rfl rfl ?_
                  refine w_iload (p := 188) (pI pM_182 rfl) rfl rfl ?_
                  refine w_iload (p := 190) (pI pM_182 rfl) rfl rfl ?_
                  refine v_virtual (p := 193) (mj := 180) (pI pM_182 rfl) rfl rfl rfl rfl rfl rfl rfl rfl rfl rfl (by decide) (by decide) rfl ?_
                  refine d180_splits (D180_splits_mono k (fun v30 A31 I32 k => ?_))
                  exact w_ireturn (pI pM_182 rfl) rfl rfl rfl k
              · replace k := itn c k
                refine w_iconst (p := 167) (v := nI 1) (pI pM_182 rfl) rfl rfl ?_
                refine w_goto (p := 171) (pI pM_182 rfl) rfl rfl ?_
                refine w_istore (p := 173) (pI pM_182 rfl) rfl rfl rfl ?_
                refine w_iload (p := 175) (pI pM_182 rfl) rfl rfl ?_
                refine w_if_ne (p := 178) (q := 194) (pI pM_182 rfl) rfl rfl rfl (fun _ => ?_) (fun c => absurd (by decide) c)
                refine w_iload (p := 196) (pI pM_182 rfl) rfl rfl ?_
                refine w_if_eq (p := 199) (q := 241) (pI pM_182 rfl) rfl rfl rfl (fun c => absurd c (by decide)) (fun _ => ?_)
                refine w_iload_n (p := 200) (pI pM_182 rfl) rfl rfl ?_
                refine w_bipush (p := 202) (v := nI 18) (pI pM_182 rfl) rfl rfl ?_
                refine w_icmp_ne (p := 205) (q := 226) (pI pM_182 rfl) rfl rfl rfl (fun c => ?_) (fun c => ?_)
                · replace k := itn c k
                  refine w_iload (p := 228) (pI pM_182 rfl) rfl rfl ?_
                  refine w_iload (p := 230) (pI pM_182 rfl) rfl rfl ?_
                  refine w_icmp_ne (p := 233) (q := 237) (pI pM_182 rfl) rfl rfl rfl (fun c => ?_) (fun c => ?_)
                  · replace k := itn c k
                    refine w_iconst (p := 238) (v := nI 0) (pI pM_182 rfl) rfl rfl ?_
                    refine w_goto (p := 251) (pI pM_182 rfl) rfl rfl ?_
                    refine w_istore (p := 253) (pI pM_182 rfl) rfl rfl rfl ?_
                    refine w_aload_n (p := 254) (pI pM_182 rfl) rfl rfl ?_
                    refine v_getR (p := 257) (kf := 8) (pI pM_182 rfl) rfl rfl rfl (by decide) (by decide) rfl rfl ?_
                    refine w_aload_n (p := 258) (pI pM_182 rfl) rfl rfl ?_
                    refine v_getI (p := 261) (kf := 36) (pI pM_182 rfl) rfl rfl rfl (by decide) (by decide) rfl rfl rfl ?_
                    refine w_iconst (p := 262) (v := nI 2) (pI pM_182 rfl) rfl rfl ?_
                    refine w_iadd (p := 263) (pI pM_182 rfl) rfl ?_
                    refine w_dup2 (p := 264) (pI pM_182 rfl) rfl rfl rfl ?_
                    obtain ⟨s33, k⟩ := k
                    refine v_iald (p := 265) (pI pM_182 rfl) rfl (by decide) rfl s33 rfl ?_
                    refine w_iconst (p := 266) (v := nI 2) (pI pM_182 rfl) rfl rfl ?_
                    refine w_isub (p := 267) (pI pM_182 rfl) rfl ?_
                    obtain ⟨s34, k⟩ := k
                    refine s_iast (p := 268) (pI pM_182 rfl) rfl (by decide) (by decide) rfl s34 ?_
                    refine w_aload_n (p := 269) (pI pM_182 rfl) rfl rfl ?_
                    refine v_getR (p := 272) (kf := 8) (pI pM_182 rfl) rfl rfl rfl (by decide) (by decide) rfl rfl ?_
                    refine w_aload_n (p := 273) (pI pM_182 rfl) rfl rfl ?_
                    refine v_getI (p := 276) (kf := 36) (pI pM_182 rfl) rfl rfl rfl (by decide) (by decide) rfl rfl rfl ?_
                    refine w_iconst (p := 277) (v := nI 1) (pI pM_182 rfl) rfl rfl ?_
                    refine w_iadd (p := 278) (pI pM_182 rfl) rfl ?_
                    refine w_iload (p := 280) (pI pM_182 rfl) rfl rfl ?_
                    refine w_if_eq (p := 283) (q := 287) (pI pM_182 rfl) rfl rfl rfl (fun _ => ?_) (fun c => absurd (by decide) c)
                    refine w_aload_n (p := 288) (pI pM_182 rfl) rfl rfl ?_
                    refine v_getR (p := 291) (kf := 8) (pI pM_182 rfl) rfl rfl rfl (by decide) (by decide) rfl rfl ?_
                    refine w_aload_n (p := 292) (pI pM_182 rfl) rfl rfl ?_
                    refine v_getI (p := 295) (kf := 36) (pI pM_182 rfl) rfl rfl rfl (by decide) (by decide) rfl rfl rfl ?_
                    refine w_iconst (p := 296) (v := nI 1) (pI pM_182 rfl) rfl rfl ?_
                    refine w_iadd (p := 297) (pI pM_182 rfl) rfl ?_
                    obtain ⟨s35, k⟩ := k
                    refine v_iald (p := 298) (pI pM_182 rfl) rfl (by decide) rfl s35 rfl ?_
                    refine w_iconst (p := 299) (v := nI 1) (pI pM_182 rfl) rfl rfl ?_
                    refine w_iadd (p := 300) (pI pM_182 rfl) rfl ?_
                    obtain ⟨s36, k⟩ := k
                    refine s_iast (p := 301) (pI pM_182 rfl) rfl (by decide) (by decide) rfl s36 ?_
                    refine w_iconst (p := 302) (v := nI 0) (pI pM_182 rfl) rfl rfl ?_
                    exact w_ireturn (pI pM_182 rfl) rfl rfl rfl k
                  · replace k := itp (Decidable.not_not.mp c) k
                    refine w_iconst (p := 234) (v := nI 1) (pI pM_182 rfl) rfl rfl ?_
                    refine w_goto (p := 251) (pI pM_182 rfl) rfl rfl ?_
                    refine w_istore (p := 253) (pI pM_182 rfl) rfl rfl rfl ?_
                    refine w_aload_n (p := 254) (pI pM_182 rfl) rfl rfl ?_
                    refine v_getR (p := 257) (kf := 8) (pI pM_182 rfl) rfl rfl rfl (by decide) (by decide) rfl rfl ?_
                    refine w_aload_n (p := 258) (pI pM_182 rfl) rfl rfl ?_
                    refine v_getI (p := 261) (kf := 36) (pI pM_182 rfl) rfl rfl rfl (by decide) (by decide) rfl rfl rfl ?_
                    refine w_iconst (p := 262) (v := nI 2) (pI pM_182 rfl) rfl rfl ?_
                    refine w_iadd (p := 263) (pI pM_182 rfl) rfl ?_
                    refine w_dup2 (p := 264) (pI pM_182 rfl) rfl rfl rfl ?_
                    obtain ⟨s37, k⟩ := k
                    refine v_iald (p := 265) (pI pM_182 rfl) rfl (by decide) rfl s37 rfl ?_
                    refine w_iconst (p := 266) (v := nI 2) (pI pM_182 rfl) rfl rfl ?_
                    refine w_isub (p := 267) (pI pM_182 rfl) rfl ?_
                    obtain ⟨s38, k⟩ := k
                    refine s_iast (p := 268) (pI pM_182 rfl) rfl (by decide) (by decide) rfl s38 ?_
                    refine w_aload_n (p := 269) (pI pM_182 rfl) rfl rfl ?_
                    refine v_getR (p := 272) (kf := 8) (pI pM_182 rfl) rfl rfl rfl (by decide) (by decide) rfl rfl ?_
                    refine w_aload_n (p := 273) (pI pM_182 rfl) rfl rfl ?_
                    refine v_getI (p := 276) (kf := 36) (pI pM_182 rfl) rfl rfl rfl (by decide) (by decide) rfl rfl rfl ?_
                    refine w_iconst (p := 277) (v := nI 1) (pI pM_182 rfl) rfl rfl ?_
                    refine w_iadd (p := 278) (pI pM_182 rfl) rfl ?_
                    refine w_iload (p := 280) (pI pM_182 rfl) rfl rfl ?_
                    refine w_if_eq (p := 283) (q := 287) (pI pM_182 rfl) rfl rfl rfl (fun c => absurd c (by decide)) (fun _ => ?_)
                    refine w_iload_n (p := 284) (pI pM_182 rfl) rfl rfl ?_
                    refine w_goto (p := 300) (pI pM_182 rfl) rfl rfl ?_
                    obtain ⟨s39, k⟩ := k
                    refine s_iast (p := 301) (pI pM_182 rfl) rfl (by decide) (by decide) rfl s39 ?_
                    refine w_iconst (p := 302) (v := nI 0) (pI pM_182 rfl) rfl rfl ?_
                    exact w_ireturn (pI pM_182 rfl) rfl rfl rfl k
                · replace k := itp (Decidable.not_not.mp c) k
                  refine w_iload (p := 207) (pI pM_182 rfl) rfl rfl ?_
                  refine w_static (p := 210) (mj := 178) (pI pM_182 rfl) rfl rfl rfl rfl rfl rfl rfl rfl rfl ?_
                  refine d178_number (D178_number_mono k (fun v40 k => ?_))
                  refine w_iload (p := 212) (pI pM_182 rfl) rfl rfl ?_
                  refine w_static (p := 215) (mj := 178) (pI pM_182 rfl) rfl rfl rfl rfl rfl rfl rfl rfl rfl ?_
                  refine d178_number (D178_number_mono k (fun v41 k => ?_))
                  refine w_icmp_ge (p := 218) (q := 222) (pI pM_182 rfl) rfl rfl rfl (fun c => ?_) (fun c => ?_)
                  · replace k := itn (Int32.not_lt.mpr c) k
                    refine w_iconst (p := 223) (v := nI 0) (pI pM_182 rfl) rfl rfl ?_
                    refine w_goto (p := 251) (pI pM_182 rfl) rfl rfl ?_
                    refine w_istore (p := 253) (pI pM_182 rfl) rfl rfl rfl ?_
                    refine w_aload_n (p := 254) (pI pM_182 rfl) rfl rfl ?_
                    refine v_getR (p := 257) (kf := 8) (pI pM_182 rfl) rfl rfl rfl (by decide) (by decide) rfl rfl ?_
                    refine w_aload_n (p := 258) (pI pM_182 rfl) rfl rfl ?_
                    refine v_getI (p := 261) (kf := 36) (pI pM_182 rfl) rfl rfl rfl (by decide) (by decide) rfl rfl rfl ?_
                    refine w_iconst (p := 262) (v := nI 2) (pI pM_182 rfl) rfl rfl ?_
                    refine w_iadd (p := 263) (pI pM_182 rfl) rfl ?_
                    refine w_dup2 (p := 264) (pI pM_182 rfl) rfl rfl rfl ?_
                    obtain ⟨s42, k⟩ := k
                    refine v_iald (p := 265) (pI pM_182 rfl) rfl (by decide) rfl s42 rfl ?_
                    refine w_iconst (p := 266) (v := nI 2) (pI pM_182 rfl) rfl rfl ?_
                    refine w_isub (p := 267) (pI pM_182 rfl) rfl ?_
                    obtain ⟨s43, k⟩ := k
                    refine s_iast (p := 268) (pI pM_182 rfl) rfl (by decide) (by decide) rfl s43 ?_
                    refine w_aload_n (p := 269) (pI pM_182 rfl) rfl rfl ?_
                    refine v_getR (p := 272) (kf := 8) (pI pM_182 rfl) rfl rfl rfl (by decide) (by decide) rfl rfl ?_
                    refine w_aload_n (p := 273) (pI pM_182 rfl) rfl rfl ?_
                    refine v_getI (p := 276) (kf := 36) (pI pM_182 rfl) rfl rfl rfl (by decide) (by decide) rfl rfl rfl ?_
                    refine w_iconst (p := 277) (v := nI 1) (pI pM_182 rfl) rfl rfl ?_
                    refine w_iadd (p := 278) (pI pM_182 rfl) rfl ?_
                    refine w_iload (p := 280) (pI pM_182 rfl) rfl rfl ?_
                    refine w_if_eq (p := 283) (q := 287) (pI pM_182 rfl) rfl rfl rfl (fun _ => ?_) (fun c => absurd (by decide) c)
                    refine w_aload_n (p := 288) (pI pM_182 rfl) rfl rfl ?_
                    refine v_getR (p := 291) (kf := 8) (pI pM_182 rfl) rfl rfl rfl (by decide) (by decide) rfl rfl ?_
                    refine w_aload_n (p := 292) (pI pM_182 rfl) rfl rfl ?_
                    refine v_getI (p := 295) (kf := 36) (pI pM_182 rfl) rfl rfl rfl (by decide) (by decide) rfl rfl rfl ?_
                    refine w_iconst (p := 296) (v := nI 1) (pI pM_182 rfl) rfl rfl ?_
                    refine w_iadd (p := 297) (pI pM_182 rfl) rfl ?_
                    obtain ⟨s44, k⟩ := k
                    refine v_iald (p := 298) (pI pM_182 rfl) rfl (by decide) rfl s44 rfl ?_
                    refine w_iconst (p := 299) (v := nI 1) (pI pM_182 rfl) rfl rfl ?_
                    refine w_iadd (p := 300) (pI pM_182 rfl) rfl ?_
                    obtain ⟨s45, k⟩ := k
                    refine s_iast (p := 301) (pI pM_182 rfl) rfl (by decide) (by decide) rfl s45 ?_
                    refine w_iconst (p := 302) (v := nI 0) (pI pM_182 rfl) rfl rfl ?_
                    exact w_ireturn (pI pM_182 rfl) rfl rfl rfl k
                  · replace k := itp (Int32.not_le.mp c) k
                    refine w_iconst (p := 219) (v := nI 1) (pI pM_182 rfl) rfl rfl ?_
                    refine w_goto (p := 251) (pI pM_182 rfl) rfl rfl ?_
                    refine w_istore (p := 253) (pI pM_182 rfl) rfl rfl rfl ?_
                    refine w_aload_n (p := 254) (pI pM_182 rfl) rfl rfl ?_
                    refine v_getR (p := 257) (kf := 8) (pI pM_182 rfl) rfl rfl rfl (by decide) (by decide) rfl rfl ?_
                    refine w_aload_n (p := 258) (pI pM_182 rfl) rfl rfl ?_
                    refine v_getI (p := 261) (kf := 36) (pI pM_182 rfl) rfl rfl rfl (by decide) (by decide) rfl rfl rfl ?_
                    refine w_iconst (p := 262) (v := nI 2) (pI pM_182 rfl) rfl rfl ?_
                    refine w_iadd (p := 263) (pI pM_182 rfl) rfl ?_
                    refine w_dup2 (p := 264) (pI pM_182 rfl) rfl rfl rfl ?_
                    obtain ⟨s46, k⟩ := k
                    refine v_iald (p := 265) (pI pM_182 rfl) rfl (by decide) rfl s46 rfl ?_
                    refine w_iconst (p := 266) (v := nI 2) (pI pM_182 rfl) rfl rfl ?_
                    refine w_isub (p := 267) (pI pM_182 rfl) rfl ?_
                    obtain ⟨s47, k⟩ := k
                    refine s_iast (p := 268) (pI pM_182 rfl) rfl (by decide) (by decide) rfl s47 ?_
                    refine w_aload_n (p := 269) (pI pM_182 rfl) rfl rfl ?_
                    refine v_getR (p := 272) (kf := 8) (pI pM_182 rfl) rfl rfl rfl (by decide) (by decide) rfl rfl ?_
                    refine w_aload_n (p := 273) (pI pM_182 rfl) rfl rfl ?_
                    refine v_getI (p := 276) (kf := 36) (pI pM_182 rfl) rfl rfl rfl (by decide) (by decide) rfl rfl rfl ?_
                    refine w_iconst (p := 277) (v := nI 1) (pI pM_182 rfl) rfl rfl ?_
                    refine w_iadd (p := 278) (pI pM_182 rfl) rfl ?_
                    refine w_iload (p := 280) (pI pM_182 rfl) rfl rfl ?_
                    refine w_if_eq (p := 283) (q := 287) (pI pM_182 rfl) rfl rfl rfl (fun c => absurd c (by decide)) (fun _ => ?_)
                    refine w_iload_n (p := 284) (pI pM_182 rfl) rfl rfl ?_
                    refine w_goto (p := 300) (pI pM_182 rfl) rfl rfl ?_
                    obtain ⟨s48, k⟩ := k
                    refine s_iast (p := 301) (pI pM_182 rfl) rfl (by decide) (by decide) rfl s48 ?_
                    refine w_iconst (p := 302) (v := nI 0) (pI pM_182 rfl) rfl rfl ?_
                    exact w_ireturn (pI pM_182 rfl) rfl rfl rfl k
          · replace k := itp (Decidable.not_not.mp c) k
            refine w_aload_n (p := 132) (pI pM_182 rfl) rfl rfl ?_
            refine v_virtual (p := 135) (mj := 165) (pI pM_182 rfl) rfl rfl rfl rfl rfl rfl rfl rfl rfl rfl (by decide) (by decide) rfl ?_
            refine d165_broken (D165_broken_mono k (fun v49 A50 I51 k => ?_))
            exact w_ireturn (pI pM_182 rfl) rfl rfl rfl k
    · replace k := itp (Decidable.not_not.mp c) k
      refine w_iload_n (p := 27) (pI pM_182 rfl) rfl rfl ?_
      refine w_iconst (p := 28) (v := nI 1) (pI pM_182 rfl) rfl rfl ?_
      refine w_icmp_lt (p := 31) (q := 39) (pI pM_182 rfl) rfl rfl rfl (fun c => ?_) (fun c => ?_)
      · replace k := itp c k
        refine w_aload_n (p := 40) (pI pM_182 rfl) rfl rfl ?_
        refine v_virtual (p := 43) (mj := 165) (pI pM_182 rfl) rfl rfl rfl rfl rfl rfl rfl rfl rfl rfl (by decide) (by decide) rfl ?_
        refine d165_broken (D165_broken_mono k (fun v52 A53 I54 k => ?_))
        exact w_ireturn (pI pM_182 rfl) rfl rfl rfl k
      · replace k := itn c k
        refine w_aload_n (p := 32) (pI pM_182 rfl) rfl rfl ?_
        refine w_iconst (p := 33) (v := nI 0) (pI pM_182 rfl) rfl rfl ?_
        refine v_virtual (p := 36) (mj := 183) (pI pM_182 rfl) rfl rfl rfl rfl rfl rfl rfl rfl rfl rfl (by decide) (by decide) rfl ?_
        refine d183_isReference (D183_isReference_mono k (fun v55 k => ?_))
        refine w_if_ne (p := 39) (q := 44) (pI pM_182 rfl) rfl rfl rfl (fun c => ?_) (fun c => ?_)
        · replace k := itn c k
          refine w_aload_n (p := 45) (pI pM_182 rfl) rfl rfl ?_
          refine w_iconst (p := 46) (v := nI 0) (pI pM_182 rfl) rfl rfl ?_
          refine v_virtual (p := 49) (mj := 172) (pI pM_182 rfl) rfl rfl rfl rfl rfl rfl rfl rfl rfl rfl (by decide) (by decide) rfl ?_
          refine d172_top (D172_top_mono k (fun v56 k => ?_))
          refine w_iconst (p := 50) (v := -1) (pI pM_182 rfl) rfl rfl ?_
          refine w_icmp_ne (p := 53) (q := 57) (pI pM_182 rfl) rfl rfl rfl (fun c => ?_) (fun c => ?_)
          · replace k := itn c k
            refine w_iconst (p := 58) (v := nI 0) (pI pM_182 rfl) rfl rfl ?_
            refine w_istore (p := 60) (pI pM_182 rfl) rfl rfl rfl ?_
            refine w_aload_n (p := 61) (pI pM_182 rfl) rfl rfl ?_
            refine v_getR (p := 64) (kf := 8) (pI pM_182 rfl) rfl rfl rfl (by decide) (by decide) rfl rfl ?_
            refine w_aload_n (p := 65) (pI pM_182 rfl) rfl rfl ?_
            refine v_getI (p := 68) (kf := 36) (pI pM_182 rfl) rfl rfl rfl (by decide) (by decide) rfl rfl rfl ?_
            refine w_iconst (p := 69) (v := nI 2) (pI pM_182 rfl) rfl rfl ?_
            refine w_iadd (p := 70) (pI pM_182 rfl) rfl ?_
            refine w_dup2 (p := 71) (pI pM_182 rfl) rfl rfl rfl ?_
            obtain ⟨s57, k⟩ := k
            refine v_iald (p := 72) (pI pM_182 rfl) rfl (by decide) rfl s57 rfl ?_
            refine w_iconst (p := 73) (v := nI 1) (pI pM_182 rfl) rfl rfl ?_
            refine w_isub (p := 74) (pI pM_182 rfl) rfl ?_
            obtain ⟨s58, k⟩ := k
            refine s_iast (p := 75) (pI pM_182 rfl) rfl (by decide) (by decide) rfl s58 ?_
            refine w_aload_n (p := 76) (pI pM_182 rfl) rfl rfl ?_
            refine v_getR (p := 79) (kf := 8) (pI pM_182 rfl) rfl rfl rfl (by decide) (by decide) rfl rfl ?_
            refine w_aload_n (p := 80) (pI pM_182 rfl) rfl rfl ?_
            refine v_getI (p := 83) (kf := 36) (pI pM_182 rfl) rfl rfl rfl (by decide) (by decide) rfl rfl rfl ?_
            refine w_iconst (p := 84) (v := nI 1) (pI pM_182 rfl) rfl rfl ?_
            refine w_iadd (p := 85) (pI pM_182 rfl) rfl ?_
            refine w_iload (p := 87) (pI pM_182 rfl) rfl rfl ?_
            refine w_if_eq (p := 90) (q := 94) (pI pM_182 rfl) rfl rfl rfl (fun _ => ?_) (fun c => absurd (by decide) c)
            refine w_aload_n (p := 95) (pI pM_182 rfl) rfl rfl ?_
            refine v_getR (p := 98) (kf := 8) (pI pM_182 rfl) rfl rfl rfl (by decide) (by decide) rfl rfl ?_
            refine w_aload_n (p := 99) (pI pM_182 rfl) rfl rfl ?_
            refine v_getI (p := 102) (kf := 36) (pI pM_182 rfl) rfl rfl rfl (by decide) (by decide) rfl rfl rfl ?_
            refine w_iconst (p := 103) (v := nI 1) (pI pM_182 rfl) rfl rfl ?_
            refine w_iadd (p := 104) (pI pM_182 rfl) rfl ?_
            obtain ⟨s59, k⟩ := k
            refine v_iald (p := 105) (pI pM_182 rfl) rfl (by decide) rfl s59 rfl ?_
            refine w_iconst (p := 106) (v := nI 1) (pI pM_182 rfl) rfl rfl ?_
            refine w_iadd (p := 107) (pI pM_182 rfl) rfl ?_
            obtain ⟨s60, k⟩ := k
            refine s_iast (p := 108) (pI pM_182 rfl) rfl (by decide) (by decide) rfl s60 ?_
            refine w_iconst (p := 109) (v := nI 0) (pI pM_182 rfl) rfl rfl ?_
            exact w_ireturn (pI pM_182 rfl) rfl rfl rfl k
          · replace k := itp (Decidable.not_not.mp c) k
            refine w_iconst (p := 54) (v := nI 1) (pI pM_182 rfl) rfl rfl ?_
            refine w_goto (p := 58) (pI pM_182 rfl) rfl rfl ?_
            refine w_istore (p := 60) (pI pM_182 rfl) rfl rfl rfl ?_
            refine w_aload_n (p := 61) (pI pM_182 rfl) rfl rfl ?_
            refine v_getR (p := 64) (kf := 8) (pI pM_182 rfl) rfl rfl rfl (by decide) (by decide) rfl rfl ?_
            refine w_aload_n (p := 65) (pI pM_182 rfl) rfl rfl ?_
            refine v_getI (p := 68) (kf := 36) (pI pM_182 rfl) rfl rfl rfl (by decide) (by decide) rfl rfl rfl ?_
            refine w_iconst (p := 69) (v := nI 2) (pI pM_182 rfl) rfl rfl ?_
            refine w_iadd (p := 70) (pI pM_182 rfl) rfl ?_
            refine w_dup2 (p := 71) (pI pM_182 rfl) rfl rfl rfl ?_
            obtain ⟨s61, k⟩ := k
            refine v_iald (p := 72) (pI pM_182 rfl) rfl (by decide) rfl s61 rfl ?_
            refine w_iconst (p := 73) (v := nI 1) (pI pM_182 rfl) rfl rfl ?_
            refine w_isub (p := 74) (pI pM_182 rfl) rfl ?_
            obtain ⟨s62, k⟩ := k
            refine s_iast (p := 75) (pI pM_182 rfl) rfl (by decide) (by decide) rfl s62 ?_
            refine w_aload_n (p := 76) (pI pM_182 rfl) rfl rfl ?_
            refine v_getR (p := 79) (kf := 8) (pI pM_182 rfl) rfl rfl rfl (by decide) (by decide) rfl rfl ?_
            refine w_aload_n (p := 80) (pI pM_182 rfl) rfl rfl ?_
            refine v_getI (p := 83) (kf := 36) (pI pM_182 rfl) rfl rfl rfl (by decide) (by decide) rfl rfl rfl ?_
            refine w_iconst (p := 84) (v := nI 1) (pI pM_182 rfl) rfl rfl ?_
            refine w_iadd (p := 85) (pI pM_182 rfl) rfl ?_
            refine w_iload (p := 87) (pI pM_182 rfl) rfl rfl ?_
            refine w_if_eq (p := 90) (q := 94) (pI pM_182 rfl) rfl rfl rfl (fun c => absurd c (by decide)) (fun _ => ?_)
            refine w_iload_n (p := 91) (pI pM_182 rfl) rfl rfl ?_
            refine w_goto (p := 107) (pI pM_182 rfl) rfl rfl ?_
            obtain ⟨s63, k⟩ := k
            refine s_iast (p := 108) (pI pM_182 rfl) rfl (by decide) (by decide) rfl s63 ?_
            refine w_iconst (p := 109) (v := nI 0) (pI pM_182 rfl) rfl rfl ?_
            exact w_ireturn (pI pM_182 rfl) rfl rfl rfl k
        · replace k := itp (Decidable.not_not.mp c) k
          refine w_aload_n (p := 40) (pI pM_182 rfl) rfl rfl ?_
          refine v_virtual (p := 43) (mj := 165) (pI pM_182 rfl) rfl rfl rfl rfl rfl rfl rfl rfl rfl rfl (by decide) (by decide) rfl ?_
          refine d165_broken (D165_broken_mono k (fun v64 A65 I66 k => ?_))
          exact w_ireturn (pI pM_182 rfl) rfl rfl rfl k
  · replace k := itp (Decidable.not_not.mp c) k
    refine w_aload_n (p := 7) (pI pM_182 rfl) rfl rfl ?_
    refine v_getR (p := 10) (kf := 8) (pI pM_182 rfl) rfl rfl rfl (by decide) (by decide) rfl rfl ?_
    refine w_aload_n (p := 11) (pI pM_182 rfl) rfl rfl ?_
    refine v_getI (p := 14) (kf := 36) (pI pM_182 rfl) rfl rfl rfl (by decide) (by decide) rfl rfl rfl ?_
    refine w_iconst (p := 15) (v := nI 1) (pI pM_182 rfl) rfl rfl ?_
    refine w_iadd (p := 16) (pI pM_182 rfl) rfl ?_
    refine w_iload_n (p := 17) (pI pM_182 rfl) rfl rfl ?_
    obtain ⟨s67, k⟩ := k
    refine s_iast (p := 18) (pI pM_182 rfl) rfl (by decide) (by decide) rfl s67 ?_
    refine w_iconst (p := 19) (v := nI 0) (pI pM_182 rfl) rfl rfl ?_
    exact w_ireturn (pI pM_182 rfl) rfl rfl rfl k
set_option maxRecDepth 100000 in
set_option maxHeartbeats 4000000 in
theorem d185_makes {d L : Nat} {x : Int32} {y : Int32} {A I : HA} {Q : bm_Q} (k : D185_makes x y A I (fun v A I => Q (some (.int v)) (hp L A I))) : bm_M (d + 4) 185 [.ref 1681, .int x, .int y] (hp L A I) Q := by
  unfold D185_makes at k
  refine bw_enter rfl rfl rfl rfl ?_
  refine w_iload_n (p := 1) (pI pM_185 rfl) rfl rfl ?_
  refine w_iconst (p := 2) (v := nI 1) (pI pM_185 rfl) rfl rfl ?_
  refine w_icmp_lt (p := 5) (q := 13) (pI pM_185 rfl) rfl rfl rfl (fun c => ?_) (fun c => ?_)
  · replace k := itp c k
    refine w_aload_n (p := 14) (pI pM_185 rfl) rfl rfl ?_
    refine v_virtual (p := 17) (mj := 165) (pI pM_185 rfl) rfl rfl rfl rfl rfl rfl rfl rfl rfl rfl (by decide) (by decide) rfl ?_
    refine d165_broken (D165_broken_mono k (fun v1 A2 I3 k => ?_))
    exact w_ireturn (pI pM_185 rfl) rfl rfl rfl k
  · replace k := itn c k
    refine w_aload_n (p := 6) (pI pM_185 rfl) rfl rfl ?_
    refine w_iconst (p := 7) (v := nI 0) (pI pM_185 rfl) rfl rfl ?_
    refine v_virtual (p := 10) (mj := 174) (pI pM_185 rfl) rfl rfl rfl rfl rfl rfl rfl rfl rfl rfl (by decide) (by decide) rfl ?_
    refine d174_isWord (D174_isWord_mono k (fun v4 k => ?_))
    refine w_if_ne (p := 13) (q := 18) (pI pM_185 rfl) rfl rfl rfl (fun c => ?_) (fun c => ?_)
    · replace k := itn c k
      refine w_aload_n (p := 19) (pI pM_185 rfl) rfl rfl ?_
      refine w_iconst (p := 20) (v := nI 0) (pI pM_185 rfl) rfl rfl ?_
      refine v_virtual (p := 23) (mj := 172) (pI pM_185 rfl) rfl rfl rfl rfl rfl rfl rfl rfl rfl rfl (by decide) (by decide) rfl ?_
      refine d172_top (D172_top_mono k (fun v5 k => ?_))
      refine w_istore_n (p := 24) (pI pM_185 rfl) rfl rfl rfl ?_
      refine w_iload_n (p := 25) (pI pM_185 rfl) rfl rfl ?_
      refine w_static (p := 28) (mj := 177) (pI pM_185 rfl) rfl rfl rfl rfl rfl rfl rfl rfl rfl ?_
      refine d177_isNumber (D177_isNumber_mono k (fun v6 k => ?_))
      refine w_if_ne (p := 31) (q := 45) (pI pM_185 rfl) rfl rfl rfl (fun c => ?_) (fun c => ?_)
      · replace k := itn c k
        refine w_iload_n (p := 46) (pI pM_185 rfl) rfl rfl ?_
        refine w_static (p := 49) (mj := 177) (pI pM_185 rfl) rfl rfl rfl rfl rfl rfl rfl rfl rfl ?_
        refine d177_isNumber (D177_isNumber_mono k (fun v7 k => ?_))
        refine w_if_eq (p := 52) (q := 59) (pI pM_185 rfl) rfl rfl rfl (fun c => ?_) (fun c => ?_)
        · replace k := itp c k
          refine w_iload_n (p := 60) (pI pM_185 rfl) rfl rfl ?_
          refine w_bipush (p := 62) (v := nI 6) (pI pM_185 rfl) rfl rfl ?_
          refine w_icmp_ne (p := 65) (q := 69) (pI pM_185 rfl) rfl rfl rfl (fun c => ?_) (fun c => ?_)
          · replace k := itn c k
            refine w_iload_n (p := 70) (pI pM_185 rfl) rfl rfl ?_
            refine w_bipush (p := 72) (v := nI 7) (pI pM_185 rfl) rfl rfl ?_
            refine w_icmp_ne (p := 75) (q := 80) (pI pM_185 rfl) rfl rfl rfl (fun c => ?_) (fun c => ?_)
            · replace k := itn c k
              refine w_iload_n (p := 81) (pI pM_185 rfl) rfl rfl ?_
              refine w_istore (p := 83) (pI pM_185 rfl) rfl rfl rfl ?_
              refine w_iload (p := 85) (pI pM_185 rfl) rfl rfl ?_
              refine w_if_ge (p := 88) (q := 94) (pI pM_185 rfl) rfl rfl rfl (fun c => ?_) (fun c => ?_)
              · replace k := itn (Int32.not_lt.mpr c) k
                refine w_aload_n (p := 95) (pI pM_185 rfl) rfl rfl ?_
                refine v_getR (p := 98) (kf := 8) (pI pM_185 rfl) rfl rfl rfl (by decide) (by decide) rfl rfl ?_
                refine w_aload_n (p := 99) (pI pM_185 rfl) rfl rfl ?_
                refine v_getI (p := 102) (kf := 35) (pI pM_185 rfl) rfl rfl rfl (by decide) (by decide) rfl rfl rfl ?_
                refine w_iconst (p := 103) (v := nI 5) (pI pM_185 rfl) rfl rfl ?_
                refine w_iadd (p := 104) (pI pM_185 rfl) rfl ?_
                obtain ⟨s8, k⟩ := k
                refine v_iald (p := 105) (pI pM_185 rfl) rfl (by decide) rfl s8 rfl ?_
                refine w_istore (p := 107) (pI pM_185 rfl) rfl rfl rfl ?_
                refine w_iload (p := 109) (pI pM_185 rfl) rfl rfl ?_
                refine w_iconst (p := 110) (v := nI 5) (pI pM_185 rfl) rfl rfl ?_
                refine w_icmp_gt (p := 113) (q := 119) (pI pM_185 rfl) rfl rfl rfl (fun c => ?_) (fun c => ?_)
                · replace k := itp c k
                  refine w_aload_n (p := 120) (pI pM_185 rfl) rfl rfl ?_
                  refine w_iconst (p := 121) (v := nI 4) (pI pM_185 rfl) rfl rfl ?_
                  refine v_virtual (p := 124) (mj := 181) (pI pM_185 rfl) rfl rfl rfl rfl rfl rfl rfl rfl rfl rfl (by decide) (by decide) rfl ?_
                  refine d181_throwing (D181_throwing_mono k (fun v9 A10 I11 k => ?_))
                  exact w_ireturn (pI pM_185 rfl) rfl rfl rfl k
                · replace k := itn c k
                  refine w_iload (p := 115) (pI pM_185 rfl) rfl rfl ?_
                  refine w_iconst (p := 116) (v := nI 4) (pI pM_185 rfl) rfl rfl ?_
                  refine w_icmp_ne (p := 119) (q := 125) (pI pM_185 rfl) rfl rfl rfl (fun c => ?_) (fun c => ?_)
                  · replace k := itn c k
                    refine w_aload_n (p := 126) (pI pM_185 rfl) rfl rfl ?_
                    refine v_getR (p := 129) (kf := 8) (pI pM_185 rfl) rfl rfl rfl (by decide) (by decide) rfl rfl ?_
                    refine w_aload_n (p := 130) (pI pM_185 rfl) rfl rfl ?_
                    refine v_getI (p := 133) (kf := 35) (pI pM_185 rfl) rfl rfl rfl (by decide) (by decide) rfl rfl rfl ?_
                    refine w_iconst (p := 134) (v := nI 5) (pI pM_185 rfl) rfl rfl ?_
                    refine w_iadd (p := 135) (pI pM_185 rfl) rfl ?_
                    refine w_dup2 (p := 136) (pI pM_185 rfl) rfl rfl rfl ?_
                    obtain ⟨s12, k⟩ := k
                    refine v_iald (p := 137) (pI pM_185 rfl) rfl (by decide) rfl s12 rfl ?_
                    refine w_iconst (p := 138) (v := nI 1) (pI pM_185 rfl) rfl rfl ?_
                    refine w_iadd (p := 139) (pI pM_185 rfl) rfl ?_
                    obtain ⟨s13, k⟩ := k
                    refine s_iast (p := 140) (pI pM_185 rfl) rfl (by decide) (by decide) rfl s13 ?_
                    refine w_aload_n (p := 141) (pI pM_185 rfl) rfl rfl ?_
                    refine v_getR (p := 144) (kf := 8) (pI pM_185 rfl) rfl rfl rfl (by decide) (by decide) rfl rfl ?_
                    refine w_aload_n (p := 145) (pI pM_185 rfl) rfl rfl ?_
                    refine v_getI (p := 148) (kf := 35) (pI pM_185 rfl) rfl rfl rfl (by decide) (by decide) rfl rfl rfl ?_
                    refine w_bipush (p := 150) (v := nI 6) (pI pM_185 rfl) rfl rfl ?_
                    refine w_iadd (p := 151) (pI pM_185 rfl) rfl ?_
                    refine w_iload (p := 153) (pI pM_185 rfl) rfl rfl ?_
                    refine w_iadd (p := 154) (pI pM_185 rfl) rfl ?_
                    refine w_iload (p := 156) (pI pM_185 rfl) rfl rfl ?_
                    obtain ⟨s14, k⟩ := k
                    refine s_iast (p := 157) (pI pM_185 rfl) rfl (by decide) (by decide) rfl s14 ?_
                    refine w_iconst (p := 158) (v := nI 0) (pI pM_185 rfl) rfl rfl ?_
                    refine w_istore (p := 160) (pI pM_185 rfl) rfl rfl rfl ?_
                    refine k (fun a16 A21 I22 => ∀ u17 u18 u19 u20 : Value, bm_W (bm_M (d + 3)) 185 Q 160 [.ref 1681, u17, u18, u19, u20, .int (A 1688 ((I 1681 35) + (nI 5)).toNatClampNeg), .int a16] [] (hp L A21 I22)) (fun a16 A21 I22 k => ?_) _ _ _ _
                    intro u17 u18 u19 u20
                    refine w_iload (p := 162) (pI pM_185 rfl) rfl rfl ?_
                    refine w_iconst (p := 163) (v := nI 5) (pI pM_185 rfl) rfl rfl ?_
                    refine w_icmp_ge (p := 166) (q := 196) (pI pM_185 rfl) rfl rfl rfl (fun c => ?_) (fun c => ?_)
                    · replace k := itn (Int32.not_lt.mpr c) k
                      refine w_aload_n (p := 197) (pI pM_185 rfl) rfl rfl ?_
                      refine w_iconst (p := 198) (v := nI 1) (pI pM_185 rfl) rfl rfl ?_
                      refine w_bipush (p := 200) (v := -2) (pI pM_185 rfl) rfl rfl ?_
                      refine w_iload (p := 202) (pI pM_185 rfl) rfl rfl ?_
                      refine w_isub (p := 203) (pI pM_185 rfl) rfl ?_
                      refine v_virtual (p := 206) (mj := 170) (pI pM_185 rfl) rfl rfl rfl rfl rfl rfl rfl rfl rfl rfl (by decide) (by decide) rfl ?_
                      refine d170_next (D170_next_mono k (fun v24 A25 I26 k => ?_))
                      exact w_ireturn (pI pM_185 rfl) rfl rfl rfl k
                    · replace k := itp (Int32.not_le.mp c) k
                      refine w_aload_n (p := 167) (pI pM_185 rfl) rfl rfl ?_
                      refine v_getR (p := 170) (kf := 8) (pI pM_185 rfl) rfl rfl rfl (by decide) (by decide) rfl rfl ?_
                      refine w_aload_n (p := 171) (pI pM_185 rfl) rfl rfl ?_
                      refine v_getI (p := 174) (kf := 35) (pI pM_185 rfl) rfl rfl rfl (by decide) (by decide) rfl rfl rfl ?_
                      refine w_bipush (p := 176) (v := nI 10) (pI pM_185 rfl) rfl rfl ?_
                      refine w_iadd (p := 177) (pI pM_185 rfl) rfl ?_
                      refine w_iconst (p := 178) (v := nI 5) (pI pM_185 rfl) rfl rfl ?_
                      refine w_iload (p := 180) (pI pM_185 rfl) rfl rfl ?_
                      refine w_imul (p := 181) (pI pM_185 rfl) rfl ?_
                      refine w_iadd (p := 182) (pI pM_185 rfl) rfl ?_
                      refine w_iload (p := 184) (pI pM_185 rfl) rfl rfl ?_
                      refine w_iadd (p := 185) (pI pM_185 rfl) rfl ?_
                      refine w_iconst (p := 186) (v := nI 0) (pI pM_185 rfl) rfl rfl ?_
                      refine w_static (p := 189) (mj := 168) (pI pM_185 rfl) rfl rfl rfl rfl rfl rfl rfl rfl rfl ?_
                      refine d168_node (D168_node_mono k (fun v27 k => ?_))
                      obtain ⟨s28, k⟩ := k
                      refine s_iast (p := 190) (pI pM_185 rfl) rfl (by decide) (by decide) rfl s28 ?_
                      refine w_iinc (p := 193) (v := (a16 + nI 1)) (pI pM_185 rfl) rfl rfl rfl rfl ?_
                      refine w_goto (p := 160) (pI pM_185 rfl) rfl rfl ?_
                      exact k _ _ _ _
                  · replace k := itp (Decidable.not_not.mp c) k
                    refine w_aload_n (p := 120) (pI pM_185 rfl) rfl rfl ?_
                    refine w_iconst (p := 121) (v := nI 4) (pI pM_185 rfl) rfl rfl ?_
                    refine v_virtual (p := 124) (mj := 181) (pI pM_185 rfl) rfl rfl rfl rfl rfl rfl rfl rfl rfl rfl (by decide) (by decide) rfl ?_
                    refine d181_throwing (D181_throwing_mono k (fun v29 A30 I31 k => ?_))
                    exact w_ireturn (pI pM_185 rfl) rfl rfl rfl k
              · replace k := itp (Int32.not_le.mp c) k
                refine w_aload_n (p := 89) (pI pM_185 rfl) rfl rfl ?_
                refine w_iconst (p := 90) (v := nI 3) (pI pM_185 rfl) rfl rfl ?_
                refine v_virtual (p := 93) (mj := 181) (pI pM_185 rfl) rfl rfl rfl rfl rfl rfl rfl rfl rfl rfl (by decide) (by decide) rfl ?_
                refine d181_throwing (D181_throwing_mono k (fun v32 A33 I34 k => ?_))
                exact w_ireturn (pI pM_185 rfl) rfl rfl rfl k
            · replace k := itp (Decidable.not_not.mp c) k
              refine w_bipush (p := 77) (v := nI 6) (pI pM_185 rfl) rfl rfl ?_
              refine w_goto (p := 81) (pI pM_185 rfl) rfl rfl ?_
              refine w_istore (p := 83) (pI pM_185 rfl) rfl rfl rfl ?_
              refine w_iload (p := 85) (pI pM_185 rfl) rfl rfl ?_
              refine w_if_ge (p := 88) (q := 94) (pI pM_185 rfl) rfl rfl rfl (fun _ => ?_) (fun c => absurd (by decide) c)
              refine w_aload_n (p := 95) (pI pM_185 rfl) rfl rfl ?_
              refine v_getR (p := 98) (kf := 8) (pI pM_185 rfl) rfl rfl rfl (by decide) (by decide) rfl rfl ?_
              refine w_aload_n (p := 99) (pI pM_185 rfl) rfl rfl ?_
              refine v_getI (p := 102) (kf := 35) (pI pM_185 rfl) rfl rfl rfl (by decide) (by decide) rfl rfl rfl ?_
              refine w_iconst (p := 103) (v := nI 5) (pI pM_185 rfl) rfl rfl ?_
              refine w_iadd (p := 104) (pI pM_185 rfl) rfl ?_
              obtain ⟨s35, k⟩ := k
              refine v_iald (p := 105) (pI pM_185 rfl) rfl (by decide) rfl s35 rfl ?_
              refine w_istore (p := 107) (pI pM_185 rfl) rfl rfl rfl ?_
              refine w_iload (p := 109) (pI pM_185 rfl) rfl rfl ?_
              refine w_iconst (p := 110) (v := nI 5) (pI pM_185 rfl) rfl rfl ?_
              refine w_icmp_gt (p := 113) (q := 119) (pI pM_185 rfl) rfl rfl rfl (fun _ => ?_) (fun c => absurd (by decide) c)
              refine w_aload_n (p := 120) (pI pM_185 rfl) rfl rfl ?_
              refine w_iconst (p := 121) (v := nI 4) (pI pM_185 rfl) rfl rfl ?_
              refine v_virtual (p := 124) (mj := 181) (pI pM_185 rfl) rfl rfl rfl rfl rfl rfl rfl rfl rfl rfl (by decide) (by decide) rfl ?_
              refine d181_throwing (D181_throwing_mono k (fun v36 A37 I38 k => ?_))
              exact w_ireturn (pI pM_185 rfl) rfl rfl rfl k
          · replace k := itp (Decidable.not_not.mp c) k
            refine w_iconst (p := 66) (v := -1) (pI pM_185 rfl) rfl rfl ?_
            refine w_goto (p := 81) (pI pM_185 rfl) rfl rfl ?_
            refine w_istore (p := 83) (pI pM_185 rfl) rfl rfl rfl ?_
            refine w_iload (p := 85) (pI pM_185 rfl) rfl rfl ?_
            refine w_if_ge (p := 88) (q := 94) (pI pM_185 rfl) rfl rfl rfl (fun c => absurd c (by decide)) (fun _ => ?_)
            refine w_aload_n (p := 89) (pI pM_185 rfl) rfl rfl ?_
            refine w_iconst (p := 90) (v := nI 3) (pI pM_185 rfl) rfl rfl ?_
            refine v_virtual (p := 93) (mj := 181) (pI pM_185 rfl) rfl rfl rfl rfl rfl rfl rfl rfl rfl rfl (by decide) (by decide) rfl ?_
            refine d181_throwing (D181_throwing_mono k (fun v39 A40 I41 k => ?_))
            exact w_ireturn (pI pM_185 rfl) rfl rfl rfl k
        · replace k := itn c k
          refine w_iload_n (p := 53) (pI pM_185 rfl) rfl rfl ?_
          refine w_static (p := 56) (mj := 178) (pI pM_185 rfl) rfl rfl rfl rfl rfl rfl rfl rfl rfl ?_
          refine d178_number (D178_number_mono k (fun v42 k => ?_))
          refine w_goto (p := 81) (pI pM_185 rfl) rfl rfl ?_
          refine w_istore (p := 83) (pI pM_185 rfl) rfl rfl rfl ?_
          refine w_iload (p := 85) (pI pM_185 rfl) rfl rfl ?_
          refine w_if_ge (p := 88) (q := 94) (pI pM_185 rfl) rfl rfl rfl (fun c => ?_) (fun c => ?_)
          · replace k := itn (Int32.not_lt.mpr c) k
            refine w_aload_n (p := 95) (pI pM_185 rfl) rfl rfl ?_
            refine v_getR (p := 98) (kf := 8) (pI pM_185 rfl) rfl rfl rfl (by decide) (by decide) rfl rfl ?_
            refine w_aload_n (p := 99) (pI pM_185 rfl) rfl rfl ?_
            refine v_getI (p := 102) (kf := 35) (pI pM_185 rfl) rfl rfl rfl (by decide) (by decide) rfl rfl rfl ?_
            refine w_iconst (p := 103) (v := nI 5) (pI pM_185 rfl) rfl rfl ?_
            refine w_iadd (p := 104) (pI pM_185 rfl) rfl ?_
            obtain ⟨s43, k⟩ := k
            refine v_iald (p := 105) (pI pM_185 rfl) rfl (by decide) rfl s43 rfl ?_
            refine w_istore (p := 107) (pI pM_185 rfl) rfl rfl rfl ?_
            refine w_iload (p := 109) (pI pM_185 rfl) rfl rfl ?_
            refine w_iconst (p := 110) (v := nI 5) (pI pM_185 rfl) rfl rfl ?_
            refine w_icmp_gt (p := 113) (q := 119) (pI pM_185 rfl) rfl rfl rfl (fun c => ?_) (fun c => ?_)
            · replace k := itp c k
              refine w_aload_n (p := 120) (pI pM_185 rfl) rfl rfl ?_
              refine w_iconst (p := 121) (v := nI 4) (pI pM_185 rfl) rfl rfl ?_
              refine v_virtual (p := 124) (mj := 181) (pI pM_185 rfl) rfl rfl rfl rfl rfl rfl rfl rfl rfl rfl (by decide) (by decide) rfl ?_
              refine d181_throwing (D181_throwing_mono k (fun v44 A45 I46 k => ?_))
              exact w_ireturn (pI pM_185 rfl) rfl rfl rfl k
            · replace k := itn c k
              refine w_iload (p := 115) (pI pM_185 rfl) rfl rfl ?_
              refine w_iconst (p := 116) (v := nI 4) (pI pM_185 rfl) rfl rfl ?_
              refine w_icmp_ne (p := 119) (q := 125) (pI pM_185 rfl) rfl rfl rfl (fun c => ?_) (fun c => ?_)
              · replace k := itn c k
                refine w_aload_n (p := 126) (pI pM_185 rfl) rfl rfl ?_
                refine v_getR (p := 129) (kf := 8) (pI pM_185 rfl) rfl rfl rfl (by decide) (by decide) rfl rfl ?_
                refine w_aload_n (p := 130) (pI pM_185 rfl) rfl rfl ?_
                refine v_getI (p := 133) (kf := 35) (pI pM_185 rfl) rfl rfl rfl (by decide) (by decide) rfl rfl rfl ?_
                refine w_iconst (p := 134) (v := nI 5) (pI pM_185 rfl) rfl rfl ?_
                refine w_iadd (p := 135) (pI pM_185 rfl) rfl ?_
                refine w_dup2 (p := 136) (pI pM_185 rfl) rfl rfl rfl ?_
                obtain ⟨s47, k⟩ := k
                refine v_iald (p := 137) (pI pM_185 rfl) rfl (by decide) rfl s47 rfl ?_
                refine w_iconst (p := 138) (v := nI 1) (pI pM_185 rfl) rfl rfl ?_
                refine w_iadd (p := 139) (pI pM_185 rfl) rfl ?_
                obtain ⟨s48, k⟩ := k
                refine s_iast (p := 140) (pI pM_185 rfl) rfl (by decide) (by decide) rfl s48 ?_
                refine w_aload_n (p := 141) (pI pM_185 rfl) rfl rfl ?_
                refine v_getR (p := 144) (kf := 8) (pI pM_185 rfl) rfl rfl rfl (by decide) (by decide) rfl rfl ?_
                refine w_aload_n (p := 145) (pI pM_185 rfl) rfl rfl ?_
                refine v_getI (p := 148) (kf := 35) (pI pM_185 rfl) rfl rfl rfl (by decide) (by decide) rfl rfl rfl ?_
                refine w_bipush (p := 150) (v := nI 6) (pI pM_185 rfl) rfl rfl ?_
                refine w_iadd (p := 151) (pI pM_185 rfl) rfl ?_
                refine w_iload (p := 153) (pI pM_185 rfl) rfl rfl ?_
                refine w_iadd (p := 154) (pI pM_185 rfl) rfl ?_
                refine w_iload (p := 156) (pI pM_185 rfl) rfl rfl ?_
                obtain ⟨s49, k⟩ := k
                refine s_iast (p := 157) (pI pM_185 rfl) rfl (by decide) (by decide) rfl s49 ?_
                refine w_iconst (p := 158) (v := nI 0) (pI pM_185 rfl) rfl rfl ?_
                refine w_istore (p := 160) (pI pM_185 rfl) rfl rfl rfl ?_
                refine k (fun a51 A56 I57 => ∀ u52 u53 u54 u55 : Value, bm_W (bm_M (d + 3)) 185 Q 160 [.ref 1681, u52, u53, u54, u55, .int (A 1688 ((I 1681 35) + (nI 5)).toNatClampNeg), .int a51] [] (hp L A56 I57)) (fun a51 A56 I57 k => ?_) _ _ _ _
                intro u52 u53 u54 u55
                refine w_iload (p := 162) (pI pM_185 rfl) rfl rfl ?_
                refine w_iconst (p := 163) (v := nI 5) (pI pM_185 rfl) rfl rfl ?_
                refine w_icmp_ge (p := 166) (q := 196) (pI pM_185 rfl) rfl rfl rfl (fun c => ?_) (fun c => ?_)
                · replace k := itn (Int32.not_lt.mpr c) k
                  refine w_aload_n (p := 197) (pI pM_185 rfl) rfl rfl ?_
                  refine w_iconst (p := 198) (v := nI 1) (pI pM_185 rfl) rfl rfl ?_
                  refine w_bipush (p := 200) (v := -2) (pI pM_185 rfl) rfl rfl ?_
                  refine w_iload (p := 202) (pI pM_185 rfl) rfl rfl ?_
                  refine w_isub (p := 203) (pI pM_185 rfl) rfl ?_
                  refine v_virtual (p := 206) (mj := 170) (pI pM_185 rfl) rfl rfl rfl rfl rfl rfl rfl rfl rfl rfl (by decide) (by decide) rfl ?_
                  refine d170_next (D170_next_mono k (fun v59 A60 I61 k => ?_))
                  exact w_ireturn (pI pM_185 rfl) rfl rfl rfl k
                · replace k := itp (Int32.not_le.mp c) k
                  refine w_aload_n (p := 167) (pI pM_185 rfl) rfl rfl ?_
                  refine v_getR (p := 170) (kf := 8) (pI pM_185 rfl) rfl rfl rfl (by decide) (by decide) rfl rfl ?_
                  refine w_aload_n (p := 171) (pI pM_185 rfl) rfl rfl ?_
                  refine v_getI (p := 174) (kf := 35) (pI pM_185 rfl) rfl rfl rfl (by decide) (by decide) rfl rfl rfl ?_
                  refine w_bipush (p := 176) (v := nI 10) (pI pM_185 rfl) rfl rfl ?_
                  refine w_iadd (p := 177) (pI pM_185 rfl) rfl ?_
                  refine w_iconst (p := 178) (v := nI 5) (pI pM_185 rfl) rfl rfl ?_
                  refine w_iload (p := 180) (pI pM_185 rfl) rfl rfl ?_
                  refine w_imul (p := 181) (pI pM_185 rfl) rfl ?_
                  refine w_iadd (p := 182) (pI pM_185 rfl) rfl ?_
                  refine w_iload (p := 184) (pI pM_185 rfl) rfl rfl ?_
                  refine w_iadd (p := 185) (pI pM_185 rfl) rfl ?_
                  refine w_iconst (p := 186) (v := nI 0) (pI pM_185 rfl) rfl rfl ?_
                  refine w_static (p := 189) (mj := 168) (pI pM_185 rfl) rfl rfl rfl rfl rfl rfl rfl rfl rfl ?_
                  refine d168_node (D168_node_mono k (fun v62 k => ?_))
                  obtain ⟨s63, k⟩ := k
                  refine s_iast (p := 190) (pI pM_185 rfl) rfl (by decide) (by decide) rfl s63 ?_
                  refine w_iinc (p := 193) (v := (a51 + nI 1)) (pI pM_185 rfl) rfl rfl rfl rfl ?_
                  refine w_goto (p := 160) (pI pM_185 rfl) rfl rfl ?_
                  exact k _ _ _ _
              · replace k := itp (Decidable.not_not.mp c) k
                refine w_aload_n (p := 120) (pI pM_185 rfl) rfl rfl ?_
                refine w_iconst (p := 121) (v := nI 4) (pI pM_185 rfl) rfl rfl ?_
                refine v_virtual (p := 124) (mj := 181) (pI pM_185 rfl) rfl rfl rfl rfl rfl rfl rfl rfl rfl rfl (by decide) (by decide) rfl ?_
                refine d181_throwing (D181_throwing_mono k (fun v64 A65 I66 k => ?_))
                exact w_ireturn (pI pM_185 rfl) rfl rfl rfl k
          · replace k := itp (Int32.not_le.mp c) k
            refine w_aload_n (p := 89) (pI pM_185 rfl) rfl rfl ?_
            refine w_iconst (p := 90) (v := nI 3) (pI pM_185 rfl) rfl rfl ?_
            refine v_virtual (p := 93) (mj := 181) (pI pM_185 rfl) rfl rfl rfl rfl rfl rfl rfl rfl rfl rfl (by decide) (by decide) rfl ?_
            refine d181_throwing (D181_throwing_mono k (fun v67 A68 I69 k => ?_))
            exact w_ireturn (pI pM_185 rfl) rfl rfl rfl k
      · replace k := itp (Decidable.not_not.mp c) k
        refine w_iload_n (p := 32) (pI pM_185 rfl) rfl rfl ?_
        refine w_iconst (p := 33) (v := -1) (pI pM_185 rfl) rfl rfl ?_
        refine w_icmp_ne (p := 36) (q := 45) (pI pM_185 rfl) rfl rfl rfl (fun c => ?_) (fun c => ?_)
        · replace k := itn c k
          refine w_iload_n (p := 46) (pI pM_185 rfl) rfl rfl ?_
          refine w_static (p := 49) (mj := 177) (pI pM_185 rfl) rfl rfl rfl rfl rfl rfl rfl rfl rfl ?_
          refine d177_isNumber (D177_isNumber_mono k (fun v70 k => ?_))
          refine w_if_eq (p := 52) (q := 59) (pI pM_185 rfl) rfl rfl rfl (fun c => ?_) (fun c => ?_)
          · replace k := itp c k
            refine w_iload_n (p := 60) (pI pM_185 rfl) rfl rfl ?_
            refine w_bipush (p := 62) (v := nI 6) (pI pM_185 rfl) rfl rfl ?_
            refine w_icmp_ne (p := 65) (q := 69) (pI pM_185 rfl) rfl rfl rfl (fun c => ?_) (fun c => ?_)
            · replace k := itn c k
              refine w_iload_n (p := 70) (pI pM_185 rfl) rfl rfl ?_
              refine w_bipush (p := 72) (v := nI 7) (pI pM_185 rfl) rfl rfl ?_
              refine w_icmp_ne (p := 75) (q := 80) (pI pM_185 rfl) rfl rfl rfl (fun c => ?_) (fun c => ?_)
              · replace k := itn c k
                refine w_iload_n (p := 81) (pI pM_185 rfl) rfl rfl ?_
                refine w_istore (p := 83) (pI pM_185 rfl) rfl rfl rfl ?_
                refine w_iload (p := 85) (pI pM_185 rfl) rfl rfl ?_
                refine w_if_ge (p := 88) (q := 94) (pI pM_185 rfl) rfl rfl rfl (fun c => ?_) (fun c => ?_)
                · replace k := itn (Int32.not_lt.mpr c) k
                  refine w_aload_n (p := 95) (pI pM_185 rfl) rfl rfl ?_
                  refine v_getR (p := 98) (kf := 8) (pI pM_185 rfl) rfl rfl rfl (by decide) (by decide) rfl rfl ?_
                  refine w_aload_n (p := 99) (pI pM_185 rfl) rfl rfl ?_
                  refine v_getI (p := 102) (kf := 35) (pI pM_185 rfl) rfl rfl rfl (by decide) (by decide) rfl rfl rfl ?_
                  refine w_iconst (p := 103) (v := nI 5) (pI pM_185 rfl) rfl rfl ?_
                  refine w_iadd (p := 104) (pI pM_185 rfl) rfl ?_
                  obtain ⟨s71, k⟩ := k
                  refine v_iald (p := 105) (pI pM_185 rfl) rfl (by decide) rfl s71 rfl ?_
                  refine w_istore (p := 107) (pI pM_185 rfl) rfl rfl rfl ?_
                  refine w_iload (p := 109) (pI pM_185 rfl) rfl rfl ?_
                  refine w_iconst (p := 110) (v := nI 5) (pI pM_185 rfl) rfl rfl ?_
                  refine w_icmp_gt (p := 113) (q := 119) (pI pM_185 rfl) rfl rfl rfl (fun c => ?_) (fun c => ?_)
                  · replace k := itp c k
                    refine w_aload_n (p := 120) (pI pM_185 rfl) rfl rfl ?_
                    refine w_iconst (p := 121) (v := nI 4) (pI pM_185 rfl) rfl rfl ?_
                    refine v_virtual (p := 124) (mj := 181) (pI pM_185 rfl) rfl rfl rfl rfl rfl rfl rfl rfl rfl rfl (by decide) (by decide) rfl ?_
                    refine d181_throwing (D181_throwing_mono k (fun v72 A73 I74 k => ?_))
                    exact w_ireturn (pI pM_185 rfl) rfl rfl rfl k
                  · replace k := itn c k
                    refine w_iload (p := 115) (pI pM_185 rfl) rfl rfl ?_
                    refine w_iconst (p := 116) (v := nI 4) (pI pM_185 rfl) rfl rfl ?_
                    refine w_icmp_ne (p := 119) (q := 125) (pI pM_185 rfl) rfl rfl rfl (fun c => ?_) (fun c => ?_)
                    · replace k := itn c k
                      refine w_aload_n (p := 126) (pI pM_185 rfl) rfl rfl ?_
                      refine v_getR (p := 129) (kf := 8) (pI pM_185 rfl) rfl rfl rfl (by decide) (by decide) rfl rfl ?_
                      refine w_aload_n (p := 130) (pI pM_185 rfl) rfl rfl ?_
                      refine v_getI (p := 133) (kf := 35) (pI pM_185 rfl) rfl rfl rfl (by decide) (by decide) rfl rfl rfl ?_
                      refine w_iconst (p := 134) (v := nI 5) (pI pM_185 rfl) rfl rfl ?_
                      refine w_iadd (p := 135) (pI pM_185 rfl) rfl ?_
                      refine w_dup2 (p := 136) (pI pM_185 rfl) rfl rfl rfl ?_
                      obtain ⟨s75, k⟩ := k
                      refine v_iald (p := 137) (pI pM_185 rfl) rfl (by decide) rfl s75 rfl ?_
                      refine w_iconst (p := 138) (v := nI 1) (pI pM_185 rfl) rfl rfl ?_
                      refine w_iadd (p := 139) (pI pM_185 rfl) rfl ?_
                      obtain ⟨s76, k⟩ := k
                      refine s_iast (p := 140) (pI pM_185 rfl) rfl (by decide) (by decide) rfl s76 ?_
                      refine w_aload_n (p := 141) (pI pM_185 rfl) rfl rfl ?_
                      refine v_getR (p := 144) (kf := 8) (pI pM_185 rfl) rfl rfl rfl (by decide) (by decide) rfl rfl ?_
                      refine w_aload_n (p := 145) (pI pM_185 rfl) rfl rfl ?_
                      refine v_getI (p := 148) (kf := 35) (pI pM_185 rfl) rfl rfl rfl (by decide) (by decide) rfl rfl rfl ?_
                      refine w_bipush (p := 150) (v := nI 6) (pI pM_185 rfl) rfl rfl ?_
                      refine w_iadd (p := 151) (pI pM_185 rfl) rfl ?_
                      refine w_iload (p := 153) (pI pM_185 rfl) rfl rfl ?_
                      refine w_iadd (p := 154) (pI pM_185 rfl) rfl ?_
                      refine w_iload (p := 156) (pI pM_185 rfl) rfl rfl ?_
                      obtain ⟨s77, k⟩ := k
                      refine s_iast (p := 157) (pI pM_185 rfl) rfl (by decide) (by decide) rfl s77 ?_
                      refine w_iconst (p := 158) (v := nI 0) (pI pM_185 rfl) rfl rfl ?_
                      refine w_istore (p := 160) (pI pM_185 rfl) rfl rfl rfl ?_
                      refine k (fun a79 A84 I85 => ∀ u80 u81 u82 u83 : Value, bm_W (bm_M (d + 3)) 185 Q 160 [.ref 1681, u80, u81, u82, u83, .int (A 1688 ((I 1681 35) + (nI 5)).toNatClampNeg), .int a79] [] (hp L A84 I85)) (fun a79 A84 I85 k => ?_) _ _ _ _
                      intro u80 u81 u82 u83
                      refine w_iload (p := 162) (pI pM_185 rfl) rfl rfl ?_
                      refine w_iconst (p := 163) (v := nI 5) (pI pM_185 rfl) rfl rfl ?_
                      refine w_icmp_ge (p := 166) (q := 196) (pI pM_185 rfl) rfl rfl rfl (fun c => ?_) (fun c => ?_)
                      · replace k := itn (Int32.not_lt.mpr c) k
                        refine w_aload_n (p := 197) (pI pM_185 rfl) rfl rfl ?_
                        refine w_iconst (p := 198) (v := nI 1) (pI pM_185 rfl) rfl rfl ?_
                        refine w_bipush (p := 200) (v := -2) (pI pM_185 rfl) rfl rfl ?_
                        refine w_iload (p := 202) (pI pM_185 rfl) rfl rfl ?_
                        refine w_isub (p := 203) (pI pM_185 rfl) rfl ?_
                        refine v_virtual (p := 206) (mj := 170) (pI pM_185 rfl) rfl rfl rfl rfl rfl rfl rfl rfl rfl rfl (by decide) (by decide) rfl ?_
                        refine d170_next (D170_next_mono k (fun v87 A88 I89 k => ?_))
                        exact w_ireturn (pI pM_185 rfl) rfl rfl rfl k
                      · replace k := itp (Int32.not_le.mp c) k
                        refine w_aload_n (p := 167) (pI pM_185 rfl) rfl rfl ?_
                        refine v_getR (p := 170) (kf := 8) (pI pM_185 rfl) rfl rfl rfl (by decide) (by decide) rfl rfl ?_
                        refine w_aload_n (p := 171) (pI pM_185 rfl) rfl rfl ?_
                        refine v_getI (p := 174) (kf := 35) (pI pM_185 rfl) rfl rfl rfl (by decide) (by decide) rfl rfl rfl ?_
                        refine w_bipush (p := 176) (v := nI 10) (pI pM_185 rfl) rfl rfl ?_
                        refine w_iadd (p := 177) (pI pM_185 rfl) rfl ?_
                        refine w_iconst (p := 178) (v := nI 5) (pI pM_185 rfl) rfl rfl ?_
                        refine w_iload (p := 180) (pI pM_185 rfl) rfl rfl ?_
                        refine w_imul (p := 181) (pI pM_185 rfl) rfl ?_
                        refine w_iadd (p := 182) (pI pM_185 rfl) rfl ?_
                        refine w_iload (p := 184) (pI pM_185 rfl) rfl rfl ?_
                        refine w_iadd (p := 185) (pI pM_185 rfl) rfl ?_
                        refine w_iconst (p := 186) (v := nI 0) (pI pM_185 rfl) rfl rfl ?_
                        refine w_static (p := 189) (mj := 168) (pI pM_185 rfl) rfl rfl rfl rfl rfl rfl rfl rfl rfl ?_
                        refine d168_node (D168_node_mono k (fun v90 k => ?_))
                        obtain ⟨s91, k⟩ := k
                        refine s_iast (p := 190) (pI pM_185 rfl) rfl (by decide) (by decide) rfl s91 ?_
                        refine w_iinc (p := 193) (v := (a79 + nI 1)) (pI pM_185 rfl) rfl rfl rfl rfl ?_
                        refine w_goto (p := 160) (pI pM_185 rfl) rfl rfl ?_
                        exact k _ _ _ _
                    · replace k := itp (Decidable.not_not.mp c) k
                      refine w_aload_n (p := 120) (pI pM_185 rfl) rfl rfl ?_
                      refine w_iconst (p := 121) (v := nI 4) (pI pM_185 rfl) rfl rfl ?_
                      refine v_virtual (p := 124) (mj := 181) (pI pM_185 rfl) rfl rfl rfl rfl rfl rfl rfl rfl rfl rfl (by decide) (by decide) rfl ?_
                      refine d181_throwing (D181_throwing_mono k (fun v92 A93 I94 k => ?_))
                      exact w_ireturn (pI pM_185 rfl) rfl rfl rfl k
                · replace k := itp (Int32.not_le.mp c) k
                  refine w_aload_n (p := 89) (pI pM_185 rfl) rfl rfl ?_
                  refine w_iconst (p := 90) (v := nI 3) (pI pM_185 rfl) rfl rfl ?_
                  refine v_virtual (p := 93) (mj := 181) (pI pM_185 rfl) rfl rfl rfl rfl rfl rfl rfl rfl rfl rfl (by decide) (by decide) rfl ?_
                  refine d181_throwing (D181_throwing_mono k (fun v95 A96 I97 k => ?_))
                  exact w_ireturn (pI pM_185 rfl) rfl rfl rfl k
              · replace k := itp (Decidable.not_not.mp c) k
                refine w_bipush (p := 77) (v := nI 6) (pI pM_185 rfl) rfl rfl ?_
                refine w_goto (p := 81) (pI pM_185 rfl) rfl rfl ?_
                refine w_istore (p := 83) (pI pM_185 rfl) rfl rfl rfl ?_
                refine w_iload (p := 85) (pI pM_185 rfl) rfl rfl ?_
                refine w_if_ge (p := 88) (q := 94) (pI pM_185 rfl) rfl rfl rfl (fun _ => ?_) (fun c => absurd (by decide) c)
                refine w_aload_n (p := 95) (pI pM_185 rfl) rfl rfl ?_
                refine v_getR (p := 98) (kf := 8) (pI pM_185 rfl) rfl rfl rfl (by decide) (by decide) rfl rfl ?_
                refine w_aload_n (p := 99) (pI pM_185 rfl) rfl rfl ?_
                refine v_getI (p := 102) (kf := 35) (pI pM_185 rfl) rfl rfl rfl (by decide) (by decide) rfl rfl rfl ?_
                refine w_iconst (p := 103) (v := nI 5) (pI pM_185 rfl) rfl rfl ?_
                refine w_iadd (p := 104) (pI pM_185 rfl) rfl ?_
                obtain ⟨s98, k⟩ := k
                refine v_iald (p := 105) (pI pM_185 rfl) rfl (by decide) rfl s98 rfl ?_
                refine w_istore (p := 107) (pI pM_185 rfl) rfl rfl rfl ?_
                refine w_iload (p := 109) (pI pM_185 rfl) rfl rfl ?_
                refine w_iconst (p := 110) (v := nI 5) (pI pM_185 rfl) rfl rfl ?_
                refine w_icmp_gt (p := 113) (q := 119) (pI pM_185 rfl) rfl rfl rfl (fun _ => ?_) (fun c => absurd (by decide) c)
                refine w_aload_n (p := 120) (pI pM_185 rfl) rfl rfl ?_
                refine w_iconst (p := 121) (v := nI 4) (pI pM_185 rfl) rfl rfl ?_
                refine v_virtual (p := 124) (mj := 181) (pI pM_185 rfl) rfl rfl rfl rfl rfl rfl rfl rfl rfl rfl (by decide) (by decide) rfl ?_
                refine d181_throwing (D181_throwing_mono k (fun v99 A100 I101 k => ?_))
                exact w_ireturn (pI pM_185 rfl) rfl rfl rfl k
            · replace k := itp (Decidable.not_not.mp c) k
              refine w_iconst (p := 66) (v := -1) (pI pM_185 rfl) rfl rfl ?_
              refine w_goto (p := 81) (pI pM_185 rfl) rfl rfl ?_
              refine w_istore (p := 83) (pI pM_185 rfl) rfl rfl rfl ?_
              refine w_iload (p := 85) (pI pM_185 rfl) rfl rfl ?_
              refine w_if_ge (p := 88) (q := 94) (pI pM_185 rfl) rfl rfl rfl (fun c => absurd c (by decide)) (fun _ => ?_)
              refine w_aload_n (p := 89) (pI pM_185 rfl) rfl rfl ?_
              refine w_iconst (p := 90) (v := nI 3) (pI pM_185 rfl) rfl rfl ?_
              refine v_virtual (p := 93) (mj := 181) (pI pM_185 rfl) rfl rfl rfl rfl rfl rfl rfl rfl rfl rfl (by decide) (by decide) rfl ?_
              refine d181_throwing (D181_throwing_mono k (fun v102 A103 I104 k => ?_))
              exact w_ireturn (pI pM_185 rfl) rfl rfl rfl k
          · replace k := itn c k
            refine w_iload_n (p := 53) (pI pM_185 rfl) rfl rfl ?_
            refine w_static (p := 56) (mj := 178) (pI pM_185 rfl) rfl rfl rfl rfl rfl rfl rfl rfl rfl ?_
            refine d178_number (D178_number_mono k (fun v105 k => ?_))
            refine w_goto (p := 81) (pI pM_185 rfl) rfl rfl ?_
            refine w_istore (p := 83) (pI pM_185 rfl) rfl rfl rfl ?_
            refine w_iload (p := 85) (pI pM_185 rfl) rfl rfl ?_
            refine w_if_ge (p := 88) (q := 94) (pI pM_185 rfl) rfl rfl rfl (fun c => ?_) (fun c => ?_)
            · replace k := itn (Int32.not_lt.mpr c) k
              refine w_aload_n (p := 95) (pI pM_185 rfl) rfl rfl ?_
              refine v_getR (p := 98) (kf := 8) (pI pM_185 rfl) rfl rfl rfl (by decide) (by decide) rfl rfl ?_
              refine w_aload_n (p := 99) (pI pM_185 rfl) rfl rfl ?_
              refine v_getI (p := 102) (kf := 35) (pI pM_185 rfl) rfl rfl rfl (by decide) (by decide) rfl rfl rfl ?_
              refine w_iconst (p := 103) (v := nI 5) (pI pM_185 rfl) rfl rfl ?_
              refine w_iadd (p := 104) (pI pM_185 rfl) rfl ?_
              obtain ⟨s106, k⟩ := k
              refine v_iald (p := 105) (pI pM_185 rfl) rfl (by decide) rfl s106 rfl ?_
              refine w_istore (p := 107) (pI pM_185 rfl) rfl rfl rfl ?_
              refine w_iload (p := 109) (pI pM_185 rfl) rfl rfl ?_
              refine w_iconst (p := 110) (v := nI 5) (pI pM_185 rfl) rfl rfl ?_
              refine w_icmp_gt (p := 113) (q := 119) (pI pM_185 rfl) rfl rfl rfl (fun c => ?_) (fun c => ?_)
              · replace k := itp c k
                refine w_aload_n (p := 120) (pI pM_185 rfl) rfl rfl ?_
                refine w_iconst (p := 121) (v := nI 4) (pI pM_185 rfl) rfl rfl ?_
                refine v_virtual (p := 124) (mj := 181) (pI pM_185 rfl) rfl rfl rfl rfl rfl rfl rfl rfl rfl rfl (by decide) (by decide) rfl ?_
                refine d181_throwing (D181_throwing_mono k (fun v107 A108 I109 k => ?_))
                exact w_ireturn (pI pM_185 rfl) rfl rfl rfl k
              · replace k := itn c k
                refine w_iload (p := 115) (pI pM_185 rfl) rfl rfl ?_
                refine w_iconst (p := 116) (v := nI 4) (pI pM_185 rfl) rfl rfl ?_
                refine w_icmp_ne (p := 119) (q := 125) (pI pM_185 rfl) rfl rfl rfl (fun c => ?_) (fun c => ?_)
                · replace k := itn c k
                  refine w_aload_n (p := 126) (pI pM_185 rfl) rfl rfl ?_
                  refine v_getR (p := 129) (kf := 8) (pI pM_185 rfl) rfl rfl rfl (by decide) (by decide) rfl rfl ?_
                  refine w_aload_n (p := 130) (pI pM_185 rfl) rfl rfl ?_
                  refine v_getI (p := 133) (kf := 35) (pI pM_185 rfl) rfl rfl rfl (by decide) (by decide) rfl rfl rfl ?_
                  refine w_iconst (p := 134) (v := nI 5) (pI pM_185 rfl) rfl rfl ?_
                  refine w_iadd (p := 135) (pI pM_185 rfl) rfl ?_
                  refine w_dup2 (p := 136) (pI pM_185 rfl) rfl rfl rfl ?_
                  obtain ⟨s110, k⟩ := k
                  refine v_iald (p := 137) (pI pM_185 rfl) rfl (by decide) rfl s110 rfl ?_
                  refine w_iconst (p := 138) (v := nI 1) (pI pM_185 rfl) rfl rfl ?_
                  refine w_iadd (p := 139) (pI pM_185 rfl) rfl ?_
                  obtain ⟨s111, k⟩ := k
                  refine s_iast (p := 140) (pI pM_185 rfl) rfl (by decide) (by decide) rfl s111 ?_
                  refine w_aload_n (p := 141) (pI pM_185 rfl) rfl rfl ?_
                  refine v_getR (p := 144) (kf := 8) (pI pM_185 rfl) rfl rfl rfl (by decide) (by decide) rfl rfl ?_
                  refine w_aload_n (p := 145) (pI pM_185 rfl) rfl rfl ?_
                  refine v_getI (p := 148) (kf := 35) (pI pM_185 rfl) rfl rfl rfl (by decide) (by decide) rfl rfl rfl ?_
                  refine w_bipush (p := 150) (v := nI 6) (pI pM_185 rfl) rfl rfl ?_
                  refine w_iadd (p := 151) (pI pM_185 rfl) rfl ?_
                  refine w_iload (p := 153) (pI pM_185 rfl) rfl rfl ?_
                  refine w_iadd (p := 154) (pI pM_185 rfl) rfl ?_
                  refine w_iload (p := 156) (pI pM_185 rfl) rfl rfl ?_
                  obtain ⟨s112, k⟩ := k
                  refine s_iast (p := 157) (pI pM_185 rfl) rfl (by decide) (by decide) rfl s112 ?_
                  refine w_iconst (p := 158) (v := nI 0) (pI pM_185 rfl) rfl rfl ?_
                  refine w_istore (p := 160) (pI pM_185 rfl) rfl rfl rfl ?_
                  refine k (fun a114 A119 I120 => ∀ u115 u116 u117 u118 : Value, bm_W (bm_M (d + 3)) 185 Q 160 [.ref 1681, u115, u116, u117, u118, .int (A 1688 ((I 1681 35) + (nI 5)).toNatClampNeg), .int a114] [] (hp L A119 I120)) (fun a114 A119 I120 k => ?_) _ _ _ _
                  intro u115 u116 u117 u118
                  refine w_iload (p := 162) (pI pM_185 rfl) rfl rfl ?_
                  refine w_iconst (p := 163) (v := nI 5) (pI pM_185 rfl) rfl rfl ?_
                  refine w_icmp_ge (p := 166) (q := 196) (pI pM_185 rfl) rfl rfl rfl (fun c => ?_) (fun c => ?_)
                  · replace k := itn (Int32.not_lt.mpr c) k
                    refine w_aload_n (p := 197) (pI pM_185 rfl) rfl rfl ?_
                    refine w_iconst (p := 198) (v := nI 1) (pI pM_185 rfl) rfl rfl ?_
                    refine w_bipush (p := 200) (v := -2) (pI pM_185 rfl) rfl rfl ?_
                    refine w_iload (p := 202) (pI pM_185 rfl) rfl rfl ?_
                    refine w_isub (p := 203) (pI pM_185 rfl) rfl ?_
                    refine v_virtual (p := 206) (mj := 170) (pI pM_185 rfl) rfl rfl rfl rfl rfl rfl rfl rfl rfl rfl (by decide) (by decide) rfl ?_
                    refine d170_next (D170_next_mono k (fun v122 A123 I124 k => ?_))
                    exact w_ireturn (pI pM_185 rfl) rfl rfl rfl k
                  · replace k := itp (Int32.not_le.mp c) k
                    refine w_aload_n (p := 167) (pI pM_185 rfl) rfl rfl ?_
                    refine v_getR (p := 170) (kf := 8) (pI pM_185 rfl) rfl rfl rfl (by decide) (by decide) rfl rfl ?_
                    refine w_aload_n (p := 171) (pI pM_185 rfl) rfl rfl ?_
                    refine v_getI (p := 174) (kf := 35) (pI pM_185 rfl) rfl rfl rfl (by decide) (by decide) rfl rfl rfl ?_
                    refine w_bipush (p := 176) (v := nI 10) (pI pM_185 rfl) rfl rfl ?_
                    refine w_iadd (p := 177) (pI pM_185 rfl) rfl ?_
                    refine w_iconst (p := 178) (v := nI 5) (pI pM_185 rfl) rfl rfl ?_
                    refine w_iload (p := 180) (pI pM_185 rfl) rfl rfl ?_
                    refine w_imul (p := 181) (pI pM_185 rfl) rfl ?_
                    refine w_iadd (p := 182) (pI pM_185 rfl) rfl ?_
                    refine w_iload (p := 184) (pI pM_185 rfl) rfl rfl ?_
                    refine w_iadd (p := 185) (pI pM_185 rfl) rfl ?_
                    refine w_iconst (p := 186) (v := nI 0) (pI pM_185 rfl) rfl rfl ?_
                    refine w_static (p := 189) (mj := 168) (pI pM_185 rfl) rfl rfl rfl rfl rfl rfl rfl rfl rfl ?_
                    refine d168_node (D168_node_mono k (fun v125 k => ?_))
                    obtain ⟨s126, k⟩ := k
                    refine s_iast (p := 190) (pI pM_185 rfl) rfl (by decide) (by decide) rfl s126 ?_
                    refine w_iinc (p := 193) (v := (a114 + nI 1)) (pI pM_185 rfl) rfl rfl rfl rfl ?_
                    refine w_goto (p := 160) (pI pM_185 rfl) rfl rfl ?_
                    exact k _ _ _ _
                · replace k := itp (Decidable.not_not.mp c) k
                  refine w_aload_n (p := 120) (pI pM_185 rfl) rfl rfl ?_
                  refine w_iconst (p := 121) (v := nI 4) (pI pM_185 rfl) rfl rfl ?_
                  refine v_virtual (p := 124) (mj := 181) (pI pM_185 rfl) rfl rfl rfl rfl rfl rfl rfl rfl rfl rfl (by decide) (by decide) rfl ?_
                  refine d181_throwing (D181_throwing_mono k (fun v127 A128 I129 k => ?_))
                  exact w_ireturn (pI pM_185 rfl) rfl rfl rfl k
            · replace k := itp (Int32.not_le.mp c) k
              refine w_aload_n (p := 89) (pI pM_185 rfl) rfl rfl ?_
              refine w_iconst (p := 90) (v := nI 3) (pI pM_185 rfl) rfl rfl ?_
              refine v_virtual (p := 93) (mj := 181) (pI pM_185 rfl) rfl rfl rfl rfl rfl rfl rfl rfl rfl rfl (by decide) (by decide) rfl ?_
              refine d181_throwing (D181_throwing_mono k (fun v130 A131 I132 k => ?_))
              exact w_ireturn (pI pM_185 rfl) rfl rfl rfl k
        · replace k := itp (Decidable.not_not.mp c) k
          refine w_aload_n (p := 37) (pI pM_185 rfl) rfl rfl ?_
          refine w_bipush (p := 39) (v := nI 8) (pI pM_185 rfl) rfl rfl ?_
          refine w_iload_n (p := 40) (pI pM_185 rfl) rfl rfl ?_
          refine w_iconst (p := 41) (v := -1) (pI pM_185 rfl) rfl rfl ?_
          refine v_virtual (p := 44) (mj := 180) (pI pM_185 rfl) rfl rfl rfl rfl rfl rfl rfl rfl rfl rfl (by decide) (by decide) rfl ?_
          refine d180_splits (D180_splits_mono k (fun v133 A134 I135 k => ?_))
          exact w_ireturn (pI pM_185 rfl) rfl rfl rfl k
    · replace k := itp (Decidable.not_not.mp c) k
      refine w_aload_n (p := 14) (pI pM_185 rfl) rfl rfl ?_
      refine v_virtual (p := 17) (mj := 165) (pI pM_185 rfl) rfl rfl rfl rfl rfl rfl rfl rfl rfl rfl (by decide) (by decide) rfl ?_
      refine d165_broken (D165_broken_mono k (fun v136 A137 I138 k => ?_))
      exact w_ireturn (pI pM_185 rfl) rfl rfl rfl k
set_option maxRecDepth 100000 in
set_option maxHeartbeats 4000000 in
theorem d184_arrays {d L : Nat} {x : Int32} {y : Int32} {z : Int32} {A I : HA} {Q : bm_Q} (k : D184_arrays x y z A I (fun v A I => Q (some (.int v)) (hp L A I))) : bm_M (d + 5) 184 [.ref 1681, .int x, .int y, .int z] (hp L A I) Q := by
  unfold D184_arrays at k
  refine bw_enter rfl rfl rfl rfl ?_
  refine w_iload_n (p := 1) (pI pM_184 rfl) rfl rfl ?_
  refine w_bipush (p := 3) (v := nI 21) (pI pM_184 rfl) rfl rfl ?_
  refine w_icmp_ne (p := 6) (q := 13) (pI pM_184 rfl) rfl rfl rfl (fun c => ?_) (fun c => ?_)
  · replace k := itn c k
    refine w_iload_n (p := 14) (pI pM_184 rfl) rfl rfl ?_
    refine w_bipush (p := 16) (v := nI 24) (pI pM_184 rfl) rfl rfl ?_
    refine w_icmp_ne (p := 19) (q := 83) (pI pM_184 rfl) rfl rfl rfl (fun c => ?_) (fun c => ?_)
    · replace k := itn c k
      refine w_iload_n (p := 84) (pI pM_184 rfl) rfl rfl ?_
      refine w_bipush (p := 86) (v := nI 23) (pI pM_184 rfl) rfl rfl ?_
      refine w_icmp_ne (p := 89) (q := 93) (pI pM_184 rfl) rfl rfl rfl (fun c => ?_) (fun c => ?_)
      · replace k := itn c k
        refine w_iconst (p := 94) (v := nI 0) (pI pM_184 rfl) rfl rfl ?_
        refine w_istore (p := 96) (pI pM_184 rfl) rfl rfl rfl ?_
        refine w_iload_n (p := 97) (pI pM_184 rfl) rfl rfl ?_
        refine w_iconst (p := 98) (v := nI 2) (pI pM_184 rfl) rfl rfl ?_
        refine w_iload (p := 100) (pI pM_184 rfl) rfl rfl ?_
        refine w_iadd (p := 101) (pI pM_184 rfl) rfl ?_
        refine w_icmp_lt (p := 104) (q := 138) (pI pM_184 rfl) rfl rfl rfl (fun c => ?_) (fun c => ?_)
        · replace k := itp c k
          refine w_aload_n (p := 139) (pI pM_184 rfl) rfl rfl ?_
          refine v_virtual (p := 142) (mj := 165) (pI pM_184 rfl) rfl rfl rfl rfl rfl rfl rfl rfl rfl rfl (by decide) (by decide) rfl ?_
          refine d165_broken (D165_broken_mono k (fun v1 A2 I3 k => ?_))
          exact w_ireturn (pI pM_184 rfl) rfl rfl rfl k
        · replace k := itn c k
          refine w_aload_n (p := 105) (pI pM_184 rfl) rfl rfl ?_
          refine w_iconst (p := 106) (v := nI 1) (pI pM_184 rfl) rfl rfl ?_
          refine w_iload (p := 108) (pI pM_184 rfl) rfl rfl ?_
          refine w_iadd (p := 109) (pI pM_184 rfl) rfl ?_
          refine v_virtual (p := 112) (mj := 183) (pI pM_184 rfl) rfl rfl rfl rfl rfl rfl rfl rfl rfl rfl (by decide) (by decide) rfl ?_
          refine d183_isReference (D183_isReference_mono k (fun v4 k => ?_))
          refine w_if_eq (p := 115) (q := 138) (pI pM_184 rfl) rfl rfl rfl (fun c => ?_) (fun c => ?_)
          · replace k := itp c k
            refine w_aload_n (p := 139) (pI pM_184 rfl) rfl rfl ?_
            refine v_virtual (p := 142) (mj := 165) (pI pM_184 rfl) rfl rfl rfl rfl rfl rfl rfl rfl rfl rfl (by decide) (by decide) rfl ?_
            refine d165_broken (D165_broken_mono k (fun v5 A6 I7 k => ?_))
            exact w_ireturn (pI pM_184 rfl) rfl rfl rfl k
          · replace k := itn c k
            refine w_aload_n (p := 116) (pI pM_184 rfl) rfl rfl ?_
            refine w_iload (p := 118) (pI pM_184 rfl) rfl rfl ?_
            refine v_virtual (p := 121) (mj := 174) (pI pM_184 rfl) rfl rfl rfl rfl rfl rfl rfl rfl rfl rfl (by decide) (by decide) rfl ?_
            refine d174_isWord (D174_isWord_mono k (fun v8 k => ?_))
            refine w_if_eq (p := 124) (q := 138) (pI pM_184 rfl) rfl rfl rfl (fun c => ?_) (fun c => ?_)
            · replace k := itp c k
              refine w_aload_n (p := 139) (pI pM_184 rfl) rfl rfl ?_
              refine v_virtual (p := 142) (mj := 165) (pI pM_184 rfl) rfl rfl rfl rfl rfl rfl rfl rfl rfl rfl (by decide) (by decide) rfl ?_
              refine d165_broken (D165_broken_mono k (fun v9 A10 I11 k => ?_))
              exact w_ireturn (pI pM_184 rfl) rfl rfl rfl k
            · replace k := itn c k
              refine w_iload (p := 126) (pI pM_184 rfl) rfl rfl ?_
              refine w_iconst (p := 127) (v := nI 1) (pI pM_184 rfl) rfl rfl ?_
              refine w_icmp_ne (p := 130) (q := 143) (pI pM_184 rfl) rfl rfl rfl (fun _ => ?_) (fun c => absurd (by decide) c)
              refine w_aload_n (p := 144) (pI pM_184 rfl) rfl rfl ?_
              refine w_iconst (p := 145) (v := nI 1) (pI pM_184 rfl) rfl rfl ?_
              refine w_iload (p := 147) (pI pM_184 rfl) rfl rfl ?_
              refine w_iadd (p := 148) (pI pM_184 rfl) rfl ?_
              refine v_virtual (p := 151) (mj := 172) (pI pM_184 rfl) rfl rfl rfl rfl rfl rfl rfl rfl rfl rfl (by decide) (by decide) rfl ?_
              refine d172_top (D172_top_mono k (fun v12 k => ?_))
              refine w_iconst (p := 152) (v := -1) (pI pM_184 rfl) rfl rfl ?_
              refine w_icmp_ne (p := 155) (q := 161) (pI pM_184 rfl) rfl rfl rfl (fun c => ?_) (fun c => ?_)
              · replace k := itn c k
                refine w_bipush (p := 163) (v := -2) (pI pM_184 rfl) rfl rfl ?_
                refine w_aload_n (p := 164) (pI pM_184 rfl) rfl rfl ?_
                refine w_iconst (p := 165) (v := nI 1) (pI pM_184 rfl) rfl rfl ?_
                refine w_iload (p := 167) (pI pM_184 rfl) rfl rfl ?_
                refine w_iadd (p := 168) (pI pM_184 rfl) rfl ?_
                refine v_virtual (p := 171) (mj := 172) (pI pM_184 rfl) rfl rfl rfl rfl rfl rfl rfl rfl rfl rfl (by decide) (by decide) rfl ?_
                refine d172_top (D172_top_mono k (fun v13 k => ?_))
                refine w_isub (p := 172) (pI pM_184 rfl) rfl ?_
                refine w_istore (p := 174) (pI pM_184 rfl) rfl rfl rfl ?_
                refine w_aload_n (p := 175) (pI pM_184 rfl) rfl rfl ?_
                refine v_getR (p := 178) (kf := 8) (pI pM_184 rfl) rfl rfl rfl (by decide) (by decide) rfl rfl ?_
                refine w_aload_n (p := 179) (pI pM_184 rfl) rfl rfl ?_
                refine v_getI (p := 182) (kf := 35) (pI pM_184 rfl) rfl rfl rfl (by decide) (by decide) rfl rfl rfl ?_
                refine w_bipush (p := 184) (v := nI 6) (pI pM_184 rfl) rfl rfl ?_
                refine w_iadd (p := 185) (pI pM_184 rfl) rfl ?_
                refine w_iload (p := 187) (pI pM_184 rfl) rfl rfl ?_
                refine w_iadd (p := 188) (pI pM_184 rfl) rfl ?_
                obtain ⟨s14, k⟩ := k
                refine v_iald (p := 189) (pI pM_184 rfl) rfl (by decide) rfl s14 rfl ?_
                refine w_istore (p := 191) (pI pM_184 rfl) rfl rfl rfl ?_
                refine w_aload_n (p := 192) (pI pM_184 rfl) rfl rfl ?_
                refine w_iload (p := 194) (pI pM_184 rfl) rfl rfl ?_
                refine v_virtual (p := 197) (mj := 172) (pI pM_184 rfl) rfl rfl rfl rfl rfl rfl rfl rfl rfl rfl (by decide) (by decide) rfl ?_
                refine d172_top (D172_top_mono k (fun v15 k => ?_))
                refine w_istore (p := 199) (pI pM_184 rfl) rfl rfl rfl ?_
                refine w_iload (p := 201) (pI pM_184 rfl) rfl rfl ?_
                refine w_static (p := 204) (mj := 177) (pI pM_184 rfl) rfl rfl rfl rfl rfl rfl rfl rfl rfl ?_
                refine d177_isNumber (D177_isNumber_mono k (fun v16 k => ?_))
                refine w_if_ne (p := 207) (q := 225) (pI pM_184 rfl) rfl rfl rfl (fun c => ?_) (fun c => ?_)
                · replace k := itn c k
                  refine w_iload (p := 227) (pI pM_184 rfl) rfl rfl ?_
                  refine w_static (p := 230) (mj := 177) (pI pM_184 rfl) rfl rfl rfl rfl rfl rfl rfl rfl rfl ?_
                  refine d177_isNumber (D177_isNumber_mono k (fun v17 k => ?_))
                  refine w_if_eq (p := 233) (q := 241) (pI pM_184 rfl) rfl rfl rfl (fun c => ?_) (fun c => ?_)
                  · replace k := itp c k
                    refine w_iload_n (p := 242) (pI pM_184 rfl) rfl rfl ?_
                    refine w_istore (p := 244) (pI pM_184 rfl) rfl rfl rfl ?_
                    refine w_iload (p := 246) (pI pM_184 rfl) rfl rfl ?_
                    refine w_if_lt (p := 249) (q := 256) (pI pM_184 rfl) rfl rfl rfl (fun c => ?_) (fun c => ?_)
                    · replace k := itp c k
                      refine w_aload_n (p := 257) (pI pM_184 rfl) rfl rfl ?_
                      refine w_iconst (p := 258) (v := nI 2) (pI pM_184 rfl) rfl rfl ?_
                      refine v_virtual (p := 261) (mj := 181) (pI pM_184 rfl) rfl rfl rfl rfl rfl rfl rfl rfl rfl rfl (by decide) (by decide) rfl ?_
                      refine d181_throwing (D181_throwing_mono k (fun v18 A19 I20 k => ?_))
                      exact w_ireturn (pI pM_184 rfl) rfl rfl rfl k
                    · replace k := itn c k
                      refine w_iload (p := 251) (pI pM_184 rfl) rfl rfl ?_
                      refine w_iload (p := 253) (pI pM_184 rfl) rfl rfl ?_
                      refine w_icmp_lt (p := 256) (q := 262) (pI pM_184 rfl) rfl rfl rfl (fun c => ?_) (fun c => ?_)
                      · replace k := itp c k
                        refine w_iload_n (p := 263) (pI pM_184 rfl) rfl rfl ?_
                        refine w_bipush (p := 265) (v := nI 22) (pI pM_184 rfl) rfl rfl ?_
                        refine w_icmp_ne (p := 268) (q := 294) (pI pM_184 rfl) rfl rfl rfl (fun c => ?_) (fun c => ?_)
                        · replace k := itn c k
                          refine w_aload_n (p := 295) (pI pM_184 rfl) rfl rfl ?_
                          refine v_getR (p := 298) (kf := 8) (pI pM_184 rfl) rfl rfl rfl (by decide) (by decide) rfl rfl ?_
                          refine w_aload_n (p := 299) (pI pM_184 rfl) rfl rfl ?_
                          refine v_getI (p := 302) (kf := 35) (pI pM_184 rfl) rfl rfl rfl (by decide) (by decide) rfl rfl rfl ?_
                          refine w_bipush (p := 304) (v := nI 10) (pI pM_184 rfl) rfl rfl ?_
                          refine w_iadd (p := 305) (pI pM_184 rfl) rfl ?_
                          refine w_iconst (p := 306) (v := nI 5) (pI pM_184 rfl) rfl rfl ?_
                          refine w_iload (p := 308) (pI pM_184 rfl) rfl rfl ?_
                          refine w_imul (p := 309) (pI pM_184 rfl) rfl ?_
                          refine w_iadd (p := 310) (pI pM_184 rfl) rfl ?_
                          refine w_iload (p := 312) (pI pM_184 rfl) rfl rfl ?_
                          refine w_iadd (p := 313) (pI pM_184 rfl) rfl ?_
                          refine w_aload_n (p := 314) (pI pM_184 rfl) rfl rfl ?_
                          refine w_iconst (p := 315) (v := nI 0) (pI pM_184 rfl) rfl rfl ?_
                          refine v_virtual (p := 318) (mj := 172) (pI pM_184 rfl) rfl rfl rfl rfl rfl rfl rfl rfl rfl rfl (by decide) (by decide) rfl ?_
                          refine d172_top (D172_top_mono k (fun v21 k => ?_))
                          obtain ⟨s22, k⟩ := k
                          refine s_iast (p := 319) (pI pM_184 rfl) rfl (by decide) (by decide) rfl s22 ?_
                          refine w_aload_n (p := 320) (pI pM_184 rfl) rfl rfl ?_
                          refine w_iconst (p := 321) (v := nI 3) (pI pM_184 rfl) rfl rfl ?_
                          refine w_bipush (p := 323) (v := -100) (pI pM_184 rfl) rfl rfl ?_
                          refine v_virtual (p := 326) (mj := 170) (pI pM_184 rfl) rfl rfl rfl rfl rfl rfl rfl rfl rfl rfl (by decide) (by decide) rfl ?_
                          refine d170_next (D170_next_mono k (fun v23 A24 I25 k => ?_))
                          exact w_ireturn (pI pM_184 rfl) rfl rfl rfl k
                        · replace k := itp (Decidable.not_not.mp c) k
                          refine w_aload_n (p := 269) (pI pM_184 rfl) rfl rfl ?_
                          refine w_iconst (p := 270) (v := nI 2) (pI pM_184 rfl) rfl rfl ?_
                          refine w_aload_n (p := 271) (pI pM_184 rfl) rfl rfl ?_
                          refine v_getR (p := 274) (kf := 8) (pI pM_184 rfl) rfl rfl rfl (by decide) (by decide) rfl rfl ?_
                          refine w_aload_n (p := 275) (pI pM_184 rfl) rfl rfl ?_
                          refine v_getI (p := 278) (kf := 35) (pI pM_184 rfl) rfl rfl rfl (by decide) (by decide) rfl rfl rfl ?_
                          refine w_bipush (p := 280) (v := nI 10) (pI pM_184 rfl) rfl rfl ?_
                          refine w_iadd (p := 281) (pI pM_184 rfl) rfl ?_
                          refine w_iconst (p := 282) (v := nI 5) (pI pM_184 rfl) rfl rfl ?_
                          refine w_iload (p := 284) (pI pM_184 rfl) rfl rfl ?_
                          refine w_imul (p := 285) (pI pM_184 rfl) rfl ?_
                          refine w_iadd (p := 286) (pI pM_184 rfl) rfl ?_
                          refine w_iload (p := 288) (pI pM_184 rfl) rfl rfl ?_
                          refine w_iadd (p := 289) (pI pM_184 rfl) rfl ?_
                          obtain ⟨s26, k⟩ := k
                          refine v_iald (p := 290) (pI pM_184 rfl) rfl (by decide) rfl s26 rfl ?_
                          refine v_virtual (p := 293) (mj := 170) (pI pM_184 rfl) rfl rfl rfl rfl rfl rfl rfl rfl rfl rfl (by decide) (by decide) rfl ?_
                          refine d170_next (D170_next_mono k (fun v27 A28 I29 k => ?_))
                          exact w_ireturn (pI pM_184 rfl) rfl rfl rfl k
                      · replace k := itn c k
                        refine w_aload_n (p := 257) (pI pM_184 rfl) rfl rfl ?_
                        refine w_iconst (p := 258) (v := nI 2) (pI pM_184 rfl) rfl rfl ?_
                        refine v_virtual (p := 261) (mj := 181) (pI pM_184 rfl) rfl rfl rfl rfl rfl rfl rfl rfl rfl rfl (by decide) (by decide) rfl ?_
                        refine d181_throwing (D181_throwing_mono k (fun v30 A31 I32 k => ?_))
                        exact w_ireturn (pI pM_184 rfl) rfl rfl rfl k
                  · replace k := itn c k
                    refine w_iload (p := 235) (pI pM_184 rfl) rfl rfl ?_
                    refine w_static (p := 238) (mj := 178) (pI pM_184 rfl) rfl rfl rfl rfl rfl rfl rfl rfl rfl ?_
                    refine d178_number (D178_number_mono k (fun v33 k => ?_))
                    refine w_goto (p := 242) (pI pM_184 rfl) rfl rfl ?_
                    refine w_istore (p := 244) (pI pM_184 rfl) rfl rfl rfl ?_
                    refine w_iload (p := 246) (pI pM_184 rfl) rfl rfl ?_
                    refine w_if_lt (p := 249) (q := 256) (pI pM_184 rfl) rfl rfl rfl (fun c => ?_) (fun c => ?_)
                    · replace k := itp c k
                      refine w_aload_n (p := 257) (pI pM_184 rfl) rfl rfl ?_
                      refine w_iconst (p := 258) (v := nI 2) (pI pM_184 rfl) rfl rfl ?_
                      refine v_virtual (p := 261) (mj := 181) (pI pM_184 rfl) rfl rfl rfl rfl rfl rfl rfl rfl rfl rfl (by decide) (by decide) rfl ?_
                      refine d181_throwing (D181_throwing_mono k (fun v34 A35 I36 k => ?_))
                      exact w_ireturn (pI pM_184 rfl) rfl rfl rfl k
                    · replace k := itn c k
                      refine w_iload (p := 251) (pI pM_184 rfl) rfl rfl ?_
                      refine w_iload (p := 253) (pI pM_184 rfl) rfl rfl ?_
                      refine w_icmp_lt (p := 256) (q := 262) (pI pM_184 rfl) rfl rfl rfl (fun c => ?_) (fun c => ?_)
                      · replace k := itp c k
                        refine w_iload_n (p := 263) (pI pM_184 rfl) rfl rfl ?_
                        refine w_bipush (p := 265) (v := nI 22) (pI pM_184 rfl) rfl rfl ?_
                        refine w_icmp_ne (p := 268) (q := 294) (pI pM_184 rfl) rfl rfl rfl (fun c => ?_) (fun c => ?_)
                        · replace k := itn c k
                          refine w_aload_n (p := 295) (pI pM_184 rfl) rfl rfl ?_
                          refine v_getR (p := 298) (kf := 8) (pI pM_184 rfl) rfl rfl rfl (by decide) (by decide) rfl rfl ?_
                          refine w_aload_n (p := 299) (pI pM_184 rfl) rfl rfl ?_
                          refine v_getI (p := 302) (kf := 35) (pI pM_184 rfl) rfl rfl rfl (by decide) (by decide) rfl rfl rfl ?_
                          refine w_bipush (p := 304) (v := nI 10) (pI pM_184 rfl) rfl rfl ?_
                          refine w_iadd (p := 305) (pI pM_184 rfl) rfl ?_
                          refine w_iconst (p := 306) (v := nI 5) (pI pM_184 rfl) rfl rfl ?_
                          refine w_iload (p := 308) (pI pM_184 rfl) rfl rfl ?_
                          refine w_imul (p := 309) (pI pM_184 rfl) rfl ?_
                          refine w_iadd (p := 310) (pI pM_184 rfl) rfl ?_
                          refine w_iload (p := 312) (pI pM_184 rfl) rfl rfl ?_
                          refine w_iadd (p := 313) (pI pM_184 rfl) rfl ?_
                          refine w_aload_n (p := 314) (pI pM_184 rfl) rfl rfl ?_
                          refine w_iconst (p := 315) (v := nI 0) (pI pM_184 rfl) rfl rfl ?_
                          refine v_virtual (p := 318) (mj := 172) (pI pM_184 rfl) rfl rfl rfl rfl rfl rfl rfl rfl rfl rfl (by decide) (by decide) rfl ?_
                          refine d172_top (D172_top_mono k (fun v37 k => ?_))
                          obtain ⟨s38, k⟩ := k
                          refine s_iast (p := 319) (pI pM_184 rfl) rfl (by decide) (by decide) rfl s38 ?_
                          refine w_aload_n (p := 320) (pI pM_184 rfl) rfl rfl ?_
                          refine w_iconst (p := 321) (v := nI 3) (pI pM_184 rfl) rfl rfl ?_
                          refine w_bipush (p := 323) (v := -100) (pI pM_184 rfl) rfl rfl ?_
                          refine v_virtual (p := 326) (mj := 170) (pI pM_184 rfl) rfl rfl rfl rfl rfl rfl rfl rfl rfl rfl (by decide) (by decide) rfl ?_
                          refine d170_next (D170_next_mono k (fun v39 A40 I41 k => ?_))
                          exact w_ireturn (pI pM_184 rfl) rfl rfl rfl k
                        · replace k := itp (Decidable.not_not.mp c) k
                          refine w_aload_n (p := 269) (pI pM_184 rfl) rfl rfl ?_
                          refine w_iconst (p := 270) (v := nI 2) (pI pM_184 rfl) rfl rfl ?_
                          refine w_aload_n (p := 271) (pI pM_184 rfl) rfl rfl ?_
                          refine v_getR (p := 274) (kf := 8) (pI pM_184 rfl) rfl rfl rfl (by decide) (by decide) rfl rfl ?_
                          refine w_aload_n (p := 275) (pI pM_184 rfl) rfl rfl ?_
                          refine v_getI (p := 278) (kf := 35) (pI pM_184 rfl) rfl rfl rfl (by decide) (by decide) rfl rfl rfl ?_
                          refine w_bipush (p := 280) (v := nI 10) (pI pM_184 rfl) rfl rfl ?_
                          refine w_iadd (p := 281) (pI pM_184 rfl) rfl ?_
                          refine w_iconst (p := 282) (v := nI 5) (pI pM_184 rfl) rfl rfl ?_
                          refine w_iload (p := 284) (pI pM_184 rfl) rfl rfl ?_
                          refine w_imul (p := 285) (pI pM_184 rfl) rfl ?_
                          refine w_iadd (p := 286) (pI pM_184 rfl) rfl ?_
                          refine w_iload (p := 288) (pI pM_184 rfl) rfl rfl ?_
                          refine w_iadd (p := 289) (pI pM_184 rfl) rfl ?_
                          obtain ⟨s42, k⟩ := k
                          refine v_iald (p := 290) (pI pM_184 rfl) rfl (by decide) rfl s42 rfl ?_
                          refine v_virtual (p := 293) (mj := 170) (pI pM_184 rfl) rfl rfl rfl rfl rfl rfl rfl rfl rfl rfl (by decide) (by decide) rfl ?_
                          refine d170_next (D170_next_mono k (fun v43 A44 I45 k => ?_))
                          exact w_ireturn (pI pM_184 rfl) rfl rfl rfl k
                      · replace k := itn c k
                        refine w_aload_n (p := 257) (pI pM_184 rfl) rfl rfl ?_
                        refine w_iconst (p := 258) (v := nI 2) (pI pM_184 rfl) rfl rfl ?_
                        refine v_virtual (p := 261) (mj := 181) (pI pM_184 rfl) rfl rfl rfl rfl rfl rfl rfl rfl rfl rfl (by decide) (by decide) rfl ?_
                        refine d181_throwing (D181_throwing_mono k (fun v46 A47 I48 k => ?_))
                        exact w_ireturn (pI pM_184 rfl) rfl rfl rfl k
                · replace k := itp (Decidable.not_not.mp c) k
                  refine w_iload_n (p := 208) (pI pM_184 rfl) rfl rfl ?_
                  refine w_iconst (p := 209) (v := -1) (pI pM_184 rfl) rfl rfl ?_
                  refine w_icmp_ne (p := 212) (q := 225) (pI pM_184 rfl) rfl rfl rfl (fun c => ?_) (fun c => ?_)
                  · replace k := itn c k
                    refine w_iload (p := 227) (pI pM_184 rfl) rfl rfl ?_
                    refine w_static (p := 230) (mj := 177) (pI pM_184 rfl) rfl rfl rfl rfl rfl rfl rfl rfl rfl ?_
                    refine d177_isNumber (D177_isNumber_mono k (fun v49 k => ?_))
                    refine w_if_eq (p := 233) (q := 241) (pI pM_184 rfl) rfl rfl rfl (fun c => ?_) (fun c => ?_)
                    · replace k := itp c k
                      refine w_iload_n (p := 242) (pI pM_184 rfl) rfl rfl ?_
                      refine w_istore (p := 244) (pI pM_184 rfl) rfl rfl rfl ?_
                      refine w_iload (p := 246) (pI pM_184 rfl) rfl rfl ?_
                      refine w_if_lt (p := 249) (q := 256) (pI pM_184 rfl) rfl rfl rfl (fun c => ?_) (fun c => ?_)
                      · replace k := itp c k
                        refine w_aload_n (p := 257) (pI pM_184 rfl) rfl rfl ?_
                        refine w_iconst (p := 258) (v := nI 2) (pI pM_184 rfl) rfl rfl ?_
                        refine v_virtual (p := 261) (mj := 181) (pI pM_184 rfl) rfl rfl rfl rfl rfl rfl rfl rfl rfl rfl (by decide) (by decide) rfl ?_
                        refine d181_throwing (D181_throwing_mono k (fun v50 A51 I52 k => ?_))
                        exact w_ireturn (pI pM_184 rfl) rfl rfl rfl k
                      · replace k := itn c k
                        refine w_iload (p := 251) (pI pM_184 rfl) rfl rfl ?_
                        refine w_iload (p := 253) (pI pM_184 rfl) rfl rfl ?_
                        refine w_icmp_lt (p := 256) (q := 262) (pI pM_184 rfl) rfl rfl rfl (fun c => ?_) (fun c => ?_)
                        · replace k := itp c k
                          refine w_iload_n (p := 263) (pI pM_184 rfl) rfl rfl ?_
                          refine w_bipush (p := 265) (v := nI 22) (pI pM_184 rfl) rfl rfl ?_
                          refine w_icmp_ne (p := 268) (q := 294) (pI pM_184 rfl) rfl rfl rfl (fun c => ?_) (fun c => ?_)
                          · replace k := itn c k
                            refine w_aload_n (p := 295) (pI pM_184 rfl) rfl rfl ?_
                            refine v_getR (p := 298) (kf := 8) (pI pM_184 rfl) rfl rfl rfl (by decide) (by decide) rfl rfl ?_
                            refine w_aload_n (p := 299) (pI pM_184 rfl) rfl rfl ?_
                            refine v_getI (p := 302) (kf := 35) (pI pM_184 rfl) rfl rfl rfl (by decide) (by decide) rfl rfl rfl ?_
                            refine w_bipush (p := 304) (v := nI 10) (pI pM_184 rfl) rfl rfl ?_
                            refine w_iadd (p := 305) (pI pM_184 rfl) rfl ?_
                            refine w_iconst (p := 306) (v := nI 5) (pI pM_184 rfl) rfl rfl ?_
                            refine w_iload (p := 308) (pI pM_184 rfl) rfl rfl ?_
                            refine w_imul (p := 309) (pI pM_184 rfl) rfl ?_
                            refine w_iadd (p := 310) (pI pM_184 rfl) rfl ?_
                            refine w_iload (p := 312) (pI pM_184 rfl) rfl rfl ?_
                            refine w_iadd (p := 313) (pI pM_184 rfl) rfl ?_
                            refine w_aload_n (p := 314) (pI pM_184 rfl) rfl rfl ?_
                            refine w_iconst (p := 315) (v := nI 0) (pI pM_184 rfl) rfl rfl ?_
                            refine v_virtual (p := 318) (mj := 172) (pI pM_184 rfl) rfl rfl rfl rfl rfl rfl rfl rfl rfl rfl (by decide) (by decide) rfl ?_
                            refine d172_top (D172_top_mono k (fun v53 k => ?_))
                            obtain ⟨s54, k⟩ := k
                            refine s_iast (p := 319) (pI pM_184 rfl) rfl (by decide) (by decide) rfl s54 ?_
                            refine w_aload_n (p := 320) (pI pM_184 rfl) rfl rfl ?_
                            refine w_iconst (p := 321) (v := nI 3) (pI pM_184 rfl) rfl rfl ?_
                            refine w_bipush (p := 323) (v := -100) (pI pM_184 rfl) rfl rfl ?_
                            refine v_virtual (p := 326) (mj := 170) (pI pM_184 rfl) rfl rfl rfl rfl rfl rfl rfl rfl rfl rfl (by decide) (by decide) rfl ?_
                            refine d170_next (D170_next_mono k (fun v55 A56 I57 k => ?_))
                            exact w_ireturn (pI pM_184 rfl) rfl rfl rfl k
                          · replace k := itp (Decidable.not_not.mp c) k
                            refine w_aload_n (p := 269) (pI pM_184 rfl) rfl rfl ?_
                            refine w_iconst (p := 270) (v := nI 2) (pI pM_184 rfl) rfl rfl ?_
                            refine w_aload_n (p := 271) (pI pM_184 rfl) rfl rfl ?_
                            refine v_getR (p := 274) (kf := 8) (pI pM_184 rfl) rfl rfl rfl (by decide) (by decide) rfl rfl ?_
                            refine w_aload_n (p := 275) (pI pM_184 rfl) rfl rfl ?_
                            refine v_getI (p := 278) (kf := 35) (pI pM_184 rfl) rfl rfl rfl (by decide) (by decide) rfl rfl rfl ?_
                            refine w_bipush (p := 280) (v := nI 10) (pI pM_184 rfl) rfl rfl ?_
                            refine w_iadd (p := 281) (pI pM_184 rfl) rfl ?_
                            refine w_iconst (p := 282) (v := nI 5) (pI pM_184 rfl) rfl rfl ?_
                            refine w_iload (p := 284) (pI pM_184 rfl) rfl rfl ?_
                            refine w_imul (p := 285) (pI pM_184 rfl) rfl ?_
                            refine w_iadd (p := 286) (pI pM_184 rfl) rfl ?_
                            refine w_iload (p := 288) (pI pM_184 rfl) rfl rfl ?_
                            refine w_iadd (p := 289) (pI pM_184 rfl) rfl ?_
                            obtain ⟨s58, k⟩ := k
                            refine v_iald (p := 290) (pI pM_184 rfl) rfl (by decide) rfl s58 rfl ?_
                            refine v_virtual (p := 293) (mj := 170) (pI pM_184 rfl) rfl rfl rfl rfl rfl rfl rfl rfl rfl rfl (by decide) (by decide) rfl ?_
                            refine d170_next (D170_next_mono k (fun v59 A60 I61 k => ?_))
                            exact w_ireturn (pI pM_184 rfl) rfl rfl rfl k
                        · replace k := itn c k
                          refine w_aload_n (p := 257) (pI pM_184 rfl) rfl rfl ?_
                          refine w_iconst (p := 258) (v := nI 2) (pI pM_184 rfl) rfl rfl ?_
                          refine v_virtual (p := 261) (mj := 181) (pI pM_184 rfl) rfl rfl rfl rfl rfl rfl rfl rfl rfl rfl (by decide) (by decide) rfl ?_
                          refine d181_throwing (D181_throwing_mono k (fun v62 A63 I64 k => ?_))
                          exact w_ireturn (pI pM_184 rfl) rfl rfl rfl k
                    · replace k := itn c k
                      refine w_iload (p := 235) (pI pM_184 rfl) rfl rfl ?_
                      refine w_static (p := 238) (mj := 178) (pI pM_184 rfl) rfl rfl rfl rfl rfl rfl rfl rfl rfl ?_
                      refine d178_number (D178_number_mono k (fun v65 k => ?_))
                      refine w_goto (p := 242) (pI pM_184 rfl) rfl rfl ?_
                      refine w_istore (p := 244) (pI pM_184 rfl) rfl rfl rfl ?_
                      refine w_iload (p := 246) (pI pM_184 rfl) rfl rfl ?_
                      refine w_if_lt (p := 249) (q := 256) (pI pM_184 rfl) rfl rfl rfl (fun c => ?_) (fun c => ?_)
                      · replace k := itp c k
                        refine w_aload_n (p := 257) (pI pM_184 rfl) rfl rfl ?_
                        refine w_iconst (p := 258) (v := nI 2) (pI pM_184 rfl) rfl rfl ?_
                        refine v_virtual (p := 261) (mj := 181) (pI pM_184 rfl) rfl rfl rfl rfl rfl rfl rfl rfl rfl rfl (by decide) (by decide) rfl ?_
                        refine d181_throwing (D181_throwing_mono k (fun v66 A67 I68 k => ?_))
                        exact w_ireturn (pI pM_184 rfl) rfl rfl rfl k
                      · replace k := itn c k
                        refine w_iload (p := 251) (pI pM_184 rfl) rfl rfl ?_
                        refine w_iload (p := 253) (pI pM_184 rfl) rfl rfl ?_
                        refine w_icmp_lt (p := 256) (q := 262) (pI pM_184 rfl) rfl rfl rfl (fun c => ?_) (fun c => ?_)
                        · replace k := itp c k
                          refine w_iload_n (p := 263) (pI pM_184 rfl) rfl rfl ?_
                          refine w_bipush (p := 265) (v := nI 22) (pI pM_184 rfl) rfl rfl ?_
                          refine w_icmp_ne (p := 268) (q := 294) (pI pM_184 rfl) rfl rfl rfl (fun c => ?_) (fun c => ?_)
                          · replace k := itn c k
                            refine w_aload_n (p := 295) (pI pM_184 rfl) rfl rfl ?_
                            refine v_getR (p := 298) (kf := 8) (pI pM_184 rfl) rfl rfl rfl (by decide) (by decide) rfl rfl ?_
                            refine w_aload_n (p := 299) (pI pM_184 rfl) rfl rfl ?_
                            refine v_getI (p := 302) (kf := 35) (pI pM_184 rfl) rfl rfl rfl (by decide) (by decide) rfl rfl rfl ?_
                            refine w_bipush (p := 304) (v := nI 10) (pI pM_184 rfl) rfl rfl ?_
                            refine w_iadd (p := 305) (pI pM_184 rfl) rfl ?_
                            refine w_iconst (p := 306) (v := nI 5) (pI pM_184 rfl) rfl rfl ?_
                            refine w_iload (p := 308) (pI pM_184 rfl) rfl rfl ?_
                            refine w_imul (p := 309) (pI pM_184 rfl) rfl ?_
                            refine w_iadd (p := 310) (pI pM_184 rfl) rfl ?_
                            refine w_iload (p := 312) (pI pM_184 rfl) rfl rfl ?_
                            refine w_iadd (p := 313) (pI pM_184 rfl) rfl ?_
                            refine w_aload_n (p := 314) (pI pM_184 rfl) rfl rfl ?_
                            refine w_iconst (p := 315) (v := nI 0) (pI pM_184 rfl) rfl rfl ?_
                            refine v_virtual (p := 318) (mj := 172) (pI pM_184 rfl) rfl rfl rfl rfl rfl rfl rfl rfl rfl rfl (by decide) (by decide) rfl ?_
                            refine d172_top (D172_top_mono k (fun v69 k => ?_))
                            obtain ⟨s70, k⟩ := k
                            refine s_iast (p := 319) (pI pM_184 rfl) rfl (by decide) (by decide) rfl s70 ?_
                            refine w_aload_n (p := 320) (pI pM_184 rfl) rfl rfl ?_
                            refine w_iconst (p := 321) (v := nI 3) (pI pM_184 rfl) rfl rfl ?_
                            refine w_bipush (p := 323) (v := -100) (pI pM_184 rfl) rfl rfl ?_
                            refine v_virtual (p := 326) (mj := 170) (pI pM_184 rfl) rfl rfl rfl rfl rfl rfl rfl rfl rfl rfl (by decide) (by decide) rfl ?_
                            refine d170_next (D170_next_mono k (fun v71 A72 I73 k => ?_))
                            exact w_ireturn (pI pM_184 rfl) rfl rfl rfl k
                          · replace k := itp (Decidable.not_not.mp c) k
                            refine w_aload_n (p := 269) (pI pM_184 rfl) rfl rfl ?_
                            refine w_iconst (p := 270) (v := nI 2) (pI pM_184 rfl) rfl rfl ?_
                            refine w_aload_n (p := 271) (pI pM_184 rfl) rfl rfl ?_
                            refine v_getR (p := 274) (kf := 8) (pI pM_184 rfl) rfl rfl rfl (by decide) (by decide) rfl rfl ?_
                            refine w_aload_n (p := 275) (pI pM_184 rfl) rfl rfl ?_
                            refine v_getI (p := 278) (kf := 35) (pI pM_184 rfl) rfl rfl rfl (by decide) (by decide) rfl rfl rfl ?_
                            refine w_bipush (p := 280) (v := nI 10) (pI pM_184 rfl) rfl rfl ?_
                            refine w_iadd (p := 281) (pI pM_184 rfl) rfl ?_
                            refine w_iconst (p := 282) (v := nI 5) (pI pM_184 rfl) rfl rfl ?_
                            refine w_iload (p := 284) (pI pM_184 rfl) rfl rfl ?_
                            refine w_imul (p := 285) (pI pM_184 rfl) rfl ?_
                            refine w_iadd (p := 286) (pI pM_184 rfl) rfl ?_
                            refine w_iload (p := 288) (pI pM_184 rfl) rfl rfl ?_
                            refine w_iadd (p := 289) (pI pM_184 rfl) rfl ?_
                            obtain ⟨s74, k⟩ := k
                            refine v_iald (p := 290) (pI pM_184 rfl) rfl (by decide) rfl s74 rfl ?_
                            refine v_virtual (p := 293) (mj := 170) (pI pM_184 rfl) rfl rfl rfl rfl rfl rfl rfl rfl rfl rfl (by decide) (by decide) rfl ?_
                            refine d170_next (D170_next_mono k (fun v75 A76 I77 k => ?_))
                            exact w_ireturn (pI pM_184 rfl) rfl rfl rfl k
                        · replace k := itn c k
                          refine w_aload_n (p := 257) (pI pM_184 rfl) rfl rfl ?_
                          refine w_iconst (p := 258) (v := nI 2) (pI pM_184 rfl) rfl rfl ?_
                          refine v_virtual (p := 261) (mj := 181) (pI pM_184 rfl) rfl rfl rfl rfl rfl rfl rfl rfl rfl rfl (by decide) (by decide) rfl ?_
                          refine d181_throwing (D181_throwing_mono k (fun v78 A79 I80 k => ?_))
                          exact w_ireturn (pI pM_184 rfl) rfl rfl rfl k
                  · replace k := itp (Decidable.not_not.mp c) k
                    refine w_aload_n (p := 213) (pI pM_184 rfl) rfl rfl ?_
                    refine w_iload (p := 215) (pI pM_184 rfl) rfl rfl ?_
                    refine w_iconst (p := 216) (v := nI 1) (pI pM_184 rfl) rfl rfl ?_
                    refine w_iadd (p := 217) (pI pM_184 rfl) rfl ?_
                    refine w_iload (p := 219) (pI pM_184 rfl) rfl rfl ?_
                    refine w_iload (p := 221) (pI pM_184 rfl) rfl rfl ?_
                    refine v_virtual (p := 224) (mj := 180) (pI pM_184 rfl) rfl rfl rfl rfl rfl rfl rfl rfl rfl rfl (by decide) (by decide) rfl ?_
                    refine d180_splits (D180_splits_mono k (fun v81 A82 I83 k => ?_))
                    exact w_ireturn (pI pM_184 rfl) rfl rfl rfl k
              · replace k := itp (Decidable.not_not.mp c) k
                refine w_aload_n (p := 156) (pI pM_184 rfl) rfl rfl ?_
                refine w_iconst (p := 157) (v := nI 5) (pI pM_184 rfl) rfl rfl ?_
                refine v_virtual (p := 160) (mj := 181) (pI pM_184 rfl) rfl rfl rfl rfl rfl rfl rfl rfl rfl rfl (by decide) (by decide) rfl ?_
                refine d181_throwing (D181_throwing_mono k (fun v84 A85 I86 k => ?_))
                exact w_ireturn (pI pM_184 rfl) rfl rfl rfl k
      · replace k := itp (Decidable.not_not.mp c) k
        refine w_iconst (p := 90) (v := nI 1) (pI pM_184 rfl) rfl rfl ?_
        refine w_goto (p := 94) (pI pM_184 rfl) rfl rfl ?_
        refine w_istore (p := 96) (pI pM_184 rfl) rfl rfl rfl ?_
        refine w_iload_n (p := 97) (pI pM_184 rfl) rfl rfl ?_
        refine w_iconst (p := 98) (v := nI 2) (pI pM_184 rfl) rfl rfl ?_
        refine w_iload (p := 100) (pI pM_184 rfl) rfl rfl ?_
        refine w_iadd (p := 101) (pI pM_184 rfl) rfl ?_
        refine w_icmp_lt (p := 104) (q := 138) (pI pM_184 rfl) rfl rfl rfl (fun c => ?_) (fun c => ?_)
        · replace k := itp c k
          refine w_aload_n (p := 139) (pI pM_184 rfl) rfl rfl ?_
          refine v_virtual (p := 142) (mj := 165) (pI pM_184 rfl) rfl rfl rfl rfl rfl rfl rfl rfl rfl rfl (by decide) (by decide) rfl ?_
          refine d165_broken (D165_broken_mono k (fun v87 A88 I89 k => ?_))
          exact w_ireturn (pI pM_184 rfl) rfl rfl rfl k
        · replace k := itn c k
          refine w_aload_n (p := 105) (pI pM_184 rfl) rfl rfl ?_
          refine w_iconst (p := 106) (v := nI 1) (pI pM_184 rfl) rfl rfl ?_
          refine w_iload (p := 108) (pI pM_184 rfl) rfl rfl ?_
          refine w_iadd (p := 109) (pI pM_184 rfl) rfl ?_
          refine v_virtual (p := 112) (mj := 183) (pI pM_184 rfl) rfl rfl rfl rfl rfl rfl rfl rfl rfl rfl (by decide) (by decide) rfl ?_
          refine d183_isReference (D183_isReference_mono k (fun v90 k => ?_))
          refine w_if_eq (p := 115) (q := 138) (pI pM_184 rfl) rfl rfl rfl (fun c => ?_) (fun c => ?_)
          · replace k := itp c k
            refine w_aload_n (p := 139) (pI pM_184 rfl) rfl rfl ?_
            refine v_virtual (p := 142) (mj := 165) (pI pM_184 rfl) rfl rfl rfl rfl rfl rfl rfl rfl rfl rfl (by decide) (by decide) rfl ?_
            refine d165_broken (D165_broken_mono k (fun v91 A92 I93 k => ?_))
            exact w_ireturn (pI pM_184 rfl) rfl rfl rfl k
          · replace k := itn c k
            refine w_aload_n (p := 116) (pI pM_184 rfl) rfl rfl ?_
            refine w_iload (p := 118) (pI pM_184 rfl) rfl rfl ?_
            refine v_virtual (p := 121) (mj := 174) (pI pM_184 rfl) rfl rfl rfl rfl rfl rfl rfl rfl rfl rfl (by decide) (by decide) rfl ?_
            refine d174_isWord (D174_isWord_mono k (fun v94 k => ?_))
            refine w_if_eq (p := 124) (q := 138) (pI pM_184 rfl) rfl rfl rfl (fun c => ?_) (fun c => ?_)
            · replace k := itp c k
              refine w_aload_n (p := 139) (pI pM_184 rfl) rfl rfl ?_
              refine v_virtual (p := 142) (mj := 165) (pI pM_184 rfl) rfl rfl rfl rfl rfl rfl rfl rfl rfl rfl (by decide) (by decide) rfl ?_
              refine d165_broken (D165_broken_mono k (fun v95 A96 I97 k => ?_))
              exact w_ireturn (pI pM_184 rfl) rfl rfl rfl k
            · replace k := itn c k
              refine w_iload (p := 126) (pI pM_184 rfl) rfl rfl ?_
              refine w_iconst (p := 127) (v := nI 1) (pI pM_184 rfl) rfl rfl ?_
              refine w_icmp_ne (p := 130) (q := 143) (pI pM_184 rfl) rfl rfl rfl (fun c => absurd c (by decide)) (fun _ => ?_)
              refine w_aload_n (p := 131) (pI pM_184 rfl) rfl rfl ?_
              refine w_iconst (p := 132) (v := nI 0) (pI pM_184 rfl) rfl rfl ?_
              refine v_virtual (p := 135) (mj := 174) (pI pM_184 rfl) rfl rfl rfl rfl rfl rfl rfl rfl rfl rfl (by decide) (by decide) rfl ?_
              refine d174_isWord (D174_isWord_mono k (fun v98 k => ?_))
              refine w_if_ne (p := 138) (q := 143) (pI pM_184 rfl) rfl rfl rfl (fun c => ?_) (fun c => ?_)
              · replace k := itn c k
                refine w_aload_n (p := 144) (pI pM_184 rfl) rfl rfl ?_
                refine w_iconst (p := 145) (v := nI 1) (pI pM_184 rfl) rfl rfl ?_
                refine w_iload (p := 147) (pI pM_184 rfl) rfl rfl ?_
                refine w_iadd (p := 148) (pI pM_184 rfl) rfl ?_
                refine v_virtual (p := 151) (mj := 172) (pI pM_184 rfl) rfl rfl rfl rfl rfl rfl rfl rfl rfl rfl (by decide) (by decide) rfl ?_
                refine d172_top (D172_top_mono k (fun v99 k => ?_))
                refine w_iconst (p := 152) (v := -1) (pI pM_184 rfl) rfl rfl ?_
                refine w_icmp_ne (p := 155) (q := 161) (pI pM_184 rfl) rfl rfl rfl (fun c => ?_) (fun c => ?_)
                · replace k := itn c k
                  refine w_bipush (p := 163) (v := -2) (pI pM_184 rfl) rfl rfl ?_
                  refine w_aload_n (p := 164) (pI pM_184 rfl) rfl rfl ?_
                  refine w_iconst (p := 165) (v := nI 1) (pI pM_184 rfl) rfl rfl ?_
                  refine w_iload (p := 167) (pI pM_184 rfl) rfl rfl ?_
                  refine w_iadd (p := 168) (pI pM_184 rfl) rfl ?_
                  refine v_virtual (p := 171) (mj := 172) (pI pM_184 rfl) rfl rfl rfl rfl rfl rfl rfl rfl rfl rfl (by decide) (by decide) rfl ?_
                  refine d172_top (D172_top_mono k (fun v100 k => ?_))
                  refine w_isub (p := 172) (pI pM_184 rfl) rfl ?_
                  refine w_istore (p := 174) (pI pM_184 rfl) rfl rfl rfl ?_
                  refine w_aload_n (p := 175) (pI pM_184 rfl) rfl rfl ?_
                  refine v_getR (p := 178) (kf := 8) (pI pM_184 rfl) rfl rfl rfl (by decide) (by decide) rfl rfl ?_
                  refine w_aload_n (p := 179) (pI pM_184 rfl) rfl rfl ?_
                  refine v_getI (p := 182) (kf := 35) (pI pM_184 rfl) rfl rfl rfl (by decide) (by decide) rfl rfl rfl ?_
                  refine w_bipush (p := 184) (v := nI 6) (pI pM_184 rfl) rfl rfl ?_
                  refine w_iadd (p := 185) (pI pM_184 rfl) rfl ?_
                  refine w_iload (p := 187) (pI pM_184 rfl) rfl rfl ?_
                  refine w_iadd (p := 188) (pI pM_184 rfl) rfl ?_
                  obtain ⟨s101, k⟩ := k
                  refine v_iald (p := 189) (pI pM_184 rfl) rfl (by decide) rfl s101 rfl ?_
                  refine w_istore (p := 191) (pI pM_184 rfl) rfl rfl rfl ?_
                  refine w_aload_n (p := 192) (pI pM_184 rfl) rfl rfl ?_
                  refine w_iload (p := 194) (pI pM_184 rfl) rfl rfl ?_
                  refine v_virtual (p := 197) (mj := 172) (pI pM_184 rfl) rfl rfl rfl rfl rfl rfl rfl rfl rfl rfl (by decide) (by decide) rfl ?_
                  refine d172_top (D172_top_mono k (fun v102 k => ?_))
                  refine w_istore (p := 199) (pI pM_184 rfl) rfl rfl rfl ?_
                  refine w_iload (p := 201) (pI pM_184 rfl) rfl rfl ?_
                  refine w_static (p := 204) (mj := 177) (pI pM_184 rfl) rfl rfl rfl rfl rfl rfl rfl rfl rfl ?_
                  refine d177_isNumber (D177_isNumber_mono k (fun v103 k => ?_))
                  refine w_if_ne (p := 207) (q := 225) (pI pM_184 rfl) rfl rfl rfl (fun c => ?_) (fun c => ?_)
                  · replace k := itn c k
                    refine w_iload (p := 227) (pI pM_184 rfl) rfl rfl ?_
                    refine w_static (p := 230) (mj := 177) (pI pM_184 rfl) rfl rfl rfl rfl rfl rfl rfl rfl rfl ?_
                    refine d177_isNumber (D177_isNumber_mono k (fun v104 k => ?_))
                    refine w_if_eq (p := 233) (q := 241) (pI pM_184 rfl) rfl rfl rfl (fun c => ?_) (fun c => ?_)
                    · replace k := itp c k
                      refine w_iload_n (p := 242) (pI pM_184 rfl) rfl rfl ?_
                      refine w_istore (p := 244) (pI pM_184 rfl) rfl rfl rfl ?_
                      refine w_iload (p := 246) (pI pM_184 rfl) rfl rfl ?_
                      refine w_if_lt (p := 249) (q := 256) (pI pM_184 rfl) rfl rfl rfl (fun c => ?_) (fun c => ?_)
                      · replace k := itp c k
                        refine w_aload_n (p := 257) (pI pM_184 rfl) rfl rfl ?_
                        refine w_iconst (p := 258) (v := nI 2) (pI pM_184 rfl) rfl rfl ?_
                        refine v_virtual (p := 261) (mj := 181) (pI pM_184 rfl) rfl rfl rfl rfl rfl rfl rfl rfl rfl rfl (by decide) (by decide) rfl ?_
                        refine d181_throwing (D181_throwing_mono k (fun v105 A106 I107 k => ?_))
                        exact w_ireturn (pI pM_184 rfl) rfl rfl rfl k
                      · replace k := itn c k
                        refine w_iload (p := 251) (pI pM_184 rfl) rfl rfl ?_
                        refine w_iload (p := 253) (pI pM_184 rfl) rfl rfl ?_
                        refine w_icmp_lt (p := 256) (q := 262) (pI pM_184 rfl) rfl rfl rfl (fun c => ?_) (fun c => ?_)
                        · replace k := itp c k
                          refine w_iload_n (p := 263) (pI pM_184 rfl) rfl rfl ?_
                          refine w_bipush (p := 265) (v := nI 22) (pI pM_184 rfl) rfl rfl ?_
                          refine w_icmp_ne (p := 268) (q := 294) (pI pM_184 rfl) rfl rfl rfl (fun c => ?_) (fun c => ?_)
                          · replace k := itn c k
                            refine w_aload_n (p := 295) (pI pM_184 rfl) rfl rfl ?_
                            refine v_getR (p := 298) (kf := 8) (pI pM_184 rfl) rfl rfl rfl (by decide) (by decide) rfl rfl ?_
                            refine w_aload_n (p := 299) (pI pM_184 rfl) rfl rfl ?_
                            refine v_getI (p := 302) (kf := 35) (pI pM_184 rfl) rfl rfl rfl (by decide) (by decide) rfl rfl rfl ?_
                            refine w_bipush (p := 304) (v := nI 10) (pI pM_184 rfl) rfl rfl ?_
                            refine w_iadd (p := 305) (pI pM_184 rfl) rfl ?_
                            refine w_iconst (p := 306) (v := nI 5) (pI pM_184 rfl) rfl rfl ?_
                            refine w_iload (p := 308) (pI pM_184 rfl) rfl rfl ?_
                            refine w_imul (p := 309) (pI pM_184 rfl) rfl ?_
                            refine w_iadd (p := 310) (pI pM_184 rfl) rfl ?_
                            refine w_iload (p := 312) (pI pM_184 rfl) rfl rfl ?_
                            refine w_iadd (p := 313) (pI pM_184 rfl) rfl ?_
                            refine w_aload_n (p := 314) (pI pM_184 rfl) rfl rfl ?_
                            refine w_iconst (p := 315) (v := nI 0) (pI pM_184 rfl) rfl rfl ?_
                            refine v_virtual (p := 318) (mj := 172) (pI pM_184 rfl) rfl rfl rfl rfl rfl rfl rfl rfl rfl rfl (by decide) (by decide) rfl ?_
                            refine d172_top (D172_top_mono k (fun v108 k => ?_))
                            obtain ⟨s109, k⟩ := k
                            refine s_iast (p := 319) (pI pM_184 rfl) rfl (by decide) (by decide) rfl s109 ?_
                            refine w_aload_n (p := 320) (pI pM_184 rfl) rfl rfl ?_
                            refine w_iconst (p := 321) (v := nI 3) (pI pM_184 rfl) rfl rfl ?_
                            refine w_bipush (p := 323) (v := -100) (pI pM_184 rfl) rfl rfl ?_
                            refine v_virtual (p := 326) (mj := 170) (pI pM_184 rfl) rfl rfl rfl rfl rfl rfl rfl rfl rfl rfl (by decide) (by decide) rfl ?_
                            refine d170_next (D170_next_mono k (fun v110 A111 I112 k => ?_))
                            exact w_ireturn (pI pM_184 rfl) rfl rfl rfl k
                          · replace k := itp (Decidable.not_not.mp c) k
                            refine w_aload_n (p := 269) (pI pM_184 rfl) rfl rfl ?_
                            refine w_iconst (p := 270) (v := nI 2) (pI pM_184 rfl) rfl rfl ?_
                            refine w_aload_n (p := 271) (pI pM_184 rfl) rfl rfl ?_
                            refine v_getR (p := 274) (kf := 8) (pI pM_184 rfl) rfl rfl rfl (by decide) (by decide) rfl rfl ?_
                            refine w_aload_n (p := 275) (pI pM_184 rfl) rfl rfl ?_
                            refine v_getI (p := 278) (kf := 35) (pI pM_184 rfl) rfl rfl rfl (by decide) (by decide) rfl rfl rfl ?_
                            refine w_bipush (p := 280) (v := nI 10) (pI pM_184 rfl) rfl rfl ?_
                            refine w_iadd (p := 281) (pI pM_184 rfl) rfl ?_
                            refine w_iconst (p := 282) (v := nI 5) (pI pM_184 rfl) rfl rfl ?_
                            refine w_iload (p := 284) (pI pM_184 rfl) rfl rfl ?_
                            refine w_imul (p := 285) (pI pM_184 rfl) rfl ?_
                            refine w_iadd (p := 286) (pI pM_184 rfl) rfl ?_
                            refine w_iload (p := 288) (pI pM_184 rfl) rfl rfl ?_
                            refine w_iadd (p := 289) (pI pM_184 rfl) rfl ?_
                            obtain ⟨s113, k⟩ := k
                            refine v_iald (p := 290) (pI pM_184 rfl) rfl (by decide) rfl s113 rfl ?_
                            refine v_virtual (p := 293) (mj := 170) (pI pM_184 rfl) rfl rfl rfl rfl rfl rfl rfl rfl rfl rfl (by decide) (by decide) rfl ?_
                            refine d170_next (D170_next_mono k (fun v114 A115 I116 k => ?_))
                            exact w_ireturn (pI pM_184 rfl) rfl rfl rfl k
                        · replace k := itn c k
                          refine w_aload_n (p := 257) (pI pM_184 rfl) rfl rfl ?_
                          refine w_iconst (p := 258) (v := nI 2) (pI pM_184 rfl) rfl rfl ?_
                          refine v_virtual (p := 261) (mj := 181) (pI pM_184 rfl) rfl rfl rfl rfl rfl rfl rfl rfl rfl rfl (by decide) (by decide) rfl ?_
                          refine d181_throwing (D181_throwing_mono k (fun v117 A118 I119 k => ?_))
                          exact w_ireturn (pI pM_184 rfl) rfl rfl rfl k
                    · replace k := itn c k
                      refine w_iload (p := 235) (pI pM_184 rfl) rfl rfl ?_
                      refine w_static (p := 238) (mj := 178) (pI pM_184 rfl) rfl rfl rfl rfl rfl rfl rfl rfl rfl ?_
                      refine d178_number (D178_number_mono k (fun v120 k => ?_))
                      refine w_goto (p := 242) (pI pM_184 rfl) rfl rfl ?_
                      refine w_istore (p := 244) (pI pM_184 rfl) rfl rfl rfl ?_
                      refine w_iload (p := 246) (pI pM_184 rfl) rfl rfl ?_
                      refine w_if_lt (p := 249) (q := 256) (pI pM_184 rfl) rfl rfl rfl (fun c => ?_) (fun c => ?_)
                      · replace k := itp c k
                        refine w_aload_n (p := 257) (pI pM_184 rfl) rfl rfl ?_
                        refine w_iconst (p := 258) (v := nI 2) (pI pM_184 rfl) rfl rfl ?_
                        refine v_virtual (p := 261) (mj := 181) (pI pM_184 rfl) rfl rfl rfl rfl rfl rfl rfl rfl rfl rfl (by decide) (by decide) rfl ?_
                        refine d181_throwing (D181_throwing_mono k (fun v121 A122 I123 k => ?_))
                        exact w_ireturn (pI pM_184 rfl) rfl rfl rfl k
                      · replace k := itn c k
                        refine w_iload (p := 251) (pI pM_184 rfl) rfl rfl ?_
                        refine w_iload (p := 253) (pI pM_184 rfl) rfl rfl ?_
                        refine w_icmp_lt (p := 256) (q := 262) (pI pM_184 rfl) rfl rfl rfl (fun c => ?_) (fun c => ?_)
                        · replace k := itp c k
                          refine w_iload_n (p := 263) (pI pM_184 rfl) rfl rfl ?_
                          refine w_bipush (p := 265) (v := nI 22) (pI pM_184 rfl) rfl rfl ?_
                          refine w_icmp_ne (p := 268) (q := 294) (pI pM_184 rfl) rfl rfl rfl (fun c => ?_) (fun c => ?_)
                          · replace k := itn c k
                            refine w_aload_n (p := 295) (pI pM_184 rfl) rfl rfl ?_
                            refine v_getR (p := 298) (kf := 8) (pI pM_184 rfl) rfl rfl rfl (by decide) (by decide) rfl rfl ?_
                            refine w_aload_n (p := 299) (pI pM_184 rfl) rfl rfl ?_
                            refine v_getI (p := 302) (kf := 35) (pI pM_184 rfl) rfl rfl rfl (by decide) (by decide) rfl rfl rfl ?_
                            refine w_bipush (p := 304) (v := nI 10) (pI pM_184 rfl) rfl rfl ?_
                            refine w_iadd (p := 305) (pI pM_184 rfl) rfl ?_
                            refine w_iconst (p := 306) (v := nI 5) (pI pM_184 rfl) rfl rfl ?_
                            refine w_iload (p := 308) (pI pM_184 rfl) rfl rfl ?_
                            refine w_imul (p := 309) (pI pM_184 rfl) rfl ?_
                            refine w_iadd (p := 310) (pI pM_184 rfl) rfl ?_
                            refine w_iload (p := 312) (pI pM_184 rfl) rfl rfl ?_
                            refine w_iadd (p := 313) (pI pM_184 rfl) rfl ?_
                            refine w_aload_n (p := 314) (pI pM_184 rfl) rfl rfl ?_
                            refine w_iconst (p := 315) (v := nI 0) (pI pM_184 rfl) rfl rfl ?_
                            refine v_virtual (p := 318) (mj := 172) (pI pM_184 rfl) rfl rfl rfl rfl rfl rfl rfl rfl rfl rfl (by decide) (by decide) rfl ?_
                            refine d172_top (D172_top_mono k (fun v124 k => ?_))
                            obtain ⟨s125, k⟩ := k
                            refine s_iast (p := 319) (pI pM_184 rfl) rfl (by decide) (by decide) rfl s125 ?_
                            refine w_aload_n (p := 320) (pI pM_184 rfl) rfl rfl ?_
                            refine w_iconst (p := 321) (v := nI 3) (pI pM_184 rfl) rfl rfl ?_
                            refine w_bipush (p := 323) (v := -100) (pI pM_184 rfl) rfl rfl ?_
                            refine v_virtual (p := 326) (mj := 170) (pI pM_184 rfl) rfl rfl rfl rfl rfl rfl rfl rfl rfl rfl (by decide) (by decide) rfl ?_
                            refine d170_next (D170_next_mono k (fun v126 A127 I128 k => ?_))
                            exact w_ireturn (pI pM_184 rfl) rfl rfl rfl k
                          · replace k := itp (Decidable.not_not.mp c) k
                            refine w_aload_n (p := 269) (pI pM_184 rfl) rfl rfl ?_
                            refine w_iconst (p := 270) (v := nI 2) (pI pM_184 rfl) rfl rfl ?_
                            refine w_aload_n (p := 271) (pI pM_184 rfl) rfl rfl ?_
                            refine v_getR (p := 274) (kf := 8) (pI pM_184 rfl) rfl rfl rfl (by decide) (by decide) rfl rfl ?_
                            refine w_aload_n (p := 275) (pI pM_184 rfl) rfl rfl ?_
                            refine v_getI (p := 278) (kf := 35) (pI pM_184 rfl) rfl rfl rfl (by decide) (by decide) rfl rfl rfl ?_
                            refine w_bipush (p := 280) (v := nI 10) (pI pM_184 rfl) rfl rfl ?_
                            refine w_iadd (p := 281) (pI pM_184 rfl) rfl ?_
                            refine w_iconst (p := 282) (v := nI 5) (pI pM_184 rfl) rfl rfl ?_
                            refine w_iload (p := 284) (pI pM_184 rfl) rfl rfl ?_
                            refine w_imul (p := 285) (pI pM_184 rfl) rfl ?_
                            refine w_iadd (p := 286) (pI pM_184 rfl) rfl ?_
                            refine w_iload (p := 288) (pI pM_184 rfl) rfl rfl ?_
                            refine w_iadd (p := 289) (pI pM_184 rfl) rfl ?_
                            obtain ⟨s129, k⟩ := k
                            refine v_iald (p := 290) (pI pM_184 rfl) rfl (by decide) rfl s129 rfl ?_
                            refine v_virtual (p := 293) (mj := 170) (pI pM_184 rfl) rfl rfl rfl rfl rfl rfl rfl rfl rfl rfl (by decide) (by decide) rfl ?_
                            refine d170_next (D170_next_mono k (fun v130 A131 I132 k => ?_))
                            exact w_ireturn (pI pM_184 rfl) rfl rfl rfl k
                        · replace k := itn c k
                          refine w_aload_n (p := 257) (pI pM_184 rfl) rfl rfl ?_
                          refine w_iconst (p := 258) (v := nI 2) (pI pM_184 rfl) rfl rfl ?_
                          refine v_virtual (p := 261) (mj := 181) (pI pM_184 rfl) rfl rfl rfl rfl rfl rfl rfl rfl rfl rfl (by decide) (by decide) rfl ?_
                          refine d181_throwing (D181_throwing_mono k (fun v133 A134 I135 k => ?_))
                          exact w_ireturn (pI pM_184 rfl) rfl rfl rfl k
                  · replace k := itp (Decidable.not_not.mp c) k
                    refine w_iload_n (p := 208) (pI pM_184 rfl) rfl rfl ?_
                    refine w_iconst (p := 209) (v := -1) (pI pM_184 rfl) rfl rfl ?_
                    refine w_icmp_ne (p := 212) (q := 225) (pI pM_184 rfl) rfl rfl rfl (fun c => ?_) (fun c => ?_)
                    · replace k := itn c k
                      refine w_iload (p := 227) (pI pM_184 rfl) rfl rfl ?_
                      refine w_static (p := 230) (mj := 177) (pI pM_184 rfl) rfl rfl rfl rfl rfl rfl rfl rfl rfl ?_
                      refine d177_isNumber (D177_isNumber_mono k (fun v136 k => ?_))
                      refine w_if_eq (p := 233) (q := 241) (pI pM_184 rfl) rfl rfl rfl (fun c => ?_) (fun c => ?_)
                      · replace k := itp c k
                        refine w_iload_n (p := 242) (pI pM_184 rfl) rfl rfl ?_
                        refine w_istore (p := 244) (pI pM_184 rfl) rfl rfl rfl ?_
                        refine w_iload (p := 246) (pI pM_184 rfl) rfl rfl ?_
                        refine w_if_lt (p := 249) (q := 256) (pI pM_184 rfl) rfl rfl rfl (fun c => ?_) (fun c => ?_)
                        · replace k := itp c k
                          refine w_aload_n (p := 257) (pI pM_184 rfl) rfl rfl ?_
                          refine w_iconst (p := 258) (v := nI 2) (pI pM_184 rfl) rfl rfl ?_
                          refine v_virtual (p := 261) (mj := 181) (pI pM_184 rfl) rfl rfl rfl rfl rfl rfl rfl rfl rfl rfl (by decide) (by decide) rfl ?_
                          refine d181_throwing (D181_throwing_mono k (fun v137 A138 I139 k => ?_))
                          exact w_ireturn (pI pM_184 rfl) rfl rfl rfl k
                        · replace k := itn c k
                          refine w_iload (p := 251) (pI pM_184 rfl) rfl rfl ?_
                          refine w_iload (p := 253) (pI pM_184 rfl) rfl rfl ?_
                          refine w_icmp_lt (p := 256) (q := 262) (pI pM_184 rfl) rfl rfl rfl (fun c => ?_) (fun c => ?_)
                          · replace k := itp c k
                            refine w_iload_n (p := 263) (pI pM_184 rfl) rfl rfl ?_
                            refine w_bipush (p := 265) (v := nI 22) (pI pM_184 rfl) rfl rfl ?_
                            refine w_icmp_ne (p := 268) (q := 294) (pI pM_184 rfl) rfl rfl rfl (fun c => ?_) (fun c => ?_)
                            · replace k := itn c k
                              refine w_aload_n (p := 295) (pI pM_184 rfl) rfl rfl ?_
                              refine v_getR (p := 298) (kf := 8) (pI pM_184 rfl) rfl rfl rfl (by decide) (by decide) rfl rfl ?_
                              refine w_aload_n (p := 299) (pI pM_184 rfl) rfl rfl ?_
                              refine v_getI (p := 302) (kf := 35) (pI pM_184 rfl) rfl rfl rfl (by decide) (by decide) rfl rfl rfl ?_
                              refine w_bipush (p := 304) (v := nI 10) (pI pM_184 rfl) rfl rfl ?_
                              refine w_iadd (p := 305) (pI pM_184 rfl) rfl ?_
                              refine w_iconst (p := 306) (v := nI 5) (pI pM_184 rfl) rfl rfl ?_
                              refine w_iload (p := 308) (pI pM_184 rfl) rfl rfl ?_
                              refine w_imul (p := 309) (pI pM_184 rfl) rfl ?_
                              refine w_iadd (p := 310) (pI pM_184 rfl) rfl ?_
                              refine w_iload (p := 312) (pI pM_184 rfl) rfl rfl ?_
                              refine w_iadd (p := 313) (pI pM_184 rfl) rfl ?_
                              refine w_aload_n (p := 314) (pI pM_184 rfl) rfl rfl ?_
                              refine w_iconst (p := 315) (v := nI 0) (pI pM_184 rfl) rfl rfl ?_
                              refine v_virtual (p := 318) (mj := 172) (pI pM_184 rfl) rfl rfl rfl rfl rfl rfl rfl rfl rfl rfl (by decide) (by decide) rfl ?_
                              refine d172_top (D172_top_mono k (fun v140 k => ?_))
                              obtain ⟨s141, k⟩ := k
                              refine s_iast (p := 319) (pI pM_184 rfl) rfl (by decide) (by decide) rfl s141 ?_
                              refine w_aload_n (p := 320) (pI pM_184 rfl) rfl rfl ?_
                              refine w_iconst (p := 321) (v := nI 3) (pI pM_184 rfl) rfl rfl ?_
                              refine w_bipush (p := 323) (v := -100) (pI pM_184 rfl) rfl rfl ?_
                              refine v_virtual (p := 326) (mj := 170) (pI pM_184 rfl) rfl rfl rfl rfl rfl rfl rfl rfl rfl rfl (by decide) (by decide) rfl ?_
                              refine d170_next (D170_next_mono k (fun v142 A143 I144 k => ?_))
                              exact w_ireturn (pI pM_184 rfl) rfl rfl rfl k
                            · replace k := itp (Decidable.not_not.mp c) k
                              refine w_aload_n (p := 269) (pI pM_184 rfl) rfl rfl ?_
                              refine w_iconst (p := 270) (v := nI 2) (pI pM_184 rfl) rfl rfl ?_
                              refine w_aload_n (p := 271) (pI pM_184 rfl) rfl rfl ?_
                              refine v_getR (p := 274) (kf := 8) (pI pM_184 rfl) rfl rfl rfl (by decide) (by decide) rfl rfl ?_
                              refine w_aload_n (p := 275) (pI pM_184 rfl) rfl rfl ?_
                              refine v_getI (p := 278) (kf := 35) (pI pM_184 rfl) rfl rfl rfl (by decide) (by decide) rfl rfl rfl ?_
                              refine w_bipush (p := 280) (v := nI 10) (pI pM_184 rfl) rfl rfl ?_
                              refine w_iadd (p := 281) (pI pM_184 rfl) rfl ?_
                              refine w_iconst (p := 282) (v := nI 5) (pI pM_184 rfl) rfl rfl ?_
                              refine w_iload (p := 284) (pI pM_184 rfl) rfl rfl ?_
                              refine w_imul (p := 285) (pI pM_184 rfl) rfl ?_
                              refine w_iadd (p := 286) (pI pM_184 rfl) rfl ?_
                              refine w_iload (p := 288) (pI pM_184 rfl) rfl rfl ?_
                              refine w_iadd (p := 289) (pI pM_184 rfl) rfl ?_
                              obtain ⟨s145, k⟩ := k
                              refine v_iald (p := 290) (pI pM_184 rfl) rfl (by decide) rfl s145 rfl ?_
                              refine v_virtual (p := 293) (mj := 170) (pI pM_184 rfl) rfl rfl rfl rfl rfl rfl rfl rfl rfl rfl (by decide) (by decide) rfl ?_
                              refine d170_next (D170_next_mono k (fun v146 A147 I148 k => ?_))
                              exact w_ireturn (pI pM_184 rfl) rfl rfl rfl k
                          · replace k := itn c k
                            refine w_aload_n (p := 257) (pI pM_184 rfl) rfl rfl ?_
                            refine w_iconst (p := 258) (v := nI 2) (pI pM_184 rfl) rfl rfl ?_
                            refine v_virtual (p := 261) (mj := 181) (pI pM_184 rfl) rfl rfl rfl rfl rfl rfl rfl rfl rfl rfl (by decide) (by decide) rfl ?_
                            refine d181_throwing (D181_throwing_mono k (fun v149 A150 I151 k => ?_))
                            exact w_ireturn (pI pM_184 rfl) rfl rfl rfl k
                      · replace k := itn c k
                        refine w_iload (p := 235) (pI pM_184 rfl) rfl rfl ?_
                        refine w_static (p := 238) (mj := 178) (pI pM_184 rfl) rfl rfl rfl rfl rfl rfl rfl rfl rfl ?_
                        refine d178_number (D178_number_mono k (fun v152 k => ?_))
                        refine w_goto (p := 242) (pI pM_184 rfl) rfl rfl ?_
                        refine w_istore (p := 244) (pI pM_184 rfl) rfl rfl rfl ?_
                        refine w_iload (p := 246) (pI pM_184 rfl) rfl rfl ?_
                        refine w_if_lt (p := 249) (q := 256) (pI pM_184 rfl) rfl rfl rfl (fun c => ?_) (fun c => ?_)
                        · replace k := itp c k
                          refine w_aload_n (p := 257) (pI pM_184 rfl) rfl rfl ?_
                          refine w_iconst (p := 258) (v := nI 2) (pI pM_184 rfl) rfl rfl ?_
                          refine v_virtual (p := 261) (mj := 181) (pI pM_184 rfl) rfl rfl rfl rfl rfl rfl rfl rfl rfl rfl (by decide) (by decide) rfl ?_
                          refine d181_throwing (D181_throwing_mono k (fun v153 A154 I155 k => ?_))
                          exact w_ireturn (pI pM_184 rfl) rfl rfl rfl k
                        · replace k := itn c k
                          refine w_iload (p := 251) (pI pM_184 rfl) rfl rfl ?_
                          refine w_iload (p := 253) (pI pM_184 rfl) rfl rfl ?_
                          refine w_icmp_lt (p := 256) (q := 262) (pI pM_184 rfl) rfl rfl rfl (fun c => ?_) (fun c => ?_)
                          · replace k := itp c k
                            refine w_iload_n (p := 263) (pI pM_184 rfl) rfl rfl ?_
                            refine w_bipush (p := 265) (v := nI 22) (pI pM_184 rfl) rfl rfl ?_
                            refine w_icmp_ne (p := 268) (q := 294) (pI pM_184 rfl) rfl rfl rfl (fun c => ?_) (fun c => ?_)
                            · replace k := itn c k
                              refine w_aload_n (p := 295) (pI pM_184 rfl) rfl rfl ?_
                              refine v_getR (p := 298) (kf := 8) (pI pM_184 rfl) rfl rfl rfl (by decide) (by decide) rfl rfl ?_
                              refine w_aload_n (p := 299) (pI pM_184 rfl) rfl rfl ?_
                              refine v_getI (p := 302) (kf := 35) (pI pM_184 rfl) rfl rfl rfl (by decide) (by decide) rfl rfl rfl ?_
                              refine w_bipush (p := 304) (v := nI 10) (pI pM_184 rfl) rfl rfl ?_
                              refine w_iadd (p := 305) (pI pM_184 rfl) rfl ?_
                              refine w_iconst (p := 306) (v := nI 5) (pI pM_184 rfl) rfl rfl ?_
                              refine w_iload (p := 308) (pI pM_184 rfl) rfl rfl ?_
                              refine w_imul (p := 309) (pI pM_184 rfl) rfl ?_
                              refine w_iadd (p := 310) (pI pM_184 rfl) rfl ?_
                              refine w_iload (p := 312) (pI pM_184 rfl) rfl rfl ?_
                              refine w_iadd (p := 313) (pI pM_184 rfl) rfl ?_
                              refine w_aload_n (p := 314) (pI pM_184 rfl) rfl rfl ?_
                              refine w_iconst (p := 315) (v := nI 0) (pI pM_184 rfl) rfl rfl ?_
                              refine v_virtual (p := 318) (mj := 172) (pI pM_184 rfl) rfl rfl rfl rfl rfl rfl rfl rfl rfl rfl (by decide) (by decide) rfl ?_
                              refine d172_top (D172_top_mono k (fun v156 k => ?_))
                              obtain ⟨s157, k⟩ := k
                              refine s_iast (p := 319) (pI pM_184 rfl) rfl (by decide) (by decide) rfl s157 ?_
                              refine w_aload_n (p := 320) (pI pM_184 rfl) rfl rfl ?_
                              refine w_iconst (p := 321) (v := nI 3) (pI pM_184 rfl) rfl rfl ?_
                              refine w_bipush (p := 323) (v := -100) (pI pM_184 rfl) rfl rfl ?_
                              refine v_virtual (p := 326) (mj := 170) (pI pM_184 rfl) rfl rfl rfl rfl rfl rfl rfl rfl rfl rfl (by decide) (by decide) rfl ?_
                              refine d170_next (D170_next_mono k (fun v158 A159 I160 k => ?_))
                              exact w_ireturn (pI pM_184 rfl) rfl rfl rfl k
                            · replace k := itp (Decidable.not_not.mp c) k
                              refine w_aload_n (p := 269) (pI pM_184 rfl) rfl rfl ?_
                              refine w_iconst (p := 270) (v := nI 2) (pI pM_184 rfl) rfl rfl ?_
                              refine w_aload_n (p := 271) (pI pM_184 rfl) rfl rfl ?_
                              refine v_getR (p := 274) (kf := 8) (pI pM_184 rfl) rfl rfl rfl (by decide) (by decide) rfl rfl ?_
                              refine w_aload_n (p := 275) (pI pM_184 rfl) rfl rfl ?_
                              refine v_getI (p := 278) (kf := 35) (pI pM_184 rfl) rfl rfl rfl (by decide) (by decide) rfl rfl rfl ?_
                              refine w_bipush (p := 280) (v := nI 10) (pI pM_184 rfl) rfl rfl ?_
                              refine w_iadd (p := 281) (pI pM_184 rfl) rfl ?_
                              refine w_iconst (p := 282) (v := nI 5) (pI pM_184 rfl) rfl rfl ?_
                              refine w_iload (p := 284) (pI pM_184 rfl) rfl rfl ?_
                              refine w_imul (p := 285) (pI pM_184 rfl) rfl ?_
                              refine w_iadd (p := 286) (pI pM_184 rfl) rfl ?_
                              refine w_iload (p := 288) (pI pM_184 rfl) rfl rfl ?_
                              refine w_iadd (p := 289) (pI pM_184 rfl) rfl ?_
                              obtain ⟨s161, k⟩ := k
                              refine v_iald (p := 290) (pI pM_184 rfl) rfl (by decide) rfl s161 rfl ?_
                              refine v_virtual (p := 293) (mj := 170) (pI pM_184 rfl) rfl rfl rfl rfl rfl rfl rfl rfl rfl rfl (by decide) (by decide) rfl ?_
                              refine d170_next (D170_next_mono k (fun v162 A163 I164 k => ?_))
                              exact w_ireturn (pI pM_184 rfl) rfl rfl rfl k
                          · replace k := itn c k
                            refine w_aload_n (p := 257) (pI pM_184 rfl) rfl rfl ?_
                            refine w_iconst (p := 258) (v := nI 2) (pI pM_184 rfl) rfl rfl ?_
                            refine v_virtual (p := 261) (mj := 181) (pI pM_184 rfl) rfl rfl rfl rfl rfl rfl rfl rfl rfl rfl (by decide) (by decide) rfl ?_
                            refine d181_throwing (D181_throwing_mono k (fun v165 A166 I167 k => ?_))
                            exact w_ireturn (pI pM_184 rfl) rfl rfl rfl k
                    · replace k := itp (Decidable.not_not.mp c) k
                      refine w_aload_n (p := 213) (pI pM_184 rfl) rfl rfl ?_
                      refine w_iload (p := 215) (pI pM_184 rfl) rfl rfl ?_
                      refine w_iconst (p := 216) (v := nI 1) (pI pM_184 rfl) rfl rfl ?_
                      refine w_iadd (p := 217) (pI pM_184 rfl) rfl ?_
                      refine w_iload (p := 219) (pI pM_184 rfl) rfl rfl ?_
                      refine w_iload (p := 221) (pI pM_184 rfl) rfl rfl ?_
                      refine v_virtual (p := 224) (mj := 180) (pI pM_184 rfl) rfl rfl rfl rfl rfl rfl rfl rfl rfl rfl (by decide) (by decide) rfl ?_
                      refine d180_splits (D180_splits_mono k (fun v168 A169 I170 k => ?_))
                      exact w_ireturn (pI pM_184 rfl) rfl rfl rfl k
                · replace k := itp (Decidable.not_not.mp c) k
                  refine w_aload_n (p := 156) (pI pM_184 rfl) rfl rfl ?_
                  refine w_iconst (p := 157) (v := nI 5) (pI pM_184 rfl) rfl rfl ?_
                  refine v_virtual (p := 160) (mj := 181) (pI pM_184 rfl) rfl rfl rfl rfl rfl rfl rfl rfl rfl rfl (by decide) (by decide) rfl ?_
                  refine d181_throwing (D181_throwing_mono k (fun v171 A172 I173 k => ?_))
                  exact w_ireturn (pI pM_184 rfl) rfl rfl rfl k
              · replace k := itp (Decidable.not_not.mp c) k
                refine w_aload_n (p := 139) (pI pM_184 rfl) rfl rfl ?_
                refine v_virtual (p := 142) (mj := 165) (pI pM_184 rfl) rfl rfl rfl rfl rfl rfl rfl rfl rfl rfl (by decide) (by decide) rfl ?_
                refine d165_broken (D165_broken_mono k (fun v174 A175 I176 k => ?_))
                exact w_ireturn (pI pM_184 rfl) rfl rfl rfl k
    · replace k := itp (Decidable.not_not.mp c) k
      refine w_iload_n (p := 20) (pI pM_184 rfl) rfl rfl ?_
      refine w_iconst (p := 21) (v := nI 1) (pI pM_184 rfl) rfl rfl ?_
      refine w_icmp_lt (p := 24) (q := 32) (pI pM_184 rfl) rfl rfl rfl (fun c => ?_) (fun c => ?_)
      · replace k := itp c k
        refine w_aload_n (p := 33) (pI pM_184 rfl) rfl rfl ?_
        refine v_virtual (p := 36) (mj := 165) (pI pM_184 rfl) rfl rfl rfl rfl rfl rfl rfl rfl rfl rfl (by decide) (by decide) rfl ?_
        refine d165_broken (D165_broken_mono k (fun v177 A178 I179 k => ?_))
        exact w_ireturn (pI pM_184 rfl) rfl rfl rfl k
      · replace k := itn c k
        refine w_aload_n (p := 25) (pI pM_184 rfl) rfl rfl ?_
        refine w_iconst (p := 26) (v := nI 0) (pI pM_184 rfl) rfl rfl ?_
        refine v_virtual (p := 29) (mj := 183) (pI pM_184 rfl) rfl rfl rfl rfl rfl rfl rfl rfl rfl rfl (by decide) (by decide) rfl ?_
        refine d183_isReference (D183_isReference_mono k (fun v180 k => ?_))
        refine w_if_ne (p := 32) (q := 37) (pI pM_184 rfl) rfl rfl rfl (fun c => ?_) (fun c => ?_)
        · replace k := itn c k
          refine w_aload_n (p := 38) (pI pM_184 rfl) rfl rfl ?_
          refine w_iconst (p := 39) (v := nI 0) (pI pM_184 rfl) rfl rfl ?_
          refine v_virtual (p := 42) (mj := 172) (pI pM_184 rfl) rfl rfl rfl rfl rfl rfl rfl rfl rfl rfl (by decide) (by decide) rfl ?_
          refine d172_top (D172_top_mono k (fun v181 k => ?_))
          refine w_iconst (p := 43) (v := -1) (pI pM_184 rfl) rfl rfl ?_
          refine w_icmp_ne (p := 46) (q := 54) (pI pM_184 rfl) rfl rfl rfl (fun c => ?_) (fun c => ?_)
          · replace k := itn c k
            refine w_aload_n (p := 55) (pI pM_184 rfl) rfl rfl ?_
            refine w_iconst (p := 56) (v := nI 1) (pI pM_184 rfl) rfl rfl ?_
            refine w_aload_n (p := 57) (pI pM_184 rfl) rfl rfl ?_
            refine v_getR (p := 60) (kf := 8) (pI pM_184 rfl) rfl rfl rfl (by decide) (by decide) rfl rfl ?_
            refine w_aload_n (p := 61) (pI pM_184 rfl) rfl rfl ?_
            refine v_getI (p := 64) (kf := 35) (pI pM_184 rfl) rfl rfl rfl (by decide) (by decide) rfl rfl rfl ?_
            refine w_bipush (p := 66) (v := nI 6) (pI pM_184 rfl) rfl rfl ?_
            refine w_iadd (p := 67) (pI pM_184 rfl) rfl ?_
            refine w_iconst (p := 68) (v := nI 2) (pI pM_184 rfl) rfl rfl ?_
            refine w_isub (p := 69) (pI pM_184 rfl) rfl ?_
            refine w_aload_n (p := 70) (pI pM_184 rfl) rfl rfl ?_
            refine w_iconst (p := 71) (v := nI 0) (pI pM_184 rfl) rfl rfl ?_
            refine v_virtual (p := 74) (mj := 172) (pI pM_184 rfl) rfl rfl rfl rfl rfl rfl rfl rfl rfl rfl (by decide) (by decide) rfl ?_
            refine d172_top (D172_top_mono k (fun v182 k => ?_))
            refine w_isub (p := 75) (pI pM_184 rfl) rfl ?_
            obtain ⟨s183, k⟩ := k
            refine v_iald (p := 76) (pI pM_184 rfl) rfl (by decide) rfl s183 rfl ?_
            refine w_static (p := 79) (mj := 168) (pI pM_184 rfl) rfl rfl rfl rfl rfl rfl rfl rfl rfl ?_
            refine d168_node (D168_node_mono k (fun v184 k => ?_))
            refine v_virtual (p := 82) (mj := 170) (pI pM_184 rfl) rfl rfl rfl rfl rfl rfl rfl rfl rfl rfl (by decide) (by decide) rfl ?_
            refine d170_next (D170_next_mono k (fun v185 A186 I187 k => ?_))
            exact w_ireturn (pI pM_184 rfl) rfl rfl rfl k
          · replace k := itp (Decidable.not_not.mp c) k
            refine w_aload_n (p := 47) (pI pM_184 rfl) rfl rfl ?_
            refine w_iconst (p := 48) (v := nI 5) (pI pM_184 rfl) rfl rfl ?_
            refine v_virtual (p := 51) (mj := 181) (pI pM_184 rfl) rfl rfl rfl rfl rfl rfl rfl rfl rfl rfl (by decide) (by decide) rfl ?_
            refine d181_throwing (D181_throwing_mono k (fun v188 A189 I190 k => ?_))
            refine w_goto (p := 82) (pI pM_184 rfl) rfl rfl ?_
            exact w_ireturn (pI pM_184 rfl) rfl rfl rfl k
        · replace k := itp (Decidable.not_not.mp c) k
          refine w_aload_n (p := 33) (pI pM_184 rfl) rfl rfl ?_
          refine v_virtual (p := 36) (mj := 165) (pI pM_184 rfl) rfl rfl rfl rfl rfl rfl rfl rfl rfl rfl (by decide) (by decide) rfl ?_
          refine d165_broken (D165_broken_mono k (fun v191 A192 I193 k => ?_))
          exact w_ireturn (pI pM_184 rfl) rfl rfl rfl k
  · replace k := itp (Decidable.not_not.mp c) k
    refine w_aload_n (p := 7) (pI pM_184 rfl) rfl rfl ?_
    refine w_iload_n (p := 8) (pI pM_184 rfl) rfl rfl ?_
    refine w_iload_n (p := 9) (pI pM_184 rfl) rfl rfl ?_
    refine v_virtual (p := 12) (mj := 185) (pI pM_184 rfl) rfl rfl rfl rfl rfl rfl rfl rfl rfl rfl (by decide) (by decide) rfl ?_
    refine d185_makes (D185_makes_mono k (fun v194 A195 I196 k => ?_))
    exact w_ireturn (pI pM_184 rfl) rfl rfl rfl k
set_option maxRecDepth 100000 in
set_option maxHeartbeats 4000000 in
theorem d186_calls {d L : Nat} {x : Int32} {y : Int32} {z : Int32} {A I : HA} {Q : bm_Q} (k : D186_calls x y z A I (fun v A I => Q (some (.int v)) (hp L A I))) : bm_M (d + 5) 186 [.ref 1681, .int x, .int y, .int z] (hp L A I) Q := by
  unfold D186_calls at k
  refine bw_enter rfl rfl rfl rfl ?_
  refine w_iload_n (p := 1) (pI pM_186 rfl) rfl rfl ?_
  by_cases c1_25 : x = nI 25
  · replace k := itp c1_25 k
    refine w_table (p := 32) (off := 31) (pI pM_186 rfl) (sw_at c1_25 (by decide)) rfl rfl ?_
    refine w_iload_n (p := 33) (pI pM_186 rfl) rfl rfl ?_
    refine w_aload_n (p := 34) (pI pM_186 rfl) rfl rfl ?_
    refine v_getI (p := 37) (kf := 1) (pI pM_186 rfl) rfl rfl rfl (by decide) (by decide) rfl rfl rfl ?_
    refine w_icmp_ge (p := 40) (q := 72) (pI pM_186 rfl) rfl rfl rfl (fun c => ?_) (fun c => ?_)
    · replace k := itn (Int32.not_lt.mpr c) k
      refine w_aload_n (p := 73) (pI pM_186 rfl) rfl rfl ?_
      refine v_virtual (p := 76) (mj := 165) (pI pM_186 rfl) rfl rfl rfl rfl rfl rfl rfl rfl rfl rfl (by decide) (by decide) rfl ?_
      refine d165_broken (D165_broken_mono k (fun v1 A2 I3 k => ?_))
      exact w_ireturn (pI pM_186 rfl) rfl rfl rfl k
    · replace k := itp (Int32.not_le.mp c) k
      refine w_aload_n (p := 41) (pI pM_186 rfl) rfl rfl ?_
      refine v_getR (p := 44) (kf := 3) (pI pM_186 rfl) rfl rfl rfl (by decide) (by decide) rfl rfl ?_
      refine w_iload_n (p := 45) (pI pM_186 rfl) rfl rfl ?_
      obtain ⟨s4, k⟩ := k
      refine v_iald (p := 46) (pI pM_186 rfl) rfl (by decide) rfl s4 rfl ?_
      refine w_if_eq (p := 49) (q := 72) (pI pM_186 rfl) rfl rfl rfl (fun c => ?_) (fun c => ?_)
      · replace k := itp c k
        refine w_aload_n (p := 73) (pI pM_186 rfl) rfl rfl ?_
        refine v_virtual (p := 76) (mj := 165) (pI pM_186 rfl) rfl rfl rfl rfl rfl rfl rfl rfl rfl rfl (by decide) (by decide) rfl ?_
        refine d165_broken (D165_broken_mono k (fun v5 A6 I7 k => ?_))
        exact w_ireturn (pI pM_186 rfl) rfl rfl rfl k
      · replace k := itn c k
        refine w_iload_n (p := 50) (pI pM_186 rfl) rfl rfl ?_
        refine w_aload_n (p := 51) (pI pM_186 rfl) rfl rfl ?_
        refine v_getR (p := 54) (kf := 2) (pI pM_186 rfl) rfl rfl rfl (by decide) (by decide) rfl rfl ?_
        refine w_iload_n (p := 55) (pI pM_186 rfl) rfl rfl ?_
        obtain ⟨s8, k⟩ := k
        refine v_iald (p := 56) (pI pM_186 rfl) rfl (by decide) rfl s8 rfl ?_
        refine w_icmp_lt (p := 59) (q := 72) (pI pM_186 rfl) rfl rfl rfl (fun c => ?_) (fun c => ?_)
        · replace k := itp c k
          refine w_aload_n (p := 73) (pI pM_186 rfl) rfl rfl ?_
          refine v_virtual (p := 76) (mj := 165) (pI pM_186 rfl) rfl rfl rfl rfl rfl rfl rfl rfl rfl rfl (by decide) (by decide) rfl ?_
          refine d165_broken (D165_broken_mono k (fun v9 A10 I11 k => ?_))
          exact w_ireturn (pI pM_186 rfl) rfl rfl rfl k
        · replace k := itn c k
          refine w_iload_n (p := 60) (pI pM_186 rfl) rfl rfl ?_
          refine w_aload_n (p := 61) (pI pM_186 rfl) rfl rfl ?_
          refine v_getR (p := 64) (kf := 2) (pI pM_186 rfl) rfl rfl rfl (by decide) (by decide) rfl rfl ?_
          refine w_iload_n (p := 65) (pI pM_186 rfl) rfl rfl ?_
          obtain ⟨s12, k⟩ := k
          refine v_iald (p := 66) (pI pM_186 rfl) rfl (by decide) rfl s12 rfl ?_
          refine w_isub (p := 67) (pI pM_186 rfl) rfl ?_
          refine w_bipush (p := 69) (v := nI 12) (pI pM_186 rfl) rfl rfl ?_
          refine w_icmp_ne (p := 72) (q := 77) (pI pM_186 rfl) rfl rfl rfl (fun c => ?_) (fun c => ?_)
          · replace k := itn c k
            refine w_aload_n (p := 78) (pI pM_186 rfl) rfl rfl ?_
            refine v_getR (p := 81) (kf := 8) (pI pM_186 rfl) rfl rfl rfl (by decide) (by decide) rfl rfl ?_
            refine w_aload_n (p := 82) (pI pM_186 rfl) rfl rfl ?_
            refine v_getI (p := 85) (kf := 35) (pI pM_186 rfl) rfl rfl rfl (by decide) (by decide) rfl rfl rfl ?_
            refine w_iconst (p := 86) (v := nI 0) (pI pM_186 rfl) rfl rfl ?_
            refine w_iadd (p := 87) (pI pM_186 rfl) rfl ?_
            obtain ⟨s13, k⟩ := k
            refine v_iald (p := 88) (pI pM_186 rfl) rfl (by decide) rfl s13 rfl ?_
            refine w_iconst (p := 89) (v := nI 4) (pI pM_186 rfl) rfl rfl ?_
            refine w_icmp_ne (p := 92) (q := 99) (pI pM_186 rfl) rfl rfl rfl (fun c => ?_) (fun c => ?_)
            · replace k := itn c k
              refine w_aload_n (p := 100) (pI pM_186 rfl) rfl rfl ?_
              refine v_getI (p := 103) (kf := 36) (pI pM_186 rfl) rfl rfl rfl (by decide) (by decide) rfl rfl rfl ?_
              refine w_istore (p := 105) (pI pM_186 rfl) rfl rfl rfl ?_
              refine w_aload_n (p := 106) (pI pM_186 rfl) rfl rfl ?_
              refine v_getR (p := 109) (kf := 2) (pI pM_186 rfl) rfl rfl rfl (by decide) (by decide) rfl rfl ?_
              refine w_iload_n (p := 110) (pI pM_186 rfl) rfl rfl ?_
              obtain ⟨s14, k⟩ := k
              refine v_iald (p := 111) (pI pM_186 rfl) rfl (by decide) rfl s14 rfl ?_
              refine w_istore (p := 113) (pI pM_186 rfl) rfl rfl rfl ?_
              refine w_aload_n (p := 114) (pI pM_186 rfl) rfl rfl ?_
              refine v_getR (p := 117) (kf := 8) (pI pM_186 rfl) rfl rfl rfl (by decide) (by decide) rfl rfl ?_
              refine w_iload (p := 119) (pI pM_186 rfl) rfl rfl ?_
              refine w_iconst (p := 120) (v := nI 2) (pI pM_186 rfl) rfl rfl ?_
              refine w_iadd (p := 121) (pI pM_186 rfl) rfl ?_
              refine w_dup2 (p := 122) (pI pM_186 rfl) rfl rfl rfl ?_
              obtain ⟨s15, k⟩ := k
              refine v_iald (p := 123) (pI pM_186 rfl) rfl (by decide) rfl s15 rfl ?_
              refine w_iload (p := 125) (pI pM_186 rfl) rfl rfl ?_
              refine w_isub (p := 126) (pI pM_186 rfl) rfl ?_
              obtain ⟨s16, k⟩ := k
              refine s_iast (p := 127) (pI pM_186 rfl) rfl (by decide) (by decide) rfl s16 ?_
              refine w_aload_n (p := 128) (pI pM_186 rfl) rfl rfl ?_
              refine w_iload_n (p := 129) (pI pM_186 rfl) rfl rfl ?_
              refine v_virtual (p := 132) (mj := 157) (pI pM_186 rfl) rfl rfl rfl rfl rfl rfl rfl rfl rfl rfl (by decide) (by decide) rfl ?_
              refine d157_enter (D157_enter_mono k (fun A17 I18 k => ?_))
              refine w_iconst (p := 133) (v := nI 0) (pI pM_186 rfl) rfl rfl ?_
              refine w_istore (p := 135) (pI pM_186 rfl) rfl rfl rfl ?_
              refine k (fun a20 A24 I25 => ∀ u21 u22 u23 : Value, bm_W (bm_M (d + 4)) 186 Q 135 [.ref 1681, u21, u22, u23, .int (I 1681 36), .int (A 1682 y.toNatClampNeg), .int a20] [] (hp L A24 I25)) (fun a20 A24 I25 k => ?_) _ _ _
              intro u21 u22 u23
              refine w_iload (p := 137) (pI pM_186 rfl) rfl rfl ?_
              refine w_iload (p := 139) (pI pM_186 rfl) rfl rfl ?_
              refine w_icmp_ge (p := 142) (q := 185) (pI pM_186 rfl) rfl rfl rfl (fun c => ?_) (fun c => ?_)
              · replace k := itn (Int32.not_lt.mpr c) k
                refine w_iconst (p := 186) (v := nI 0) (pI pM_186 rfl) rfl rfl ?_
                exact w_ireturn (pI pM_186 rfl) rfl rfl rfl k
              · replace k := itp (Int32.not_le.mp c) k
                refine w_aload_n (p := 143) (pI pM_186 rfl) rfl rfl ?_
                refine v_getR (p := 146) (kf := 8) (pI pM_186 rfl) rfl rfl rfl (by decide) (by decide) rfl rfl ?_
                refine w_aload_n (p := 147) (pI pM_186 rfl) rfl rfl ?_
                refine v_getI (p := 150) (kf := 36) (pI pM_186 rfl) rfl rfl rfl (by decide) (by decide) rfl rfl rfl ?_
                refine w_iconst (p := 151) (v := nI 3) (pI pM_186 rfl) rfl rfl ?_
                refine w_iadd (p := 152) (pI pM_186 rfl) rfl ?_
                refine w_iload (p := 154) (pI pM_186 rfl) rfl rfl ?_
                refine w_iadd (p := 155) (pI pM_186 rfl) rfl ?_
                refine w_aload_n (p := 156) (pI pM_186 rfl) rfl rfl ?_
                refine v_getR (p := 159) (kf := 8) (pI pM_186 rfl) rfl rfl rfl (by decide) (by decide) rfl rfl ?_
                refine w_iload (p := 161) (pI pM_186 rfl) rfl rfl ?_
                refine w_bipush (p := 163) (v := nI 9) (pI pM_186 rfl) rfl rfl ?_
                refine w_iadd (p := 164) (pI pM_186 rfl) rfl ?_
                refine w_aload_n (p := 165) (pI pM_186 rfl) rfl rfl ?_
                refine v_getR (p := 168) (kf := 8) (pI pM_186 rfl) rfl rfl rfl (by decide) (by decide) rfl rfl ?_
                refine w_iload (p := 170) (pI pM_186 rfl) rfl rfl ?_
                refine w_iconst (p := 171) (v := nI 2) (pI pM_186 rfl) rfl rfl ?_
                refine w_iadd (p := 172) (pI pM_186 rfl) rfl ?_
                obtain ⟨s27, k⟩ := k
                refine v_iald (p := 173) (pI pM_186 rfl) rfl (by decide) rfl s27 rfl ?_
                refine w_iadd (p := 174) (pI pM_186 rfl) rfl ?_
                refine w_iload (p := 176) (pI pM_186 rfl) rfl rfl ?_
                refine w_iadd (p := 177) (pI pM_186 rfl) rfl ?_
                obtain ⟨s28, k⟩ := k
                refine v_iald (p := 178) (pI pM_186 rfl) rfl (by decide) rfl s28 rfl ?_
                obtain ⟨s29, k⟩ := k
                refine s_iast (p := 179) (pI pM_186 rfl) rfl (by decide) (by decide) rfl s29 ?_
                refine w_iinc (p := 182) (v := (a20 + nI 1)) (pI pM_186 rfl) rfl rfl rfl rfl ?_
                refine w_goto (p := 135) (pI pM_186 rfl) rfl rfl ?_
                exact k _ _ _
            · replace k := itp (Decidable.not_not.mp c) k
              refine w_aload_n (p := 93) (pI pM_186 rfl) rfl rfl ?_
              refine w_bipush (p := 95) (v := nI 6) (pI pM_186 rfl) rfl rfl ?_
              refine v_virtual (p := 98) (mj := 181) (pI pM_186 rfl) rfl rfl rfl rfl rfl rfl rfl rfl rfl rfl (by decide) (by decide) rfl ?_
              refine d181_throwing (D181_throwing_mono k (fun v30 A31 I32 k => ?_))
              exact w_ireturn (pI pM_186 rfl) rfl rfl rfl k
          · replace k := itp (Decidable.not_not.mp c) k
            refine w_aload_n (p := 73) (pI pM_186 rfl) rfl rfl ?_
            refine v_virtual (p := 76) (mj := 165) (pI pM_186 rfl) rfl rfl rfl rfl rfl rfl rfl rfl rfl rfl (by decide) (by decide) rfl ?_
            refine d165_broken (D165_broken_mono k (fun v33 A34 I35 k => ?_))
            exact w_ireturn (pI pM_186 rfl) rfl rfl rfl k
  · replace k := itn c1_25 k
    by_cases c1_26 : x = nI 26
    · replace k := itp c1_26 k
      refine w_table (p := 187) (off := 186) (pI pM_186 rfl) (sw_at c1_26 (by decide)) rfl rfl ?_
      refine w_iload_n (p := 188) (pI pM_186 rfl) rfl rfl ?_
      refine w_iconst (p := 189) (v := nI 1) (pI pM_186 rfl) rfl rfl ?_
      refine w_icmp_ge (p := 192) (q := 197) (pI pM_186 rfl) rfl rfl rfl (fun c => ?_) (fun c => ?_)
      · replace k := itn (Int32.not_lt.mpr c) k
        refine w_aload_n (p := 198) (pI pM_186 rfl) rfl rfl ?_
        refine w_iconst (p := 199) (v := nI 0) (pI pM_186 rfl) rfl rfl ?_
        refine v_virtual (p := 202) (mj := 172) (pI pM_186 rfl) rfl rfl rfl rfl rfl rfl rfl rfl rfl rfl (by decide) (by decide) rfl ?_
        refine d172_top (D172_top_mono k (fun v36 k => ?_))
        refine w_istore (p := 204) (pI pM_186 rfl) rfl rfl rfl ?_
        refine w_aload_n (p := 205) (pI pM_186 rfl) rfl rfl ?_
        refine v_getR (p := 208) (kf := 8) (pI pM_186 rfl) rfl rfl rfl (by decide) (by decide) rfl rfl ?_
        refine w_aload_n (p := 209) (pI pM_186 rfl) rfl rfl ?_
        refine v_getI (p := 212) (kf := 35) (pI pM_186 rfl) rfl rfl rfl (by decide) (by decide) rfl rfl rfl ?_
        refine w_iconst (p := 213) (v := nI 0) (pI pM_186 rfl) rfl rfl ?_
        refine w_iadd (p := 214) (pI pM_186 rfl) rfl ?_
        obtain ⟨s37, k⟩ := k
        refine v_iald (p := 215) (pI pM_186 rfl) rfl (by decide) rfl s37 rfl ?_
        refine w_iconst (p := 216) (v := nI 1) (pI pM_186 rfl) rfl rfl ?_
        refine w_icmp_ne (p := 219) (q := 254) (pI pM_186 rfl) rfl rfl rfl (fun c => ?_) (fun c => ?_)
        · replace k := itn c k
          refine w_aload_n (p := 255) (pI pM_186 rfl) rfl rfl ?_
          refine v_getR (p := 258) (kf := 8) (pI pM_186 rfl) rfl rfl rfl (by decide) (by decide) rfl rfl ?_
          refine w_aload_n (p := 259) (pI pM_186 rfl) rfl rfl ?_
          refine v_getI (p := 262) (kf := 35) (pI pM_186 rfl) rfl rfl rfl (by decide) (by decide) rfl rfl rfl ?_
          refine w_iconst (p := 263) (v := nI 0) (pI pM_186 rfl) rfl rfl ?_
          refine w_iadd (p := 264) (pI pM_186 rfl) rfl ?_
          refine w_dup2 (p := 265) (pI pM_186 rfl) rfl rfl rfl ?_
          obtain ⟨s38, k⟩ := k
          refine v_iald (p := 266) (pI pM_186 rfl) rfl (by decide) rfl s38 rfl ?_
          refine w_iconst (p := 267) (v := nI 1) (pI pM_186 rfl) rfl rfl ?_
          refine w_isub (p := 268) (pI pM_186 rfl) rfl ?_
          obtain ⟨s39, k⟩ := k
          refine s_iast (p := 269) (pI pM_186 rfl) rfl (by decide) (by decide) rfl s39 ?_
          refine w_aload_n (p := 270) (pI pM_186 rfl) rfl rfl ?_
          refine v_virtual (p := 273) (mj := 158) (pI pM_186 rfl) rfl rfl rfl rfl rfl rfl rfl rfl rfl rfl (by decide) (by decide) rfl ?_
          refine d158_frame (D158_frame_mono k (fun A40 I41 k => ?_))
          refine w_aload_n (p := 274) (pI pM_186 rfl) rfl rfl ?_
          refine w_iconst (p := 275) (v := nI 0) (pI pM_186 rfl) rfl rfl ?_
          refine w_iload (p := 277) (pI pM_186 rfl) rfl rfl ?_
          refine v_virtual (p := 280) (mj := 170) (pI pM_186 rfl) rfl rfl rfl rfl rfl rfl rfl rfl rfl rfl (by decide) (by decide) rfl ?_
          refine d170_next (D170_next_mono k (fun v42 A43 I44 k => ?_))
          exact w_ireturn (pI pM_186 rfl) rfl rfl rfl k
        · replace k := itp (Decidable.not_not.mp c) k
          refine w_aload_n (p := 220) (pI pM_186 rfl) rfl rfl ?_
          refine v_getR (p := 223) (kf := 8) (pI pM_186 rfl) rfl rfl rfl (by decide) (by decide) rfl rfl ?_
          refine w_aload_n (p := 224) (pI pM_186 rfl) rfl rfl ?_
          refine v_getI (p := 227) (kf := 35) (pI pM_186 rfl) rfl rfl rfl (by decide) (by decide) rfl rfl rfl ?_
          refine w_sipush (p := 230) (v := nI 517) (pI pM_186 rfl) rfl rfl ?_
          refine w_iadd (p := 231) (pI pM_186 rfl) rfl ?_
          refine w_iload (p := 233) (pI pM_186 rfl) rfl rfl ?_
          obtain ⟨s45, k⟩ := k
          refine s_iast (p := 234) (pI pM_186 rfl) rfl (by decide) (by decide) rfl s45 ?_
          refine w_aload_n (p := 235) (pI pM_186 rfl) rfl rfl ?_
          refine w_iload (p := 237) (pI pM_186 rfl) rfl rfl ?_
          refine w_if_ge (p := 240) (q := 244) (pI pM_186 rfl) rfl rfl rfl (fun c => ?_) (fun c => ?_)
          · replace k := itn (Int32.not_lt.mpr c) k
            refine w_iconst (p := 245) (v := nI 1) (pI pM_186 rfl) rfl rfl ?_
            refine w_aload_n (p := 246) (pI pM_186 rfl) rfl rfl ?_
            refine v_virtual (p := 249) (mj := 166) (pI pM_186 rfl) rfl rfl rfl rfl rfl rfl rfl rfl rfl rfl (by decide) (by decide) rfl ?_
            refine d166_place (D166_place_mono k (fun v46 k => ?_))
            refine w_iconst (p := 250) (v := nI 0) (pI pM_186 rfl) rfl rfl ?_
            refine v_virtual (p := 253) (mj := 167) (pI pM_186 rfl) rfl rfl rfl rfl rfl rfl rfl rfl rfl rfl (by decide) (by decide) rfl ?_
            refine d167_ends (D167_ends_mono k (fun v47 A48 I49 k => ?_))
            exact w_ireturn (pI pM_186 rfl) rfl rfl rfl k
          · replace k := itp (Int32.not_le.mp c) k
            refine w_iconst (p := 241) (v := nI 2) (pI pM_186 rfl) rfl rfl ?_
            refine w_goto (p := 245) (pI pM_186 rfl) rfl rfl ?_
            refine w_aload_n (p := 246) (pI pM_186 rfl) rfl rfl ?_
            refine v_virtual (p := 249) (mj := 166) (pI pM_186 rfl) rfl rfl rfl rfl rfl rfl rfl rfl rfl rfl (by decide) (by decide) rfl ?_
            refine d166_place (D166_place_mono k (fun v50 k => ?_))
            refine w_iconst (p := 250) (v := nI 0) (pI pM_186 rfl) rfl rfl ?_
            refine v_virtual (p := 253) (mj := 167) (pI pM_186 rfl) rfl rfl rfl rfl rfl rfl rfl rfl rfl rfl (by decide) (by decide) rfl ?_
            refine d167_ends (D167_ends_mono k (fun v51 A52 I53 k => ?_))
            exact w_ireturn (pI pM_186 rfl) rfl rfl rfl k
      · replace k := itp (Int32.not_le.mp c) k
        refine w_aload_n (p := 193) (pI pM_186 rfl) rfl rfl ?_
        refine v_virtual (p := 196) (mj := 165) (pI pM_186 rfl) rfl rfl rfl rfl rfl rfl rfl rfl rfl rfl (by decide) (by decide) rfl ?_
        refine d165_broken (D165_broken_mono k (fun v54 A55 I56 k => ?_))
        exact w_ireturn (pI pM_186 rfl) rfl rfl rfl k
    · replace k := itn c1_26 k
      by_cases c1_27 : x = nI 27
      · replace k := itp c1_27 k
        refine w_table (p := 281) (off := 280) (pI pM_186 rfl) (sw_at c1_27 (by decide)) rfl rfl ?_
        refine w_aload_n (p := 282) (pI pM_186 rfl) rfl rfl ?_
        refine w_iload_n (p := 283) (pI pM_186 rfl) rfl rfl ?_
        refine v_virtual (p := 286) (mj := 181) (pI pM_186 rfl) rfl rfl rfl rfl rfl rfl rfl rfl rfl rfl (by decide) (by decide) rfl ?_
        refine d181_throwing (D181_throwing_mono k (fun v57 A58 I59 k => ?_))
        exact w_ireturn (pI pM_186 rfl) rfl rfl rfl k
      · replace k := itn c1_27 k
        by_cases c1_28 : x = nI 28
        · replace k := itp c1_28 k
          refine w_table (p := 287) (off := 286) (pI pM_186 rfl) (sw_at c1_28 (by decide)) rfl rfl ?_
          refine w_iload_n (p := 288) (pI pM_186 rfl) rfl rfl ?_
          refine w_bipush (p := 290) (v := nI 12) (pI pM_186 rfl) rfl rfl ?_
          refine w_icmp_ne (p := 293) (q := 300) (pI pM_186 rfl) rfl rfl rfl (fun c => ?_) (fun c => ?_)
          · replace k := itn c k
            refine w_aload_n (p := 301) (pI pM_186 rfl) rfl rfl ?_
            refine w_iconst (p := 302) (v := nI 0) (pI pM_186 rfl) rfl rfl ?_
            refine w_iconst (p := 303) (v := -1) (pI pM_186 rfl) rfl rfl ?_
            refine v_virtual (p := 306) (mj := 170) (pI pM_186 rfl) rfl rfl rfl rfl rfl rfl rfl rfl rfl rfl (by decide) (by decide) rfl ?_
            refine d170_next (D170_next_mono k (fun v60 A61 I62 k => ?_))
            exact w_ireturn (pI pM_186 rfl) rfl rfl rfl k
          · replace k := itp (Decidable.not_not.mp c) k
            refine w_aload_n (p := 294) (pI pM_186 rfl) rfl rfl ?_
            refine v_virtual (p := 297) (mj := 165) (pI pM_186 rfl) rfl rfl rfl rfl rfl rfl rfl rfl rfl rfl (by decide) (by decide) rfl ?_
            refine d165_broken (D165_broken_mono k (fun v63 A64 I65 k => ?_))
            refine w_goto (p := 306) (pI pM_186 rfl) rfl rfl ?_
            exact w_ireturn (pI pM_186 rfl) rfl rfl rfl k
        · replace k := itn c1_28 k
          refine w_table (p := 307) (off := 306) (pI pM_186 rfl) (by have e25 := neT 25 (by decide) c1_25; have e26 := neT 26 (by decide) c1_26; have e27 := neT 27 (by decide) c1_27; have e28 := neT 28 (by decide) c1_28; exact sw_df (fun h1 h2 => by omega)) rfl rfl ?_
          refine w_iload_n (p := 308) (pI pM_186 rfl) rfl rfl ?_
          refine w_if_eq (p := 311) (q := 323) (pI pM_186 rfl) rfl rfl rfl (fun c => ?_) (fun c => ?_)
          · replace k := itp c k
            refine w_iload_n (p := 324) (pI pM_186 rfl) rfl rfl ?_
            refine w_iconst (p := 325) (v := nI 1) (pI pM_186 rfl) rfl rfl ?_
            refine w_icmp_lt (p := 328) (q := 336) (pI pM_186 rfl) rfl rfl rfl (fun c => ?_) (fun c => ?_)
            · replace k := itp c k
              refine w_aload_n (p := 337) (pI pM_186 rfl) rfl rfl ?_
              refine v_virtual (p := 340) (mj := 165) (pI pM_186 rfl) rfl rfl rfl rfl rfl rfl rfl rfl rfl rfl (by decide) (by decide) rfl ?_
              refine d165_broken (D165_broken_mono k (fun v66 A67 I68 k => ?_))
              refine w_goto (p := 356) (pI pM_186 rfl) rfl rfl ?_
              exact w_ireturn (pI pM_186 rfl) rfl rfl rfl k
            · replace k := itn c k
              refine w_aload_n (p := 329) (pI pM_186 rfl) rfl rfl ?_
              refine w_iconst (p := 330) (v := nI 0) (pI pM_186 rfl) rfl rfl ?_
              refine v_virtual (p := 333) (mj := 174) (pI pM_186 rfl) rfl rfl rfl rfl rfl rfl rfl rfl rfl rfl (by decide) (by decide) rfl ?_
              refine d174_isWord (D174_isWord_mono k (fun v69 k => ?_))
              refine w_if_ne (p := 336) (q := 343) (pI pM_186 rfl) rfl rfl rfl (fun c => ?_) (fun c => ?_)
              · replace k := itn c k
                refine w_aload_n (p := 344) (pI pM_186 rfl) rfl rfl ?_
                refine w_bipush (p := 346) (v := nI 29) (pI pM_186 rfl) rfl rfl ?_
                refine w_aload_n (p := 347) (pI pM_186 rfl) rfl rfl ?_
                refine w_iconst (p := 348) (v := nI 0) (pI pM_186 rfl) rfl rfl ?_
                refine v_virtual (p := 351) (mj := 172) (pI pM_186 rfl) rfl rfl rfl rfl rfl rfl rfl rfl rfl rfl (by decide) (by decide) rfl ?_
                refine d172_top (D172_top_mono k (fun v70 k => ?_))
                refine w_iconst (p := 352) (v := -1) (pI pM_186 rfl) rfl rfl ?_
                refine w_iconst (p := 353) (v := nI 1) (pI pM_186 rfl) rfl rfl ?_
                refine v_virtual (p := 356) (mj := 175) (pI pM_186 rfl) rfl rfl rfl rfl rfl rfl rfl rfl rfl rfl (by decide) (by decide) rfl ?_
                refine d175_reckons (D175_reckons_mono k (fun v71 A72 I73 k => ?_))
                exact w_ireturn (pI pM_186 rfl) rfl rfl rfl k
              · replace k := itp (Decidable.not_not.mp c) k
                refine w_aload_n (p := 337) (pI pM_186 rfl) rfl rfl ?_
                refine v_virtual (p := 340) (mj := 165) (pI pM_186 rfl) rfl rfl rfl rfl rfl rfl rfl rfl rfl rfl (by decide) (by decide) rfl ?_
                refine d165_broken (D165_broken_mono k (fun v74 A75 I76 k => ?_))
                refine w_goto (p := 356) (pI pM_186 rfl) rfl rfl ?_
                exact w_ireturn (pI pM_186 rfl) rfl rfl rfl k
          · replace k := itn c k
            refine w_aload_n (p := 312) (pI pM_186 rfl) rfl rfl ?_
            refine w_bipush (p := 314) (v := nI 6) (pI pM_186 rfl) rfl rfl ?_
            refine w_aload_n (p := 315) (pI pM_186 rfl) rfl rfl ?_
            refine v_virtual (p := 318) (mj := 166) (pI pM_186 rfl) rfl rfl rfl rfl rfl rfl rfl rfl rfl rfl (by decide) (by decide) rfl ?_
            refine d166_place (D166_place_mono k (fun v77 k => ?_))
            refine w_iconst (p := 319) (v := nI 0) (pI pM_186 rfl) rfl rfl ?_
            refine v_virtual (p := 322) (mj := 167) (pI pM_186 rfl) rfl rfl rfl rfl rfl rfl rfl rfl rfl rfl (by decide) (by decide) rfl ?_
            refine d167_ends (D167_ends_mono k (fun v78 A79 I80 k => ?_))
            exact w_ireturn (pI pM_186 rfl) rfl rfl rfl k
set_option maxRecDepth 100000 in
set_option maxHeartbeats 4000000 in
theorem d163_operate {d L : Nat} {x : Int32} {A I : HA} {Q : bm_Q} (k : D163_operate x A I (fun v A I => Q (some (.int v)) (hp L A I))) : bm_M (d + 6) 163 [.ref 1681, .int x] (hp L A I) Q := by
  unfold D163_operate at k
  refine bw_enter rfl rfl rfl rfl ?_
  refine w_aload_n (p := 1) (pI pM_163 rfl) rfl rfl ?_
  refine v_getR (p := 4) (kf := 4) (pI pM_163 rfl) rfl rfl rfl (by decide) (by decide) rfl rfl ?_
  refine w_bipush (p := 6) (v := nI 40) (pI pM_163 rfl) rfl rfl ?_
  refine w_aload_n (p := 7) (pI pM_163 rfl) rfl rfl ?_
  refine v_getR (p := 10) (kf := 8) (pI pM_163 rfl) rfl rfl rfl (by decide) (by decide) rfl rfl ?_
  refine w_aload_n (p := 11) (pI pM_163 rfl) rfl rfl ?_
  refine v_getI (p := 14) (kf := 36) (pI pM_163 rfl) rfl rfl rfl (by decide) (by decide) rfl rfl rfl ?_
  refine w_iconst (p := 15) (v := nI 0) (pI pM_163 rfl) rfl rfl ?_
  refine w_iadd (p := 16) (pI pM_163 rfl) rfl ?_
  obtain ⟨s1, k⟩ := k
  refine v_iald (p := 17) (pI pM_163 rfl) rfl (by decide) rfl s1 rfl ?_
  refine w_imul (p := 18) (pI pM_163 rfl) rfl ?_
  refine w_aload_n (p := 19) (pI pM_163 rfl) rfl rfl ?_
  refine v_getR (p := 22) (kf := 8) (pI pM_163 rfl) rfl rfl rfl (by decide) (by decide) rfl rfl ?_
  refine w_aload_n (p := 23) (pI pM_163 rfl) rfl rfl ?_
  refine v_getI (p := 26) (kf := 36) (pI pM_163 rfl) rfl rfl rfl (by decide) (by decide) rfl rfl rfl ?_
  refine w_iconst (p := 27) (v := nI 1) (pI pM_163 rfl) rfl rfl ?_
  refine w_iadd (p := 28) (pI pM_163 rfl) rfl ?_
  obtain ⟨s2, k⟩ := k
  refine v_iald (p := 29) (pI pM_163 rfl) rfl (by decide) rfl s2 rfl ?_
  refine w_iadd (p := 30) (pI pM_163 rfl) rfl ?_
  obtain ⟨s3, k⟩ := k
  refine v_iald (p := 31) (pI pM_163 rfl) rfl (by decide) rfl s3 rfl ?_
  refine w_istore_n (p := 32) (pI pM_163 rfl) rfl rfl rfl ?_
  refine w_aload_n (p := 33) (pI pM_163 rfl) rfl rfl ?_
  refine v_getR (p := 36) (kf := 5) (pI pM_163 rfl) rfl rfl rfl (by decide) (by decide) rfl rfl ?_
  refine w_bipush (p := 38) (v := nI 40) (pI pM_163 rfl) rfl rfl ?_
  refine w_aload_n (p := 39) (pI pM_163 rfl) rfl rfl ?_
  refine v_getR (p := 42) (kf := 8) (pI pM_163 rfl) rfl rfl rfl (by decide) (by decide) rfl rfl ?_
  refine w_aload_n (p := 43) (pI pM_163 rfl) rfl rfl ?_
  refine v_getI (p := 46) (kf := 36) (pI pM_163 rfl) rfl rfl rfl (by decide) (by decide) rfl rfl rfl ?_
  refine w_iconst (p := 47) (v := nI 0) (pI pM_163 rfl) rfl rfl ?_
  refine w_iadd (p := 48) (pI pM_163 rfl) rfl ?_
  obtain ⟨s4, k⟩ := k
  refine v_iald (p := 49) (pI pM_163 rfl) rfl (by decide) rfl s4 rfl ?_
  refine w_imul (p := 50) (pI pM_163 rfl) rfl ?_
  refine w_aload_n (p := 51) (pI pM_163 rfl) rfl rfl ?_
  refine v_getR (p := 54) (kf := 8) (pI pM_163 rfl) rfl rfl rfl (by decide) (by decide) rfl rfl ?_
  refine w_aload_n (p := 55) (pI pM_163 rfl) rfl rfl ?_
  refine v_getI (p := 58) (kf := 36) (pI pM_163 rfl) rfl rfl rfl (by decide) (by decide) rfl rfl rfl ?_
  refine w_iconst (p := 59) (v := nI 1) (pI pM_163 rfl) rfl rfl ?_
  refine w_iadd (p := 60) (pI pM_163 rfl) rfl ?_
  obtain ⟨s5, k⟩ := k
  refine v_iald (p := 61) (pI pM_163 rfl) rfl (by decide) rfl s5 rfl ?_
  refine w_iadd (p := 62) (pI pM_163 rfl) rfl ?_
  obtain ⟨s6, k⟩ := k
  refine v_iald (p := 63) (pI pM_163 rfl) rfl (by decide) rfl s6 rfl ?_
  refine w_istore_n (p := 64) (pI pM_163 rfl) rfl rfl rfl ?_
  refine w_aload_n (p := 65) (pI pM_163 rfl) rfl rfl ?_
  refine v_getR (p := 68) (kf := 8) (pI pM_163 rfl) rfl rfl rfl (by decide) (by decide) rfl rfl ?_
  refine w_aload_n (p := 69) (pI pM_163 rfl) rfl rfl ?_
  refine v_getI (p := 72) (kf := 36) (pI pM_163 rfl) rfl rfl rfl (by decide) (by decide) rfl rfl rfl ?_
  refine w_iconst (p := 73) (v := nI 2) (pI pM_163 rfl) rfl rfl ?_
  refine w_iadd (p := 74) (pI pM_163 rfl) rfl ?_
  obtain ⟨s7, k⟩ := k
  refine v_iald (p := 75) (pI pM_163 rfl) rfl (by decide) rfl s7 rfl ?_
  refine w_istore (p := 77) (pI pM_163 rfl) rfl rfl rfl ?_
  refine w_iload_n (p := 78) (pI pM_163 rfl) rfl rfl ?_
  refine w_bipush (p := 80) (v := nI 6) (pI pM_163 rfl) rfl rfl ?_
  refine w_icmp_ge (p := 83) (q := 92) (pI pM_163 rfl) rfl rfl rfl (fun c => ?_) (fun c => ?_)
  · replace k := itn (Int32.not_lt.mpr c) k
    refine w_iload_n (p := 93) (pI pM_163 rfl) rfl rfl ?_
    refine w_bipush (p := 95) (v := nI 17) (pI pM_163 rfl) rfl rfl ?_
    refine w_icmp_ge (p := 98) (q := 107) (pI pM_163 rfl) rfl rfl rfl (fun c => ?_) (fun c => ?_)
    · replace k := itn (Int32.not_lt.mpr c) k
      refine w_iload_n (p := 108) (pI pM_163 rfl) rfl rfl ?_
      refine w_bipush (p := 110) (v := nI 21) (pI pM_163 rfl) rfl rfl ?_
      refine w_icmp_ge (p := 113) (q := 123) (pI pM_163 rfl) rfl rfl rfl (fun c => ?_) (fun c => ?_)
      · replace k := itn (Int32.not_lt.mpr c) k
        refine w_iload_n (p := 124) (pI pM_163 rfl) rfl rfl ?_
        refine w_bipush (p := 126) (v := nI 25) (pI pM_163 rfl) rfl rfl ?_
        refine w_icmp_ge (p := 129) (q := 138) (pI pM_163 rfl) rfl rfl rfl (fun c => ?_) (fun c => ?_)
        · replace k := itn (Int32.not_lt.mpr c) k
          refine w_aload_n (p := 139) (pI pM_163 rfl) rfl rfl ?_
          refine w_iload_n (p := 140) (pI pM_163 rfl) rfl rfl ?_
          refine w_iload_n (p := 141) (pI pM_163 rfl) rfl rfl ?_
          refine w_iload (p := 143) (pI pM_163 rfl) rfl rfl ?_
          refine v_virtual (p := 146) (mj := 186) (pI pM_163 rfl) rfl rfl rfl rfl rfl rfl rfl rfl rfl rfl (by decide) (by decide) rfl ?_
          refine d186_calls (D186_calls_mono k (fun v8 A9 I10 k => ?_))
          exact w_ireturn (pI pM_163 rfl) rfl rfl rfl k
        · replace k := itp (Int32.not_le.mp c) k
          refine w_aload_n (p := 130) (pI pM_163 rfl) rfl rfl ?_
          refine w_iload_n (p := 131) (pI pM_163 rfl) rfl rfl ?_
          refine w_iload (p := 133) (pI pM_163 rfl) rfl rfl ?_
          refine w_iload_n (p := 134) (pI pM_163 rfl) rfl rfl ?_
          refine v_virtual (p := 137) (mj := 184) (pI pM_163 rfl) rfl rfl rfl rfl rfl rfl rfl rfl rfl rfl (by decide) (by decide) rfl ?_
          refine d184_arrays (D184_arrays_mono k (fun v11 A12 I13 k => ?_))
          exact w_ireturn (pI pM_163 rfl) rfl rfl rfl k
      · replace k := itp (Int32.not_le.mp c) k
        refine w_aload_n (p := 114) (pI pM_163 rfl) rfl rfl ?_
        refine w_iload_n (p := 115) (pI pM_163 rfl) rfl rfl ?_
        refine w_iload_n (p := 116) (pI pM_163 rfl) rfl rfl ?_
        refine w_iload (p := 118) (pI pM_163 rfl) rfl rfl ?_
        refine w_iload_n (p := 119) (pI pM_163 rfl) rfl rfl ?_
        refine v_virtual (p := 122) (mj := 182) (pI pM_163 rfl) rfl rfl rfl rfl rfl rfl rfl rfl rfl rfl (by decide) (by decide) rfl ?_
        refine d182_jumps (D182_jumps_mono k (fun v14 A15 I16 k => ?_))
        exact w_ireturn (pI pM_163 rfl) rfl rfl rfl k
    · replace k := itp (Int32.not_le.mp c) k
      refine w_aload_n (p := 99) (pI pM_163 rfl) rfl rfl ?_
      refine w_iload_n (p := 100) (pI pM_163 rfl) rfl rfl ?_
      refine w_iload (p := 102) (pI pM_163 rfl) rfl rfl ?_
      refine w_iload_n (p := 103) (pI pM_163 rfl) rfl rfl ?_
      refine v_virtual (p := 106) (mj := 173) (pI pM_163 rfl) rfl rfl rfl rfl rfl rfl rfl rfl rfl rfl (by decide) (by decide) rfl ?_
      refine d173_words (D173_words_mono k (fun v17 A18 I19 k => ?_))
      exact w_ireturn (pI pM_163 rfl) rfl rfl rfl k
  · replace k := itp (Int32.not_le.mp c) k
    refine w_aload_n (p := 84) (pI pM_163 rfl) rfl rfl ?_
    refine w_iload_n (p := 85) (pI pM_163 rfl) rfl rfl ?_
    refine w_iload_n (p := 86) (pI pM_163 rfl) rfl rfl ?_
    refine w_iload (p := 88) (pI pM_163 rfl) rfl rfl ?_
    refine v_virtual (p := 91) (mj := 164) (pI pM_163 rfl) rfl rfl rfl rfl rfl rfl rfl rfl rfl rfl (by decide) (by decide) rfl ?_
    refine d164_moves (D164_moves_mono k (fun v20 A21 I22 k => ?_))
    exact w_ireturn (pI pM_163 rfl) rfl rfl rfl k
set_option maxRecDepth 100000 in
set_option maxHeartbeats 4000000 in
theorem d162_goOn {d L : Nat} {A I : HA} {Q : bm_Q} (k : D162_goOn A I (fun v A I => Q (some (.int v)) (hp L A I))) : bm_M (d + 7) 162 [.ref 1681] (hp L A I) Q := by
  unfold D162_goOn at k
  refine bw_enter rfl rfl rfl rfl ?_
  refine w_aload_n (p := 1) (pI pM_162 rfl) rfl rfl ?_
  refine v_virtual (p := 4) (mj := 158) (pI pM_162 rfl) rfl rfl rfl rfl rfl rfl rfl rfl rfl rfl (by decide) (by decide) rfl ?_
  refine d158_frame (D158_frame_mono k (fun A1 I2 k => ?_))
  refine w_iconst (p := 5) (v := nI 0) (pI pM_162 rfl) rfl rfl ?_
  refine w_istore_n (p := 6) (pI pM_162 rfl) rfl rfl rfl ?_
  refine w_aload_n (p := 7) (pI pM_162 rfl) rfl rfl ?_
  refine v_getR (p := 10) (kf := 8) (pI pM_162 rfl) rfl rfl rfl (by decide) (by decide) rfl rfl ?_
  refine w_aload_n (p := 11) (pI pM_162 rfl) rfl rfl ?_
  refine v_getI (p := 14) (kf := 35) (pI pM_162 rfl) rfl rfl rfl (by decide) (by decide) rfl rfl rfl ?_
  refine w_iconst (p := 15) (v := nI 3) (pI pM_162 rfl) rfl rfl ?_
  refine w_iadd (p := 16) (pI pM_162 rfl) rfl ?_
  obtain ⟨s3, k⟩ := k
  refine v_iald (p := 17) (pI pM_162 rfl) rfl (by decide) rfl s3 rfl ?_
  refine w_iconst (p := 18) (v := -1) (pI pM_162 rfl) rfl rfl ?_
  refine w_icmp_eq (p := 21) (q := 51) (pI pM_162 rfl) rfl rfl rfl (fun c => ?_) (fun c => ?_)
  · replace k := itp c k
    refine k (fun a5 A7 I8 => ∀ u6 : Value, bm_W (bm_M (d + 6)) 162 Q 51 [.ref 1681, .int a5, u6] [] (hp L A7 I8)) (fun a5 A7 I8 k => ?_) _
    intro u6
    refine w_iload_n (p := 52) (pI pM_162 rfl) rfl rfl ?_
    refine w_if_ne (p := 55) (q := 205) (pI pM_162 rfl) rfl rfl rfl (fun c => ?_) (fun c => ?_)
    · replace k := itn c k
      refine w_iload_n (p := 206) (pI pM_162 rfl) rfl rfl ?_
      exact w_ireturn (pI pM_162 rfl) rfl rfl rfl k
    · replace k := itp (Decidable.not_not.mp c) k
      refine w_aload_n (p := 56) (pI pM_162 rfl) rfl rfl ?_
      refine v_virtual (p := 59) (mj := 158) (pI pM_162 rfl) rfl rfl rfl rfl rfl rfl rfl rfl rfl rfl (by decide) (by decide) rfl ?_
      refine d158_frame (D158_frame_mono k (fun A10 I11 k => ?_))
      refine w_aload_n (p := 60) (pI pM_162 rfl) rfl rfl ?_
      refine v_getR (p := 63) (kf := 8) (pI pM_162 rfl) rfl rfl rfl (by decide) (by decide) rfl rfl ?_
      refine w_aload_n (p := 64) (pI pM_162 rfl) rfl rfl ?_
      refine v_getI (p := 67) (kf := 35) (pI pM_162 rfl) rfl rfl rfl (by decide) (by decide) rfl rfl rfl ?_
      refine w_iconst (p := 68) (v := nI 1) (pI pM_162 rfl) rfl rfl ?_
      refine w_iadd (p := 69) (pI pM_162 rfl) rfl ?_
      obtain ⟨s12, k⟩ := k
      refine v_iald (p := 70) (pI pM_162 rfl) rfl (by decide) rfl s12 rfl ?_
      refine w_aload_n (p := 71) (pI pM_162 rfl) rfl rfl ?_
      refine v_getI (p := 74) (kf := 18) (pI pM_162 rfl) rfl rfl rfl (by decide) (by decide) rfl rfl rfl ?_
      refine w_icmp_ne (p := 77) (q := 91) (pI pM_162 rfl) rfl rfl rfl (fun c => ?_) (fun c => ?_)
      · replace k := itn c k
        refine w_aload_n (p := 92) (pI pM_162 rfl) rfl rfl ?_
        refine v_getR (p := 95) (kf := 8) (pI pM_162 rfl) rfl rfl rfl (by decide) (by decide) rfl rfl ?_
        refine w_aload_n (p := 96) (pI pM_162 rfl) rfl rfl ?_
        refine v_getI (p := 99) (kf := 36) (pI pM_162 rfl) rfl rfl rfl (by decide) (by decide) rfl rfl rfl ?_
        refine w_iconst (p := 100) (v := nI 1) (pI pM_162 rfl) rfl rfl ?_
        refine w_iadd (p := 101) (pI pM_162 rfl) rfl ?_
        obtain ⟨s13, k⟩ := k
        refine v_iald (p := 102) (pI pM_162 rfl) rfl (by decide) rfl s13 rfl ?_
        refine w_aload_n (p := 103) (pI pM_162 rfl) rfl rfl ?_
        refine v_getR (p := 106) (kf := 3) (pI pM_162 rfl) rfl rfl rfl (by decide) (by decide) rfl rfl ?_
        refine w_aload_n (p := 107) (pI pM_162 rfl) rfl rfl ?_
        refine v_getR (p := 110) (kf := 8) (pI pM_162 rfl) rfl rfl rfl (by decide) (by decide) rfl rfl ?_
        refine w_aload_n (p := 111) (pI pM_162 rfl) rfl rfl ?_
        refine v_getI (p := 114) (kf := 36) (pI pM_162 rfl) rfl rfl rfl (by decide) (by decide) rfl rfl rfl ?_
        refine w_iconst (p := 115) (v := nI 0) (pI pM_162 rfl) rfl rfl ?_
        refine w_iadd (p := 116) (pI pM_162 rfl) rfl ?_
        obtain ⟨s14, k⟩ := k
        refine v_iald (p := 117) (pI pM_162 rfl) rfl (by decide) rfl s14 rfl ?_
        obtain ⟨s15, k⟩ := k
        refine v_iald (p := 118) (pI pM_162 rfl) rfl (by decide) rfl s15 rfl ?_
        refine w_icmp_lt (p := 121) (q := 129) (pI pM_162 rfl) rfl rfl rfl (fun c => ?_) (fun c => ?_)
        · replace k := itp c k
          refine w_aload_n (p := 130) (pI pM_162 rfl) rfl rfl ?_
          refine v_getR (p := 133) (kf := 8) (pI pM_162 rfl) rfl rfl rfl (by decide) (by decide) rfl rfl ?_
          refine w_aload_n (p := 134) (pI pM_162 rfl) rfl rfl ?_
          refine v_getI (p := 137) (kf := 35) (pI pM_162 rfl) rfl rfl rfl (by decide) (by decide) rfl rfl rfl ?_
          refine w_iconst (p := 138) (v := nI 1) (pI pM_162 rfl) rfl rfl ?_
          refine w_iadd (p := 139) (pI pM_162 rfl) rfl ?_
          refine w_dup2 (p := 140) (pI pM_162 rfl) rfl rfl rfl ?_
          obtain ⟨s16, k⟩ := k
          refine v_iald (p := 141) (pI pM_162 rfl) rfl (by decide) rfl s16 rfl ?_
          refine w_iconst (p := 142) (v := nI 1) (pI pM_162 rfl) rfl rfl ?_
          refine w_iadd (p := 143) (pI pM_162 rfl) rfl ?_
          obtain ⟨s17, k⟩ := k
          refine s_iast (p := 144) (pI pM_162 rfl) rfl (by decide) (by decide) rfl s17 ?_
          refine w_aload_n (p := 145) (pI pM_162 rfl) rfl rfl ?_
          refine v_getI (p := 148) (kf := 31) (pI pM_162 rfl) rfl rfl rfl (by decide) (by decide) rfl rfl rfl ?_
          refine w_if_eq (p := 151) (q := 196) (pI pM_162 rfl) rfl rfl rfl (fun c => ?_) (fun c => ?_)
          · replace k := itp c k
            refine w_aload_n (p := 197) (pI pM_162 rfl) rfl rfl ?_
            refine w_iconst (p := 198) (v := -1) (pI pM_162 rfl) rfl rfl ?_
            refine v_virtual (p := 201) (mj := 163) (pI pM_162 rfl) rfl rfl rfl rfl rfl rfl rfl rfl rfl rfl (by decide) (by decide) rfl ?_
            refine d163_operate (D163_operate_mono k (fun v18 A19 I20 k => ?_))
            refine w_istore_n (p := 202) (pI pM_162 rfl) rfl rfl rfl ?_
            refine w_goto (p := 51) (pI pM_162 rfl) rfl rfl ?_
            exact k _
          · replace k := itn c k
            refine w_aload_n (p := 152) (pI pM_162 rfl) rfl rfl ?_
            refine v_getR (p := 155) (kf := 29) (pI pM_162 rfl) rfl rfl rfl (by decide) (by decide) rfl rfl ?_
            refine w_bipush (p := 157) (v := nI 40) (pI pM_162 rfl) rfl rfl ?_
            refine w_aload_n (p := 158) (pI pM_162 rfl) rfl rfl ?_
            refine v_getR (p := 161) (kf := 8) (pI pM_162 rfl) rfl rfl rfl (by decide) (by decide) rfl rfl ?_
            refine w_aload_n (p := 162) (pI pM_162 rfl) rfl rfl ?_
            refine v_getI (p := 165) (kf := 36) (pI pM_162 rfl) rfl rfl rfl (by decide) (by decide) rfl rfl rfl ?_
            refine w_iconst (p := 166) (v := nI 0) (pI pM_162 rfl) rfl rfl ?_
            refine w_iadd (p := 167) (pI pM_162 rfl) rfl ?_
            obtain ⟨s21, k⟩ := k
            refine v_iald (p := 168) (pI pM_162 rfl) rfl (by decide) rfl s21 rfl ?_
            refine w_imul (p := 169) (pI pM_162 rfl) rfl ?_
            refine w_aload_n (p := 170) (pI pM_162 rfl) rfl rfl ?_
            refine v_getR (p := 173) (kf := 8) (pI pM_162 rfl) rfl rfl rfl (by decide) (by decide) rfl rfl ?_
            refine w_aload_n (p := 174) (pI pM_162 rfl) rfl rfl ?_
            refine v_getI (p := 177) (kf := 36) (pI pM_162 rfl) rfl rfl rfl (by decide) (by decide) rfl rfl rfl ?_
            refine w_iconst (p := 178) (v := nI 1) (pI pM_162 rfl) rfl rfl ?_
            refine w_iadd (p := 179) (pI pM_162 rfl) rfl ?_
            obtain ⟨s22, k⟩ := k
            refine v_iald (p := 180) (pI pM_162 rfl) rfl (by decide) rfl s22 rfl ?_
            refine w_iadd (p := 181) (pI pM_162 rfl) rfl ?_
            refine w_dup2 (p := 182) (pI pM_162 rfl) rfl rfl rfl ?_
            obtain ⟨s23, k⟩ := k
            refine v_iald (p := 183) (pI pM_162 rfl) rfl (by decide) rfl s23 rfl ?_
            refine w_iconst (p := 184) (v := nI 1) (pI pM_162 rfl) rfl rfl ?_
            refine w_iadd (p := 185) (pI pM_162 rfl) rfl ?_
            obtain ⟨s24, k⟩ := k
            refine s_iast (p := 186) (pI pM_162 rfl) rfl (by decide) (by decide) rfl s24 ?_
            refine w_aload_n (p := 187) (pI pM_162 rfl) rfl rfl ?_
            refine w_dup (p := 188) (pI pM_162 rfl) rfl rfl ?_
            refine v_getI (p := 191) (kf := 30) (pI pM_162 rfl) rfl rfl rfl (by decide) (by decide) rfl rfl rfl ?_
            refine w_iconst (p := 192) (v := nI 1) (pI pM_162 rfl) rfl rfl ?_
            refine w_iadd (p := 193) (pI pM_162 rfl) rfl ?_
            refine s_putI (p := 196) (kf := 30) (pI pM_162 rfl) rfl rfl rfl (by decide) (by decide) rfl rfl rfl rfl rfl rfl ?_
            refine w_aload_n (p := 197) (pI pM_162 rfl) rfl rfl ?_
            refine w_iconst (p := 198) (v := -1) (pI pM_162 rfl) rfl rfl ?_
            refine v_virtual (p := 201) (mj := 163) (pI pM_162 rfl) rfl rfl rfl rfl rfl rfl rfl rfl rfl rfl (by decide) (by decide) rfl ?_
            refine d163_operate (D163_operate_mono k (fun v25 A26 I27 k => ?_))
            refine w_istore_n (p := 202) (pI pM_162 rfl) rfl rfl rfl ?_
            refine w_goto (p := 51) (pI pM_162 rfl) rfl rfl ?_
            exact k _
        · replace k := itn c k
          refine w_aload_n (p := 122) (pI pM_162 rfl) rfl rfl ?_
          refine v_virtual (p := 125) (mj := 165) (pI pM_162 rfl) rfl rfl rfl rfl rfl rfl rfl rfl rfl rfl (by decide) (by decide) rfl ?_
          refine d165_broken (D165_broken_mono k (fun v28 A29 I30 k => ?_))
          refine w_istore_n (p := 126) (pI pM_162 rfl) rfl rfl rfl ?_
          refine w_goto (p := 51) (pI pM_162 rfl) rfl rfl ?_
          exact k _
      · replace k := itp (Decidable.not_not.mp c) k
        refine w_aload_n (p := 78) (pI pM_162 rfl) rfl rfl ?_
        refine w_iconst (p := 79) (v := nI 4) (pI pM_162 rfl) rfl rfl ?_
        refine w_aload_n (p := 80) (pI pM_162 rfl) rfl rfl ?_
        refine v_virtual (p := 83) (mj := 166) (pI pM_162 rfl) rfl rfl rfl rfl rfl rfl rfl rfl rfl rfl (by decide) (by decide) rfl ?_
        refine d166_place (D166_place_mono k (fun v31 k => ?_))
        refine w_iconst (p := 84) (v := nI 0) (pI pM_162 rfl) rfl rfl ?_
        refine v_virtual (p := 87) (mj := 167) (pI pM_162 rfl) rfl rfl rfl rfl rfl rfl rfl rfl rfl rfl (by decide) (by decide) rfl ?_
        refine d167_ends (D167_ends_mono k (fun v32 A33 I34 k => ?_))
        refine w_istore_n (p := 88) (pI pM_162 rfl) rfl rfl rfl ?_
        refine w_goto (p := 51) (pI pM_162 rfl) rfl rfl ?_
        exact k _
  · replace k := itn c k
    refine w_aload_n (p := 22) (pI pM_162 rfl) rfl rfl ?_
    refine v_getR (p := 25) (kf := 8) (pI pM_162 rfl) rfl rfl rfl (by decide) (by decide) rfl rfl ?_
    refine w_aload_n (p := 26) (pI pM_162 rfl) rfl rfl ?_
    refine v_getI (p := 29) (kf := 35) (pI pM_162 rfl) rfl rfl rfl (by decide) (by decide) rfl rfl rfl ?_
    refine w_iconst (p := 30) (v := nI 3) (pI pM_162 rfl) rfl rfl ?_
    refine w_iadd (p := 31) (pI pM_162 rfl) rfl ?_
    obtain ⟨s35, k⟩ := k
    refine v_iald (p := 32) (pI pM_162 rfl) rfl (by decide) rfl s35 rfl ?_
    refine w_istore_n (p := 33) (pI pM_162 rfl) rfl rfl rfl ?_
    refine w_aload_n (p := 34) (pI pM_162 rfl) rfl rfl ?_
    refine v_getR (p := 37) (kf := 8) (pI pM_162 rfl) rfl rfl rfl (by decide) (by decide) rfl rfl ?_
    refine w_aload_n (p := 38) (pI pM_162 rfl) rfl rfl ?_
    refine v_getI (p := 41) (kf := 35) (pI pM_162 rfl) rfl rfl rfl (by decide) (by decide) rfl rfl rfl ?_
    refine w_iconst (p := 42) (v := nI 3) (pI pM_162 rfl) rfl rfl ?_
    refine w_iadd (p := 43) (pI pM_162 rfl) rfl ?_
    refine w_iconst (p := 44) (v := -1) (pI pM_162 rfl) rfl rfl ?_
    obtain ⟨s36, k⟩ := k
    refine s_iast (p := 45) (pI pM_162 rfl) rfl (by decide) (by decide) rfl s36 ?_
    refine w_aload_n (p := 46) (pI pM_162 rfl) rfl rfl ?_
    refine w_iload_n (p := 47) (pI pM_162 rfl) rfl rfl ?_
    refine v_virtual (p := 50) (mj := 163) (pI pM_162 rfl) rfl rfl rfl rfl rfl rfl rfl rfl rfl rfl (by decide) (by decide) rfl ?_
    refine d163_operate (D163_operate_mono k (fun v37 A38 I39 k => ?_))
    refine w_istore_n (p := 51) (pI pM_162 rfl) rfl rfl rfl ?_
    refine k (fun a41 A43 I44 => ∀ u42 : Value, bm_W (bm_M (d + 6)) 162 Q 51 [.ref 1681, .int a41, u42] [] (hp L A43 I44)) (fun a41 A43 I44 k => ?_) _
    intro u42
    refine w_iload_n (p := 52) (pI pM_162 rfl) rfl rfl ?_
    refine w_if_ne (p := 55) (q := 205) (pI pM_162 rfl) rfl rfl rfl (fun c => ?_) (fun c => ?_)
    · replace k := itn c k
      refine w_iload_n (p := 206) (pI pM_162 rfl) rfl rfl ?_
      exact w_ireturn (pI pM_162 rfl) rfl rfl rfl k
    · replace k := itp (Decidable.not_not.mp c) k
      refine w_aload_n (p := 56) (pI pM_162 rfl) rfl rfl ?_
      refine v_virtual (p := 59) (mj := 158) (pI pM_162 rfl) rfl rfl rfl rfl rfl rfl rfl rfl rfl rfl (by decide) (by decide) rfl ?_
      refine d158_frame (D158_frame_mono k (fun A46 I47 k => ?_))
      refine w_aload_n (p := 60) (pI pM_162 rfl) rfl rfl ?_
      refine v_getR (p := 63) (kf := 8) (pI pM_162 rfl) rfl rfl rfl (by decide) (by decide) rfl rfl ?_
      refine w_aload_n (p := 64) (pI pM_162 rfl) rfl rfl ?_
      refine v_getI (p := 67) (kf := 35) (pI pM_162 rfl) rfl rfl rfl (by decide) (by decide) rfl rfl rfl ?_
      refine w_iconst (p := 68) (v := nI 1) (pI pM_162 rfl) rfl rfl ?_
      refine w_iadd (p := 69) (pI pM_162 rfl) rfl ?_
      obtain ⟨s48, k⟩ := k
      refine v_iald (p := 70) (pI pM_162 rfl) rfl (by decide) rfl s48 rfl ?_
      refine w_aload_n (p := 71) (pI pM_162 rfl) rfl rfl ?_
      refine v_getI (p := 74) (kf := 18) (pI pM_162 rfl) rfl rfl rfl (by decide) (by decide) rfl rfl rfl ?_
      refine w_icmp_ne (p := 77) (q := 91) (pI pM_162 rfl) rfl rfl rfl (fun c => ?_) (fun c => ?_)
      · replace k := itn c k
        refine w_aload_n (p := 92) (pI pM_162 rfl) rfl rfl ?_
        refine v_getR (p := 95) (kf := 8) (pI pM_162 rfl) rfl rfl rfl (by decide) (by decide) rfl rfl ?_
        refine w_aload_n (p := 96) (pI pM_162 rfl) rfl rfl ?_
        refine v_getI (p := 99) (kf := 36) (pI pM_162 rfl) rfl rfl rfl (by decide) (by decide) rfl rfl rfl ?_
        refine w_iconst (p := 100) (v := nI 1) (pI pM_162 rfl) rfl rfl ?_
        refine w_iadd (p := 101) (pI pM_162 rfl) rfl ?_
        obtain ⟨s49, k⟩ := k
        refine v_iald (p := 102) (pI pM_162 rfl) rfl (by decide) rfl s49 rfl ?_
        refine w_aload_n (p := 103) (pI pM_162 rfl) rfl rfl ?_
        refine v_getR (p := 106) (kf := 3) (pI pM_162 rfl) rfl rfl rfl (by decide) (by decide) rfl rfl ?_
        refine w_aload_n (p := 107) (pI pM_162 rfl) rfl rfl ?_
        refine v_getR (p := 110) (kf := 8) (pI pM_162 rfl) rfl rfl rfl (by decide) (by decide) rfl rfl ?_
        refine w_aload_n (p := 111) (pI pM_162 rfl) rfl rfl ?_
        refine v_getI (p := 114) (kf := 36) (pI pM_162 rfl) rfl rfl rfl (by decide) (by decide) rfl rfl rfl ?_
        refine w_iconst (p := 115) (v := nI 0) (pI pM_162 rfl) rfl rfl ?_
        refine w_iadd (p := 116) (pI pM_162 rfl) rfl ?_
        obtain ⟨s50, k⟩ := k
        refine v_iald (p := 117) (pI pM_162 rfl) rfl (by decide) rfl s50 rfl ?_
        obtain ⟨s51, k⟩ := k
        refine v_iald (p := 118) (pI pM_162 rfl) rfl (by decide) rfl s51 rfl ?_
        refine w_icmp_lt (p := 121) (q := 129) (pI pM_162 rfl) rfl rfl rfl (fun c => ?_) (fun c => ?_)
        · replace k := itp c k
          refine w_aload_n (p := 130) (pI pM_162 rfl) rfl rfl ?_
          refine v_getR (p := 133) (kf := 8) (pI pM_162 rfl) rfl rfl rfl (by decide) (by decide) rfl rfl ?_
          refine w_aload_n (p := 134) (pI pM_162 rfl) rfl rfl ?_
          refine v_getI (p := 137) (kf := 35) (pI pM_162 rfl) rfl rfl rfl (by decide) (by decide) rfl rfl rfl ?_
          refine w_iconst (p := 138) (v := nI 1) (pI pM_162 rfl) rfl rfl ?_
          refine w_iadd (p := 139) (pI pM_162 rfl) rfl ?_
          refine w_dup2 (p := 140) (pI pM_162 rfl) rfl rfl rfl ?_
          obtain ⟨s52, k⟩ := k
          refine v_iald (p := 141) (pI pM_162 rfl) rfl (by decide) rfl s52 rfl ?_
          refine w_iconst (p := 142) (v := nI 1) (pI pM_162 rfl) rfl rfl ?_
          refine w_iadd (p := 143) (pI pM_162 rfl) rfl ?_
          obtain ⟨s53, k⟩ := k
          refine s_iast (p := 144) (pI pM_162 rfl) rfl (by decide) (by decide) rfl s53 ?_
          refine w_aload_n (p := 145) (pI pM_162 rfl) rfl rfl ?_
          refine v_getI (p := 148) (kf := 31) (pI pM_162 rfl) rfl rfl rfl (by decide) (by decide) rfl rfl rfl ?_
          refine w_if_eq (p := 151) (q := 196) (pI pM_162 rfl) rfl rfl rfl (fun c => ?_) (fun c => ?_)
          · replace k := itp c k
            refine w_aload_n (p := 197) (pI pM_162 rfl) rfl rfl ?_
            refine w_iconst (p := 198) (v := -1) (pI pM_162 rfl) rfl rfl ?_
            refine v_virtual (p := 201) (mj := 163) (pI pM_162 rfl) rfl rfl rfl rfl rfl rfl rfl rfl rfl rfl (by decide) (by decide) rfl ?_
            refine d163_operate (D163_operate_mono k (fun v54 A55 I56 k => ?_))
            refine w_istore_n (p := 202) (pI pM_162 rfl) rfl rfl rfl ?_
            refine w_goto (p := 51) (pI pM_162 rfl) rfl rfl ?_
            exact k _
          · replace k := itn c k
            refine w_aload_n (p := 152) (pI pM_162 rfl) rfl rfl ?_
            refine v_getR (p := 155) (kf := 29) (pI pM_162 rfl) rfl rfl rfl (by decide) (by decide) rfl rfl ?_
            refine w_bipush (p := 157) (v := nI 40) (pI pM_162 rfl) rfl rfl ?_
            refine w_aload_n (p := 158) (pI pM_162 rfl) rfl rfl ?_
            refine v_getR (p := 161) (kf := 8) (pI pM_162 rfl) rfl rfl rfl (by decide) (by decide) rfl rfl ?_
            refine w_aload_n (p := 162) (pI pM_162 rfl) rfl rfl ?_
            refine v_getI (p := 165) (kf := 36) (pI pM_162 rfl) rfl rfl rfl (by decide) (by decide) rfl rfl rfl ?_
            refine w_iconst (p := 166) (v := nI 0) (pI pM_162 rfl) rfl rfl ?_
            refine w_iadd (p := 167) (pI pM_162 rfl) rfl ?_
            obtain ⟨s57, k⟩ := k
            refine v_iald (p := 168) (pI pM_162 rfl) rfl (by decide) rfl s57 rfl ?_
            refine w_imul (p := 169) (pI pM_162 rfl) rfl ?_
            refine w_aload_n (p := 170) (pI pM_162 rfl) rfl rfl ?_
            refine v_getR (p := 173) (kf := 8) (pI pM_162 rfl) rfl rfl rfl (by decide) (by decide) rfl rfl ?_
            refine w_aload_n (p := 174) (pI pM_162 rfl) rfl rfl ?_
            refine v_getI (p := 177) (kf := 36) (pI pM_162 rfl) rfl rfl rfl (by decide) (by decide) rfl rfl rfl ?_
            refine w_iconst (p := 178) (v := nI 1) (pI pM_162 rfl) rfl rfl ?_
            refine w_iadd (p := 179) (pI pM_162 rfl) rfl ?_
            obtain ⟨s58, k⟩ := k
            refine v_iald (p := 180) (pI pM_162 rfl) rfl (by decide) rfl s58 rfl ?_
            refine w_iadd (p := 181) (pI pM_162 rfl) rfl ?_
            refine w_dup2 (p := 182) (pI pM_162 rfl) rfl rfl rfl ?_
            obtain ⟨s59, k⟩ := k
            refine v_iald (p := 183) (pI pM_162 rfl) rfl (by decide) rfl s59 rfl ?_
            refine w_iconst (p := 184) (v := nI 1) (pI pM_162 rfl) rfl rfl ?_
            refine w_iadd (p := 185) (pI pM_162 rfl) rfl ?_
            obtain ⟨s60, k⟩ := k
            refine s_iast (p := 186) (pI pM_162 rfl) rfl (by decide) (by decide) rfl s60 ?_
            refine w_aload_n (p := 187) (pI pM_162 rfl) rfl rfl ?_
            refine w_dup (p := 188) (pI pM_162 rfl) rfl rfl ?_
            refine v_getI (p := 191) (kf := 30) (pI pM_162 rfl) rfl rfl rfl (by decide) (by decide) rfl rfl rfl ?_
            refine w_iconst (p := 192) (v := nI 1) (pI pM_162 rfl) rfl rfl ?_
            refine w_iadd (p := 193) (pI pM_162 rfl) rfl ?_
            refine s_putI (p := 196) (kf := 30) (pI pM_162 rfl) rfl rfl rfl (by decide) (by decide) rfl rfl rfl rfl rfl rfl ?_
            refine w_aload_n (p := 197) (pI pM_162 rfl) rfl rfl ?_
            refine w_iconst (p := 198) (v := -1) (pI pM_162 rfl) rfl rfl ?_
            refine v_virtual (p := 201) (mj := 163) (pI pM_162 rfl) rfl rfl rfl rfl rfl rfl rfl rfl rfl rfl (by decide) (by decide) rfl ?_
            refine d163_operate (D163_operate_mono k (fun v61 A62 I63 k => ?_))
            refine w_istore_n (p := 202) (pI pM_162 rfl) rfl rfl rfl ?_
            refine w_goto (p := 51) (pI pM_162 rfl) rfl rfl ?_
            exact k _
        · replace k := itn c k
          refine w_aload_n (p := 122) (pI pM_162 rfl) rfl rfl ?_
          refine v_virtual (p := 125) (mj := 165) (pI pM_162 rfl) rfl rfl rfl rfl rfl rfl rfl rfl rfl rfl (by decide) (by decide) rfl ?_
          refine d165_broken (D165_broken_mono k (fun v64 A65 I66 k => ?_))
          refine w_istore_n (p := 126) (pI pM_162 rfl) rfl rfl rfl ?_
          refine w_goto (p := 51) (pI pM_162 rfl) rfl rfl ?_
          exact k _
      · replace k := itp (Decidable.not_not.mp c) k
        refine w_aload_n (p := 78) (pI pM_162 rfl) rfl rfl ?_
        refine w_iconst (p := 79) (v := nI 4) (pI pM_162 rfl) rfl rfl ?_
        refine w_aload_n (p := 80) (pI pM_162 rfl) rfl rfl ?_
        refine v_virtual (p := 83) (mj := 166) (pI pM_162 rfl) rfl rfl rfl rfl rfl rfl rfl rfl rfl rfl (by decide) (by decide) rfl ?_
        refine d166_place (D166_place_mono k (fun v67 k => ?_))
        refine w_iconst (p := 84) (v := nI 0) (pI pM_162 rfl) rfl rfl ?_
        refine v_virtual (p := 87) (mj := 167) (pI pM_162 rfl) rfl rfl rfl rfl rfl rfl rfl rfl rfl rfl (by decide) (by decide) rfl ?_
        refine d167_ends (D167_ends_mono k (fun v68 A69 I70 k => ?_))
        refine w_istore_n (p := 88) (pI pM_162 rfl) rfl rfl rfl ?_
        refine w_goto (p := 51) (pI pM_162 rfl) rfl rfl ?_
        exact k _
set_option maxRecDepth 100000 in
set_option maxHeartbeats 4000000 in
theorem d189_spell {d L : Nat} {x : Int32} {A I : HA} {Q : bm_Q} (k : D189_spell x A I (fun v A I => Q (some (.int v)) (hp L A I))) : bm_M (d + 2) 189 [.ref 1681, .int x] (hp L A I) Q := by
  unfold D189_spell at k
  refine bw_enter rfl rfl rfl rfl ?_
  refine w_aload_n (p := 1) (pI pM_189 rfl) rfl rfl ?_
  refine v_getR (p := 4) (kf := 14) (pI pM_189 rfl) rfl rfl rfl (by decide) (by decide) rfl rfl ?_
  refine w_iload_n (p := 5) (pI pM_189 rfl) rfl rfl ?_
  obtain ⟨s1, k⟩ := k
  refine v_iald (p := 6) (pI pM_189 rfl) rfl (by decide) rfl s1 rfl ?_
  refine w_istore_n (p := 7) (pI pM_189 rfl) rfl rfl rfl ?_
  refine w_iload_n (p := 8) (pI pM_189 rfl) rfl rfl ?_
  refine w_istore_n (p := 9) (pI pM_189 rfl) rfl rfl rfl ?_
  refine w_iconst (p := 10) (v := nI 1) (pI pM_189 rfl) rfl rfl ?_
  refine w_istore (p := 12) (pI pM_189 rfl) rfl rfl rfl ?_
  refine w_aload_n (p := 13) (pI pM_189 rfl) rfl rfl ?_
  refine v_getR (p := 16) (kf := 32) (pI pM_189 rfl) rfl rfl rfl (by decide) (by decide) rfl rfl ?_
  refine w_iconst (p := 17) (v := nI 0) (pI pM_189 rfl) rfl rfl ?_
  refine w_iload_n (p := 18) (pI pM_189 rfl) rfl rfl ?_
  obtain ⟨s2, k⟩ := k
  refine s_iast (p := 19) (pI pM_189 rfl) rfl (by decide) (by decide) rfl s2 ?_
  refine k (fun a4 a5 A8 I9 => ∀ u6 u7 : Value, bm_W (bm_M (d + 1)) 189 Q 19 [.ref 1681, u6, .int (A 1694 x.toNatClampNeg), .int a4, .int a5, u7] [] (hp L A8 I9)) (fun a4 a5 A8 I9 k => ?_) _ _
  intro u6 u7
  refine w_iload (p := 21) (pI pM_189 rfl) rfl rfl ?_
  refine w_if_le (p := 24) (q := 149) (pI pM_189 rfl) rfl rfl rfl (fun c => ?_) (fun c => ?_)
  · replace k := itn (Int32.not_lt.mpr c) k
    refine w_iload_n (p := 150) (pI pM_189 rfl) rfl rfl ?_
    exact w_ireturn (pI pM_189 rfl) rfl rfl rfl k
  · replace k := itp (Int32.not_le.mp c) k
    refine w_iinc (p := 27) (v := (a5 + (-1))) (pI pM_189 rfl) rfl rfl rfl rfl ?_
    refine w_aload_n (p := 28) (pI pM_189 rfl) rfl rfl ?_
    refine v_getR (p := 31) (kf := 32) (pI pM_189 rfl) rfl rfl rfl (by decide) (by decide) rfl rfl ?_
    refine w_iload (p := 33) (pI pM_189 rfl) rfl rfl ?_
    obtain ⟨s11, k⟩ := k
    refine v_iald (p := 34) (pI pM_189 rfl) rfl (by decide) rfl s11 rfl ?_
    refine w_istore (p := 36) (pI pM_189 rfl) rfl rfl rfl ?_
    refine w_iinc (p := 39) (v := (a4 + (-1))) (pI pM_189 rfl) rfl rfl rfl rfl ?_
    refine w_iload (p := 41) (pI pM_189 rfl) rfl rfl ?_
    refine w_sipush (p := 44) (v := nI 256) (pI pM_189 rfl) rfl rfl ?_
    refine w_icmp_ge (p := 47) (q := 65) (pI pM_189 rfl) rfl rfl rfl (fun c => ?_) (fun c => ?_)
    · replace k := itn (Int32.not_lt.mpr c) k
      refine w_iload (p := 67) (pI pM_189 rfl) rfl rfl ?_
      refine w_sipush (p := 70) (v := nI 258) (pI pM_189 rfl) rfl rfl ?_
      refine w_icmp_ge (p := 73) (q := 88) (pI pM_189 rfl) rfl rfl rfl (fun c => ?_) (fun c => ?_)
      · replace k := itn (Int32.not_lt.mpr c) k
        refine w_aload_n (p := 89) (pI pM_189 rfl) rfl rfl ?_
        refine v_getR (p := 92) (kf := 33) (pI pM_189 rfl) rfl rfl rfl (by decide) (by decide) rfl rfl ?_
        refine w_iload_n (p := 93) (pI pM_189 rfl) rfl rfl ?_
        refine w_aload_n (p := 94) (pI pM_189 rfl) rfl rfl ?_
        refine v_getR (p := 97) (kf := 11) (pI pM_189 rfl) rfl rfl rfl (by decide) (by decide) rfl rfl ?_
        refine w_iload (p := 99) (pI pM_189 rfl) rfl rfl ?_
        obtain ⟨s12, k⟩ := k
        refine v_iald (p := 100) (pI pM_189 rfl) rfl (by decide) rfl s12 rfl ?_
        obtain ⟨s13, k⟩ := k
        refine s_iast (p := 101) (pI pM_189 rfl) rfl (by decide) (by decide) rfl s13 ?_
        refine w_aload_n (p := 102) (pI pM_189 rfl) rfl rfl ?_
        refine v_getR (p := 105) (kf := 32) (pI pM_189 rfl) rfl rfl rfl (by decide) (by decide) rfl rfl ?_
        refine w_iload (p := 107) (pI pM_189 rfl) rfl rfl ?_
        refine w_aload_n (p := 108) (pI pM_189 rfl) rfl rfl ?_
        refine v_getR (p := 111) (kf := 12) (pI pM_189 rfl) rfl rfl rfl (by decide) (by decide) rfl rfl ?_
        refine w_iload (p := 113) (pI pM_189 rfl) rfl rfl ?_
        obtain ⟨s14, k⟩ := k
        refine v_iald (p := 114) (pI pM_189 rfl) rfl (by decide) rfl s14 rfl ?_
        obtain ⟨s15, k⟩ := k
        refine s_iast (p := 115) (pI pM_189 rfl) rfl (by decide) (by decide) rfl s15 ?_
        refine w_iinc (p := 118) (v := ((a5 + (-1)) + nI 1)) (pI pM_189 rfl) rfl rfl rfl rfl ?_
        refine w_aload_n (p := 119) (pI pM_189 rfl) rfl rfl ?_
        refine v_getR (p := 122) (kf := 13) (pI pM_189 rfl) rfl rfl rfl (by decide) (by decide) rfl rfl ?_
        refine w_iload (p := 124) (pI pM_189 rfl) rfl rfl ?_
        obtain ⟨s16, k⟩ := k
        refine v_iald (p := 125) (pI pM_189 rfl) rfl (by decide) rfl s16 rfl ?_
        refine w_iconst (p := 126) (v := -1) (pI pM_189 rfl) rfl rfl ?_
        refine w_icmp_eq (p := 129) (q := 146) (pI pM_189 rfl) rfl rfl rfl (fun c => ?_) (fun c => ?_)
        · replace k := itp c k
          refine w_goto (p := 19) (pI pM_189 rfl) rfl rfl ?_
          exact k _ _
        · replace k := itn c k
          refine w_aload_n (p := 130) (pI pM_189 rfl) rfl rfl ?_
          refine v_getR (p := 133) (kf := 32) (pI pM_189 rfl) rfl rfl rfl (by decide) (by decide) rfl rfl ?_
          refine w_iload (p := 135) (pI pM_189 rfl) rfl rfl ?_
          refine w_aload_n (p := 136) (pI pM_189 rfl) rfl rfl ?_
          refine v_getR (p := 139) (kf := 13) (pI pM_189 rfl) rfl rfl rfl (by decide) (by decide) rfl rfl ?_
          refine w_iload (p := 141) (pI pM_189 rfl) rfl rfl ?_
          obtain ⟨s17, k⟩ := k
          refine v_iald (p := 142) (pI pM_189 rfl) rfl (by decide) rfl s17 rfl ?_
          obtain ⟨s18, k⟩ := k
          refine s_iast (p := 143) (pI pM_189 rfl) rfl (by decide) (by decide) rfl s18 ?_
          refine w_iinc (p := 146) (v := (((a5 + (-1)) + nI 1) + nI 1)) (pI pM_189 rfl) rfl rfl rfl rfl ?_
          refine w_goto (p := 19) (pI pM_189 rfl) rfl rfl ?_
          exact k _ _
      · replace k := itp (Int32.not_le.mp c) k
        refine w_aload_n (p := 74) (pI pM_189 rfl) rfl rfl ?_
        refine v_getR (p := 77) (kf := 33) (pI pM_189 rfl) rfl rfl rfl (by decide) (by decide) rfl rfl ?_
        refine w_iload_n (p := 78) (pI pM_189 rfl) rfl rfl ?_
        refine w_iload (p := 80) (pI pM_189 rfl) rfl rfl ?_
        refine w_sipush (p := 83) (v := nI 255) (pI pM_189 rfl) rfl rfl ?_
        refine w_isub (p := 84) (pI pM_189 rfl) rfl ?_
        obtain ⟨s19, k⟩ := k
        refine s_iast (p := 85) (pI pM_189 rfl) rfl (by decide) (by decide) rfl s19 ?_
        refine w_goto (p := 146) (pI pM_189 rfl) rfl rfl ?_
        refine w_goto (p := 19) (pI pM_189 rfl) rfl rfl ?_
        exact k _ _
    · replace k := itp (Int32.not_le.mp c) k
      refine w_aload_n (p := 48) (pI pM_189 rfl) rfl rfl ?_
      refine v_getR (p := 51) (kf := 33) (pI pM_189 rfl) rfl rfl rfl (by decide) (by decide) rfl rfl ?_
      refine w_iload_n (p := 52) (pI pM_189 rfl) rfl rfl ?_
      refine w_sipush (p := 55) (v := nI 1000) (pI pM_189 rfl) rfl rfl ?_
      refine w_iload (p := 57) (pI pM_189 rfl) rfl rfl ?_
      refine w_static (p := 60) (mj := 178) (pI pM_189 rfl) rfl rfl rfl rfl rfl rfl rfl rfl rfl ?_
      refine d178_number (D178_number_mono k (fun v20 k => ?_))
      refine w_iadd (p := 61) (pI pM_189 rfl) rfl ?_
      obtain ⟨s21, k⟩ := k
      refine s_iast (p := 62) (pI pM_189 rfl) rfl (by decide) (by decide) rfl s21 ?_
      refine w_goto (p := 146) (pI pM_189 rfl) rfl rfl ?_
      refine w_goto (p := 19) (pI pM_189 rfl) rfl rfl ?_
      exact k _ _
set_option maxRecDepth 100000 in
set_option maxHeartbeats 4000000 in
theorem d190_worth {d L : Nat} {x : Int32} {y : Int32} {z : Int32} {A I : HA} {Q : bm_Q} (k : D190_worth x y z A I (fun v A I => Q (some (.int v)) (hp L A I))) : bm_M (d + 3) 190 [.ref 1681, .int x, .int y, .int z] (hp L A I) Q := by
  unfold D190_worth at k
  refine bw_enter rfl rfl rfl rfl ?_
  refine w_iconst (p := 1) (v := nI 0) (pI pM_190 rfl) rfl rfl ?_
  refine w_istore (p := 3) (pI pM_190 rfl) rfl rfl rfl ?_
  refine w_aload_n (p := 4) (pI pM_190 rfl) rfl rfl ?_
  refine w_iconst (p := 5) (v := nI 0) (pI pM_190 rfl) rfl rfl ?_
  refine s_putI (p := 8) (kf := 34) (pI pM_190 rfl) rfl rfl rfl (by decide) (by decide) rfl rfl rfl rfl rfl rfl ?_
  refine w_iconst (p := 9) (v := nI 0) (pI pM_190 rfl) rfl rfl ?_
  refine w_istore (p := 11) (pI pM_190 rfl) rfl rfl rfl ?_
  refine k (fun a2 a3 A6 I7 => ∀ u4 u5 : Value, bm_W (bm_M (d + 2)) 190 Q 11 [.ref 1681, .int x, .int y, .int z, .int a2, .int a3, u4, u5] [] (hp L A6 I7)) (fun a2 a3 A6 I7 k => ?_) _ _
  intro u4 u5
  refine w_iload (p := 13) (pI pM_190 rfl) rfl rfl ?_
  refine w_iload_n (p := 14) (pI pM_190 rfl) rfl rfl ?_
  refine w_icmp_ge (p := 17) (q := 224) (pI pM_190 rfl) rfl rfl rfl (fun c => ?_) (fun c => ?_)
  · replace k := itn (Int32.not_lt.mpr c) k
    refine w_aload_n (p := 225) (pI pM_190 rfl) rfl rfl ?_
    refine v_getR (p := 228) (kf := 32) (pI pM_190 rfl) rfl rfl rfl (by decide) (by decide) rfl rfl ?_
    refine w_iconst (p := 229) (v := nI 0) (pI pM_190 rfl) rfl rfl ?_
    obtain ⟨s9, k⟩ := k
    refine v_iald (p := 230) (pI pM_190 rfl) rfl (by decide) rfl s9 rfl ?_
    exact w_ireturn (pI pM_190 rfl) rfl rfl rfl k
  · replace k := itp (Int32.not_le.mp c) k
    refine w_aload_n (p := 18) (pI pM_190 rfl) rfl rfl ?_
    refine v_getR (p := 21) (kf := 33) (pI pM_190 rfl) rfl rfl rfl (by decide) (by decide) rfl rfl ?_
    refine w_iload (p := 23) (pI pM_190 rfl) rfl rfl ?_
    obtain ⟨s10, k⟩ := k
    refine v_iald (p := 24) (pI pM_190 rfl) rfl (by decide) rfl s10 rfl ?_
    refine w_istore (p := 26) (pI pM_190 rfl) rfl rfl rfl ?_
    refine w_iload (p := 28) (pI pM_190 rfl) rfl rfl ?_
    refine w_sipush (p := 31) (v := nI 800) (pI pM_190 rfl) rfl rfl ?_
    refine w_icmp_lt (p := 34) (q := 53) (pI pM_190 rfl) rfl rfl rfl (fun c => ?_) (fun c => ?_)
    · replace k := itp c k
      refine w_iload (p := 55) (pI pM_190 rfl) rfl rfl ?_
      refine w_iconst (p := 56) (v := nI 3) (pI pM_190 rfl) rfl rfl ?_
      refine w_icmp_ge (p := 59) (q := 83) (pI pM_190 rfl) rfl rfl rfl (fun c => ?_) (fun c => ?_)
      · replace k := itn (Int32.not_lt.mpr c) k
        refine w_iload (p := 85) (pI pM_190 rfl) rfl rfl ?_
        refine w_bipush (p := 87) (v := nI 11) (pI pM_190 rfl) rfl rfl ?_
        refine w_icmp_eq (p := 90) (q := 97) (pI pM_190 rfl) rfl rfl rfl (fun c => ?_) (fun c => ?_)
        · replace k := itp c k
          refine w_aload_n (p := 98) (pI pM_190 rfl) rfl rfl ?_
          refine v_getR (p := 101) (kf := 32) (pI pM_190 rfl) rfl rfl rfl (by decide) (by decide) rfl rfl ?_
          refine w_iload (p := 103) (pI pM_190 rfl) rfl rfl ?_
          refine w_iconst (p := 104) (v := nI 1) (pI pM_190 rfl) rfl rfl ?_
          refine w_isub (p := 105) (pI pM_190 rfl) rfl ?_
          refine w_iload (p := 107) (pI pM_190 rfl) rfl rfl ?_
          refine w_aload_n (p := 108) (pI pM_190 rfl) rfl rfl ?_
          refine v_getR (p := 111) (kf := 32) (pI pM_190 rfl) rfl rfl rfl (by decide) (by decide) rfl rfl ?_
          refine w_iload (p := 113) (pI pM_190 rfl) rfl rfl ?_
          refine w_iconst (p := 114) (v := nI 1) (pI pM_190 rfl) rfl rfl ?_
          refine w_isub (p := 115) (pI pM_190 rfl) rfl ?_
          obtain ⟨s11, k⟩ := k
          refine v_iald (p := 116) (pI pM_190 rfl) rfl (by decide) rfl s11 rfl ?_
          refine w_iconst (p := 117) (v := nI 0) (pI pM_190 rfl) rfl rfl ?_
          refine w_static (p := 120) (mj := 179) (pI pM_190 rfl) rfl rfl rfl rfl rfl rfl rfl rfl rfl ?_
          refine d179_reckon (D179_reckon_mono k (fun v12 k => ?_))
          obtain ⟨s13, k⟩ := k
          refine s_iast (p := 121) (pI pM_190 rfl) rfl (by decide) (by decide) rfl s13 ?_
          refine w_goto (p := 218) (pI pM_190 rfl) rfl rfl ?_
          refine w_iinc (p := 221) (v := (a3 + nI 1)) (pI pM_190 rfl) rfl rfl rfl rfl ?_
          refine w_goto (p := 11) (pI pM_190 rfl) rfl rfl ?_
          exact k _ _
        · replace k := itn c k
          refine w_iload (p := 92) (pI pM_190 rfl) rfl rfl ?_
          refine w_bipush (p := 94) (v := nI 29) (pI pM_190 rfl) rfl rfl ?_
          refine w_icmp_ne (p := 97) (q := 124) (pI pM_190 rfl) rfl rfl rfl (fun c => ?_) (fun c => ?_)
          · replace k := itn c k
            refine w_iinc (p := 127) (v := (a2 + (-1))) (pI pM_190 rfl) rfl rfl rfl rfl ?_
            refine w_iload (p := 129) (pI pM_190 rfl) rfl rfl ?_
            refine w_bipush (p := 131) (v := nI 9) (pI pM_190 rfl) rfl rfl ?_
            refine w_icmp_eq (p := 134) (q := 141) (pI pM_190 rfl) rfl rfl rfl (fun c => ?_) (fun c => ?_)
            · replace k := itp c k
              refine w_aload_n (p := 142) (pI pM_190 rfl) rfl rfl ?_
              refine v_getR (p := 145) (kf := 32) (pI pM_190 rfl) rfl rfl rfl (by decide) (by decide) rfl rfl ?_
              refine w_iload (p := 147) (pI pM_190 rfl) rfl rfl ?_
              obtain ⟨s14, k⟩ := k
              refine v_iald (p := 148) (pI pM_190 rfl) rfl (by decide) rfl s14 rfl ?_
              refine w_if_ne (p := 151) (q := 155) (pI pM_190 rfl) rfl rfl rfl (fun c => ?_) (fun c => ?_)
              · replace k := itn c k
                refine w_iconst (p := 156) (v := nI 0) (pI pM_190 rfl) rfl rfl ?_
                refine w_istore (p := 158) (pI pM_190 rfl) rfl rfl rfl ?_
                refine w_aload_n (p := 159) (pI pM_190 rfl) rfl rfl ?_
                refine w_aload_n (p := 160) (pI pM_190 rfl) rfl rfl ?_
                refine v_getI (p := 163) (kf := 34) (pI pM_190 rfl) rfl rfl rfl (by decide) (by decide) rfl rfl rfl ?_
                refine w_if_ne (p := 166) (q := 171) (pI pM_190 rfl) rfl rfl rfl (fun c => ?_) (fun c => ?_)
                · replace k := itn c k
                  refine w_iconst (p := 172) (v := nI 1) (pI pM_190 rfl) rfl rfl ?_
                  refine w_goto (p := 176) (pI pM_190 rfl) rfl rfl ?_
                  refine s_putI (p := 179) (kf := 34) (pI pM_190 rfl) rfl rfl rfl (by decide) (by decide) rfl rfl rfl rfl rfl rfl ?_
                  refine w_aload_n (p := 180) (pI pM_190 rfl) rfl rfl ?_
                  refine v_getR (p := 183) (kf := 32) (pI pM_190 rfl) rfl rfl rfl (by decide) (by decide) rfl rfl ?_
                  refine w_iload (p := 185) (pI pM_190 rfl) rfl rfl ?_
                  refine w_iconst (p := 186) (v := nI 1) (pI pM_190 rfl) rfl rfl ?_
                  refine w_isub (p := 187) (pI pM_190 rfl) rfl ?_
                  refine w_iload (p := 189) (pI pM_190 rfl) rfl rfl ?_
                  refine w_if_eq (p := 192) (q := 196) (pI pM_190 rfl) rfl rfl rfl (fun _ => ?_) (fun c => absurd (by decide) c)
                  refine w_iload (p := 198) (pI pM_190 rfl) rfl rfl ?_
                  refine w_aload_n (p := 199) (pI pM_190 rfl) rfl rfl ?_
                  refine v_getR (p := 202) (kf := 32) (pI pM_190 rfl) rfl rfl rfl (by decide) (by decide) rfl rfl ?_
                  refine w_iload (p := 204) (pI pM_190 rfl) rfl rfl ?_
                  refine w_iconst (p := 205) (v := nI 1) (pI pM_190 rfl) rfl rfl ?_
                  refine w_isub (p := 206) (pI pM_190 rfl) rfl ?_
                  obtain ⟨s15, k⟩ := k
                  refine v_iald (p := 207) (pI pM_190 rfl) rfl (by decide) rfl s15 rfl ?_
                  refine w_aload_n (p := 208) (pI pM_190 rfl) rfl rfl ?_
                  refine v_getR (p := 211) (kf := 32) (pI pM_190 rfl) rfl rfl rfl (by decide) (by decide) rfl rfl ?_
                  refine w_iload (p := 213) (pI pM_190 rfl) rfl rfl ?_
                  obtain ⟨s16, k⟩ := k
                  refine v_iald (p := 214) (pI pM_190 rfl) rfl (by decide) rfl s16 rfl ?_
                  refine w_static (p := 217) (mj := 179) (pI pM_190 rfl) rfl rfl rfl rfl rfl rfl rfl rfl rfl ?_
                  refine d179_reckon (D179_reckon_mono k (fun v17 k => ?_))
                  obtain ⟨s18, k⟩ := k
                  refine s_iast (p := 218) (pI pM_190 rfl) rfl (by decide) (by decide) rfl s18 ?_
                  refine w_iinc (p := 221) (v := (a3 + nI 1)) (pI pM_190 rfl) rfl rfl rfl rfl ?_
                  refine w_goto (p := 11) (pI pM_190 rfl) rfl rfl ?_
                  exact k _ _
                · replace k := itp (Decidable.not_not.mp c) k
                  refine w_iload (p := 168) (pI pM_190 rfl) rfl rfl ?_
                  refine w_if_eq (p := 171) (q := 175) (pI pM_190 rfl) rfl rfl rfl (fun _ => ?_) (fun c => absurd (by decide) c)
                  refine w_iconst (p := 176) (v := nI 0) (pI pM_190 rfl) rfl rfl ?_
                  refine s_putI (p := 179) (kf := 34) (pI pM_190 rfl) rfl rfl rfl (by decide) (by decide) rfl rfl rfl rfl rfl rfl ?_
                  refine w_aload_n (p := 180) (pI pM_190 rfl) rfl rfl ?_
                  refine v_getR (p := 183) (kf := 32) (pI pM_190 rfl) rfl rfl rfl (by decide) (by decide) rfl rfl ?_
                  refine w_iload (p := 185) (pI pM_190 rfl) rfl rfl ?_
                  refine w_iconst (p := 186) (v := nI 1) (pI pM_190 rfl) rfl rfl ?_
                  refine w_isub (p := 187) (pI pM_190 rfl) rfl ?_
                  refine w_iload (p := 189) (pI pM_190 rfl) rfl rfl ?_
                  refine w_if_eq (p := 192) (q := 196) (pI pM_190 rfl) rfl rfl rfl (fun _ => ?_) (fun c => absurd (by decide) c)
                  refine w_iload (p := 198) (pI pM_190 rfl) rfl rfl ?_
                  refine w_aload_n (p := 199) (pI pM_190 rfl) rfl rfl ?_
                  refine v_getR (p := 202) (kf := 32) (pI pM_190 rfl) rfl rfl rfl (by decide) (by decide) rfl rfl ?_
                  refine w_iload (p := 204) (pI pM_190 rfl) rfl rfl ?_
                  refine w_iconst (p := 205) (v := nI 1) (pI pM_190 rfl) rfl rfl ?_
                  refine w_isub (p := 206) (pI pM_190 rfl) rfl ?_
                  obtain ⟨s19, k⟩ := k
                  refine v_iald (p := 207) (pI pM_190 rfl) rfl (by decide) rfl s19 rfl ?_
                  refine w_aload_n (p := 208) (pI pM_190 rfl) rfl rfl ?_
                  refine v_getR (p := 211) (kf := 32) (pI pM_190 rfl) rfl rfl rfl (by decide) (by decide) rfl rfl ?_
                  refine w_iload (p := 213) (pI pM_190 rfl) rfl rfl ?_
                  obtain ⟨s20, k⟩ := k
                  refine v_iald (p := 214) (pI pM_190 rfl) rfl (by decide) rfl s20 rfl ?_
                  refine w_static (p := 217) (mj := 179) (pI pM_190 rfl) rfl rfl rfl rfl rfl rfl rfl rfl rfl ?_
                  refine d179_reckon (D179_reckon_mono k (fun v21 k => ?_))
                  obtain ⟨s22, k⟩ := k
                  refine s_iast (p := 218) (pI pM_190 rfl) rfl (by decide) (by decide) rfl s22 ?_
                  refine w_iinc (p := 221) (v := (a3 + nI 1)) (pI pM_190 rfl) rfl rfl rfl rfl ?_
                  refine w_goto (p := 11) (pI pM_190 rfl) rfl rfl ?_
                  exact k _ _
              · replace k := itp (Decidable.not_not.mp c) k
                refine w_iconst (p := 152) (v := nI 1) (pI pM_190 rfl) rfl rfl ?_
                refine w_goto (p := 156) (pI pM_190 rfl) rfl rfl ?_
                refine w_istore (p := 158) (pI pM_190 rfl) rfl rfl rfl ?_
                refine w_aload_n (p := 159) (pI pM_190 rfl) rfl rfl ?_
                refine w_aload_n (p := 160) (pI pM_190 rfl) rfl rfl ?_
                refine v_getI (p := 163) (kf := 34) (pI pM_190 rfl) rfl rfl rfl (by decide) (by decide) rfl rfl rfl ?_
                refine w_if_ne (p := 166) (q := 171) (pI pM_190 rfl) rfl rfl rfl (fun c => ?_) (fun c => ?_)
                · replace k := itn c k
                  refine w_iconst (p := 172) (v := nI 1) (pI pM_190 rfl) rfl rfl ?_
                  refine w_goto (p := 176) (pI pM_190 rfl) rfl rfl ?_
                  refine s_putI (p := 179) (kf := 34) (pI pM_190 rfl) rfl rfl rfl (by decide) (by decide) rfl rfl rfl rfl rfl rfl ?_
                  refine w_aload_n (p := 180) (pI pM_190 rfl) rfl rfl ?_
                  refine v_getR (p := 183) (kf := 32) (pI pM_190 rfl) rfl rfl rfl (by decide) (by decide) rfl rfl ?_
                  refine w_iload (p := 185) (pI pM_190 rfl) rfl rfl ?_
                  refine w_iconst (p := 186) (v := nI 1) (pI pM_190 rfl) rfl rfl ?_
                  refine w_isub (p := 187) (pI pM_190 rfl) rfl ?_
                  refine w_iload (p := 189) (pI pM_190 rfl) rfl rfl ?_
                  refine w_if_eq (p := 192) (q := 196) (pI pM_190 rfl) rfl rfl rfl (fun c => absurd c (by decide)) (fun _ => ?_)
                  refine w_iconst (p := 193) (v := nI 0) (pI pM_190 rfl) rfl rfl ?_
                  refine w_goto (p := 217) (pI pM_190 rfl) rfl rfl ?_
                  obtain ⟨s23, k⟩ := k
                  refine s_iast (p := 218) (pI pM_190 rfl) rfl (by decide) (by decide) rfl s23 ?_
                  refine w_iinc (p := 221) (v := (a3 + nI 1)) (pI pM_190 rfl) rfl rfl rfl rfl ?_
                  refine w_goto (p := 11) (pI pM_190 rfl) rfl rfl ?_
                  exact k _ _
                · replace k := itp (Decidable.not_not.mp c) k
                  refine w_iload (p := 168) (pI pM_190 rfl) rfl rfl ?_
                  refine w_if_eq (p := 171) (q := 175) (pI pM_190 rfl) rfl rfl rfl (fun c => absurd c (by decide)) (fun _ => ?_)
                  refine w_iconst (p := 172) (v := nI 1) (pI pM_190 rfl) rfl rfl ?_
                  refine w_goto (p := 176) (pI pM_190 rfl) rfl rfl ?_
                  refine s_putI (p := 179) (kf := 34) (pI pM_190 rfl) rfl rfl rfl (by decide) (by decide) rfl rfl rfl rfl rfl rfl ?_
                  refine w_aload_n (p := 180) (pI pM_190 rfl) rfl rfl ?_
                  refine v_getR (p := 183) (kf := 32) (pI pM_190 rfl) rfl rfl rfl (by decide) (by decide) rfl rfl ?_
                  refine w_iload (p := 185) (pI pM_190 rfl) rfl rfl ?_
                  refine w_iconst (p := 186) (v := nI 1) (pI pM_190 rfl) rfl rfl ?_
                  refine w_isub (p := 187) (pI pM_190 rfl) rfl ?_
                  refine w_iload (p := 189) (pI pM_190 rfl) rfl rfl ?_
                  refine w_if_eq (p := 192) (q := 196) (pI pM_190 rfl) rfl rfl rfl (fun c => absurd c (by decide)) (fun _ => ?_)
                  refine w_iconst (p := 193) (v := nI 0) (pI pM_190 rfl) rfl rfl ?_
                  refine w_goto (p := 217) (pI pM_190 rfl) rfl rfl ?_
                  obtain ⟨s24, k⟩ := k
                  refine s_iast (p := 218) (pI pM_190 rfl) rfl (by decide) (by decide) rfl s24 ?_
                  refine w_iinc (p := 221) (v := (a3 + nI 1)) (pI pM_190 rfl) rfl rfl rfl rfl ?_
                  refine w_goto (p := 11) (pI pM_190 rfl) rfl rfl ?_
                  exact k _ _
            · replace k := itn c k
              refine w_iload (p := 136) (pI pM_190 rfl) rfl rfl ?_
              refine w_bipush (p := 138) (v := nI 10) (pI pM_190 rfl) rfl rfl ?_
              refine w_icmp_ne (p := 141) (q := 155) (pI pM_190 rfl) rfl rfl rfl (fun c => ?_) (fun c => ?_)
              · replace k := itn c k
                refine w_iconst (p := 156) (v := nI 0) (pI pM_190 rfl) rfl rfl ?_
                refine w_istore (p := 158) (pI pM_190 rfl) rfl rfl rfl ?_
                refine w_aload_n (p := 159) (pI pM_190 rfl) rfl rfl ?_
                refine w_aload_n (p := 160) (pI pM_190 rfl) rfl rfl ?_
                refine v_getI (p := 163) (kf := 34) (pI pM_190 rfl) rfl rfl rfl (by decide) (by decide) rfl rfl rfl ?_
                refine w_if_ne (p := 166) (q := 171) (pI pM_190 rfl) rfl rfl rfl (fun c => ?_) (fun c => ?_)
                · replace k := itn c k
                  refine w_iconst (p := 172) (v := nI 1) (pI pM_190 rfl) rfl rfl ?_
                  refine w_goto (p := 176) (pI pM_190 rfl) rfl rfl ?_
                  refine s_putI (p := 179) (kf := 34) (pI pM_190 rfl) rfl rfl rfl (by decide) (by decide) rfl rfl rfl rfl rfl rfl ?_
                  refine w_aload_n (p := 180) (pI pM_190 rfl) rfl rfl ?_
                  refine v_getR (p := 183) (kf := 32) (pI pM_190 rfl) rfl rfl rfl (by decide) (by decide) rfl rfl ?_
                  refine w_iload (p := 185) (pI pM_190 rfl) rfl rfl ?_
                  refine w_iconst (p := 186) (v := nI 1) (pI pM_190 rfl) rfl rfl ?_
                  refine w_isub (p := 187) (pI pM_190 rfl) rfl ?_
                  refine w_iload (p := 189) (pI pM_190 rfl) rfl rfl ?_
                  refine w_if_eq (p := 192) (q := 196) (pI pM_190 rfl) rfl rfl rfl (fun _ => ?_) (fun c => absurd (by decide) c)
                  refine w_iload (p := 198) (pI pM_190 rfl) rfl rfl ?_
                  refine w_aload_n (p := 199) (pI pM_190 rfl) rfl rfl ?_
                  refine v_getR (p := 202) (kf := 32) (pI pM_190 rfl) rfl rfl rfl (by decide) (by decide) rfl rfl ?_
                  refine w_iload (p := 204) (pI pM_190 rfl) rfl rfl ?_
                  refine w_iconst (p := 205) (v := nI 1) (pI pM_190 rfl) rfl rfl ?_
                  refine w_isub (p := 206) (pI pM_190 rfl) rfl ?_
                  obtain ⟨s25, k⟩ := k
                  refine v_iald (p := 207) (pI pM_190 rfl) rfl (by decide) rfl s25 rfl ?_
                  refine w_aload_n (p := 208) (pI pM_190 rfl) rfl rfl ?_
                  refine v_getR (p := 211) (kf := 32) (pI pM_190 rfl) rfl rfl rfl (by decide) (by decide) rfl rfl ?_
                  refine w_iload (p := 213) (pI pM_190 rfl) rfl rfl ?_
                  obtain ⟨s26, k⟩ := k
                  refine v_iald (p := 214) (pI pM_190 rfl) rfl (by decide) rfl s26 rfl ?_
                  refine w_static (p := 217) (mj := 179) (pI pM_190 rfl) rfl rfl rfl rfl rfl rfl rfl rfl rfl ?_
                  refine d179_reckon (D179_reckon_mono k (fun v27 k => ?_))
                  obtain ⟨s28, k⟩ := k
                  refine s_iast (p := 218) (pI pM_190 rfl) rfl (by decide) (by decide) rfl s28 ?_
                  refine w_iinc (p := 221) (v := (a3 + nI 1)) (pI pM_190 rfl) rfl rfl rfl rfl ?_
                  refine w_goto (p := 11) (pI pM_190 rfl) rfl rfl ?_
                  exact k _ _
                · replace k := itp (Decidable.not_not.mp c) k
                  refine w_iload (p := 168) (pI pM_190 rfl) rfl rfl ?_
                  refine w_if_eq (p := 171) (q := 175) (pI pM_190 rfl) rfl rfl rfl (fun _ => ?_) (fun c => absurd (by decide) c)
                  refine w_iconst (p := 176) (v := nI 0) (pI pM_190 rfl) rfl rfl ?_
                  refine s_putI (p := 179) (kf := 34) (pI pM_190 rfl) rfl rfl rfl (by decide) (by decide) rfl rfl rfl rfl rfl rfl ?_
                  refine w_aload_n (p := 180) (pI pM_190 rfl) rfl rfl ?_
                  refine v_getR (p := 183) (kf := 32) (pI pM_190 rfl) rfl rfl rfl (by decide) (by decide) rfl rfl ?_
                  refine w_iload (p := 185) (pI pM_190 rfl) rfl rfl ?_
                  refine w_iconst (p := 186) (v := nI 1) (pI pM_190 rfl) rfl rfl ?_
                  refine w_isub (p := 187) (pI pM_190 rfl) rfl ?_
                  refine w_iload (p := 189) (pI pM_190 rfl) rfl rfl ?_
                  refine w_if_eq (p := 192) (q := 196) (pI pM_190 rfl) rfl rfl rfl (fun _ => ?_) (fun c => absurd (by decide) c)
                  refine w_iload (p := 198) (pI pM_190 rfl) rfl rfl ?_
                  refine w_aload_n (p := 199) (pI pM_190 rfl) rfl rfl ?_
                  refine v_getR (p := 202) (kf := 32) (pI pM_190 rfl) rfl rfl rfl (by decide) (by decide) rfl rfl ?_
                  refine w_iload (p := 204) (pI pM_190 rfl) rfl rfl ?_
                  refine w_iconst (p := 205) (v := nI 1) (pI pM_190 rfl) rfl rfl ?_
                  refine w_isub (p := 206) (pI pM_190 rfl) rfl ?_
                  obtain ⟨s29, k⟩ := k
                  refine v_iald (p := 207) (pI pM_190 rfl) rfl (by decide) rfl s29 rfl ?_
                  refine w_aload_n (p := 208) (pI pM_190 rfl) rfl rfl ?_
                  refine v_getR (p := 211) (kf := 32) (pI pM_190 rfl) rfl rfl rfl (by decide) (by decide) rfl rfl ?_
                  refine w_iload (p := 213) (pI pM_190 rfl) rfl rfl ?_
                  obtain ⟨s30, k⟩ := k
                  refine v_iald (p := 214) (pI pM_190 rfl) rfl (by decide) rfl s30 rfl ?_
                  refine w_static (p := 217) (mj := 179) (pI pM_190 rfl) rfl rfl rfl rfl rfl rfl rfl rfl rfl ?_
                  refine d179_reckon (D179_reckon_mono k (fun v31 k => ?_))
                  obtain ⟨s32, k⟩ := k
                  refine s_iast (p := 218) (pI pM_190 rfl) rfl (by decide) (by decide) rfl s32 ?_
                  refine w_iinc (p := 221) (v := (a3 + nI 1)) (pI pM_190 rfl) rfl rfl rfl rfl ?_
                  refine w_goto (p := 11) (pI pM_190 rfl) rfl rfl ?_
                  exact k _ _
              · replace k := itp (Decidable.not_not.mp c) k
                refine w_aload_n (p := 142) (pI pM_190 rfl) rfl rfl ?_
                refine v_getR (p := 145) (kf := 32) (pI pM_190 rfl) rfl rfl rfl (by decide) (by decide) rfl rfl ?_
                refine w_iload (p := 147) (pI pM_190 rfl) rfl rfl ?_
                obtain ⟨s33, k⟩ := k
                refine v_iald (p := 148) (pI pM_190 rfl) rfl (by decide) rfl s33 rfl ?_
                refine w_if_ne (p := 151) (q := 155) (pI pM_190 rfl) rfl rfl rfl (fun c => ?_) (fun c => ?_)
                · replace k := itn c k
                  refine w_iconst (p := 156) (v := nI 0) (pI pM_190 rfl) rfl rfl ?_
                  refine w_istore (p := 158) (pI pM_190 rfl) rfl rfl rfl ?_
                  refine w_aload_n (p := 159) (pI pM_190 rfl) rfl rfl ?_
                  refine w_aload_n (p := 160) (pI pM_190 rfl) rfl rfl ?_
                  refine v_getI (p := 163) (kf := 34) (pI pM_190 rfl) rfl rfl rfl (by decide) (by decide) rfl rfl rfl ?_
                  refine w_if_ne (p := 166) (q := 171) (pI pM_190 rfl) rfl rfl rfl (fun c => ?_) (fun c => ?_)
                  · replace k := itn c k
                    refine w_iconst (p := 172) (v := nI 1) (pI pM_190 rfl) rfl rfl ?_
                    refine w_goto (p := 176) (pI pM_190 rfl) rfl rfl ?_
                    refine s_putI (p := 179) (kf := 34) (pI pM_190 rfl) rfl rfl rfl (by decide) (by decide) rfl rfl rfl rfl rfl rfl ?_
                    refine w_aload_n (p := 180) (pI pM_190 rfl) rfl rfl ?_
                    refine v_getR (p := 183) (kf := 32) (pI pM_190 rfl) rfl rfl rfl (by decide) (by decide) rfl rfl ?_
                    refine w_iload (p := 185) (pI pM_190 rfl) rfl rfl ?_
                    refine w_iconst (p := 186) (v := nI 1) (pI pM_190 rfl) rfl rfl ?_
                    refine w_isub (p := 187) (pI pM_190 rfl) rfl ?_
                    refine w_iload (p := 189) (pI pM_190 rfl) rfl rfl ?_
                    refine w_if_eq (p := 192) (q := 196) (pI pM_190 rfl) rfl rfl rfl (fun _ => ?_) (fun c => absurd (by decide) c)
                    refine w_iload (p := 198) (pI pM_190 rfl) rfl rfl ?_
                    refine w_aload_n (p := 199) (pI pM_190 rfl) rfl rfl ?_
                    refine v_getR (p := 202) (kf := 32) (pI pM_190 rfl) rfl rfl rfl (by decide) (by decide) rfl rfl ?_
                    refine w_iload (p := 204) (pI pM_190 rfl) rfl rfl ?_
                    refine w_iconst (p := 205) (v := nI 1) (pI pM_190 rfl) rfl rfl ?_
                    refine w_isub (p := 206) (pI pM_190 rfl) rfl ?_
                    obtain ⟨s34, k⟩ := k
                    refine v_iald (p := 207) (pI pM_190 rfl) rfl (by decide) rfl s34 rfl ?_
                    refine w_aload_n (p := 208) (pI pM_190 rfl) rfl rfl ?_
                    refine v_getR (p := 211) (kf := 32) (pI pM_190 rfl) rfl rfl rfl (by decide) (by decide) rfl rfl ?_
                    refine w_iload (p := 213) (pI pM_190 rfl) rfl rfl ?_
                    obtain ⟨s35, k⟩ := k
                    refine v_iald (p := 214) (pI pM_190 rfl) rfl (by decide) rfl s35 rfl ?_
                    refine w_static (p := 217) (mj := 179) (pI pM_190 rfl) rfl rfl rfl rfl rfl rfl rfl rfl rfl ?_
                    refine d179_reckon (D179_reckon_mono k (fun v36 k => ?_))
                    obtain ⟨s37, k⟩ := k
                    refine s_iast (p := 218) (pI pM_190 rfl) rfl (by decide) (by decide) rfl s37 ?_
                    refine w_iinc (p := 221) (v := (a3 + nI 1)) (pI pM_190 rfl) rfl rfl rfl rfl ?_
                    refine w_goto (p := 11) (pI pM_190 rfl) rfl rfl ?_
                    exact k _ _
                  · replace k := itp (Decidable.not_not.mp c) k
                    refine w_iload (p := 168) (pI pM_190 rfl) rfl rfl ?_
                    refine w_if_eq (p := 171) (q := 175) (pI pM_190 rfl) rfl rfl rfl (fun _ => ?_) (fun c => absurd (by decide) c)
                    refine w_iconst (p := 176) (v := nI 0) (pI pM_190 rfl) rfl rfl ?_
                    refine s_putI (p := 179) (kf := 34) (pI pM_190 rfl) rfl rfl rfl (by decide) (by decide) rfl rfl rfl rfl rfl rfl ?_
                    refine w_aload_n (p := 180) (pI pM_190 rfl) rfl rfl ?_
                    refine v_getR (p := 183) (kf := 32) (pI pM_190 rfl) rfl rfl rfl (by decide) (by decide) rfl rfl ?_
                    refine w_iload (p := 185) (pI pM_190 rfl) rfl rfl ?_
                    refine w_iconst (p := 186) (v := nI 1) (pI pM_190 rfl) rfl rfl ?_
                    refine w_isub (p := 187) (pI pM_190 rfl) rfl ?_
                    refine w_iload (p := 189) (pI pM_190 rfl) rfl rfl ?_
                    refine w_if_eq (p := 192) (q := 196) (pI pM_190 rfl) rfl rfl rfl (fun _ => ?_) (fun c => absurd (by decide) c)
                    refine w_iload (p := 198) (pI pM_190 rfl) rfl rfl ?_
                    refine w_aload_n (p := 199) (pI pM_190 rfl) rfl rfl ?_
                    refine v_getR (p := 202) (kf := 32) (pI pM_190 rfl) rfl rfl rfl (by decide) (by decide) rfl rfl ?_
                    refine w_iload (p := 204) (pI pM_190 rfl) rfl rfl ?_
                    refine w_iconst (p := 205) (v := nI 1) (pI pM_190 rfl) rfl rfl ?_
                    refine w_isub (p := 206) (pI pM_190 rfl) rfl ?_
                    obtain ⟨s38, k⟩ := k
                    refine v_iald (p := 207) (pI pM_190 rfl) rfl (by decide) rfl s38 rfl ?_
                    refine w_aload_n (p := 208) (pI pM_190 rfl) rfl rfl ?_
                    refine v_getR (p := 211) (kf := 32) (pI pM_190 rfl) rfl rfl rfl (by decide) (by decide) rfl rfl ?_
                    refine w_iload (p := 213) (pI pM_190 rfl) rfl rfl ?_
                    obtain ⟨s39, k⟩ := k
                    refine v_iald (p := 214) (pI pM_190 rfl) rfl (by decide) rfl s39 rfl ?_
                    refine w_static (p := 217) (mj := 179) (pI pM_190 rfl) rfl rfl rfl rfl rfl rfl rfl rfl rfl ?_
                    refine d179_reckon (D179_reckon_mono k (fun v40 k => ?_))
                    obtain ⟨s41, k⟩ := k
                    refine s_iast (p := 218) (pI pM_190 rfl) rfl (by decide) (by decide) rfl s41 ?_
                    refine w_iinc (p := 221) (v := (a3 + nI 1)) (pI pM_190 rfl) rfl rfl rfl rfl ?_
                    refine w_goto (p := 11) (pI pM_190 rfl) rfl rfl ?_
                    exact k _ _
                · replace k := itp (Decidable.not_not.mp c) k
                  refine w_iconst (p := 152) (v := nI 1) (pI pM_190 rfl) rfl rfl ?_
                  refine w_goto (p := 156) (pI pM_190 rfl) rfl rfl ?_
                  refine w_istore (p := 158) (pI pM_190 rfl) rfl rfl rfl ?_
                  refine w_aload_n (p := 159) (pI pM_190 rfl) rfl rfl ?_
                  refine w_aload_n (p := 160) (pI pM_190 rfl) rfl rfl ?_
                  refine v_getI (p := 163) (kf := 34) (pI pM_190 rfl) rfl rfl rfl (by decide) (by decide) rfl rfl rfl ?_
                  refine w_if_ne (p := 166) (q := 171) (pI pM_190 rfl) rfl rfl rfl (fun c => ?_) (fun c => ?_)
                  · replace k := itn c k
                    refine w_iconst (p := 172) (v := nI 1) (pI pM_190 rfl) rfl rfl ?_
                    refine w_goto (p := 176) (pI pM_190 rfl) rfl rfl ?_
                    refine s_putI (p := 179) (kf := 34) (pI pM_190 rfl) rfl rfl rfl (by decide) (by decide) rfl rfl rfl rfl rfl rfl ?_
                    refine w_aload_n (p := 180) (pI pM_190 rfl) rfl rfl ?_
                    refine v_getR (p := 183) (kf := 32) (pI pM_190 rfl) rfl rfl rfl (by decide) (by decide) rfl rfl ?_
                    refine w_iload (p := 185) (pI pM_190 rfl) rfl rfl ?_
                    refine w_iconst (p := 186) (v := nI 1) (pI pM_190 rfl) rfl rfl ?_
                    refine w_isub (p := 187) (pI pM_190 rfl) rfl ?_
                    refine w_iload (p := 189) (pI pM_190 rfl) rfl rfl ?_
                    refine w_if_eq (p := 192) (q := 196) (pI pM_190 rfl) rfl rfl rfl (fun c => absurd c (by decide)) (fun _ => ?_)
                    refine w_iconst (p := 193) (v := nI 0) (pI pM_190 rfl) rfl rfl ?_
                    refine w_goto (p := 217) (pI pM_190 rfl) rfl rfl ?_
                    obtain ⟨s42, k⟩ := k
                    refine s_iast (p := 218) (pI pM_190 rfl) rfl (by decide) (by decide) rfl s42 ?_
                    refine w_iinc (p := 221) (v := (a3 + nI 1)) (pI pM_190 rfl) rfl rfl rfl rfl ?_
                    refine w_goto (p := 11) (pI pM_190 rfl) rfl rfl ?_
                    exact k _ _
                  · replace k := itp (Decidable.not_not.mp c) k
                    refine w_iload (p := 168) (pI pM_190 rfl) rfl rfl ?_
                    refine w_if_eq (p := 171) (q := 175) (pI pM_190 rfl) rfl rfl rfl (fun c => absurd c (by decide)) (fun _ => ?_)
                    refine w_iconst (p := 172) (v := nI 1) (pI pM_190 rfl) rfl rfl ?_
                    refine w_goto (p := 176) (pI pM_190 rfl) rfl rfl ?_
                    refine s_putI (p := 179) (kf := 34) (pI pM_190 rfl) rfl rfl rfl (by decide) (by decide) rfl rfl rfl rfl rfl rfl ?_
                    refine w_aload_n (p := 180) (pI pM_190 rfl) rfl rfl ?_
                    refine v_getR (p := 183) (kf := 32) (pI pM_190 rfl) rfl rfl rfl (by decide) (by decide) rfl rfl ?_
                    refine w_iload (p := 185) (pI pM_190 rfl) rfl rfl ?_
                    refine w_iconst (p := 186) (v := nI 1) (pI pM_190 rfl) rfl rfl ?_
                    refine w_isub (p := 187) (pI pM_190 rfl) rfl ?_
                    refine w_iload (p := 189) (pI pM_190 rfl) rfl rfl ?_
                    refine w_if_eq (p := 192) (q := 196) (pI pM_190 rfl) rfl rfl rfl (fun c => absurd c (by decide)) (fun _ => ?_)
                    refine w_iconst (p := 193) (v := nI 0) (pI pM_190 rfl) rfl rfl ?_
                    refine w_goto (p := 217) (pI pM_190 rfl) rfl rfl ?_
                    obtain ⟨s43, k⟩ := k
                    refine s_iast (p := 218) (pI pM_190 rfl) rfl (by decide) (by decide) rfl s43 ?_
                    refine w_iinc (p := 221) (v := (a3 + nI 1)) (pI pM_190 rfl) rfl rfl rfl rfl ?_
                    refine w_goto (p := 11) (pI pM_190 rfl) rfl rfl ?_
                    exact k _ _
          · replace k := itp (Decidable.not_not.mp c) k
            refine w_aload_n (p := 98) (pI pM_190 rfl) rfl rfl ?_
            refine v_getR (p := 101) (kf := 32) (pI pM_190 rfl) rfl rfl rfl (by decide) (by decide) rfl rfl ?_
            refine w_iload (p := 103) (pI pM_190 rfl) rfl rfl ?_
            refine w_iconst (p := 104) (v := nI 1) (pI pM_190 rfl) rfl rfl ?_
            refine w_isub (p := 105) (pI pM_190 rfl) rfl ?_
            refine w_iload (p := 107) (pI pM_190 rfl) rfl rfl ?_
            refine w_aload_n (p := 108) (pI pM_190 rfl) rfl rfl ?_
            refine v_getR (p := 111) (kf := 32) (pI pM_190 rfl) rfl rfl rfl (by decide) (by decide) rfl rfl ?_
            refine w_iload (p := 113) (pI pM_190 rfl) rfl rfl ?_
            refine w_iconst (p := 114) (v := nI 1) (pI pM_190 rfl) rfl rfl ?_
            refine w_isub (p := 115) (pI pM_190 rfl) rfl ?_
            obtain ⟨s44, k⟩ := k
            refine v_iald (p := 116) (pI pM_190 rfl) rfl (by decide) rfl s44 rfl ?_
            refine w_iconst (p := 117) (v := nI 0) (pI pM_190 rfl) rfl rfl ?_
            refine w_static (p := 120) (mj := 179) (pI pM_190 rfl) rfl rfl rfl rfl rfl rfl rfl rfl rfl ?_
            refine d179_reckon (D179_reckon_mono k (fun v45 k => ?_))
            obtain ⟨s46, k⟩ := k
            refine s_iast (p := 121) (pI pM_190 rfl) rfl (by decide) (by decide) rfl s46 ?_
            refine w_goto (p := 218) (pI pM_190 rfl) rfl rfl ?_
            refine w_iinc (p := 221) (v := (a3 + nI 1)) (pI pM_190 rfl) rfl rfl rfl rfl ?_
            refine w_goto (p := 11) (pI pM_190 rfl) rfl rfl ?_
            exact k _ _
      · replace k := itp (Int32.not_le.mp c) k
        refine w_aload_n (p := 60) (pI pM_190 rfl) rfl rfl ?_
        refine v_getR (p := 63) (kf := 32) (pI pM_190 rfl) rfl rfl rfl (by decide) (by decide) rfl rfl ?_
        refine w_iload (p := 65) (pI pM_190 rfl) rfl rfl ?_
        refine w_iload (p := 67) (pI pM_190 rfl) rfl rfl ?_
        refine w_iconst (p := 68) (v := nI 1) (pI pM_190 rfl) rfl rfl ?_
        refine w_icmp_ne (p := 71) (q := 75) (pI pM_190 rfl) rfl rfl rfl (fun c => ?_) (fun c => ?_)
        · replace k := itn c k
          refine w_iload_n (p := 76) (pI pM_190 rfl) rfl rfl ?_
          obtain ⟨s47, k⟩ := k
          refine s_iast (p := 77) (pI pM_190 rfl) rfl (by decide) (by decide) rfl s47 ?_
          refine w_iinc (p := 80) (v := (a2 + nI 1)) (pI pM_190 rfl) rfl rfl rfl rfl ?_
          refine w_goto (p := 218) (pI pM_190 rfl) rfl rfl ?_
          refine w_iinc (p := 221) (v := (a3 + nI 1)) (pI pM_190 rfl) rfl rfl rfl rfl ?_
          refine w_goto (p := 11) (pI pM_190 rfl) rfl rfl ?_
          exact k _ _
        · replace k := itp (Decidable.not_not.mp c) k
          refine w_iload_n (p := 72) (pI pM_190 rfl) rfl rfl ?_
          refine w_goto (p := 76) (pI pM_190 rfl) rfl rfl ?_
          obtain ⟨s48, k⟩ := k
          refine s_iast (p := 77) (pI pM_190 rfl) rfl (by decide) (by decide) rfl s48 ?_
          refine w_iinc (p := 80) (v := (a2 + nI 1)) (pI pM_190 rfl) rfl rfl rfl rfl ?_
          refine w_goto (p := 218) (pI pM_190 rfl) rfl rfl ?_
          refine w_iinc (p := 221) (v := (a3 + nI 1)) (pI pM_190 rfl) rfl rfl rfl rfl ?_
          refine w_goto (p := 11) (pI pM_190 rfl) rfl rfl ?_
          exact k _ _
    · replace k := itn c k
      refine w_aload_n (p := 35) (pI pM_190 rfl) rfl rfl ?_
      refine v_getR (p := 38) (kf := 32) (pI pM_190 rfl) rfl rfl rfl (by decide) (by decide) rfl rfl ?_
      refine w_iload (p := 40) (pI pM_190 rfl) rfl rfl ?_
      refine w_iload (p := 42) (pI pM_190 rfl) rfl rfl ?_
      refine w_sipush (p := 45) (v := nI 1000) (pI pM_190 rfl) rfl rfl ?_
      refine w_isub (p := 46) (pI pM_190 rfl) rfl ?_
      obtain ⟨s49, k⟩ := k
      refine s_iast (p := 47) (pI pM_190 rfl) rfl (by decide) (by decide) rfl s49 ?_
      refine w_iinc (p := 50) (v := (a2 + nI 1)) (pI pM_190 rfl) rfl rfl rfl rfl ?_
      refine w_goto (p := 218) (pI pM_190 rfl) rfl rfl ?_
      refine w_iinc (p := 221) (v := (a3 + nI 1)) (pI pM_190 rfl) rfl rfl rfl rfl ?_
      refine w_goto (p := 11) (pI pM_190 rfl) rfl rfl ?_
      exact k _ _
set_option maxRecDepth 100000 in
set_option maxHeartbeats 4000000 in
theorem d188_choose {d L : Nat} {x : Int32} {y : Int32} {A I : HA} {Q : bm_Q} (k : D188_choose x y A I (fun A I => Q none (hp L A I))) : bm_M (d + 4) 188 [.ref 1681, .int x, .int y] (hp L A I) Q := by
  unfold D188_choose at k
  refine bw_enter rfl rfl rfl rfl ?_
  refine w_aload_n (p := 1) (pI pM_188 rfl) rfl rfl ?_
  refine w_aload_n (p := 2) (pI pM_188 rfl) rfl rfl ?_
  refine v_getI (p := 5) (kf := 38) (pI pM_188 rfl) rfl rfl rfl (by decide) (by decide) rfl rfl rfl ?_
  refine v_virtual (p := 8) (mj := 189) (pI pM_188 rfl) rfl rfl rfl rfl rfl rfl rfl rfl rfl rfl (by decide) (by decide) rfl ?_
  refine d189_spell (D189_spell_mono k (fun v1 A2 I3 k => ?_))
  refine w_istore_n (p := 9) (pI pM_188 rfl) rfl rfl rfl ?_
  refine w_iconst (p := 10) (v := nI 0) (pI pM_188 rfl) rfl rfl ?_
  refine w_istore (p := 12) (pI pM_188 rfl) rfl rfl rfl ?_
  refine k (fun a5 A9 I10 => ∀ u6 u7 u8 : Value, bm_W (bm_M (d + 3)) 188 Q 12 [.ref 1681, .int x, .int y, .int v1, .int a5, u6, u7, u8] [] (hp L A9 I10)) (fun a5 A9 I10 k => ?_) _ _ _
  intro u6 u7 u8
  refine w_iload (p := 14) (pI pM_188 rfl) rfl rfl ?_
  refine w_sipush (p := 17) (v := nI 1024) (pI pM_188 rfl) rfl rfl ?_
  refine w_icmp_ge (p := 20) (q := 71) (pI pM_188 rfl) rfl rfl rfl (fun c => ?_) (fun c => ?_)
  · replace k := itn (Int32.not_lt.mpr c) k
    refine w_iload_n (p := 72) (pI pM_188 rfl) rfl rfl ?_
    refine w_bipush (p := 74) (v := nI 18) (pI pM_188 rfl) rfl rfl ?_
    refine w_icmp_eq (p := 77) (q := 83) (pI pM_188 rfl) rfl rfl rfl (fun c => ?_) (fun c => ?_)
    · replace k := itp c k
      refine w_aload_n (p := 84) (pI pM_188 rfl) rfl rfl ?_
      refine w_aload_n (p := 85) (pI pM_188 rfl) rfl rfl ?_
      refine v_getI (p := 88) (kf := 39) (pI pM_188 rfl) rfl rfl rfl (by decide) (by decide) rfl rfl rfl ?_
      refine v_virtual (p := 91) (mj := 189) (pI pM_188 rfl) rfl rfl rfl rfl rfl rfl rfl rfl rfl rfl (by decide) (by decide) rfl ?_
      refine d189_spell (D189_spell_mono k (fun v12 A13 I14 k => ?_))
      refine w_goto (p := 95) (pI pM_188 rfl) rfl rfl ?_
      refine w_istore_n (p := 96) (pI pM_188 rfl) rfl rfl rfl ?_
      refine w_iconst (p := 97) (v := nI 0) (pI pM_188 rfl) rfl rfl ?_
      refine w_istore (p := 99) (pI pM_188 rfl) rfl rfl rfl ?_
      refine k (fun a16 A20 I21 => ∀ u17 u18 u19 : Value, bm_W (bm_M (d + 3)) 188 Q 99 [.ref 1681, .int x, .int y, .int v12, .int a16, u17, u18, u19] [] (hp L A20 I21)) (fun a16 A20 I21 k => ?_) _ _ _
      intro u17 u18 u19
      refine w_iload (p := 101) (pI pM_188 rfl) rfl rfl ?_
      refine w_sipush (p := 104) (v := nI 1024) (pI pM_188 rfl) rfl rfl ?_
      refine w_icmp_ge (p := 107) (q := 311) (pI pM_188 rfl) rfl rfl rfl (fun c => ?_) (fun c => ?_)
      · replace k := itn (Int32.not_lt.mpr c) k
        exact w_return (pI pM_188 rfl) rfl k
      · replace k := itp (Int32.not_le.mp c) k
        refine w_aload_n (p := 108) (pI pM_188 rfl) rfl rfl ?_
        refine v_getR (p := 111) (kf := 9) (pI pM_188 rfl) rfl rfl rfl (by decide) (by decide) rfl rfl ?_
        refine w_sipush (p := 114) (v := nI 1024) (pI pM_188 rfl) rfl rfl ?_
        refine w_iload_n (p := 115) (pI pM_188 rfl) rfl rfl ?_
        refine w_imul (p := 116) (pI pM_188 rfl) rfl ?_
        refine w_iload (p := 118) (pI pM_188 rfl) rfl rfl ?_
        refine w_iadd (p := 119) (pI pM_188 rfl) rfl ?_
        obtain ⟨s23, k⟩ := k
        refine v_bald (p := 120) (pI pM_188 rfl) rfl (by decide) (by decide) rfl (by decide) s23 rfl ?_
        refine w_iconst (p := 121) (v := -1) (pI pM_188 rfl) rfl rfl ?_
        refine w_icmp_ne (p := 124) (q := 305) (pI pM_188 rfl) rfl rfl rfl (fun c => ?_) (fun c => ?_)
        · replace k := itn c k
          refine w_iinc (p := 308) (v := (a16 + nI 1)) (pI pM_188 rfl) rfl rfl rfl rfl ?_
          refine w_goto (p := 99) (pI pM_188 rfl) rfl rfl ?_
          exact k _ _ _
        · replace k := itp (Decidable.not_not.mp c) k
          refine w_aload_n (p := 125) (pI pM_188 rfl) rfl rfl ?_
          refine v_getR (p := 128) (kf := 41) (pI pM_188 rfl) rfl rfl rfl (by decide) (by decide) rfl rfl ?_
          refine w_iload (p := 130) (pI pM_188 rfl) rfl rfl ?_
          obtain ⟨s24, k⟩ := k
          refine v_iald (p := 131) (pI pM_188 rfl) rfl (by decide) rfl s24 rfl ?_
          refine w_istore (p := 133) (pI pM_188 rfl) rfl rfl rfl ?_
          refine w_iload_n (p := 134) (pI pM_188 rfl) rfl rfl ?_
          refine w_if_ne (p := 137) (q := 141) (pI pM_188 rfl) rfl rfl rfl (fun c => ?_) (fun c => ?_)
          · replace k := itn c k
            refine w_aload_n (p := 142) (pI pM_188 rfl) rfl rfl ?_
            refine w_iload_n (p := 143) (pI pM_188 rfl) rfl rfl ?_
            refine w_iload (p := 145) (pI pM_188 rfl) rfl rfl ?_
            refine w_bipush (p := 147) (v := nI 32) (pI pM_188 rfl) rfl rfl ?_
            refine w_idiv (p := 148) (pI pM_188 rfl) rfl (by decide) ?_
            refine w_bipush (p := 150) (v := nI 16) (pI pM_188 rfl) rfl rfl ?_
            refine w_isub (p := 151) (pI pM_188 rfl) rfl ?_
            refine w_iload (p := 153) (pI pM_188 rfl) rfl rfl ?_
            refine w_bipush (p := 155) (v := nI 32) (pI pM_188 rfl) rfl rfl ?_
            refine w_irem (p := 156) (pI pM_188 rfl) rfl (by decide) ?_
            refine w_bipush (p := 158) (v := nI 16) (pI pM_188 rfl) rfl rfl ?_
            refine w_isub (p := 159) (pI pM_188 rfl) rfl ?_
            refine v_virtual (p := 162) (mj := 190) (pI pM_188 rfl) rfl rfl rfl rfl rfl rfl rfl rfl rfl rfl (by decide) (by decide) rfl ?_
            refine d190_worth (D190_worth_mono k (fun v25 A26 I27 k => ?_))
            refine w_istore (p := 164) (pI pM_188 rfl) rfl rfl rfl ?_
            refine w_iload_n (p := 165) (pI pM_188 rfl) rfl rfl ?_
            refine w_bipush (p := 167) (v := nI 18) (pI pM_188 rfl) rfl rfl ?_
            refine w_icmp_ne (p := 170) (q := 187) (pI pM_188 rfl) rfl rfl rfl (fun c => ?_) (fun c => ?_)
            · replace k := itn c k
              refine w_iload_n (p := 188) (pI pM_188 rfl) rfl rfl ?_
              refine w_bipush (p := 190) (v := nI 19) (pI pM_188 rfl) rfl rfl ?_
              refine w_icmp_ne (p := 193) (q := 210) (pI pM_188 rfl) rfl rfl rfl (fun c => ?_) (fun c => ?_)
              · replace k := itn c k
                refine w_iload_n (p := 211) (pI pM_188 rfl) rfl rfl ?_
                refine w_bipush (p := 213) (v := nI 9) (pI pM_188 rfl) rfl rfl ?_
                refine w_icmp_eq (p := 216) (q := 222) (pI pM_188 rfl) rfl rfl rfl (fun c => ?_) (fun c => ?_)
                · replace k := itp c k
                  refine w_iload (p := 224) (pI pM_188 rfl) rfl rfl ?_
                  refine w_if_eq (p := 227) (q := 231) (pI pM_188 rfl) rfl rfl rfl (fun c => ?_) (fun c => ?_)
                  · replace k := itp c k
                    refine w_iconst (p := 232) (v := nI 1) (pI pM_188 rfl) rfl rfl ?_
                    refine w_istore (p := 234) (pI pM_188 rfl) rfl rfl rfl ?_
                    refine w_goto (p := 296) (pI pM_188 rfl) rfl rfl ?_
                    refine w_aload_n (p := 297) (pI pM_188 rfl) rfl rfl ?_
                    refine v_getR (p := 300) (kf := 40) (pI pM_188 rfl) rfl rfl rfl (by decide) (by decide) rfl rfl ?_
                    refine w_iload (p := 302) (pI pM_188 rfl) rfl rfl ?_
                    refine w_iload (p := 304) (pI pM_188 rfl) rfl rfl ?_
                    obtain ⟨s28, k⟩ := k
                    refine s_iast (p := 305) (pI pM_188 rfl) rfl (by decide) (by decide) rfl s28 ?_
                    refine w_iinc (p := 308) (v := (a16 + nI 1)) (pI pM_188 rfl) rfl rfl rfl rfl ?_
                    refine w_goto (p := 99) (pI pM_188 rfl) rfl rfl ?_
                    exact k _ _ _
                  · replace k := itn c k
                    refine w_iconst (p := 228) (v := nI 0) (pI pM_188 rfl) rfl rfl ?_
                    refine w_goto (p := 232) (pI pM_188 rfl) rfl rfl ?_
                    refine w_istore (p := 234) (pI pM_188 rfl) rfl rfl rfl ?_
                    refine w_goto (p := 296) (pI pM_188 rfl) rfl rfl ?_
                    refine w_aload_n (p := 297) (pI pM_188 rfl) rfl rfl ?_
                    refine v_getR (p := 300) (kf := 40) (pI pM_188 rfl) rfl rfl rfl (by decide) (by decide) rfl rfl ?_
                    refine w_iload (p := 302) (pI pM_188 rfl) rfl rfl ?_
                    refine w_iload (p := 304) (pI pM_188 rfl) rfl rfl ?_
                    obtain ⟨s29, k⟩ := k
                    refine s_iast (p := 305) (pI pM_188 rfl) rfl (by decide) (by decide) rfl s29 ?_
                    refine w_iinc (p := 308) (v := (a16 + nI 1)) (pI pM_188 rfl) rfl rfl rfl rfl ?_
                    refine w_goto (p := 99) (pI pM_188 rfl) rfl rfl ?_
                    exact k _ _ _
                · replace k := itn c k
                  refine w_iload_n (p := 217) (pI pM_188 rfl) rfl rfl ?_
                  refine w_bipush (p := 219) (v := nI 10) (pI pM_188 rfl) rfl rfl ?_
                  refine w_icmp_ne (p := 222) (q := 237) (pI pM_188 rfl) rfl rfl rfl (fun c => ?_) (fun c => ?_)
                  · replace k := itn c k
                    refine w_iload_n (p := 238) (pI pM_188 rfl) rfl rfl ?_
                    refine w_bipush (p := 240) (v := nI 21) (pI pM_188 rfl) rfl rfl ?_
                    refine w_icmp_ne (p := 243) (q := 271) (pI pM_188 rfl) rfl rfl rfl (fun c => ?_) (fun c => ?_)
                    · replace k := itn c k
                      refine w_iload (p := 273) (pI pM_188 rfl) rfl rfl ?_
                      refine w_if_lt (p := 276) (q := 290) (pI pM_188 rfl) rfl rfl rfl (fun c => ?_) (fun c => ?_)
                      · replace k := itp c k
                        refine w_aload_n (p := 291) (pI pM_188 rfl) rfl rfl ?_
                        refine v_getI (p := 294) (kf := 39) (pI pM_188 rfl) rfl rfl rfl (by decide) (by decide) rfl rfl rfl ?_
                        refine w_istore (p := 296) (pI pM_188 rfl) rfl rfl rfl ?_
                        refine w_aload_n (p := 297) (pI pM_188 rfl) rfl rfl ?_
                        refine v_getR (p := 300) (kf := 40) (pI pM_188 rfl) rfl rfl rfl (by decide) (by decide) rfl rfl ?_
                        refine w_iload (p := 302) (pI pM_188 rfl) rfl rfl ?_
                        refine w_iload (p := 304) (pI pM_188 rfl) rfl rfl ?_
                        obtain ⟨s30, k⟩ := k
                        refine s_iast (p := 305) (pI pM_188 rfl) rfl (by decide) (by decide) rfl s30 ?_
                        refine w_iinc (p := 308) (v := (a16 + nI 1)) (pI pM_188 rfl) rfl rfl rfl rfl ?_
                        refine w_goto (p := 99) (pI pM_188 rfl) rfl rfl ?_
                        exact k _ _ _
                      · replace k := itn c k
                        refine w_iload (p := 278) (pI pM_188 rfl) rfl rfl ?_
                        refine w_aload_n (p := 279) (pI pM_188 rfl) rfl rfl ?_
                        refine v_getI (p := 282) (kf := 39) (pI pM_188 rfl) rfl rfl rfl (by decide) (by decide) rfl rfl rfl ?_
                        refine w_icmp_ge (p := 285) (q := 290) (pI pM_188 rfl) rfl rfl rfl (fun c => ?_) (fun c => ?_)
                        · replace k := itn (Int32.not_lt.mpr c) k
                          refine w_aload_n (p := 291) (pI pM_188 rfl) rfl rfl ?_
                          refine v_getI (p := 294) (kf := 39) (pI pM_188 rfl) rfl rfl rfl (by decide) (by decide) rfl rfl rfl ?_
                          refine w_istore (p := 296) (pI pM_188 rfl) rfl rfl rfl ?_
                          refine w_aload_n (p := 297) (pI pM_188 rfl) rfl rfl ?_
                          refine v_getR (p := 300) (kf := 40) (pI pM_188 rfl) rfl rfl rfl (by decide) (by decide) rfl rfl ?_
                          refine w_iload (p := 302) (pI pM_188 rfl) rfl rfl ?_
                          refine w_iload (p := 304) (pI pM_188 rfl) rfl rfl ?_
                          obtain ⟨s31, k⟩ := k
                          refine s_iast (p := 305) (pI pM_188 rfl) rfl (by decide) (by decide) rfl s31 ?_
                          refine w_iinc (p := 308) (v := (a16 + nI 1)) (pI pM_188 rfl) rfl rfl rfl rfl ?_
                          refine w_goto (p := 99) (pI pM_188 rfl) rfl rfl ?_
                          exact k _ _ _
                        · replace k := itp (Int32.not_le.mp c) k
                          refine w_iload (p := 287) (pI pM_188 rfl) rfl rfl ?_
                          refine w_goto (p := 294) (pI pM_188 rfl) rfl rfl ?_
                          refine w_istore (p := 296) (pI pM_188 rfl) rfl rfl rfl ?_
                          refine w_aload_n (p := 297) (pI pM_188 rfl) rfl rfl ?_
                          refine v_getR (p := 300) (kf := 40) (pI pM_188 rfl) rfl rfl rfl (by decide) (by decide) rfl rfl ?_
                          refine w_iload (p := 302) (pI pM_188 rfl) rfl rfl ?_
                          refine w_iload (p := 304) (pI pM_188 rfl) rfl rfl ?_
                          obtain ⟨s32, k⟩ := k
                          refine s_iast (p := 305) (pI pM_188 rfl) rfl (by decide) (by decide) rfl s32 ?_
                          refine w_iinc (p := 308) (v := (a16 + nI 1)) (pI pM_188 rfl) rfl rfl rfl rfl ?_
                          refine w_goto (p := 99) (pI pM_188 rfl) rfl rfl ?_
                          exact k _ _ _
                    · replace k := itp (Decidable.not_not.mp c) k
                      refine w_iload (p := 245) (pI pM_188 rfl) rfl rfl ?_
                      refine w_if_ge (p := 248) (q := 253) (pI pM_188 rfl) rfl rfl rfl (fun c => ?_) (fun c => ?_)
                      · replace k := itn (Int32.not_lt.mpr c) k
                        refine w_iload (p := 255) (pI pM_188 rfl) rfl rfl ?_
                        refine w_iconst (p := 256) (v := nI 5) (pI pM_188 rfl) rfl rfl ?_
                        refine w_icmp_le (p := 259) (q := 264) (pI pM_188 rfl) rfl rfl rfl (fun c => ?_) (fun c => ?_)
                        · replace k := itn (Int32.not_lt.mpr c) k
                          refine w_iload (p := 266) (pI pM_188 rfl) rfl rfl ?_
                          refine w_istore (p := 268) (pI pM_188 rfl) rfl rfl rfl ?_
                          refine w_goto (p := 296) (pI pM_188 rfl) rfl rfl ?_
                          refine w_aload_n (p := 297) (pI pM_188 rfl) rfl rfl ?_
                          refine v_getR (p := 300) (kf := 40) (pI pM_188 rfl) rfl rfl rfl (by decide) (by decide) rfl rfl ?_
                          refine w_iload (p := 302) (pI pM_188 rfl) rfl rfl ?_
                          refine w_iload (p := 304) (pI pM_188 rfl) rfl rfl ?_
                          obtain ⟨s33, k⟩ := k
                          refine s_iast (p := 305) (pI pM_188 rfl) rfl (by decide) (by decide) rfl s33 ?_
                          refine w_iinc (p := 308) (v := (a16 + nI 1)) (pI pM_188 rfl) rfl rfl rfl rfl ?_
                          refine w_goto (p := 99) (pI pM_188 rfl) rfl rfl ?_
                          exact k _ _ _
                        · replace k := itp (Int32.not_le.mp c) k
                          refine w_bipush (p := 261) (v := nI 7) (pI pM_188 rfl) rfl rfl ?_
                          refine w_goto (p := 266) (pI pM_188 rfl) rfl rfl ?_
                          refine w_istore (p := 268) (pI pM_188 rfl) rfl rfl rfl ?_
                          refine w_goto (p := 296) (pI pM_188 rfl) rfl rfl ?_
                          refine w_aload_n (p := 297) (pI pM_188 rfl) rfl rfl ?_
                          refine v_getR (p := 300) (kf := 40) (pI pM_188 rfl) rfl rfl rfl (by decide) (by decide) rfl rfl ?_
                          refine w_iload (p := 302) (pI pM_188 rfl) rfl rfl ?_
                          refine w_iload (p := 304) (pI pM_188 rfl) rfl rfl ?_
                          obtain ⟨s34, k⟩ := k
                          refine s_iast (p := 305) (pI pM_188 rfl) rfl (by decide) (by decide) rfl s34 ?_
                          refine w_iinc (p := 308) (v := (a16 + nI 1)) (pI pM_188 rfl) rfl rfl rfl rfl ?_
                          refine w_goto (p := 99) (pI pM_188 rfl) rfl rfl ?_
                          exact k _ _ _
                      · replace k := itp (Int32.not_le.mp c) k
                        refine w_bipush (p := 250) (v := nI 6) (pI pM_188 rfl) rfl rfl ?_
                        refine w_goto (p := 266) (pI pM_188 rfl) rfl rfl ?_
                        refine w_istore (p := 268) (pI pM_188 rfl) rfl rfl rfl ?_
                        refine w_goto (p := 296) (pI pM_188 rfl) rfl rfl ?_
                        refine w_aload_n (p := 297) (pI pM_188 rfl) rfl rfl ?_
                        refine v_getR (p := 300) (kf := 40) (pI pM_188 rfl) rfl rfl rfl (by decide) (by decide) rfl rfl ?_
                        refine w_iload (p := 302) (pI pM_188 rfl) rfl rfl ?_
                        refine w_iload (p := 304) (pI pM_188 rfl) rfl rfl ?_
                        obtain ⟨s35, k⟩ := k
                        refine s_iast (p := 305) (pI pM_188 rfl) rfl (by decide) (by decide) rfl s35 ?_
                        refine w_iinc (p := 308) (v := (a16 + nI 1)) (pI pM_188 rfl) rfl rfl rfl rfl ?_
                        refine w_goto (p := 99) (pI pM_188 rfl) rfl rfl ?_
                        exact k _ _ _
                  · replace k := itp (Decidable.not_not.mp c) k
                    refine w_iload (p := 224) (pI pM_188 rfl) rfl rfl ?_
                    refine w_if_eq (p := 227) (q := 231) (pI pM_188 rfl) rfl rfl rfl (fun c => ?_) (fun c => ?_)
                    · replace k := itp c k
                      refine w_iconst (p := 232) (v := nI 1) (pI pM_188 rfl) rfl rfl ?_
                      refine w_istore (p := 234) (pI pM_188 rfl) rfl rfl rfl ?_
                      refine w_goto (p := 296) (pI pM_188 rfl) rfl rfl ?_
                      refine w_aload_n (p := 297) (pI pM_188 rfl) rfl rfl ?_
                      refine v_getR (p := 300) (kf := 40) (pI pM_188 rfl) rfl rfl rfl (by decide) (by decide) rfl rfl ?_
                      refine w_iload (p := 302) (pI pM_188 rfl) rfl rfl ?_
                      refine w_iload (p := 304) (pI pM_188 rfl) rfl rfl ?_
                      obtain ⟨s36, k⟩ := k
                      refine s_iast (p := 305) (pI pM_188 rfl) rfl (by decide) (by decide) rfl s36 ?_
                      refine w_iinc (p := 308) (v := (a16 + nI 1)) (pI pM_188 rfl) rfl rfl rfl rfl ?_
                      refine w_goto (p := 99) (pI pM_188 rfl) rfl rfl ?_
                      exact k _ _ _
                    · replace k := itn c k
                      refine w_iconst (p := 228) (v := nI 0) (pI pM_188 rfl) rfl rfl ?_
                      refine w_goto (p := 232) (pI pM_188 rfl) rfl rfl ?_
                      refine w_istore (p := 234) (pI pM_188 rfl) rfl rfl rfl ?_
                      refine w_goto (p := 296) (pI pM_188 rfl) rfl rfl ?_
                      refine w_aload_n (p := 297) (pI pM_188 rfl) rfl rfl ?_
                      refine v_getR (p := 300) (kf := 40) (pI pM_188 rfl) rfl rfl rfl (by decide) (by decide) rfl rfl ?_
                      refine w_iload (p := 302) (pI pM_188 rfl) rfl rfl ?_
                      refine w_iload (p := 304) (pI pM_188 rfl) rfl rfl ?_
                      obtain ⟨s37, k⟩ := k
                      refine s_iast (p := 305) (pI pM_188 rfl) rfl (by decide) (by decide) rfl s37 ?_
                      refine w_iinc (p := 308) (v := (a16 + nI 1)) (pI pM_188 rfl) rfl rfl rfl rfl ?_
                      refine w_goto (p := 99) (pI pM_188 rfl) rfl rfl ?_
                      exact k _ _ _
              · replace k := itp (Decidable.not_not.mp c) k
                refine w_iload (p := 195) (pI pM_188 rfl) rfl rfl ?_
                refine w_iload (p := 197) (pI pM_188 rfl) rfl rfl ?_
                refine w_icmp_ne (p := 200) (q := 204) (pI pM_188 rfl) rfl rfl rfl (fun c => ?_) (fun c => ?_)
                · replace k := itn c k
                  refine w_iconst (p := 205) (v := nI 1) (pI pM_188 rfl) rfl rfl ?_
                  refine w_istore (p := 207) (pI pM_188 rfl) rfl rfl rfl ?_
                  refine w_goto (p := 296) (pI pM_188 rfl) rfl rfl ?_
                  refine w_aload_n (p := 297) (pI pM_188 rfl) rfl rfl ?_
                  refine v_getR (p := 300) (kf := 40) (pI pM_188 rfl) rfl rfl rfl (by decide) (by decide) rfl rfl ?_
                  refine w_iload (p := 302) (pI pM_188 rfl) rfl rfl ?_
                  refine w_iload (p := 304) (pI pM_188 rfl) rfl rfl ?_
                  obtain ⟨s38, k⟩ := k
                  refine s_iast (p := 305) (pI pM_188 rfl) rfl (by decide) (by decide) rfl s38 ?_
                  refine w_iinc (p := 308) (v := (a16 + nI 1)) (pI pM_188 rfl) rfl rfl rfl rfl ?_
                  refine w_goto (p := 99) (pI pM_188 rfl) rfl rfl ?_
                  exact k _ _ _
                · replace k := itp (Decidable.not_not.mp c) k
                  refine w_iconst (p := 201) (v := nI 0) (pI pM_188 rfl) rfl rfl ?_
                  refine w_goto (p := 205) (pI pM_188 rfl) rfl rfl ?_
                  refine w_istore (p := 207) (pI pM_188 rfl) rfl rfl rfl ?_
                  refine w_goto (p := 296) (pI pM_188 rfl) rfl rfl ?_
                  refine w_aload_n (p := 297) (pI pM_188 rfl) rfl rfl ?_
                  refine v_getR (p := 300) (kf := 40) (pI pM_188 rfl) rfl rfl rfl (by decide) (by decide) rfl rfl ?_
                  refine w_iload (p := 302) (pI pM_188 rfl) rfl rfl ?_
                  refine w_iload (p := 304) (pI pM_188 rfl) rfl rfl ?_
                  obtain ⟨s39, k⟩ := k
                  refine s_iast (p := 305) (pI pM_188 rfl) rfl (by decide) (by decide) rfl s39 ?_
                  refine w_iinc (p := 308) (v := (a16 + nI 1)) (pI pM_188 rfl) rfl rfl rfl rfl ?_
                  refine w_goto (p := 99) (pI pM_188 rfl) rfl rfl ?_
                  exact k _ _ _
            · replace k := itp (Decidable.not_not.mp c) k
              refine w_iload (p := 172) (pI pM_188 rfl) rfl rfl ?_
              refine w_iload (p := 174) (pI pM_188 rfl) rfl rfl ?_
              refine w_icmp_ge (p := 177) (q := 181) (pI pM_188 rfl) rfl rfl rfl (fun c => ?_) (fun c => ?_)
              · replace k := itn (Int32.not_lt.mpr c) k
                refine w_iconst (p := 182) (v := nI 1) (pI pM_188 rfl) rfl rfl ?_
                refine w_istore (p := 184) (pI pM_188 rfl) rfl rfl rfl ?_
                refine w_goto (p := 296) (pI pM_188 rfl) rfl rfl ?_
                refine w_aload_n (p := 297) (pI pM_188 rfl) rfl rfl ?_
                refine v_getR (p := 300) (kf := 40) (pI pM_188 rfl) rfl rfl rfl (by decide) (by decide) rfl rfl ?_
                refine w_iload (p := 302) (pI pM_188 rfl) rfl rfl ?_
                refine w_iload (p := 304) (pI pM_188 rfl) rfl rfl ?_
                obtain ⟨s40, k⟩ := k
                refine s_iast (p := 305) (pI pM_188 rfl) rfl (by decide) (by decide) rfl s40 ?_
                refine w_iinc (p := 308) (v := (a16 + nI 1)) (pI pM_188 rfl) rfl rfl rfl rfl ?_
                refine w_goto (p := 99) (pI pM_188 rfl) rfl rfl ?_
                exact k _ _ _
              · replace k := itp (Int32.not_le.mp c) k
                refine w_iconst (p := 178) (v := nI 0) (pI pM_188 rfl) rfl rfl ?_
                refine w_goto (p := 182) (pI pM_188 rfl) rfl rfl ?_
                refine w_istore (p := 184) (pI pM_188 rfl) rfl rfl rfl ?_
                refine w_goto (p := 296) (pI pM_188 rfl) rfl rfl ?_
                refine w_aload_n (p := 297) (pI pM_188 rfl) rfl rfl ?_
                refine v_getR (p := 300) (kf := 40) (pI pM_188 rfl) rfl rfl rfl (by decide) (by decide) rfl rfl ?_
                refine w_iload (p := 302) (pI pM_188 rfl) rfl rfl ?_
                refine w_iload (p := 304) (pI pM_188 rfl) rfl rfl ?_
                obtain ⟨s41, k⟩ := k
                refine s_iast (p := 305) (pI pM_188 rfl) rfl (by decide) (by decide) rfl s41 ?_
                refine w_iinc (p := 308) (v := (a16 + nI 1)) (pI pM_188 rfl) rfl rfl rfl rfl ?_
                refine w_goto (p := 99) (pI pM_188 rfl) rfl rfl ?_
                exact k _ _ _
          · replace k := itp (Decidable.not_not.mp c) k
            refine w_iconst (p := 138) (v := nI 0) (pI pM_188 rfl) rfl rfl ?_
            refine w_goto (p := 162) (pI pM_188 rfl) rfl rfl ?_
            refine w_istore (p := 164) (pI pM_188 rfl) rfl rfl rfl ?_
            refine w_iload_n (p := 165) (pI pM_188 rfl) rfl rfl ?_
            refine w_bipush (p := 167) (v := nI 18) (pI pM_188 rfl) rfl rfl ?_
            refine w_icmp_ne (p := 170) (q := 187) (pI pM_188 rfl) rfl rfl rfl (fun c => ?_) (fun c => ?_)
            · replace k := itn c k
              refine w_iload_n (p := 188) (pI pM_188 rfl) rfl rfl ?_
              refine w_bipush (p := 190) (v := nI 19) (pI pM_188 rfl) rfl rfl ?_
              refine w_icmp_ne (p := 193) (q := 210) (pI pM_188 rfl) rfl rfl rfl (fun c => ?_) (fun c => ?_)
              · replace k := itn c k
                refine w_iload_n (p := 211) (pI pM_188 rfl) rfl rfl ?_
                refine w_bipush (p := 213) (v := nI 9) (pI pM_188 rfl) rfl rfl ?_
                refine w_icmp_eq (p := 216) (q := 222) (pI pM_188 rfl) rfl rfl rfl (fun c => ?_) (fun c => ?_)
                · replace k := itp c k
                  refine w_iload (p := 224) (pI pM_188 rfl) rfl rfl ?_
                  refine w_if_eq (p := 227) (q := 231) (pI pM_188 rfl) rfl rfl rfl (fun c => ?_) (fun c => ?_)
                  · replace k := itp c k
                    refine w_iconst (p := 232) (v := nI 1) (pI pM_188 rfl) rfl rfl ?_
                    refine w_istore (p := 234) (pI pM_188 rfl) rfl rfl rfl ?_
                    refine w_goto (p := 296) (pI pM_188 rfl) rfl rfl ?_
                    refine w_aload_n (p := 297) (pI pM_188 rfl) rfl rfl ?_
                    refine v_getR (p := 300) (kf := 40) (pI pM_188 rfl) rfl rfl rfl (by decide) (by decide) rfl rfl ?_
                    refine w_iload (p := 302) (pI pM_188 rfl) rfl rfl ?_
                    refine w_iload (p := 304) (pI pM_188 rfl) rfl rfl ?_
                    obtain ⟨s42, k⟩ := k
                    refine s_iast (p := 305) (pI pM_188 rfl) rfl (by decide) (by decide) rfl s42 ?_
                    refine w_iinc (p := 308) (v := (a16 + nI 1)) (pI pM_188 rfl) rfl rfl rfl rfl ?_
                    refine w_goto (p := 99) (pI pM_188 rfl) rfl rfl ?_
                    exact k _ _ _
                  · replace k := itn c k
                    refine w_iconst (p := 228) (v := nI 0) (pI pM_188 rfl) rfl rfl ?_
                    refine w_goto (p := 232) (pI pM_188 rfl) rfl rfl ?_
                    refine w_istore (p := 234) (pI pM_188 rfl) rfl rfl rfl ?_
                    refine w_goto (p := 296) (pI pM_188 rfl) rfl rfl ?_
                    refine w_aload_n (p := 297) (pI pM_188 rfl) rfl rfl ?_
                    refine v_getR (p := 300) (kf := 40) (pI pM_188 rfl) rfl rfl rfl (by decide) (by decide) rfl rfl ?_
                    refine w_iload (p := 302) (pI pM_188 rfl) rfl rfl ?_
                    refine w_iload (p := 304) (pI pM_188 rfl) rfl rfl ?_
                    obtain ⟨s43, k⟩ := k
                    refine s_iast (p := 305) (pI pM_188 rfl) rfl (by decide) (by decide) rfl s43 ?_
                    refine w_iinc (p := 308) (v := (a16 + nI 1)) (pI pM_188 rfl) rfl rfl rfl rfl ?_
                    refine w_goto (p := 99) (pI pM_188 rfl) rfl rfl ?_
                    exact k _ _ _
                · replace k := itn c k
                  refine w_iload_n (p := 217) (pI pM_188 rfl) rfl rfl ?_
                  refine w_bipush (p := 219) (v := nI 10) (pI pM_188 rfl) rfl rfl ?_
                  refine w_icmp_ne (p := 222) (q := 237) (pI pM_188 rfl) rfl rfl rfl (fun c => ?_) (fun c => ?_)
                  · replace k := itn c k
                    refine w_iload_n (p := 238) (pI pM_188 rfl) rfl rfl ?_
                    refine w_bipush (p := 240) (v := nI 21) (pI pM_188 rfl) rfl rfl ?_
                    refine w_icmp_ne (p := 243) (q := 271) (pI pM_188 rfl) rfl rfl rfl (fun c => ?_) (fun c => ?_)
                    · replace k := itn c k
                      refine w_iload (p := 273) (pI pM_188 rfl) rfl rfl ?_
                      refine w_if_lt (p := 276) (q := 290) (pI pM_188 rfl) rfl rfl rfl (fun c => ?_) (fun c => ?_)
                      · replace k := itp c k
                        refine w_aload_n (p := 291) (pI pM_188 rfl) rfl rfl ?_
                        refine v_getI (p := 294) (kf := 39) (pI pM_188 rfl) rfl rfl rfl (by decide) (by decide) rfl rfl rfl ?_
                        refine w_istore (p := 296) (pI pM_188 rfl) rfl rfl rfl ?_
                        refine w_aload_n (p := 297) (pI pM_188 rfl) rfl rfl ?_
                        refine v_getR (p := 300) (kf := 40) (pI pM_188 rfl) rfl rfl rfl (by decide) (by decide) rfl rfl ?_
                        refine w_iload (p := 302) (pI pM_188 rfl) rfl rfl ?_
                        refine w_iload (p := 304) (pI pM_188 rfl) rfl rfl ?_
                        obtain ⟨s44, k⟩ := k
                        refine s_iast (p := 305) (pI pM_188 rfl) rfl (by decide) (by decide) rfl s44 ?_
                        refine w_iinc (p := 308) (v := (a16 + nI 1)) (pI pM_188 rfl) rfl rfl rfl rfl ?_
                        refine w_goto (p := 99) (pI pM_188 rfl) rfl rfl ?_
                        exact k _ _ _
                      · replace k := itn c k
                        refine w_iload (p := 278) (pI pM_188 rfl) rfl rfl ?_
                        refine w_aload_n (p := 279) (pI pM_188 rfl) rfl rfl ?_
                        refine v_getI (p := 282) (kf := 39) (pI pM_188 rfl) rfl rfl rfl (by decide) (by decide) rfl rfl rfl ?_
                        refine w_icmp_ge (p := 285) (q := 290) (pI pM_188 rfl) rfl rfl rfl (fun c => ?_) (fun c => ?_)
                        · replace k := itn (Int32.not_lt.mpr c) k
                          refine w_aload_n (p := 291) (pI pM_188 rfl) rfl rfl ?_
                          refine v_getI (p := 294) (kf := 39) (pI pM_188 rfl) rfl rfl rfl (by decide) (by decide) rfl rfl rfl ?_
                          refine w_istore (p := 296) (pI pM_188 rfl) rfl rfl rfl ?_
                          refine w_aload_n (p := 297) (pI pM_188 rfl) rfl rfl ?_
                          refine v_getR (p := 300) (kf := 40) (pI pM_188 rfl) rfl rfl rfl (by decide) (by decide) rfl rfl ?_
                          refine w_iload (p := 302) (pI pM_188 rfl) rfl rfl ?_
                          refine w_iload (p := 304) (pI pM_188 rfl) rfl rfl ?_
                          obtain ⟨s45, k⟩ := k
                          refine s_iast (p := 305) (pI pM_188 rfl) rfl (by decide) (by decide) rfl s45 ?_
                          refine w_iinc (p := 308) (v := (a16 + nI 1)) (pI pM_188 rfl) rfl rfl rfl rfl ?_
                          refine w_goto (p := 99) (pI pM_188 rfl) rfl rfl ?_
                          exact k _ _ _
                        · replace k := itp (Int32.not_le.mp c) k
                          refine w_iload (p := 287) (pI pM_188 rfl) rfl rfl ?_
                          refine w_goto (p := 294) (pI pM_188 rfl) rfl rfl ?_
                          refine w_istore (p := 296) (pI pM_188 rfl) rfl rfl rfl ?_
                          refine w_aload_n (p := 297) (pI pM_188 rfl) rfl rfl ?_
                          refine v_getR (p := 300) (kf := 40) (pI pM_188 rfl) rfl rfl rfl (by decide) (by decide) rfl rfl ?_
                          refine w_iload (p := 302) (pI pM_188 rfl) rfl rfl ?_
                          refine w_iload (p := 304) (pI pM_188 rfl) rfl rfl ?_
                          obtain ⟨s46, k⟩ := k
                          refine s_iast (p := 305) (pI pM_188 rfl) rfl (by decide) (by decide) rfl s46 ?_
                          refine w_iinc (p := 308) (v := (a16 + nI 1)) (pI pM_188 rfl) rfl rfl rfl rfl ?_
                          refine w_goto (p := 99) (pI pM_188 rfl) rfl rfl ?_
                          exact k _ _ _
                    · replace k := itp (Decidable.not_not.mp c) k
                      refine w_iload (p := 245) (pI pM_188 rfl) rfl rfl ?_
                      refine w_if_ge (p := 248) (q := 253) (pI pM_188 rfl) rfl rfl rfl (fun c => ?_) (fun c => ?_)
                      · replace k := itn (Int32.not_lt.mpr c) k
                        refine w_iload (p := 255) (pI pM_188 rfl) rfl rfl ?_
                        refine w_iconst (p := 256) (v := nI 5) (pI pM_188 rfl) rfl rfl ?_
                        refine w_icmp_le (p := 259) (q := 264) (pI pM_188 rfl) rfl rfl rfl (fun c => ?_) (fun c => ?_)
                        · replace k := itn (Int32.not_lt.mpr c) k
                          refine w_iload (p := 266) (pI pM_188 rfl) rfl rfl ?_
                          refine w_istore (p := 268) (pI pM_188 rfl) rfl rfl rfl ?_
                          refine w_goto (p := 296) (pI pM_188 rfl) rfl rfl ?_
                          refine w_aload_n (p := 297) (pI pM_188 rfl) rfl rfl ?_
                          refine v_getR (p := 300) (kf := 40) (pI pM_188 rfl) rfl rfl rfl (by decide) (by decide) rfl rfl ?_
                          refine w_iload (p := 302) (pI pM_188 rfl) rfl rfl ?_
                          refine w_iload (p := 304) (pI pM_188 rfl) rfl rfl ?_
                          obtain ⟨s47, k⟩ := k
                          refine s_iast (p := 305) (pI pM_188 rfl) rfl (by decide) (by decide) rfl s47 ?_
                          refine w_iinc (p := 308) (v := (a16 + nI 1)) (pI pM_188 rfl) rfl rfl rfl rfl ?_
                          refine w_goto (p := 99) (pI pM_188 rfl) rfl rfl ?_
                          exact k _ _ _
                        · replace k := itp (Int32.not_le.mp c) k
                          refine w_bipush (p := 261) (v := nI 7) (pI pM_188 rfl) rfl rfl ?_
                          refine w_goto (p := 266) (pI pM_188 rfl) rfl rfl ?_
                          refine w_istore (p := 268) (pI pM_188 rfl) rfl rfl rfl ?_
                          refine w_goto (p := 296) (pI pM_188 rfl) rfl rfl ?_
                          refine w_aload_n (p := 297) (pI pM_188 rfl) rfl rfl ?_
                          refine v_getR (p := 300) (kf := 40) (pI pM_188 rfl) rfl rfl rfl (by decide) (by decide) rfl rfl ?_
                          refine w_iload (p := 302) (pI pM_188 rfl) rfl rfl ?_
                          refine w_iload (p := 304) (pI pM_188 rfl) rfl rfl ?_
                          obtain ⟨s48, k⟩ := k
                          refine s_iast (p := 305) (pI pM_188 rfl) rfl (by decide) (by decide) rfl s48 ?_
                          refine w_iinc (p := 308) (v := (a16 + nI 1)) (pI pM_188 rfl) rfl rfl rfl rfl ?_
                          refine w_goto (p := 99) (pI pM_188 rfl) rfl rfl ?_
                          exact k _ _ _
                      · replace k := itp (Int32.not_le.mp c) k
                        refine w_bipush (p := 250) (v := nI 6) (pI pM_188 rfl) rfl rfl ?_
                        refine w_goto (p := 266) (pI pM_188 rfl) rfl rfl ?_
                        refine w_istore (p := 268) (pI pM_188 rfl) rfl rfl rfl ?_
                        refine w_goto (p := 296) (pI pM_188 rfl) rfl rfl ?_
                        refine w_aload_n (p := 297) (pI pM_188 rfl) rfl rfl ?_
                        refine v_getR (p := 300) (kf := 40) (pI pM_188 rfl) rfl rfl rfl (by decide) (by decide) rfl rfl ?_
                        refine w_iload (p := 302) (pI pM_188 rfl) rfl rfl ?_
                        refine w_iload (p := 304) (pI pM_188 rfl) rfl rfl ?_
                        obtain ⟨s49, k⟩ := k
                        refine s_iast (p := 305) (pI pM_188 rfl) rfl (by decide) (by decide) rfl s49 ?_
                        refine w_iinc (p := 308) (v := (a16 + nI 1)) (pI pM_188 rfl) rfl rfl rfl rfl ?_
                        refine w_goto (p := 99) (pI pM_188 rfl) rfl rfl ?_
                        exact k _ _ _
                  · replace k := itp (Decidable.not_not.mp c) k
                    refine w_iload (p := 224) (pI pM_188 rfl) rfl rfl ?_
                    refine w_if_eq (p := 227) (q := 231) (pI pM_188 rfl) rfl rfl rfl (fun c => ?_) (fun c => ?_)
                    · replace k := itp c k
                      refine w_iconst (p := 232) (v := nI 1) (pI pM_188 rfl) rfl rfl ?_
                      refine w_istore (p := 234) (pI pM_188 rfl) rfl rfl rfl ?_
                      refine w_goto (p := 296) (pI pM_188 rfl) rfl rfl ?_
                      refine w_aload_n (p := 297) (pI pM_188 rfl) rfl rfl ?_
                      refine v_getR (p := 300) (kf := 40) (pI pM_188 rfl) rfl rfl rfl (by decide) (by decide) rfl rfl ?_
                      refine w_iload (p := 302) (pI pM_188 rfl) rfl rfl ?_
                      refine w_iload (p := 304) (pI pM_188 rfl) rfl rfl ?_
                      obtain ⟨s50, k⟩ := k
                      refine s_iast (p := 305) (pI pM_188 rfl) rfl (by decide) (by decide) rfl s50 ?_
                      refine w_iinc (p := 308) (v := (a16 + nI 1)) (pI pM_188 rfl) rfl rfl rfl rfl ?_
                      refine w_goto (p := 99) (pI pM_188 rfl) rfl rfl ?_
                      exact k _ _ _
                    · replace k := itn c k
                      refine w_iconst (p := 228) (v := nI 0) (pI pM_188 rfl) rfl rfl ?_
                      refine w_goto (p := 232) (pI pM_188 rfl) rfl rfl ?_
                      refine w_istore (p := 234) (pI pM_188 rfl) rfl rfl rfl ?_
                      refine w_goto (p := 296) (pI pM_188 rfl) rfl rfl ?_
                      refine w_aload_n (p := 297) (pI pM_188 rfl) rfl rfl ?_
                      refine v_getR (p := 300) (kf := 40) (pI pM_188 rfl) rfl rfl rfl (by decide) (by decide) rfl rfl ?_
                      refine w_iload (p := 302) (pI pM_188 rfl) rfl rfl ?_
                      refine w_iload (p := 304) (pI pM_188 rfl) rfl rfl ?_
                      obtain ⟨s51, k⟩ := k
                      refine s_iast (p := 305) (pI pM_188 rfl) rfl (by decide) (by decide) rfl s51 ?_
                      refine w_iinc (p := 308) (v := (a16 + nI 1)) (pI pM_188 rfl) rfl rfl rfl rfl ?_
                      refine w_goto (p := 99) (pI pM_188 rfl) rfl rfl ?_
                      exact k _ _ _
              · replace k := itp (Decidable.not_not.mp c) k
                refine w_iload (p := 195) (pI pM_188 rfl) rfl rfl ?_
                refine w_iload (p := 197) (pI pM_188 rfl) rfl rfl ?_
                refine w_icmp_ne (p := 200) (q := 204) (pI pM_188 rfl) rfl rfl rfl (fun c => ?_) (fun c => ?_)
                · replace k := itn c k
                  refine w_iconst (p := 205) (v := nI 1) (pI pM_188 rfl) rfl rfl ?_
                  refine w_istore (p := 207) (pI pM_188 rfl) rfl rfl rfl ?_
                  refine w_goto (p := 296) (pI pM_188 rfl) rfl rfl ?_
                  refine w_aload_n (p := 297) (pI pM_188 rfl) rfl rfl ?_
                  refine v_getR (p := 300) (kf := 40) (pI pM_188 rfl) rfl rfl rfl (by decide) (by decide) rfl rfl ?_
                  refine w_iload (p := 302) (pI pM_188 rfl) rfl rfl ?_
                  refine w_iload (p := 304) (pI pM_188 rfl) rfl rfl ?_
                  obtain ⟨s52, k⟩ := k
                  refine s_iast (p := 305) (pI pM_188 rfl) rfl (by decide) (by decide) rfl s52 ?_
                  refine w_iinc (p := 308) (v := (a16 + nI 1)) (pI pM_188 rfl) rfl rfl rfl rfl ?_
                  refine w_goto (p := 99) (pI pM_188 rfl) rfl rfl ?_
                  exact k _ _ _
                · replace k := itp (Decidable.not_not.mp c) k
                  refine w_iconst (p := 201) (v := nI 0) (pI pM_188 rfl) rfl rfl ?_
                  refine w_goto (p := 205) (pI pM_188 rfl) rfl rfl ?_
                  refine w_istore (p := 207) (pI pM_188 rfl) rfl rfl rfl ?_
                  refine w_goto (p := 296) (pI pM_188 rfl) rfl rfl ?_
                  refine w_aload_n (p := 297) (pI pM_188 rfl) rfl rfl ?_
                  refine v_getR (p := 300) (kf := 40) (pI pM_188 rfl) rfl rfl rfl (by decide) (by decide) rfl rfl ?_
                  refine w_iload (p := 302) (pI pM_188 rfl) rfl rfl ?_
                  refine w_iload (p := 304) (pI pM_188 rfl) rfl rfl ?_
                  obtain ⟨s53, k⟩ := k
                  refine s_iast (p := 305) (pI pM_188 rfl) rfl (by decide) (by decide) rfl s53 ?_
                  refine w_iinc (p := 308) (v := (a16 + nI 1)) (pI pM_188 rfl) rfl rfl rfl rfl ?_
                  refine w_goto (p := 99) (pI pM_188 rfl) rfl rfl ?_
                  exact k _ _ _
            · replace k := itp (Decidable.not_not.mp c) k
              refine w_iload (p := 172) (pI pM_188 rfl) rfl rfl ?_
              refine w_iload (p := 174) (pI pM_188 rfl) rfl rfl ?_
              refine w_icmp_ge (p := 177) (q := 181) (pI pM_188 rfl) rfl rfl rfl (fun c => ?_) (fun c => ?_)
              · replace k := itn (Int32.not_lt.mpr c) k
                refine w_iconst (p := 182) (v := nI 1) (pI pM_188 rfl) rfl rfl ?_
                refine w_istore (p := 184) (pI pM_188 rfl) rfl rfl rfl ?_
                refine w_goto (p := 296) (pI pM_188 rfl) rfl rfl ?_
                refine w_aload_n (p := 297) (pI pM_188 rfl) rfl rfl ?_
                refine v_getR (p := 300) (kf := 40) (pI pM_188 rfl) rfl rfl rfl (by decide) (by decide) rfl rfl ?_
                refine w_iload (p := 302) (pI pM_188 rfl) rfl rfl ?_
                refine w_iload (p := 304) (pI pM_188 rfl) rfl rfl ?_
                obtain ⟨s54, k⟩ := k
                refine s_iast (p := 305) (pI pM_188 rfl) rfl (by decide) (by decide) rfl s54 ?_
                refine w_iinc (p := 308) (v := (a16 + nI 1)) (pI pM_188 rfl) rfl rfl rfl rfl ?_
                refine w_goto (p := 99) (pI pM_188 rfl) rfl rfl ?_
                exact k _ _ _
              · replace k := itp (Int32.not_le.mp c) k
                refine w_iconst (p := 178) (v := nI 0) (pI pM_188 rfl) rfl rfl ?_
                refine w_goto (p := 182) (pI pM_188 rfl) rfl rfl ?_
                refine w_istore (p := 184) (pI pM_188 rfl) rfl rfl rfl ?_
                refine w_goto (p := 296) (pI pM_188 rfl) rfl rfl ?_
                refine w_aload_n (p := 297) (pI pM_188 rfl) rfl rfl ?_
                refine v_getR (p := 300) (kf := 40) (pI pM_188 rfl) rfl rfl rfl (by decide) (by decide) rfl rfl ?_
                refine w_iload (p := 302) (pI pM_188 rfl) rfl rfl ?_
                refine w_iload (p := 304) (pI pM_188 rfl) rfl rfl ?_
                obtain ⟨s55, k⟩ := k
                refine s_iast (p := 305) (pI pM_188 rfl) rfl (by decide) (by decide) rfl s55 ?_
                refine w_iinc (p := 308) (v := (a16 + nI 1)) (pI pM_188 rfl) rfl rfl rfl rfl ?_
                refine w_goto (p := 99) (pI pM_188 rfl) rfl rfl ?_
                exact k _ _ _
    · replace k := itn c k
      refine w_iload_n (p := 78) (pI pM_188 rfl) rfl rfl ?_
      refine w_bipush (p := 80) (v := nI 19) (pI pM_188 rfl) rfl rfl ?_
      refine w_icmp_ne (p := 83) (q := 94) (pI pM_188 rfl) rfl rfl rfl (fun c => ?_) (fun c => ?_)
      · replace k := itn c k
        refine w_iconst (p := 95) (v := nI 0) (pI pM_188 rfl) rfl rfl ?_
        refine w_istore_n (p := 96) (pI pM_188 rfl) rfl rfl rfl ?_
        refine w_iconst (p := 97) (v := nI 0) (pI pM_188 rfl) rfl rfl ?_
        refine w_istore (p := 99) (pI pM_188 rfl) rfl rfl rfl ?_
        refine k (fun a57 A61 I62 => ∀ u58 u59 u60 : Value, bm_W (bm_M (d + 3)) 188 Q 99 [.ref 1681, .int x, .int y, .int (nI 0), .int a57, u58, u59, u60] [] (hp L A61 I62)) (fun a57 A61 I62 k => ?_) _ _ _
        intro u58 u59 u60
        refine w_iload (p := 101) (pI pM_188 rfl) rfl rfl ?_
        refine w_sipush (p := 104) (v := nI 1024) (pI pM_188 rfl) rfl rfl ?_
        refine w_icmp_ge (p := 107) (q := 311) (pI pM_188 rfl) rfl rfl rfl (fun c => ?_) (fun c => ?_)
        · replace k := itn (Int32.not_lt.mpr c) k
          exact w_return (pI pM_188 rfl) rfl k
        · replace k := itp (Int32.not_le.mp c) k
          refine w_aload_n (p := 108) (pI pM_188 rfl) rfl rfl ?_
          refine v_getR (p := 111) (kf := 9) (pI pM_188 rfl) rfl rfl rfl (by decide) (by decide) rfl rfl ?_
          refine w_sipush (p := 114) (v := nI 1024) (pI pM_188 rfl) rfl rfl ?_
          refine w_iload_n (p := 115) (pI pM_188 rfl) rfl rfl ?_
          refine w_imul (p := 116) (pI pM_188 rfl) rfl ?_
          refine w_iload (p := 118) (pI pM_188 rfl) rfl rfl ?_
          refine w_iadd (p := 119) (pI pM_188 rfl) rfl ?_
          obtain ⟨s64, k⟩ := k
          refine v_bald (p := 120) (pI pM_188 rfl) rfl (by decide) (by decide) rfl (by decide) s64 rfl ?_
          refine w_iconst (p := 121) (v := -1) (pI pM_188 rfl) rfl rfl ?_
          refine w_icmp_ne (p := 124) (q := 305) (pI pM_188 rfl) rfl rfl rfl (fun c => ?_) (fun c => ?_)
          · replace k := itn c k
            refine w_iinc (p := 308) (v := (a57 + nI 1)) (pI pM_188 rfl) rfl rfl rfl rfl ?_
            refine w_goto (p := 99) (pI pM_188 rfl) rfl rfl ?_
            exact k _ _ _
          · replace k := itp (Decidable.not_not.mp c) k
            refine w_aload_n (p := 125) (pI pM_188 rfl) rfl rfl ?_
            refine v_getR (p := 128) (kf := 41) (pI pM_188 rfl) rfl rfl rfl (by decide) (by decide) rfl rfl ?_
            refine w_iload (p := 130) (pI pM_188 rfl) rfl rfl ?_
            obtain ⟨s65, k⟩ := k
            refine v_iald (p := 131) (pI pM_188 rfl) rfl (by decide) rfl s65 rfl ?_
            refine w_istore (p := 133) (pI pM_188 rfl) rfl rfl rfl ?_
            refine w_iload_n (p := 134) (pI pM_188 rfl) rfl rfl ?_
            refine w_if_ne (p := 137) (q := 141) (pI pM_188 rfl) rfl rfl rfl (fun c => absurd c (by decide)) (fun _ => ?_)
            refine w_iconst (p := 138) (v := nI 0) (pI pM_188 rfl) rfl rfl ?_
            refine w_goto (p := 162) (pI pM_188 rfl) rfl rfl ?_
            refine w_istore (p := 164) (pI pM_188 rfl) rfl rfl rfl ?_
            refine w_iload_n (p := 165) (pI pM_188 rfl) rfl rfl ?_
            refine w_bipush (p := 167) (v := nI 18) (pI pM_188 rfl) rfl rfl ?_
            refine w_icmp_ne (p := 170) (q := 187) (pI pM_188 rfl) rfl rfl rfl (fun c => ?_) (fun c => ?_)
            · replace k := itn c k
              refine w_iload_n (p := 188) (pI pM_188 rfl) rfl rfl ?_
              refine w_bipush (p := 190) (v := nI 19) (pI pM_188 rfl) rfl rfl ?_
              refine w_icmp_ne (p := 193) (q := 210) (pI pM_188 rfl) rfl rfl rfl (fun c => ?_) (fun c => ?_)
              · replace k := itn c k
                refine w_iload_n (p := 211) (pI pM_188 rfl) rfl rfl ?_
                refine w_bipush (p := 213) (v := nI 9) (pI pM_188 rfl) rfl rfl ?_
                refine w_icmp_eq (p := 216) (q := 222) (pI pM_188 rfl) rfl rfl rfl (fun c => ?_) (fun c => ?_)
                · replace k := itp c k
                  refine w_iload (p := 224) (pI pM_188 rfl) rfl rfl ?_
                  refine w_if_eq (p := 227) (q := 231) (pI pM_188 rfl) rfl rfl rfl (fun c => ?_) (fun c => ?_)
                  · replace k := itp c k
                    refine w_iconst (p := 232) (v := nI 1) (pI pM_188 rfl) rfl rfl ?_
                    refine w_istore (p := 234) (pI pM_188 rfl) rfl rfl rfl ?_
                    refine w_goto (p := 296) (pI pM_188 rfl) rfl rfl ?_
                    refine w_aload_n (p := 297) (pI pM_188 rfl) rfl rfl ?_
                    refine v_getR (p := 300) (kf := 40) (pI pM_188 rfl) rfl rfl rfl (by decide) (by decide) rfl rfl ?_
                    refine w_iload (p := 302) (pI pM_188 rfl) rfl rfl ?_
                    refine w_iload (p := 304) (pI pM_188 rfl) rfl rfl ?_
                    obtain ⟨s66, k⟩ := k
                    refine s_iast (p := 305) (pI pM_188 rfl) rfl (by decide) (by decide) rfl s66 ?_
                    refine w_iinc (p := 308) (v := (a57 + nI 1)) (pI pM_188 rfl) rfl rfl rfl rfl ?_
                    refine w_goto (p := 99) (pI pM_188 rfl) rfl rfl ?_
                    exact k _ _ _
                  · replace k := itn c k
                    refine w_iconst (p := 228) (v := nI 0) (pI pM_188 rfl) rfl rfl ?_
                    refine w_goto (p := 232) (pI pM_188 rfl) rfl rfl ?_
                    refine w_istore (p := 234) (pI pM_188 rfl) rfl rfl rfl ?_
                    refine w_goto (p := 296) (pI pM_188 rfl) rfl rfl ?_
                    refine w_aload_n (p := 297) (pI pM_188 rfl) rfl rfl ?_
                    refine v_getR (p := 300) (kf := 40) (pI pM_188 rfl) rfl rfl rfl (by decide) (by decide) rfl rfl ?_
                    refine w_iload (p := 302) (pI pM_188 rfl) rfl rfl ?_
                    refine w_iload (p := 304) (pI pM_188 rfl) rfl rfl ?_
                    obtain ⟨s67, k⟩ := k
                    refine s_iast (p := 305) (pI pM_188 rfl) rfl (by decide) (by decide) rfl s67 ?_
                    refine w_iinc (p := 308) (v := (a57 + nI 1)) (pI pM_188 rfl) rfl rfl rfl rfl ?_
                    refine w_goto (p := 99) (pI pM_188 rfl) rfl rfl ?_
                    exact k _ _ _
                · replace k := itn c k
                  refine w_iload_n (p := 217) (pI pM_188 rfl) rfl rfl ?_
                  refine w_bipush (p := 219) (v := nI 10) (pI pM_188 rfl) rfl rfl ?_
                  refine w_icmp_ne (p := 222) (q := 237) (pI pM_188 rfl) rfl rfl rfl (fun c => ?_) (fun c => ?_)
                  · replace k := itn c k
                    refine w_iload_n (p := 238) (pI pM_188 rfl) rfl rfl ?_
                    refine w_bipush (p := 240) (v := nI 21) (pI pM_188 rfl) rfl rfl ?_
                    refine w_icmp_ne (p := 243) (q := 271) (pI pM_188 rfl) rfl rfl rfl (fun c => ?_) (fun c => ?_)
                    · replace k := itn c k
                      refine w_iload (p := 273) (pI pM_188 rfl) rfl rfl ?_
                      refine w_if_lt (p := 276) (q := 290) (pI pM_188 rfl) rfl rfl rfl (fun c => ?_) (fun c => ?_)
                      · replace k := itp c k
                        refine w_aload_n (p := 291) (pI pM_188 rfl) rfl rfl ?_
                        refine v_getI (p := 294) (kf := 39) (pI pM_188 rfl) rfl rfl rfl (by decide) (by decide) rfl rfl rfl ?_
                        refine w_istore (p := 296) (pI pM_188 rfl) rfl rfl rfl ?_
                        refine w_aload_n (p := 297) (pI pM_188 rfl) rfl rfl ?_
                        refine v_getR (p := 300) (kf := 40) (pI pM_188 rfl) rfl rfl rfl (by decide) (by decide) rfl rfl ?_
                        refine w_iload (p := 302) (pI pM_188 rfl) rfl rfl ?_
                        refine w_iload (p := 304) (pI pM_188 rfl) rfl rfl ?_
                        obtain ⟨s68, k⟩ := k
                        refine s_iast (p := 305) (pI pM_188 rfl) rfl (by decide) (by decide) rfl s68 ?_
                        refine w_iinc (p := 308) (v := (a57 + nI 1)) (pI pM_188 rfl) rfl rfl rfl rfl ?_
                        refine w_goto (p := 99) (pI pM_188 rfl) rfl rfl ?_
                        exact k _ _ _
                      · replace k := itn c k
                        refine w_iload (p := 278) (pI pM_188 rfl) rfl rfl ?_
                        refine w_aload_n (p := 279) (pI pM_188 rfl) rfl rfl ?_
                        refine v_getI (p := 282) (kf := 39) (pI pM_188 rfl) rfl rfl rfl (by decide) (by decide) rfl rfl rfl ?_
                        refine w_icmp_ge (p := 285) (q := 290) (pI pM_188 rfl) rfl rfl rfl (fun c => ?_) (fun c => ?_)
                        · replace k := itn (Int32.not_lt.mpr c) k
                          refine w_aload_n (p := 291) (pI pM_188 rfl) rfl rfl ?_
                          refine v_getI (p := 294) (kf := 39) (pI pM_188 rfl) rfl rfl rfl (by decide) (by decide) rfl rfl rfl ?_
                          refine w_istore (p := 296) (pI pM_188 rfl) rfl rfl rfl ?_
                          refine w_aload_n (p := 297) (pI pM_188 rfl) rfl rfl ?_
                          refine v_getR (p := 300) (kf := 40) (pI pM_188 rfl) rfl rfl rfl (by decide) (by decide) rfl rfl ?_
                          refine w_iload (p := 302) (pI pM_188 rfl) rfl rfl ?_
                          refine w_iload (p := 304) (pI pM_188 rfl) rfl rfl ?_
                          obtain ⟨s69, k⟩ := k
                          refine s_iast (p := 305) (pI pM_188 rfl) rfl (by decide) (by decide) rfl s69 ?_
                          refine w_iinc (p := 308) (v := (a57 + nI 1)) (pI pM_188 rfl) rfl rfl rfl rfl ?_
                          refine w_goto (p := 99) (pI pM_188 rfl) rfl rfl ?_
                          exact k _ _ _
                        · replace k := itp (Int32.not_le.mp c) k
                          refine w_iload (p := 287) (pI pM_188 rfl) rfl rfl ?_
                          refine w_goto (p := 294) (pI pM_188 rfl) rfl rfl ?_
                          refine w_istore (p := 296) (pI pM_188 rfl) rfl rfl rfl ?_
                          refine w_aload_n (p := 297) (pI pM_188 rfl) rfl rfl ?_
                          refine v_getR (p := 300) (kf := 40) (pI pM_188 rfl) rfl rfl rfl (by decide) (by decide) rfl rfl ?_
                          refine w_iload (p := 302) (pI pM_188 rfl) rfl rfl ?_
                          refine w_iload (p := 304) (pI pM_188 rfl) rfl rfl ?_
                          obtain ⟨s70, k⟩ := k
                          refine s_iast (p := 305) (pI pM_188 rfl) rfl (by decide) (by decide) rfl s70 ?_
                          refine w_iinc (p := 308) (v := (a57 + nI 1)) (pI pM_188 rfl) rfl rfl rfl rfl ?_
                          refine w_goto (p := 99) (pI pM_188 rfl) rfl rfl ?_
                          exact k _ _ _
                    · replace k := itp (Decidable.not_not.mp c) k
                      refine w_iload (p := 245) (pI pM_188 rfl) rfl rfl ?_
                      refine w_if_ge (p := 248) (q := 253) (pI pM_188 rfl) rfl rfl rfl (fun c => ?_) (fun c => ?_)
                      · replace k := itn (Int32.not_lt.mpr c) k
                        refine w_iload (p := 255) (pI pM_188 rfl) rfl rfl ?_
                        refine w_iconst (p := 256) (v := nI 5) (pI pM_188 rfl) rfl rfl ?_
                        refine w_icmp_le (p := 259) (q := 264) (pI pM_188 rfl) rfl rfl rfl (fun c => ?_) (fun c => ?_)
                        · replace k := itn (Int32.not_lt.mpr c) k
                          refine w_iload (p := 266) (pI pM_188 rfl) rfl rfl ?_
                          refine w_istore (p := 268) (pI pM_188 rfl) rfl rfl rfl ?_
                          refine w_goto (p := 296) (pI pM_188 rfl) rfl rfl ?_
                          refine w_aload_n (p := 297) (pI pM_188 rfl) rfl rfl ?_
                          refine v_getR (p := 300) (kf := 40) (pI pM_188 rfl) rfl rfl rfl (by decide) (by decide) rfl rfl ?_
                          refine w_iload (p := 302) (pI pM_188 rfl) rfl rfl ?_
                          refine w_iload (p := 304) (pI pM_188 rfl) rfl rfl ?_
                          obtain ⟨s71, k⟩ := k
                          refine s_iast (p := 305) (pI pM_188 rfl) rfl (by decide) (by decide) rfl s71 ?_
                          refine w_iinc (p := 308) (v := (a57 + nI 1)) (pI pM_188 rfl) rfl rfl rfl rfl ?_
                          refine w_goto (p := 99) (pI pM_188 rfl) rfl rfl ?_
                          exact k _ _ _
                        · replace k := itp (Int32.not_le.mp c) k
                          refine w_bipush (p := 261) (v := nI 7) (pI pM_188 rfl) rfl rfl ?_
                          refine w_goto (p := 266) (pI pM_188 rfl) rfl rfl ?_
                          refine w_istore (p := 268) (pI pM_188 rfl) rfl rfl rfl ?_
                          refine w_goto (p := 296) (pI pM_188 rfl) rfl rfl ?_
                          refine w_aload_n (p := 297) (pI pM_188 rfl) rfl rfl ?_
                          refine v_getR (p := 300) (kf := 40) (pI pM_188 rfl) rfl rfl rfl (by decide) (by decide) rfl rfl ?_
                          refine w_iload (p := 302) (pI pM_188 rfl) rfl rfl ?_
                          refine w_iload (p := 304) (pI pM_188 rfl) rfl rfl ?_
                          obtain ⟨s72, k⟩ := k
                          refine s_iast (p := 305) (pI pM_188 rfl) rfl (by decide) (by decide) rfl s72 ?_
                          refine w_iinc (p := 308) (v := (a57 + nI 1)) (pI pM_188 rfl) rfl rfl rfl rfl ?_
                          refine w_goto (p := 99) (pI pM_188 rfl) rfl rfl ?_
                          exact k _ _ _
                      · replace k := itp (Int32.not_le.mp c) k
                        refine w_bipush (p := 250) (v := nI 6) (pI pM_188 rfl) rfl rfl ?_
                        refine w_goto (p := 266) (pI pM_188 rfl) rfl rfl ?_
                        refine w_istore (p := 268) (pI pM_188 rfl) rfl rfl rfl ?_
                        refine w_goto (p := 296) (pI pM_188 rfl) rfl rfl ?_
                        refine w_aload_n (p := 297) (pI pM_188 rfl) rfl rfl ?_
                        refine v_getR (p := 300) (kf := 40) (pI pM_188 rfl) rfl rfl rfl (by decide) (by decide) rfl rfl ?_
                        refine w_iload (p := 302) (pI pM_188 rfl) rfl rfl ?_
                        refine w_iload (p := 304) (pI pM_188 rfl) rfl rfl ?_
                        obtain ⟨s73, k⟩ := k
                        refine s_iast (p := 305) (pI pM_188 rfl) rfl (by decide) (by decide) rfl s73 ?_
                        refine w_iinc (p := 308) (v := (a57 + nI 1)) (pI pM_188 rfl) rfl rfl rfl rfl ?_
                        refine w_goto (p := 99) (pI pM_188 rfl) rfl rfl ?_
                        exact k _ _ _
                  · replace k := itp (Decidable.not_not.mp c) k
                    refine w_iload (p := 224) (pI pM_188 rfl) rfl rfl ?_
                    refine w_if_eq (p := 227) (q := 231) (pI pM_188 rfl) rfl rfl rfl (fun c => ?_) (fun c => ?_)
                    · replace k := itp c k
                      refine w_iconst (p := 232) (v := nI 1) (pI pM_188 rfl) rfl rfl ?_
                      refine w_istore (p := 234) (pI pM_188 rfl) rfl rfl rfl ?_
                      refine w_goto (p := 296) (pI pM_188 rfl) rfl rfl ?_
                      refine w_aload_n (p := 297) (pI pM_188 rfl) rfl rfl ?_
                      refine v_getR (p := 300) (kf := 40) (pI pM_188 rfl) rfl rfl rfl (by decide) (by decide) rfl rfl ?_
                      refine w_iload (p := 302) (pI pM_188 rfl) rfl rfl ?_
                      refine w_iload (p := 304) (pI pM_188 rfl) rfl rfl ?_
                      obtain ⟨s74, k⟩ := k
                      refine s_iast (p := 305) (pI pM_188 rfl) rfl (by decide) (by decide) rfl s74 ?_
                      refine w_iinc (p := 308) (v := (a57 + nI 1)) (pI pM_188 rfl) rfl rfl rfl rfl ?_
                      refine w_goto (p := 99) (pI pM_188 rfl) rfl rfl ?_
                      exact k _ _ _
                    · replace k := itn c k
                      refine w_iconst (p := 228) (v := nI 0) (pI pM_188 rfl) rfl rfl ?_
                      refine w_goto (p := 232) (pI pM_188 rfl) rfl rfl ?_
                      refine w_istore (p := 234) (pI pM_188 rfl) rfl rfl rfl ?_
                      refine w_goto (p := 296) (pI pM_188 rfl) rfl rfl ?_
                      refine w_aload_n (p := 297) (pI pM_188 rfl) rfl rfl ?_
                      refine v_getR (p := 300) (kf := 40) (pI pM_188 rfl) rfl rfl rfl (by decide) (by decide) rfl rfl ?_
                      refine w_iload (p := 302) (pI pM_188 rfl) rfl rfl ?_
                      refine w_iload (p := 304) (pI pM_188 rfl) rfl rfl ?_
                      obtain ⟨s75, k⟩ := k
                      refine s_iast (p := 305) (pI pM_188 rfl) rfl (by decide) (by decide) rfl s75 ?_
                      refine w_iinc (p := 308) (v := (a57 + nI 1)) (pI pM_188 rfl) rfl rfl rfl rfl ?_
                      refine w_goto (p := 99) (pI pM_188 rfl) rfl rfl ?_
                      exact k _ _ _
              · replace k := itp (Decidable.not_not.mp c) k
                refine w_iload (p := 195) (pI pM_188 rfl) rfl rfl ?_
                refine w_iload (p := 197) (pI pM_188 rfl) rfl rfl ?_
                refine w_icmp_ne (p := 200) (q := 204) (pI pM_188 rfl) rfl rfl rfl (fun c => ?_) (fun c => ?_)
                · replace k := itn c k
                  refine w_iconst (p := 205) (v := nI 1) (pI pM_188 rfl) rfl rfl ?_
                  refine w_istore (p := 207) (pI pM_188 rfl) rfl rfl rfl ?_
                  refine w_goto (p := 296) (pI pM_188 rfl) rfl rfl ?_
                  refine w_aload_n (p := 297) (pI pM_188 rfl) rfl rfl ?_
                  refine v_getR (p := 300) (kf := 40) (pI pM_188 rfl) rfl rfl rfl (by decide) (by decide) rfl rfl ?_
                  refine w_iload (p := 302) (pI pM_188 rfl) rfl rfl ?_
                  refine w_iload (p := 304) (pI pM_188 rfl) rfl rfl ?_
                  obtain ⟨s76, k⟩ := k
                  refine s_iast (p := 305) (pI pM_188 rfl) rfl (by decide) (by decide) rfl s76 ?_
                  refine w_iinc (p := 308) (v := (a57 + nI 1)) (pI pM_188 rfl) rfl rfl rfl rfl ?_
                  refine w_goto (p := 99) (pI pM_188 rfl) rfl rfl ?_
                  exact k _ _ _
                · replace k := itp (Decidable.not_not.mp c) k
                  refine w_iconst (p := 201) (v := nI 0) (pI pM_188 rfl) rfl rfl ?_
                  refine w_goto (p := 205) (pI pM_188 rfl) rfl rfl ?_
                  refine w_istore (p := 207) (pI pM_188 rfl) rfl rfl rfl ?_
                  refine w_goto (p := 296) (pI pM_188 rfl) rfl rfl ?_
                  refine w_aload_n (p := 297) (pI pM_188 rfl) rfl rfl ?_
                  refine v_getR (p := 300) (kf := 40) (pI pM_188 rfl) rfl rfl rfl (by decide) (by decide) rfl rfl ?_
                  refine w_iload (p := 302) (pI pM_188 rfl) rfl rfl ?_
                  refine w_iload (p := 304) (pI pM_188 rfl) rfl rfl ?_
                  obtain ⟨s77, k⟩ := k
                  refine s_iast (p := 305) (pI pM_188 rfl) rfl (by decide) (by decide) rfl s77 ?_
                  refine w_iinc (p := 308) (v := (a57 + nI 1)) (pI pM_188 rfl) rfl rfl rfl rfl ?_
                  refine w_goto (p := 99) (pI pM_188 rfl) rfl rfl ?_
                  exact k _ _ _
            · replace k := itp (Decidable.not_not.mp c) k
              refine w_iload (p := 172) (pI pM_188 rfl) rfl rfl ?_
              refine w_iload (p := 174) (pI pM_188 rfl) rfl rfl ?_
              refine w_icmp_ge (p := 177) (q := 181) (pI pM_188 rfl) rfl rfl rfl (fun c => ?_) (fun c => ?_)
              · replace k := itn (Int32.not_lt.mpr c) k
                refine w_iconst (p := 182) (v := nI 1) (pI pM_188 rfl) rfl rfl ?_
                refine w_istore (p := 184) (pI pM_188 rfl) rfl rfl rfl ?_
                refine w_goto (p := 296) (pI pM_188 rfl) rfl rfl ?_
                refine w_aload_n (p := 297) (pI pM_188 rfl) rfl rfl ?_
                refine v_getR (p := 300) (kf := 40) (pI pM_188 rfl) rfl rfl rfl (by decide) (by decide) rfl rfl ?_
                refine w_iload (p := 302) (pI pM_188 rfl) rfl rfl ?_
                refine w_iload (p := 304) (pI pM_188 rfl) rfl rfl ?_
                obtain ⟨s78, k⟩ := k
                refine s_iast (p := 305) (pI pM_188 rfl) rfl (by decide) (by decide) rfl s78 ?_
                refine w_iinc (p := 308) (v := (a57 + nI 1)) (pI pM_188 rfl) rfl rfl rfl rfl ?_
                refine w_goto (p := 99) (pI pM_188 rfl) rfl rfl ?_
                exact k _ _ _
              · replace k := itp (Int32.not_le.mp c) k
                refine w_iconst (p := 178) (v := nI 0) (pI pM_188 rfl) rfl rfl ?_
                refine w_goto (p := 182) (pI pM_188 rfl) rfl rfl ?_
                refine w_istore (p := 184) (pI pM_188 rfl) rfl rfl rfl ?_
                refine w_goto (p := 296) (pI pM_188 rfl) rfl rfl ?_
                refine w_aload_n (p := 297) (pI pM_188 rfl) rfl rfl ?_
                refine v_getR (p := 300) (kf := 40) (pI pM_188 rfl) rfl rfl rfl (by decide) (by decide) rfl rfl ?_
                refine w_iload (p := 302) (pI pM_188 rfl) rfl rfl ?_
                refine w_iload (p := 304) (pI pM_188 rfl) rfl rfl ?_
                obtain ⟨s79, k⟩ := k
                refine s_iast (p := 305) (pI pM_188 rfl) rfl (by decide) (by decide) rfl s79 ?_
                refine w_iinc (p := 308) (v := (a57 + nI 1)) (pI pM_188 rfl) rfl rfl rfl rfl ?_
                refine w_goto (p := 99) (pI pM_188 rfl) rfl rfl ?_
                exact k _ _ _
      · replace k := itp (Decidable.not_not.mp c) k
        refine w_aload_n (p := 84) (pI pM_188 rfl) rfl rfl ?_
        refine w_aload_n (p := 85) (pI pM_188 rfl) rfl rfl ?_
        refine v_getI (p := 88) (kf := 39) (pI pM_188 rfl) rfl rfl rfl (by decide) (by decide) rfl rfl rfl ?_
        refine v_virtual (p := 91) (mj := 189) (pI pM_188 rfl) rfl rfl rfl rfl rfl rfl rfl rfl rfl rfl (by decide) (by decide) rfl ?_
        refine d189_spell (D189_spell_mono k (fun v80 A81 I82 k => ?_))
        refine w_goto (p := 95) (pI pM_188 rfl) rfl rfl ?_
        refine w_istore_n (p := 96) (pI pM_188 rfl) rfl rfl rfl ?_
        refine w_iconst (p := 97) (v := nI 0) (pI pM_188 rfl) rfl rfl ?_
        refine w_istore (p := 99) (pI pM_188 rfl) rfl rfl rfl ?_
        refine k (fun a84 A88 I89 => ∀ u85 u86 u87 : Value, bm_W (bm_M (d + 3)) 188 Q 99 [.ref 1681, .int x, .int y, .int v80, .int a84, u85, u86, u87] [] (hp L A88 I89)) (fun a84 A88 I89 k => ?_) _ _ _
        intro u85 u86 u87
        refine w_iload (p := 101) (pI pM_188 rfl) rfl rfl ?_
        refine w_sipush (p := 104) (v := nI 1024) (pI pM_188 rfl) rfl rfl ?_
        refine w_icmp_ge (p := 107) (q := 311) (pI pM_188 rfl) rfl rfl rfl (fun c => ?_) (fun c => ?_)
        · replace k := itn (Int32.not_lt.mpr c) k
          exact w_return (pI pM_188 rfl) rfl k
        · replace k := itp (Int32.not_le.mp c) k
          refine w_aload_n (p := 108) (pI pM_188 rfl) rfl rfl ?_
          refine v_getR (p := 111) (kf := 9) (pI pM_188 rfl) rfl rfl rfl (by decide) (by decide) rfl rfl ?_
          refine w_sipush (p := 114) (v := nI 1024) (pI pM_188 rfl) rfl rfl ?_
          refine w_iload_n (p := 115) (pI pM_188 rfl) rfl rfl ?_
          refine w_imul (p := 116) (pI pM_188 rfl) rfl ?_
          refine w_iload (p := 118) (pI pM_188 rfl) rfl rfl ?_
          refine w_iadd (p := 119) (pI pM_188 rfl) rfl ?_
          obtain ⟨s91, k⟩ := k
          refine v_bald (p := 120) (pI pM_188 rfl) rfl (by decide) (by decide) rfl (by decide) s91 rfl ?_
          refine w_iconst (p := 121) (v := -1) (pI pM_188 rfl) rfl rfl ?_
          refine w_icmp_ne (p := 124) (q := 305) (pI pM_188 rfl) rfl rfl rfl (fun c => ?_) (fun c => ?_)
          · replace k := itn c k
            refine w_iinc (p := 308) (v := (a84 + nI 1)) (pI pM_188 rfl) rfl rfl rfl rfl ?_
            refine w_goto (p := 99) (pI pM_188 rfl) rfl rfl ?_
            exact k _ _ _
          · replace k := itp (Decidable.not_not.mp c) k
            refine w_aload_n (p := 125) (pI pM_188 rfl) rfl rfl ?_
            refine v_getR (p := 128) (kf := 41) (pI pM_188 rfl) rfl rfl rfl (by decide) (by decide) rfl rfl ?_
            refine w_iload (p := 130) (pI pM_188 rfl) rfl rfl ?_
            obtain ⟨s92, k⟩ := k
            refine v_iald (p := 131) (pI pM_188 rfl) rfl (by decide) rfl s92 rfl ?_
            refine w_istore (p := 133) (pI pM_188 rfl) rfl rfl rfl ?_
            refine w_iload_n (p := 134) (pI pM_188 rfl) rfl rfl ?_
            refine w_if_ne (p := 137) (q := 141) (pI pM_188 rfl) rfl rfl rfl (fun c => ?_) (fun c => ?_)
            · replace k := itn c k
              refine w_aload_n (p := 142) (pI pM_188 rfl) rfl rfl ?_
              refine w_iload_n (p := 143) (pI pM_188 rfl) rfl rfl ?_
              refine w_iload (p := 145) (pI pM_188 rfl) rfl rfl ?_
              refine w_bipush (p := 147) (v := nI 32) (pI pM_188 rfl) rfl rfl ?_
              refine w_idiv (p := 148) (pI pM_188 rfl) rfl (by decide) ?_
              refine w_bipush (p := 150) (v := nI 16) (pI pM_188 rfl) rfl rfl ?_
              refine w_isub (p := 151) (pI pM_188 rfl) rfl ?_
              refine w_iload (p := 153) (pI pM_188 rfl) rfl rfl ?_
              refine w_bipush (p := 155) (v := nI 32) (pI pM_188 rfl) rfl rfl ?_
              refine w_irem (p := 156) (pI pM_188 rfl) rfl (by decide) ?_
              refine w_bipush (p := 158) (v := nI 16) (pI pM_188 rfl) rfl rfl ?_
              refine w_isub (p := 159) (pI pM_188 rfl) rfl ?_
              refine v_virtual (p := 162) (mj := 190) (pI pM_188 rfl) rfl rfl rfl rfl rfl rfl rfl rfl rfl rfl (by decide) (by decide) rfl ?_
              refine d190_worth (D190_worth_mono k (fun v93 A94 I95 k => ?_))
              refine w_istore (p := 164) (pI pM_188 rfl) rfl rfl rfl ?_
              refine w_iload_n (p := 165) (pI pM_188 rfl) rfl rfl ?_
              refine w_bipush (p := 167) (v := nI 18) (pI pM_188 rfl) rfl rfl ?_
              refine w_icmp_ne (p := 170) (q := 187) (pI pM_188 rfl) rfl rfl rfl (fun c => ?_) (fun c => ?_)
              · replace k := itn c k
                refine w_iload_n (p := 188) (pI pM_188 rfl) rfl rfl ?_
                refine w_bipush (p := 190) (v := nI 19) (pI pM_188 rfl) rfl rfl ?_
                refine w_icmp_ne (p := 193) (q := 210) (pI pM_188 rfl) rfl rfl rfl (fun c => ?_) (fun c => ?_)
                · replace k := itn c k
                  refine w_iload_n (p := 211) (pI pM_188 rfl) rfl rfl ?_
                  refine w_bipush (p := 213) (v := nI 9) (pI pM_188 rfl) rfl rfl ?_
                  refine w_icmp_eq (p := 216) (q := 222) (pI pM_188 rfl) rfl rfl rfl (fun c => ?_) (fun c => ?_)
                  · replace k := itp c k
                    refine w_iload (p := 224) (pI pM_188 rfl) rfl rfl ?_
                    refine w_if_eq (p := 227) (q := 231) (pI pM_188 rfl) rfl rfl rfl (fun c => ?_) (fun c => ?_)
                    · replace k := itp c k
                      refine w_iconst (p := 232) (v := nI 1) (pI pM_188 rfl) rfl rfl ?_
                      refine w_istore (p := 234) (pI pM_188 rfl) rfl rfl rfl ?_
                      refine w_goto (p := 296) (pI pM_188 rfl) rfl rfl ?_
                      refine w_aload_n (p := 297) (pI pM_188 rfl) rfl rfl ?_
                      refine v_getR (p := 300) (kf := 40) (pI pM_188 rfl) rfl rfl rfl (by decide) (by decide) rfl rfl ?_
                      refine w_iload (p := 302) (pI pM_188 rfl) rfl rfl ?_
                      refine w_iload (p := 304) (pI pM_188 rfl) rfl rfl ?_
                      obtain ⟨s96, k⟩ := k
                      refine s_iast (p := 305) (pI pM_188 rfl) rfl (by decide) (by decide) rfl s96 ?_
                      refine w_iinc (p := 308) (v := (a84 + nI 1)) (pI pM_188 rfl) rfl rfl rfl rfl ?_
                      refine w_goto (p := 99) (pI pM_188 rfl) rfl rfl ?_
                      exact k _ _ _
                    · replace k := itn c k
                      refine w_iconst (p := 228) (v := nI 0) (pI pM_188 rfl) rfl rfl ?_
                      refine w_goto (p := 232) (pI pM_188 rfl) rfl rfl ?_
                      refine w_istore (p := 234) (pI pM_188 rfl) rfl rfl rfl ?_
                      refine w_goto (p := 296) (pI pM_188 rfl) rfl rfl ?_
                      refine w_aload_n (p := 297) (pI pM_188 rfl) rfl rfl ?_
                      refine v_getR (p := 300) (kf := 40) (pI pM_188 rfl) rfl rfl rfl (by decide) (by decide) rfl rfl ?_
                      refine w_iload (p := 302) (pI pM_188 rfl) rfl rfl ?_
                      refine w_iload (p := 304) (pI pM_188 rfl) rfl rfl ?_
                      obtain ⟨s97, k⟩ := k
                      refine s_iast (p := 305) (pI pM_188 rfl) rfl (by decide) (by decide) rfl s97 ?_
                      refine w_iinc (p := 308) (v := (a84 + nI 1)) (pI pM_188 rfl) rfl rfl rfl rfl ?_
                      refine w_goto (p := 99) (pI pM_188 rfl) rfl rfl ?_
                      exact k _ _ _
                  · replace k := itn c k
                    refine w_iload_n (p := 217) (pI pM_188 rfl) rfl rfl ?_
                    refine w_bipush (p := 219) (v := nI 10) (pI pM_188 rfl) rfl rfl ?_
                    refine w_icmp_ne (p := 222) (q := 237) (pI pM_188 rfl) rfl rfl rfl (fun c => ?_) (fun c => ?_)
                    · replace k := itn c k
                      refine w_iload_n (p := 238) (pI pM_188 rfl) rfl rfl ?_
                      refine w_bipush (p := 240) (v := nI 21) (pI pM_188 rfl) rfl rfl ?_
                      refine w_icmp_ne (p := 243) (q := 271) (pI pM_188 rfl) rfl rfl rfl (fun c => ?_) (fun c => ?_)
                      · replace k := itn c k
                        refine w_iload (p := 273) (pI pM_188 rfl) rfl rfl ?_
                        refine w_if_lt (p := 276) (q := 290) (pI pM_188 rfl) rfl rfl rfl (fun c => ?_) (fun c => ?_)
                        · replace k := itp c k
                          refine w_aload_n (p := 291) (pI pM_188 rfl) rfl rfl ?_
                          refine v_getI (p := 294) (kf := 39) (pI pM_188 rfl) rfl rfl rfl (by decide) (by decide) rfl rfl rfl ?_
                          refine w_istore (p := 296) (pI pM_188 rfl) rfl rfl rfl ?_
                          refine w_aload_n (p := 297) (pI pM_188 rfl) rfl rfl ?_
                          refine v_getR (p := 300) (kf := 40) (pI pM_188 rfl) rfl rfl rfl (by decide) (by decide) rfl rfl ?_
                          refine w_iload (p := 302) (pI pM_188 rfl) rfl rfl ?_
                          refine w_iload (p := 304) (pI pM_188 rfl) rfl rfl ?_
                          obtain ⟨s98, k⟩ := k
                          refine s_iast (p := 305) (pI pM_188 rfl) rfl (by decide) (by decide) rfl s98 ?_
                          refine w_iinc (p := 308) (v := (a84 + nI 1)) (pI pM_188 rfl) rfl rfl rfl rfl ?_
                          refine w_goto (p := 99) (pI pM_188 rfl) rfl rfl ?_
                          exact k _ _ _
                        · replace k := itn c k
                          refine w_iload (p := 278) (pI pM_188 rfl) rfl rfl ?_
                          refine w_aload_n (p := 279) (pI pM_188 rfl) rfl rfl ?_
                          refine v_getI (p := 282) (kf := 39) (pI pM_188 rfl) rfl rfl rfl (by decide) (by decide) rfl rfl rfl ?_
                          refine w_icmp_ge (p := 285) (q := 290) (pI pM_188 rfl) rfl rfl rfl (fun c => ?_) (fun c => ?_)
                          · replace k := itn (Int32.not_lt.mpr c) k
                            refine w_aload_n (p := 291) (pI pM_188 rfl) rfl rfl ?_
                            refine v_getI (p := 294) (kf := 39) (pI pM_188 rfl) rfl rfl rfl (by decide) (by decide) rfl rfl rfl ?_
                            refine w_istore (p := 296) (pI pM_188 rfl) rfl rfl rfl ?_
                            refine w_aload_n (p := 297) (pI pM_188 rfl) rfl rfl ?_
                            refine v_getR (p := 300) (kf := 40) (pI pM_188 rfl) rfl rfl rfl (by decide) (by decide) rfl rfl ?_
                            refine w_iload (p := 302) (pI pM_188 rfl) rfl rfl ?_
                            refine w_iload (p := 304) (pI pM_188 rfl) rfl rfl ?_
                            obtain ⟨s99, k⟩ := k
                            refine s_iast (p := 305) (pI pM_188 rfl) rfl (by decide) (by decide) rfl s99 ?_
                            refine w_iinc (p := 308) (v := (a84 + nI 1)) (pI pM_188 rfl) rfl rfl rfl rfl ?_
                            refine w_goto (p := 99) (pI pM_188 rfl) rfl rfl ?_
                            exact k _ _ _
                          · replace k := itp (Int32.not_le.mp c) k
                            refine w_iload (p := 287) (pI pM_188 rfl) rfl rfl ?_
                            refine w_goto (p := 294) (pI pM_188 rfl) rfl rfl ?_
                            refine w_istore (p := 296) (pI pM_188 rfl) rfl rfl rfl ?_
                            refine w_aload_n (p := 297) (pI pM_188 rfl) rfl rfl ?_
                            refine v_getR (p := 300) (kf := 40) (pI pM_188 rfl) rfl rfl rfl (by decide) (by decide) rfl rfl ?_
                            refine w_iload (p := 302) (pI pM_188 rfl) rfl rfl ?_
                            refine w_iload (p := 304) (pI pM_188 rfl) rfl rfl ?_
                            obtain ⟨s100, k⟩ := k
                            refine s_iast (p := 305) (pI pM_188 rfl) rfl (by decide) (by decide) rfl s100 ?_
                            refine w_iinc (p := 308) (v := (a84 + nI 1)) (pI pM_188 rfl) rfl rfl rfl rfl ?_
                            refine w_goto (p := 99) (pI pM_188 rfl) rfl rfl ?_
                            exact k _ _ _
                      · replace k := itp (Decidable.not_not.mp c) k
                        refine w_iload (p := 245) (pI pM_188 rfl) rfl rfl ?_
                        refine w_if_ge (p := 248) (q := 253) (pI pM_188 rfl) rfl rfl rfl (fun c => ?_) (fun c => ?_)
                        · replace k := itn (Int32.not_lt.mpr c) k
                          refine w_iload (p := 255) (pI pM_188 rfl) rfl rfl ?_
                          refine w_iconst (p := 256) (v := nI 5) (pI pM_188 rfl) rfl rfl ?_
                          refine w_icmp_le (p := 259) (q := 264) (pI pM_188 rfl) rfl rfl rfl (fun c => ?_) (fun c => ?_)
                          · replace k := itn (Int32.not_lt.mpr c) k
                            refine w_iload (p := 266) (pI pM_188 rfl) rfl rfl ?_
                            refine w_istore (p := 268) (pI pM_188 rfl) rfl rfl rfl ?_
                            refine w_goto (p := 296) (pI pM_188 rfl) rfl rfl ?_
                            refine w_aload_n (p := 297) (pI pM_188 rfl) rfl rfl ?_
                            refine v_getR (p := 300) (kf := 40) (pI pM_188 rfl) rfl rfl rfl (by decide) (by decide) rfl rfl ?_
                            refine w_iload (p := 302) (pI pM_188 rfl) rfl rfl ?_
                            refine w_iload (p := 304) (pI pM_188 rfl) rfl rfl ?_
                            obtain ⟨s101, k⟩ := k
                            refine s_iast (p := 305) (pI pM_188 rfl) rfl (by decide) (by decide) rfl s101 ?_
                            refine w_iinc (p := 308) (v := (a84 + nI 1)) (pI pM_188 rfl) rfl rfl rfl rfl ?_
                            refine w_goto (p := 99) (pI pM_188 rfl) rfl rfl ?_
                            exact k _ _ _
                          · replace k := itp (Int32.not_le.mp c) k
                            refine w_bipush (p := 261) (v := nI 7) (pI pM_188 rfl) rfl rfl ?_
                            refine w_goto (p := 266) (pI pM_188 rfl) rfl rfl ?_
                            refine w_istore (p := 268) (pI pM_188 rfl) rfl rfl rfl ?_
                            refine w_goto (p := 296) (pI pM_188 rfl) rfl rfl ?_
                            refine w_aload_n (p := 297) (pI pM_188 rfl) rfl rfl ?_
                            refine v_getR (p := 300) (kf := 40) (pI pM_188 rfl) rfl rfl rfl (by decide) (by decide) rfl rfl ?_
                            refine w_iload (p := 302) (pI pM_188 rfl) rfl rfl ?_
                            refine w_iload (p := 304) (pI pM_188 rfl) rfl rfl ?_
                            obtain ⟨s102, k⟩ := k
                            refine s_iast (p := 305) (pI pM_188 rfl) rfl (by decide) (by decide) rfl s102 ?_
                            refine w_iinc (p := 308) (v := (a84 + nI 1)) (pI pM_188 rfl) rfl rfl rfl rfl ?_
                            refine w_goto (p := 99) (pI pM_188 rfl) rfl rfl ?_
                            exact k _ _ _
                        · replace k := itp (Int32.not_le.mp c) k
                          refine w_bipush (p := 250) (v := nI 6) (pI pM_188 rfl) rfl rfl ?_
                          refine w_goto (p := 266) (pI pM_188 rfl) rfl rfl ?_
                          refine w_istore (p := 268) (pI pM_188 rfl) rfl rfl rfl ?_
                          refine w_goto (p := 296) (pI pM_188 rfl) rfl rfl ?_
                          refine w_aload_n (p := 297) (pI pM_188 rfl) rfl rfl ?_
                          refine v_getR (p := 300) (kf := 40) (pI pM_188 rfl) rfl rfl rfl (by decide) (by decide) rfl rfl ?_
                          refine w_iload (p := 302) (pI pM_188 rfl) rfl rfl ?_
                          refine w_iload (p := 304) (pI pM_188 rfl) rfl rfl ?_
                          obtain ⟨s103, k⟩ := k
                          refine s_iast (p := 305) (pI pM_188 rfl) rfl (by decide) (by decide) rfl s103 ?_
                          refine w_iinc (p := 308) (v := (a84 + nI 1)) (pI pM_188 rfl) rfl rfl rfl rfl ?_
                          refine w_goto (p := 99) (pI pM_188 rfl) rfl rfl ?_
                          exact k _ _ _
                    · replace k := itp (Decidable.not_not.mp c) k
                      refine w_iload (p := 224) (pI pM_188 rfl) rfl rfl ?_
                      refine w_if_eq (p := 227) (q := 231) (pI pM_188 rfl) rfl rfl rfl (fun c => ?_) (fun c => ?_)
                      · replace k := itp c k
                        refine w_iconst (p := 232) (v := nI 1) (pI pM_188 rfl) rfl rfl ?_
                        refine w_istore (p := 234) (pI pM_188 rfl) rfl rfl rfl ?_
                        refine w_goto (p := 296) (pI pM_188 rfl) rfl rfl ?_
                        refine w_aload_n (p := 297) (pI pM_188 rfl) rfl rfl ?_
                        refine v_getR (p := 300) (kf := 40) (pI pM_188 rfl) rfl rfl rfl (by decide) (by decide) rfl rfl ?_
                        refine w_iload (p := 302) (pI pM_188 rfl) rfl rfl ?_
                        refine w_iload (p := 304) (pI pM_188 rfl) rfl rfl ?_
                        obtain ⟨s104, k⟩ := k
                        refine s_iast (p := 305) (pI pM_188 rfl) rfl (by decide) (by decide) rfl s104 ?_
                        refine w_iinc (p := 308) (v := (a84 + nI 1)) (pI pM_188 rfl) rfl rfl rfl rfl ?_
                        refine w_goto (p := 99) (pI pM_188 rfl) rfl rfl ?_
                        exact k _ _ _
                      · replace k := itn c k
                        refine w_iconst (p := 228) (v := nI 0) (pI pM_188 rfl) rfl rfl ?_
                        refine w_goto (p := 232) (pI pM_188 rfl) rfl rfl ?_
                        refine w_istore (p := 234) (pI pM_188 rfl) rfl rfl rfl ?_
                        refine w_goto (p := 296) (pI pM_188 rfl) rfl rfl ?_
                        refine w_aload_n (p := 297) (pI pM_188 rfl) rfl rfl ?_
                        refine v_getR (p := 300) (kf := 40) (pI pM_188 rfl) rfl rfl rfl (by decide) (by decide) rfl rfl ?_
                        refine w_iload (p := 302) (pI pM_188 rfl) rfl rfl ?_
                        refine w_iload (p := 304) (pI pM_188 rfl) rfl rfl ?_
                        obtain ⟨s105, k⟩ := k
                        refine s_iast (p := 305) (pI pM_188 rfl) rfl (by decide) (by decide) rfl s105 ?_
                        refine w_iinc (p := 308) (v := (a84 + nI 1)) (pI pM_188 rfl) rfl rfl rfl rfl ?_
                        refine w_goto (p := 99) (pI pM_188 rfl) rfl rfl ?_
                        exact k _ _ _
                · replace k := itp (Decidable.not_not.mp c) k
                  refine w_iload (p := 195) (pI pM_188 rfl) rfl rfl ?_
                  refine w_iload (p := 197) (pI pM_188 rfl) rfl rfl ?_
                  refine w_icmp_ne (p := 200) (q := 204) (pI pM_188 rfl) rfl rfl rfl (fun c => ?_) (fun c => ?_)
                  · replace k := itn c k
                    refine w_iconst (p := 205) (v := nI 1) (pI pM_188 rfl) rfl rfl ?_
                    refine w_istore (p := 207) (pI pM_188 rfl) rfl rfl rfl ?_
                    refine w_goto (p := 296) (pI pM_188 rfl) rfl rfl ?_
                    refine w_aload_n (p := 297) (pI pM_188 rfl) rfl rfl ?_
                    refine v_getR (p := 300) (kf := 40) (pI pM_188 rfl) rfl rfl rfl (by decide) (by decide) rfl rfl ?_
                    refine w_iload (p := 302) (pI pM_188 rfl) rfl rfl ?_
                    refine w_iload (p := 304) (pI pM_188 rfl) rfl rfl ?_
                    obtain ⟨s106, k⟩ := k
                    refine s_iast (p := 305) (pI pM_188 rfl) rfl (by decide) (by decide) rfl s106 ?_
                    refine w_iinc (p := 308) (v := (a84 + nI 1)) (pI pM_188 rfl) rfl rfl rfl rfl ?_
                    refine w_goto (p := 99) (pI pM_188 rfl) rfl rfl ?_
                    exact k _ _ _
                  · replace k := itp (Decidable.not_not.mp c) k
                    refine w_iconst (p := 201) (v := nI 0) (pI pM_188 rfl) rfl rfl ?_
                    refine w_goto (p := 205) (pI pM_188 rfl) rfl rfl ?_
                    refine w_istore (p := 207) (pI pM_188 rfl) rfl rfl rfl ?_
                    refine w_goto (p := 296) (pI pM_188 rfl) rfl rfl ?_
                    refine w_aload_n (p := 297) (pI pM_188 rfl) rfl rfl ?_
                    refine v_getR (p := 300) (kf := 40) (pI pM_188 rfl) rfl rfl rfl (by decide) (by decide) rfl rfl ?_
                    refine w_iload (p := 302) (pI pM_188 rfl) rfl rfl ?_
                    refine w_iload (p := 304) (pI pM_188 rfl) rfl rfl ?_
                    obtain ⟨s107, k⟩ := k
                    refine s_iast (p := 305) (pI pM_188 rfl) rfl (by decide) (by decide) rfl s107 ?_
                    refine w_iinc (p := 308) (v := (a84 + nI 1)) (pI pM_188 rfl) rfl rfl rfl rfl ?_
                    refine w_goto (p := 99) (pI pM_188 rfl) rfl rfl ?_
                    exact k _ _ _
              · replace k := itp (Decidable.not_not.mp c) k
                refine w_iload (p := 172) (pI pM_188 rfl) rfl rfl ?_
                refine w_iload (p := 174) (pI pM_188 rfl) rfl rfl ?_
                refine w_icmp_ge (p := 177) (q := 181) (pI pM_188 rfl) rfl rfl rfl (fun c => ?_) (fun c => ?_)
                · replace k := itn (Int32.not_lt.mpr c) k
                  refine w_iconst (p := 182) (v := nI 1) (pI pM_188 rfl) rfl rfl ?_
                  refine w_istore (p := 184) (pI pM_188 rfl) rfl rfl rfl ?_
                  refine w_goto (p := 296) (pI pM_188 rfl) rfl rfl ?_
                  refine w_aload_n (p := 297) (pI pM_188 rfl) rfl rfl ?_
                  refine v_getR (p := 300) (kf := 40) (pI pM_188 rfl) rfl rfl rfl (by decide) (by decide) rfl rfl ?_
                  refine w_iload (p := 302) (pI pM_188 rfl) rfl rfl ?_
                  refine w_iload (p := 304) (pI pM_188 rfl) rfl rfl ?_
                  obtain ⟨s108, k⟩ := k
                  refine s_iast (p := 305) (pI pM_188 rfl) rfl (by decide) (by decide) rfl s108 ?_
                  refine w_iinc (p := 308) (v := (a84 + nI 1)) (pI pM_188 rfl) rfl rfl rfl rfl ?_
                  refine w_goto (p := 99) (pI pM_188 rfl) rfl rfl ?_
                  exact k _ _ _
                · replace k := itp (Int32.not_le.mp c) k
                  refine w_iconst (p := 178) (v := nI 0) (pI pM_188 rfl) rfl rfl ?_
                  refine w_goto (p := 182) (pI pM_188 rfl) rfl rfl ?_
                  refine w_istore (p := 184) (pI pM_188 rfl) rfl rfl rfl ?_
                  refine w_goto (p := 296) (pI pM_188 rfl) rfl rfl ?_
                  refine w_aload_n (p := 297) (pI pM_188 rfl) rfl rfl ?_
                  refine v_getR (p := 300) (kf := 40) (pI pM_188 rfl) rfl rfl rfl (by decide) (by decide) rfl rfl ?_
                  refine w_iload (p := 302) (pI pM_188 rfl) rfl rfl ?_
                  refine w_iload (p := 304) (pI pM_188 rfl) rfl rfl ?_
                  obtain ⟨s109, k⟩ := k
                  refine s_iast (p := 305) (pI pM_188 rfl) rfl (by decide) (by decide) rfl s109 ?_
                  refine w_iinc (p := 308) (v := (a84 + nI 1)) (pI pM_188 rfl) rfl rfl rfl rfl ?_
                  refine w_goto (p := 99) (pI pM_188 rfl) rfl rfl ?_
                  exact k _ _ _
            · replace k := itp (Decidable.not_not.mp c) k
              refine w_iconst (p := 138) (v := nI 0) (pI pM_188 rfl) rfl rfl ?_
              refine w_goto (p := 162) (pI pM_188 rfl) rfl rfl ?_
              refine w_istore (p := 164) (pI pM_188 rfl) rfl rfl rfl ?_
              refine w_iload_n (p := 165) (pI pM_188 rfl) rfl rfl ?_
              refine w_bipush (p := 167) (v := nI 18) (pI pM_188 rfl) rfl rfl ?_
              refine w_icmp_ne (p := 170) (q := 187) (pI pM_188 rfl) rfl rfl rfl (fun c => ?_) (fun c => ?_)
              · replace k := itn c k
                refine w_iload_n (p := 188) (pI pM_188 rfl) rfl rfl ?_
                refine w_bipush (p := 190) (v := nI 19) (pI pM_188 rfl) rfl rfl ?_
                refine w_icmp_ne (p := 193) (q := 210) (pI pM_188 rfl) rfl rfl rfl (fun c => ?_) (fun c => ?_)
                · replace k := itn c k
                  refine w_iload_n (p := 211) (pI pM_188 rfl) rfl rfl ?_
                  refine w_bipush (p := 213) (v := nI 9) (pI pM_188 rfl) rfl rfl ?_
                  refine w_icmp_eq (p := 216) (q := 222) (pI pM_188 rfl) rfl rfl rfl (fun c => ?_) (fun c => ?_)
                  · replace k := itp c k
                    refine w_iload (p := 224) (pI pM_188 rfl) rfl rfl ?_
                    refine w_if_eq (p := 227) (q := 231) (pI pM_188 rfl) rfl rfl rfl (fun c => ?_) (fun c => ?_)
                    · replace k := itp c k
                      refine w_iconst (p := 232) (v := nI 1) (pI pM_188 rfl) rfl rfl ?_
                      refine w_istore (p := 234) (pI pM_188 rfl) rfl rfl rfl ?_
                      refine w_goto (p := 296) (pI pM_188 rfl) rfl rfl ?_
                      refine w_aload_n (p := 297) (pI pM_188 rfl) rfl rfl ?_
                      refine v_getR (p := 300) (kf := 40) (pI pM_188 rfl) rfl rfl rfl (by decide) (by decide) rfl rfl ?_
                      refine w_iload (p := 302) (pI pM_188 rfl) rfl rfl ?_
                      refine w_iload (p := 304) (pI pM_188 rfl) rfl rfl ?_
                      obtain ⟨s110, k⟩ := k
                      refine s_iast (p := 305) (pI pM_188 rfl) rfl (by decide) (by decide) rfl s110 ?_
                      refine w_iinc (p := 308) (v := (a84 + nI 1)) (pI pM_188 rfl) rfl rfl rfl rfl ?_
                      refine w_goto (p := 99) (pI pM_188 rfl) rfl rfl ?_
                      exact k _ _ _
                    · replace k := itn c k
                      refine w_iconst (p := 228) (v := nI 0) (pI pM_188 rfl) rfl rfl ?_
                      refine w_goto (p := 232) (pI pM_188 rfl) rfl rfl ?_
                      refine w_istore (p := 234) (pI pM_188 rfl) rfl rfl rfl ?_
                      refine w_goto (p := 296) (pI pM_188 rfl) rfl rfl ?_
                      refine w_aload_n (p := 297) (pI pM_188 rfl) rfl rfl ?_
                      refine v_getR (p := 300) (kf := 40) (pI pM_188 rfl) rfl rfl rfl (by decide) (by decide) rfl rfl ?_
                      refine w_iload (p := 302) (pI pM_188 rfl) rfl rfl ?_
                      refine w_iload (p := 304) (pI pM_188 rfl) rfl rfl ?_
                      obtain ⟨s111, k⟩ := k
                      refine s_iast (p := 305) (pI pM_188 rfl) rfl (by decide) (by decide) rfl s111 ?_
                      refine w_iinc (p := 308) (v := (a84 + nI 1)) (pI pM_188 rfl) rfl rfl rfl rfl ?_
                      refine w_goto (p := 99) (pI pM_188 rfl) rfl rfl ?_
                      exact k _ _ _
                  · replace k := itn c k
                    refine w_iload_n (p := 217) (pI pM_188 rfl) rfl rfl ?_
                    refine w_bipush (p := 219) (v := nI 10) (pI pM_188 rfl) rfl rfl ?_
                    refine w_icmp_ne (p := 222) (q := 237) (pI pM_188 rfl) rfl rfl rfl (fun c => ?_) (fun c => ?_)
                    · replace k := itn c k
                      refine w_iload_n (p := 238) (pI pM_188 rfl) rfl rfl ?_
                      refine w_bipush (p := 240) (v := nI 21) (pI pM_188 rfl) rfl rfl ?_
                      refine w_icmp_ne (p := 243) (q := 271) (pI pM_188 rfl) rfl rfl rfl (fun c => ?_) (fun c => ?_)
                      · replace k := itn c k
                        refine w_iload (p := 273) (pI pM_188 rfl) rfl rfl ?_
                        refine w_if_lt (p := 276) (q := 290) (pI pM_188 rfl) rfl rfl rfl (fun c => ?_) (fun c => ?_)
                        · replace k := itp c k
                          refine w_aload_n (p := 291) (pI pM_188 rfl) rfl rfl ?_
                          refine v_getI (p := 294) (kf := 39) (pI pM_188 rfl) rfl rfl rfl (by decide) (by decide) rfl rfl rfl ?_
                          refine w_istore (p := 296) (pI pM_188 rfl) rfl rfl rfl ?_
                          refine w_aload_n (p := 297) (pI pM_188 rfl) rfl rfl ?_
                          refine v_getR (p := 300) (kf := 40) (pI pM_188 rfl) rfl rfl rfl (by decide) (by decide) rfl rfl ?_
                          refine w_iload (p := 302) (pI pM_188 rfl) rfl rfl ?_
                          refine w_iload (p := 304) (pI pM_188 rfl) rfl rfl ?_
                          obtain ⟨s112, k⟩ := k
                          refine s_iast (p := 305) (pI pM_188 rfl) rfl (by decide) (by decide) rfl s112 ?_
                          refine w_iinc (p := 308) (v := (a84 + nI 1)) (pI pM_188 rfl) rfl rfl rfl rfl ?_
                          refine w_goto (p := 99) (pI pM_188 rfl) rfl rfl ?_
                          exact k _ _ _
                        · replace k := itn c k
                          refine w_iload (p := 278) (pI pM_188 rfl) rfl rfl ?_
                          refine w_aload_n (p := 279) (pI pM_188 rfl) rfl rfl ?_
                          refine v_getI (p := 282) (kf := 39) (pI pM_188 rfl) rfl rfl rfl (by decide) (by decide) rfl rfl rfl ?_
                          refine w_icmp_ge (p := 285) (q := 290) (pI pM_188 rfl) rfl rfl rfl (fun c => ?_) (fun c => ?_)
                          · replace k := itn (Int32.not_lt.mpr c) k
                            refine w_aload_n (p := 291) (pI pM_188 rfl) rfl rfl ?_
                            refine v_getI (p := 294) (kf := 39) (pI pM_188 rfl) rfl rfl rfl (by decide) (by decide) rfl rfl rfl ?_
                            refine w_istore (p := 296) (pI pM_188 rfl) rfl rfl rfl ?_
                            refine w_aload_n (p := 297) (pI pM_188 rfl) rfl rfl ?_
                            refine v_getR (p := 300) (kf := 40) (pI pM_188 rfl) rfl rfl rfl (by decide) (by decide) rfl rfl ?_
                            refine w_iload (p := 302) (pI pM_188 rfl) rfl rfl ?_
                            refine w_iload (p := 304) (pI pM_188 rfl) rfl rfl ?_
                            obtain ⟨s113, k⟩ := k
                            refine s_iast (p := 305) (pI pM_188 rfl) rfl (by decide) (by decide) rfl s113 ?_
                            refine w_iinc (p := 308) (v := (a84 + nI 1)) (pI pM_188 rfl) rfl rfl rfl rfl ?_
                            refine w_goto (p := 99) (pI pM_188 rfl) rfl rfl ?_
                            exact k _ _ _
                          · replace k := itp (Int32.not_le.mp c) k
                            refine w_iload (p := 287) (pI pM_188 rfl) rfl rfl ?_
                            refine w_goto (p := 294) (pI pM_188 rfl) rfl rfl ?_
                            refine w_istore (p := 296) (pI pM_188 rfl) rfl rfl rfl ?_
                            refine w_aload_n (p := 297) (pI pM_188 rfl) rfl rfl ?_
                            refine v_getR (p := 300) (kf := 40) (pI pM_188 rfl) rfl rfl rfl (by decide) (by decide) rfl rfl ?_
                            refine w_iload (p := 302) (pI pM_188 rfl) rfl rfl ?_
                            refine w_iload (p := 304) (pI pM_188 rfl) rfl rfl ?_
                            obtain ⟨s114, k⟩ := k
                            refine s_iast (p := 305) (pI pM_188 rfl) rfl (by decide) (by decide) rfl s114 ?_
                            refine w_iinc (p := 308) (v := (a84 + nI 1)) (pI pM_188 rfl) rfl rfl rfl rfl ?_
                            refine w_goto (p := 99) (pI pM_188 rfl) rfl rfl ?_
                            exact k _ _ _
                      · replace k := itp (Decidable.not_not.mp c) k
                        refine w_iload (p := 245) (pI pM_188 rfl) rfl rfl ?_
                        refine w_if_ge (p := 248) (q := 253) (pI pM_188 rfl) rfl rfl rfl (fun c => ?_) (fun c => ?_)
                        · replace k := itn (Int32.not_lt.mpr c) k
                          refine w_iload (p := 255) (pI pM_188 rfl) rfl rfl ?_
                          refine w_iconst (p := 256) (v := nI 5) (pI pM_188 rfl) rfl rfl ?_
                          refine w_icmp_le (p := 259) (q := 264) (pI pM_188 rfl) rfl rfl rfl (fun c => ?_) (fun c => ?_)
                          · replace k := itn (Int32.not_lt.mpr c) k
                            refine w_iload (p := 266) (pI pM_188 rfl) rfl rfl ?_
                            refine w_istore (p := 268) (pI pM_188 rfl) rfl rfl rfl ?_
                            refine w_goto (p := 296) (pI pM_188 rfl) rfl rfl ?_
                            refine w_aload_n (p := 297) (pI pM_188 rfl) rfl rfl ?_
                            refine v_getR (p := 300) (kf := 40) (pI pM_188 rfl) rfl rfl rfl (by decide) (by decide) rfl rfl ?_
                            refine w_iload (p := 302) (pI pM_188 rfl) rfl rfl ?_
                            refine w_iload (p := 304) (pI pM_188 rfl) rfl rfl ?_
                            obtain ⟨s115, k⟩ := k
                            refine s_iast (p := 305) (pI pM_188 rfl) rfl (by decide) (by decide) rfl s115 ?_
                            refine w_iinc (p := 308) (v := (a84 + nI 1)) (pI pM_188 rfl) rfl rfl rfl rfl ?_
                            refine w_goto (p := 99) (pI pM_188 rfl) rfl rfl ?_
                            exact k _ _ _
                          · replace k := itp (Int32.not_le.mp c) k
                            refine w_bipush (p := 261) (v := nI 7) (pI pM_188 rfl) rfl rfl ?_
                            refine w_goto (p := 266) (pI pM_188 rfl) rfl rfl ?_
                            refine w_istore (p := 268) (pI pM_188 rfl) rfl rfl rfl ?_
                            refine w_goto (p := 296) (pI pM_188 rfl) rfl rfl ?_
                            refine w_aload_n (p := 297) (pI pM_188 rfl) rfl rfl ?_
                            refine v_getR (p := 300) (kf := 40) (pI pM_188 rfl) rfl rfl rfl (by decide) (by decide) rfl rfl ?_
                            refine w_iload (p := 302) (pI pM_188 rfl) rfl rfl ?_
                            refine w_iload (p := 304) (pI pM_188 rfl) rfl rfl ?_
                            obtain ⟨s116, k⟩ := k
                            refine s_iast (p := 305) (pI pM_188 rfl) rfl (by decide) (by decide) rfl s116 ?_
                            refine w_iinc (p := 308) (v := (a84 + nI 1)) (pI pM_188 rfl) rfl rfl rfl rfl ?_
                            refine w_goto (p := 99) (pI pM_188 rfl) rfl rfl ?_
                            exact k _ _ _
                        · replace k := itp (Int32.not_le.mp c) k
                          refine w_bipush (p := 250) (v := nI 6) (pI pM_188 rfl) rfl rfl ?_
                          refine w_goto (p := 266) (pI pM_188 rfl) rfl rfl ?_
                          refine w_istore (p := 268) (pI pM_188 rfl) rfl rfl rfl ?_
                          refine w_goto (p := 296) (pI pM_188 rfl) rfl rfl ?_
                          refine w_aload_n (p := 297) (pI pM_188 rfl) rfl rfl ?_
                          refine v_getR (p := 300) (kf := 40) (pI pM_188 rfl) rfl rfl rfl (by decide) (by decide) rfl rfl ?_
                          refine w_iload (p := 302) (pI pM_188 rfl) rfl rfl ?_
                          refine w_iload (p := 304) (pI pM_188 rfl) rfl rfl ?_
                          obtain ⟨s117, k⟩ := k
                          refine s_iast (p := 305) (pI pM_188 rfl) rfl (by decide) (by decide) rfl s117 ?_
                          refine w_iinc (p := 308) (v := (a84 + nI 1)) (pI pM_188 rfl) rfl rfl rfl rfl ?_
                          refine w_goto (p := 99) (pI pM_188 rfl) rfl rfl ?_
                          exact k _ _ _
                    · replace k := itp (Decidable.not_not.mp c) k
                      refine w_iload (p := 224) (pI pM_188 rfl) rfl rfl ?_
                      refine w_if_eq (p := 227) (q := 231) (pI pM_188 rfl) rfl rfl rfl (fun c => ?_) (fun c => ?_)
                      · replace k := itp c k
                        refine w_iconst (p := 232) (v := nI 1) (pI pM_188 rfl) rfl rfl ?_
                        refine w_istore (p := 234) (pI pM_188 rfl) rfl rfl rfl ?_
                        refine w_goto (p := 296) (pI pM_188 rfl) rfl rfl ?_
                        refine w_aload_n (p := 297) (pI pM_188 rfl) rfl rfl ?_
                        refine v_getR (p := 300) (kf := 40) (pI pM_188 rfl) rfl rfl rfl (by decide) (by decide) rfl rfl ?_
                        refine w_iload (p := 302) (pI pM_188 rfl) rfl rfl ?_
                        refine w_iload (p := 304) (pI pM_188 rfl) rfl rfl ?_
                        obtain ⟨s118, k⟩ := k
                        refine s_iast (p := 305) (pI pM_188 rfl) rfl (by decide) (by decide) rfl s118 ?_
                        refine w_iinc (p := 308) (v := (a84 + nI 1)) (pI pM_188 rfl) rfl rfl rfl rfl ?_
                        refine w_goto (p := 99) (pI pM_188 rfl) rfl rfl ?_
                        exact k _ _ _
                      · replace k := itn c k
                        refine w_iconst (p := 228) (v := nI 0) (pI pM_188 rfl) rfl rfl ?_
                        refine w_goto (p := 232) (pI pM_188 rfl) rfl rfl ?_
                        refine w_istore (p := 234) (pI pM_188 rfl) rfl rfl rfl ?_
                        refine w_goto (p := 296) (pI pM_188 rfl) rfl rfl ?_
                        refine w_aload_n (p := 297) (pI pM_188 rfl) rfl rfl ?_
                        refine v_getR (p := 300) (kf := 40) (pI pM_188 rfl) rfl rfl rfl (by decide) (by decide) rfl rfl ?_
                        refine w_iload (p := 302) (pI pM_188 rfl) rfl rfl ?_
                        refine w_iload (p := 304) (pI pM_188 rfl) rfl rfl ?_
                        obtain ⟨s119, k⟩ := k
                        refine s_iast (p := 305) (pI pM_188 rfl) rfl (by decide) (by decide) rfl s119 ?_
                        refine w_iinc (p := 308) (v := (a84 + nI 1)) (pI pM_188 rfl) rfl rfl rfl rfl ?_
                        refine w_goto (p := 99) (pI pM_188 rfl) rfl rfl ?_
                        exact k _ _ _
                · replace k := itp (Decidable.not_not.mp c) k
                  refine w_iload (p := 195) (pI pM_188 rfl) rfl rfl ?_
                  refine w_iload (p := 197) (pI pM_188 rfl) rfl rfl ?_
                  refine w_icmp_ne (p := 200) (q := 204) (pI pM_188 rfl) rfl rfl rfl (fun c => ?_) (fun c => ?_)
                  · replace k := itn c k
                    refine w_iconst (p := 205) (v := nI 1) (pI pM_188 rfl) rfl rfl ?_
                    refine w_istore (p := 207) (pI pM_188 rfl) rfl rfl rfl ?_
                    refine w_goto (p := 296) (pI pM_188 rfl) rfl rfl ?_
                    refine w_aload_n (p := 297) (pI pM_188 rfl) rfl rfl ?_
                    refine v_getR (p := 300) (kf := 40) (pI pM_188 rfl) rfl rfl rfl (by decide) (by decide) rfl rfl ?_
                    refine w_iload (p := 302) (pI pM_188 rfl) rfl rfl ?_
                    refine w_iload (p := 304) (pI pM_188 rfl) rfl rfl ?_
                    obtain ⟨s120, k⟩ := k
                    refine s_iast (p := 305) (pI pM_188 rfl) rfl (by decide) (by decide) rfl s120 ?_
                    refine w_iinc (p := 308) (v := (a84 + nI 1)) (pI pM_188 rfl) rfl rfl rfl rfl ?_
                    refine w_goto (p := 99) (pI pM_188 rfl) rfl rfl ?_
                    exact k _ _ _
                  · replace k := itp (Decidable.not_not.mp c) k
                    refine w_iconst (p := 201) (v := nI 0) (pI pM_188 rfl) rfl rfl ?_
                    refine w_goto (p := 205) (pI pM_188 rfl) rfl rfl ?_
                    refine w_istore (p := 207) (pI pM_188 rfl) rfl rfl rfl ?_
                    refine w_goto (p := 296) (pI pM_188 rfl) rfl rfl ?_
                    refine w_aload_n (p := 297) (pI pM_188 rfl) rfl rfl ?_
                    refine v_getR (p := 300) (kf := 40) (pI pM_188 rfl) rfl rfl rfl (by decide) (by decide) rfl rfl ?_
                    refine w_iload (p := 302) (pI pM_188 rfl) rfl rfl ?_
                    refine w_iload (p := 304) (pI pM_188 rfl) rfl rfl ?_
                    obtain ⟨s121, k⟩ := k
                    refine s_iast (p := 305) (pI pM_188 rfl) rfl (by decide) (by decide) rfl s121 ?_
                    refine w_iinc (p := 308) (v := (a84 + nI 1)) (pI pM_188 rfl) rfl rfl rfl rfl ?_
                    refine w_goto (p := 99) (pI pM_188 rfl) rfl rfl ?_
                    exact k _ _ _
              · replace k := itp (Decidable.not_not.mp c) k
                refine w_iload (p := 172) (pI pM_188 rfl) rfl rfl ?_
                refine w_iload (p := 174) (pI pM_188 rfl) rfl rfl ?_
                refine w_icmp_ge (p := 177) (q := 181) (pI pM_188 rfl) rfl rfl rfl (fun c => ?_) (fun c => ?_)
                · replace k := itn (Int32.not_lt.mpr c) k
                  refine w_iconst (p := 182) (v := nI 1) (pI pM_188 rfl) rfl rfl ?_
                  refine w_istore (p := 184) (pI pM_188 rfl) rfl rfl rfl ?_
                  refine w_goto (p := 296) (pI pM_188 rfl) rfl rfl ?_
                  refine w_aload_n (p := 297) (pI pM_188 rfl) rfl rfl ?_
                  refine v_getR (p := 300) (kf := 40) (pI pM_188 rfl) rfl rfl rfl (by decide) (by decide) rfl rfl ?_
                  refine w_iload (p := 302) (pI pM_188 rfl) rfl rfl ?_
                  refine w_iload (p := 304) (pI pM_188 rfl) rfl rfl ?_
                  obtain ⟨s122, k⟩ := k
                  refine s_iast (p := 305) (pI pM_188 rfl) rfl (by decide) (by decide) rfl s122 ?_
                  refine w_iinc (p := 308) (v := (a84 + nI 1)) (pI pM_188 rfl) rfl rfl rfl rfl ?_
                  refine w_goto (p := 99) (pI pM_188 rfl) rfl rfl ?_
                  exact k _ _ _
                · replace k := itp (Int32.not_le.mp c) k
                  refine w_iconst (p := 178) (v := nI 0) (pI pM_188 rfl) rfl rfl ?_
                  refine w_goto (p := 182) (pI pM_188 rfl) rfl rfl ?_
                  refine w_istore (p := 184) (pI pM_188 rfl) rfl rfl rfl ?_
                  refine w_goto (p := 296) (pI pM_188 rfl) rfl rfl ?_
                  refine w_aload_n (p := 297) (pI pM_188 rfl) rfl rfl ?_
                  refine v_getR (p := 300) (kf := 40) (pI pM_188 rfl) rfl rfl rfl (by decide) (by decide) rfl rfl ?_
                  refine w_iload (p := 302) (pI pM_188 rfl) rfl rfl ?_
                  refine w_iload (p := 304) (pI pM_188 rfl) rfl rfl ?_
                  obtain ⟨s123, k⟩ := k
                  refine s_iast (p := 305) (pI pM_188 rfl) rfl (by decide) (by decide) rfl s123 ?_
                  refine w_iinc (p := 308) (v := (a84 + nI 1)) (pI pM_188 rfl) rfl rfl rfl rfl ?_
                  refine w_goto (p := 99) (pI pM_188 rfl) rfl rfl ?_
                  exact k _ _ _
  · replace k := itp (Int32.not_le.mp c) k
    refine w_aload_n (p := 21) (pI pM_188 rfl) rfl rfl ?_
    refine v_getR (p := 24) (kf := 9) (pI pM_188 rfl) rfl rfl rfl (by decide) (by decide) rfl rfl ?_
    refine w_sipush (p := 27) (v := nI 1024) (pI pM_188 rfl) rfl rfl ?_
    refine w_iload_n (p := 28) (pI pM_188 rfl) rfl rfl ?_
    refine w_imul (p := 29) (pI pM_188 rfl) rfl ?_
    refine w_iload (p := 31) (pI pM_188 rfl) rfl rfl ?_
    refine w_iadd (p := 32) (pI pM_188 rfl) rfl ?_
    obtain ⟨s124, k⟩ := k
    refine v_bald (p := 33) (pI pM_188 rfl) rfl (by decide) (by decide) rfl (by decide) s124 rfl ?_
    refine w_iconst (p := 34) (v := -1) (pI pM_188 rfl) rfl rfl ?_
    refine w_icmp_ne (p := 37) (q := 65) (pI pM_188 rfl) rfl rfl rfl (fun c => ?_) (fun c => ?_)
    · replace k := itn c k
      refine w_iinc (p := 68) (v := (a5 + nI 1)) (pI pM_188 rfl) rfl rfl rfl rfl ?_
      refine w_goto (p := 12) (pI pM_188 rfl) rfl rfl ?_
      exact k _ _ _
    · replace k := itp (Decidable.not_not.mp c) k
      refine w_aload_n (p := 38) (pI pM_188 rfl) rfl rfl ?_
      refine v_getR (p := 41) (kf := 41) (pI pM_188 rfl) rfl rfl rfl (by decide) (by decide) rfl rfl ?_
      refine w_iload (p := 43) (pI pM_188 rfl) rfl rfl ?_
      refine w_aload_n (p := 44) (pI pM_188 rfl) rfl rfl ?_
      refine w_iload_n (p := 45) (pI pM_188 rfl) rfl rfl ?_
      refine w_iload (p := 47) (pI pM_188 rfl) rfl rfl ?_
      refine w_bipush (p := 49) (v := nI 32) (pI pM_188 rfl) rfl rfl ?_
      refine w_idiv (p := 50) (pI pM_188 rfl) rfl (by decide) ?_
      refine w_bipush (p := 52) (v := nI 16) (pI pM_188 rfl) rfl rfl ?_
      refine w_isub (p := 53) (pI pM_188 rfl) rfl ?_
      refine w_iload (p := 55) (pI pM_188 rfl) rfl rfl ?_
      refine w_bipush (p := 57) (v := nI 32) (pI pM_188 rfl) rfl rfl ?_
      refine w_irem (p := 58) (pI pM_188 rfl) rfl (by decide) ?_
      refine w_bipush (p := 60) (v := nI 16) (pI pM_188 rfl) rfl rfl ?_
      refine w_isub (p := 61) (pI pM_188 rfl) rfl ?_
      refine v_virtual (p := 64) (mj := 190) (pI pM_188 rfl) rfl rfl rfl rfl rfl rfl rfl rfl rfl rfl (by decide) (by decide) rfl ?_
      refine d190_worth (D190_worth_mono k (fun v125 A126 I127 k => ?_))
      obtain ⟨s128, k⟩ := k
      refine s_iast (p := 65) (pI pM_188 rfl) rfl (by decide) (by decide) rfl s128 ?_
      refine w_iinc (p := 68) (v := (a5 + nI 1)) (pI pM_188 rfl) rfl rfl rfl rfl ?_
      refine w_goto (p := 12) (pI pM_188 rfl) rfl rfl ?_
      exact k _ _ _
set_option maxRecDepth 100000 in
set_option maxHeartbeats 4000000 in
theorem d191_prune {d L : Nat} {x : Int32} {y : Int32} {A I : HA} {Q : bm_Q} (k : D191_prune x y A I (fun A I => Q none (hp L A I))) : bm_M (d + 1) 191 [.ref 1681, .int x, .int y] (hp L A I) Q := by
  unfold D191_prune at k
  refine bw_enter rfl rfl rfl rfl ?_
  refine w_aload_n (p := 1) (pI pM_191 rfl) rfl rfl ?_
  refine v_getR (p := 4) (kf := 27) (pI pM_191 rfl) rfl rfl rfl (by decide) (by decide) rfl rfl ?_
  refine w_aload_n (p := 5) (pI pM_191 rfl) rfl rfl ?_
  refine v_getI (p := 8) (kf := 26) (pI pM_191 rfl) rfl rfl rfl (by decide) (by decide) rfl rfl rfl ?_
  refine w_bipush (p := 10) (v := nI 30) (pI pM_191 rfl) rfl rfl ?_
  refine w_irem (p := 11) (pI pM_191 rfl) rfl (by decide) ?_
  refine w_iload_n (p := 12) (pI pM_191 rfl) rfl rfl ?_
  obtain ⟨s1, k⟩ := k
  refine s_iast (p := 13) (pI pM_191 rfl) rfl (by decide) (by decide) rfl s1 ?_
  refine w_aload_n (p := 14) (pI pM_191 rfl) rfl rfl ?_
  refine v_getR (p := 17) (kf := 28) (pI pM_191 rfl) rfl rfl rfl (by decide) (by decide) rfl rfl ?_
  refine w_aload_n (p := 18) (pI pM_191 rfl) rfl rfl ?_
  refine v_getI (p := 21) (kf := 26) (pI pM_191 rfl) rfl rfl rfl (by decide) (by decide) rfl rfl rfl ?_
  refine w_bipush (p := 23) (v := nI 30) (pI pM_191 rfl) rfl rfl ?_
  refine w_irem (p := 24) (pI pM_191 rfl) rfl (by decide) ?_
  refine w_iload_n (p := 25) (pI pM_191 rfl) rfl rfl ?_
  obtain ⟨s2, k⟩ := k
  refine s_iast (p := 26) (pI pM_191 rfl) rfl (by decide) (by decide) rfl s2 ?_
  refine w_aload_n (p := 27) (pI pM_191 rfl) rfl rfl ?_
  refine w_dup (p := 28) (pI pM_191 rfl) rfl rfl ?_
  refine v_getI (p := 31) (kf := 26) (pI pM_191 rfl) rfl rfl rfl (by decide) (by decide) rfl rfl rfl ?_
  refine w_iconst (p := 32) (v := nI 1) (pI pM_191 rfl) rfl rfl ?_
  refine w_iadd (p := 33) (pI pM_191 rfl) rfl ?_
  refine s_putI (p := 36) (kf := 26) (pI pM_191 rfl) rfl rfl rfl (by decide) (by decide) rfl rfl rfl rfl rfl rfl ?_
  exact w_return (pI pM_191 rfl) rfl k
set_option maxRecDepth 100000 in
set_option maxHeartbeats 4000000 in
theorem d192_copyWay {d L : Nat} {x : Int32} {y : Int32} {A I : HA} {Q : bm_Q} (k : D192_copyWay x y A I (fun A I => Q none (hp L A I))) : bm_M (d + 1) 192 [.ref 1681, .int x, .int y] (hp L A I) Q := by
  unfold D192_copyWay at k
  refine bw_enter rfl rfl rfl rfl ?_
  refine w_iconst (p := 1) (v := nI 0) (pI pM_192 rfl) rfl rfl ?_
  refine w_istore_n (p := 2) (pI pM_192 rfl) rfl rfl rfl ?_
  refine k (fun a2 A3 I4 => bm_W (bm_M (d + 0)) 192 Q 2 [.ref 1681, .int x, .int y, .int a2] [] (hp L A3 I4)) (fun a2 A3 I4 k => ?_)
  refine w_iload_n (p := 3) (pI pM_192 rfl) rfl rfl ?_
  refine w_sipush (p := 6) (v := nI 520) (pI pM_192 rfl) rfl rfl ?_
  refine w_icmp_ge (p := 9) (q := 39) (pI pM_192 rfl) rfl rfl rfl (fun c => ?_) (fun c => ?_)
  · replace k := itn (Int32.not_lt.mpr c) k
    refine w_iconst (p := 40) (v := nI 0) (pI pM_192 rfl) rfl rfl ?_
    refine w_istore_n (p := 41) (pI pM_192 rfl) rfl rfl rfl ?_
    refine k (fun a7 A8 I9 => bm_W (bm_M (d + 0)) 192 Q 41 [.ref 1681, .int x, .int y, .int a7] [] (hp L A8 I9)) (fun a7 A8 I9 k => ?_)
    refine w_iload_n (p := 42) (pI pM_192 rfl) rfl rfl ?_
    refine w_sipush (p := 45) (v := nI 1024) (pI pM_192 rfl) rfl rfl ?_
    refine w_icmp_ge (p := 48) (q := 78) (pI pM_192 rfl) rfl rfl rfl (fun c => ?_) (fun c => ?_)
    · replace k := itn (Int32.not_lt.mpr c) k
      exact w_return (pI pM_192 rfl) rfl k
    · replace k := itp (Int32.not_le.mp c) k
      refine w_aload_n (p := 49) (pI pM_192 rfl) rfl rfl ?_
      refine v_getR (p := 52) (kf := 9) (pI pM_192 rfl) rfl rfl rfl (by decide) (by decide) rfl rfl ?_
      refine w_sipush (p := 55) (v := nI 1024) (pI pM_192 rfl) rfl rfl ?_
      refine w_iload_n (p := 56) (pI pM_192 rfl) rfl rfl ?_
      refine w_imul (p := 57) (pI pM_192 rfl) rfl ?_
      refine w_iload_n (p := 58) (pI pM_192 rfl) rfl rfl ?_
      refine w_iadd (p := 59) (pI pM_192 rfl) rfl ?_
      refine w_aload_n (p := 60) (pI pM_192 rfl) rfl rfl ?_
      refine v_getR (p := 63) (kf := 9) (pI pM_192 rfl) rfl rfl rfl (by decide) (by decide) rfl rfl ?_
      refine w_sipush (p := 66) (v := nI 1024) (pI pM_192 rfl) rfl rfl ?_
      refine w_iload_n (p := 67) (pI pM_192 rfl) rfl rfl ?_
      refine w_imul (p := 68) (pI pM_192 rfl) rfl ?_
      refine w_iload_n (p := 69) (pI pM_192 rfl) rfl rfl ?_
      refine w_iadd (p := 70) (pI pM_192 rfl) rfl ?_
      obtain ⟨s11, k⟩ := k
      refine v_bald (p := 71) (pI pM_192 rfl) rfl (by decide) (by decide) rfl (by decide) s11 rfl ?_
      obtain ⟨s12, k⟩ := k
      refine s_bast (p := 72) (pI pM_192 rfl) rfl (by decide) (by decide) rfl (by decide) s12 ?_
      refine w_iinc (p := 75) (v := (a7 + nI 1)) (pI pM_192 rfl) rfl rfl rfl rfl ?_
      refine w_goto (p := 41) (pI pM_192 rfl) rfl rfl ?_
      exact k
  · replace k := itp (Int32.not_le.mp c) k
    refine w_aload_n (p := 10) (pI pM_192 rfl) rfl rfl ?_
    refine v_getR (p := 13) (kf := 8) (pI pM_192 rfl) rfl rfl rfl (by decide) (by decide) rfl rfl ?_
    refine w_sipush (p := 16) (v := nI 520) (pI pM_192 rfl) rfl rfl ?_
    refine w_iload_n (p := 17) (pI pM_192 rfl) rfl rfl ?_
    refine w_imul (p := 18) (pI pM_192 rfl) rfl ?_
    refine w_iload_n (p := 19) (pI pM_192 rfl) rfl rfl ?_
    refine w_iadd (p := 20) (pI pM_192 rfl) rfl ?_
    refine w_aload_n (p := 21) (pI pM_192 rfl) rfl rfl ?_
    refine v_getR (p := 24) (kf := 8) (pI pM_192 rfl) rfl rfl rfl (by decide) (by decide) rfl rfl ?_
    refine w_sipush (p := 27) (v := nI 520) (pI pM_192 rfl) rfl rfl ?_
    refine w_iload_n (p := 28) (pI pM_192 rfl) rfl rfl ?_
    refine w_imul (p := 29) (pI pM_192 rfl) rfl ?_
    refine w_iload_n (p := 30) (pI pM_192 rfl) rfl rfl ?_
    refine w_iadd (p := 31) (pI pM_192 rfl) rfl ?_
    obtain ⟨s13, k⟩ := k
    refine v_iald (p := 32) (pI pM_192 rfl) rfl (by decide) rfl s13 rfl ?_
    obtain ⟨s14, k⟩ := k
    refine s_iast (p := 33) (pI pM_192 rfl) rfl (by decide) (by decide) rfl s14 ?_
    refine w_iinc (p := 36) (v := (a2 + nI 1)) (pI pM_192 rfl) rfl rfl rfl rfl ?_
    refine w_goto (p := 2) (pI pM_192 rfl) rfl rfl ?_
    exact k
set_option maxRecDepth 100000 in
set_option maxHeartbeats 4000000 in
theorem d187_divide {d L : Nat} {x : Int32} {A I : HA} {Q : bm_Q} (k : D187_divide x A I (fun A I => Q none (hp L A I))) : bm_M (d + 5) 187 [.ref 1681, .int x] (hp L A I) Q := by
  unfold D187_divide at k
  refine bw_enter rfl rfl rfl rfl ?_
  refine w_aload_n (p := 1) (pI pM_187 rfl) rfl rfl ?_
  refine w_sipush (p := 4) (v := nI 520) (pI pM_187 rfl) rfl rfl ?_
  refine w_iload_n (p := 5) (pI pM_187 rfl) rfl rfl ?_
  refine w_imul (p := 6) (pI pM_187 rfl) rfl ?_
  refine s_putI (p := 9) (kf := 35) (pI pM_187 rfl) rfl rfl rfl (by decide) (by decide) rfl rfl rfl rfl rfl rfl ?_
  refine w_aload_n (p := 10) (pI pM_187 rfl) rfl rfl ?_
  refine v_virtual (p := 13) (mj := 158) (pI pM_187 rfl) rfl rfl rfl rfl rfl rfl rfl rfl rfl rfl (by decide) (by decide) rfl ?_
  refine d158_frame (D158_frame_mono k (fun A1 I2 k => ?_))
  refine w_aload_n (p := 14) (pI pM_187 rfl) rfl rfl ?_
  refine v_virtual (p := 17) (mj := 166) (pI pM_187 rfl) rfl rfl rfl rfl rfl rfl rfl rfl rfl rfl (by decide) (by decide) rfl ?_
  refine d166_place (D166_place_mono k (fun v3 k => ?_))
  refine w_istore_n (p := 18) (pI pM_187 rfl) rfl rfl rfl ?_
  refine w_aload_n (p := 19) (pI pM_187 rfl) rfl rfl ?_
  refine v_getI (p := 22) (kf := 37) (pI pM_187 rfl) rfl rfl rfl (by decide) (by decide) rfl rfl rfl ?_
  refine w_istore_n (p := 23) (pI pM_187 rfl) rfl rfl rfl ?_
  refine w_aload_n (p := 24) (pI pM_187 rfl) rfl rfl ?_
  refine w_iload_n (p := 25) (pI pM_187 rfl) rfl rfl ?_
  refine w_aload_n (p := 26) (pI pM_187 rfl) rfl rfl ?_
  refine v_getR (p := 29) (kf := 4) (pI pM_187 rfl) rfl rfl rfl (by decide) (by decide) rfl rfl ?_
  refine w_bipush (p := 31) (v := nI 40) (pI pM_187 rfl) rfl rfl ?_
  refine w_aload_n (p := 32) (pI pM_187 rfl) rfl rfl ?_
  refine v_getR (p := 35) (kf := 8) (pI pM_187 rfl) rfl rfl rfl (by decide) (by decide) rfl rfl ?_
  refine w_aload_n (p := 36) (pI pM_187 rfl) rfl rfl ?_
  refine v_getI (p := 39) (kf := 36) (pI pM_187 rfl) rfl rfl rfl (by decide) (by decide) rfl rfl rfl ?_
  refine w_iconst (p := 40) (v := nI 0) (pI pM_187 rfl) rfl rfl ?_
  refine w_iadd (p := 41) (pI pM_187 rfl) rfl ?_
  obtain ⟨s4, k⟩ := k
  refine v_iald (p := 42) (pI pM_187 rfl) rfl (by decide) rfl s4 rfl ?_
  refine w_imul (p := 43) (pI pM_187 rfl) rfl ?_
  refine w_aload_n (p := 44) (pI pM_187 rfl) rfl rfl ?_
  refine v_getR (p := 47) (kf := 8) (pI pM_187 rfl) rfl rfl rfl (by decide) (by decide) rfl rfl ?_
  refine w_aload_n (p := 48) (pI pM_187 rfl) rfl rfl ?_
  refine v_getI (p := 51) (kf := 36) (pI pM_187 rfl) rfl rfl rfl (by decide) (by decide) rfl rfl rfl ?_
  refine w_iconst (p := 52) (v := nI 1) (pI pM_187 rfl) rfl rfl ?_
  refine w_iadd (p := 53) (pI pM_187 rfl) rfl ?_
  obtain ⟨s5, k⟩ := k
  refine v_iald (p := 54) (pI pM_187 rfl) rfl (by decide) rfl s5 rfl ?_
  refine w_iadd (p := 55) (pI pM_187 rfl) rfl ?_
  obtain ⟨s6, k⟩ := k
  refine v_iald (p := 56) (pI pM_187 rfl) rfl (by decide) rfl s6 rfl ?_
  refine v_virtual (p := 59) (mj := 188) (pI pM_187 rfl) rfl rfl rfl rfl rfl rfl rfl rfl rfl rfl (by decide) (by decide) rfl ?_
  refine d188_choose (D188_choose_mono k (fun A7 I8 k => ?_))
  refine w_aload_n (p := 60) (pI pM_187 rfl) rfl rfl ?_
  refine w_dup (p := 61) (pI pM_187 rfl) rfl rfl ?_
  refine v_getI (p := 64) (kf := 22) (pI pM_187 rfl) rfl rfl rfl (by decide) (by decide) rfl rfl rfl ?_
  refine w_iconst (p := 65) (v := nI 1) (pI pM_187 rfl) rfl rfl ?_
  refine w_iadd (p := 66) (pI pM_187 rfl) rfl ?_
  refine s_putI (p := 69) (kf := 22) (pI pM_187 rfl) rfl rfl rfl (by decide) (by decide) rfl rfl rfl rfl rfl rfl ?_
  refine w_aload_n (p := 70) (pI pM_187 rfl) rfl rfl ?_
  refine v_getR (p := 73) (kf := 8) (pI pM_187 rfl) rfl rfl rfl (by decide) (by decide) rfl rfl ?_
  refine w_aload_n (p := 74) (pI pM_187 rfl) rfl rfl ?_
  refine v_getI (p := 77) (kf := 35) (pI pM_187 rfl) rfl rfl rfl (by decide) (by decide) rfl rfl rfl ?_
  refine w_iconst (p := 78) (v := nI 2) (pI pM_187 rfl) rfl rfl ?_
  refine w_iadd (p := 79) (pI pM_187 rfl) rfl ?_
  obtain ⟨s9, k⟩ := k
  refine v_iald (p := 80) (pI pM_187 rfl) rfl (by decide) rfl s9 rfl ?_
  refine w_istore (p := 82) (pI pM_187 rfl) rfl rfl rfl ?_
  refine w_iconst (p := 83) (v := nI 0) (pI pM_187 rfl) rfl rfl ?_
  refine w_istore (p := 85) (pI pM_187 rfl) rfl rfl rfl ?_
  refine k (fun a11 A16 I17 => ∀ u12 u13 u14 u15 : Value, bm_W (bm_M (d + 4)) 187 Q 85 [.ref 1681, .int x, .int v3, .int (I2 1681 37), .int (A7 1688 (((sI I8 1681 22 ((I8 1681 22) + (nI 1))) 1681 35) + (nI 2)).toNatClampNeg), .int a11, u12, u13, u14, u15] [] (hp L A16 I17)) (fun a11 A16 I17 k => ?_) _ _ _ _
  intro u12 u13 u14 u15
  refine w_iload (p := 87) (pI pM_187 rfl) rfl rfl ?_
  refine w_iload_n (p := 88) (pI pM_187 rfl) rfl rfl ?_
  refine w_icmp_ge (p := 91) (q := 372) (pI pM_187 rfl) rfl rfl rfl (fun c => ?_) (fun c => ?_)
  · replace k := itn (Int32.not_lt.mpr c) k
    refine w_aload_n (p := 373) (pI pM_187 rfl) rfl rfl ?_
    refine v_getR (p := 376) (kf := 10) (pI pM_187 rfl) rfl rfl rfl (by decide) (by decide) rfl rfl ?_
    refine w_iload_n (p := 377) (pI pM_187 rfl) rfl rfl ?_
    refine w_iconst (p := 378) (v := nI 0) (pI pM_187 rfl) rfl rfl ?_
    obtain ⟨s19, k⟩ := k
    refine s_bast (p := 379) (pI pM_187 rfl) rfl (by decide) (by decide) rfl (by decide) s19 ?_
    exact w_return (pI pM_187 rfl) rfl k
  · replace k := itp (Int32.not_le.mp c) k
    refine w_iconst (p := 92) (v := nI 0) (pI pM_187 rfl) rfl rfl ?_
    refine w_istore (p := 94) (pI pM_187 rfl) rfl rfl rfl ?_
    refine w_iconst (p := 95) (v := nI 0) (pI pM_187 rfl) rfl rfl ?_
    refine w_istore (p := 97) (pI pM_187 rfl) rfl rfl rfl ?_
    refine k (fun a21 a22 => ∀ u23 u24 : Value, bm_W (bm_M (d + 4)) 187 Q 97 [.ref 1681, .int x, .int v3, .int (I2 1681 37), .int (A7 1688 (((sI I8 1681 22 ((I8 1681 22) + (nI 1))) 1681 35) + (nI 2)).toNatClampNeg), .int a11, .int a21, .int a22, u23, u24] [] (hp L A16 I17)) (fun a21 a22 k => ?_) _ _
    intro u23 u24
    refine w_iload (p := 99) (pI pM_187 rfl) rfl rfl ?_
    refine w_sipush (p := 102) (v := nI 1024) (pI pM_187 rfl) rfl rfl ?_
    refine w_icmp_ge (p := 105) (q := 152) (pI pM_187 rfl) rfl rfl rfl (fun c => ?_) (fun c => ?_)
    · replace k := itn (Int32.not_lt.mpr c) k
      refine w_iload (p := 154) (pI pM_187 rfl) rfl rfl ?_
      refine w_if_ne (p := 157) (q := 167) (pI pM_187 rfl) rfl rfl rfl (fun c => ?_) (fun c => ?_)
      · replace k := itn c k
        refine w_aload_n (p := 168) (pI pM_187 rfl) rfl rfl ?_
        refine v_getI (p := 171) (kf := 21) (pI pM_187 rfl) rfl rfl rfl (by decide) (by decide) rfl rfl rfl ?_
        refine w_bipush (p := 173) (v := nI 60) (pI pM_187 rfl) rfl rfl ?_
        refine w_icmp_ne (p := 176) (q := 189) (pI pM_187 rfl) rfl rfl rfl (fun c => ?_) (fun c => ?_)
        · replace k := itn c k
          refine w_aload_n (p := 190) (pI pM_187 rfl) rfl rfl ?_
          refine v_virtual (p := 193) (mj := 155) (pI pM_187 rfl) rfl rfl rfl rfl rfl rfl rfl rfl rfl rfl (by decide) (by decide) rfl ?_
          refine d155_slot (D155_slot_mono k (fun v26 A27 I28 k => ?_))
          refine w_istore (p := 195) (pI pM_187 rfl) rfl rfl rfl ?_
          refine w_aload_n (p := 196) (pI pM_187 rfl) rfl rfl ?_
          refine w_iload_n (p := 197) (pI pM_187 rfl) rfl rfl ?_
          refine w_iload (p := 199) (pI pM_187 rfl) rfl rfl ?_
          refine v_virtual (p := 202) (mj := 192) (pI pM_187 rfl) rfl rfl rfl rfl rfl rfl rfl rfl rfl rfl (by decide) (by decide) rfl ?_
          refine d192_copyWay (D192_copyWay_mono k (fun A29 I30 k => ?_))
          refine w_sipush (p := 205) (v := nI 520) (pI pM_187 rfl) rfl rfl ?_
          refine w_iload (p := 207) (pI pM_187 rfl) rfl rfl ?_
          refine w_imul (p := 208) (pI pM_187 rfl) rfl ?_
          refine w_istore (p := 210) (pI pM_187 rfl) rfl rfl rfl ?_
          refine w_aload_n (p := 211) (pI pM_187 rfl) rfl rfl ?_
          refine v_getR (p := 214) (kf := 8) (pI pM_187 rfl) rfl rfl rfl (by decide) (by decide) rfl rfl ?_
          refine w_iload (p := 216) (pI pM_187 rfl) rfl rfl ?_
          refine w_bipush (p := 218) (v := nI 114) (pI pM_187 rfl) rfl rfl ?_
          refine w_iadd (p := 219) (pI pM_187 rfl) rfl ?_
          refine w_iconst (p := 220) (v := nI 2) (pI pM_187 rfl) rfl rfl ?_
          refine w_iload (p := 222) (pI pM_187 rfl) rfl rfl ?_
          refine w_imul (p := 223) (pI pM_187 rfl) rfl ?_
          refine w_iadd (p := 224) (pI pM_187 rfl) rfl ?_
          refine w_iload_n (p := 225) (pI pM_187 rfl) rfl rfl ?_
          obtain ⟨s31, k⟩ := k
          refine s_iast (p := 226) (pI pM_187 rfl) rfl (by decide) (by decide) rfl s31 ?_
          refine w_aload_n (p := 227) (pI pM_187 rfl) rfl rfl ?_
          refine v_getR (p := 230) (kf := 8) (pI pM_187 rfl) rfl rfl rfl (by decide) (by decide) rfl rfl ?_
          refine w_iload (p := 232) (pI pM_187 rfl) rfl rfl ?_
          refine w_bipush (p := 234) (v := nI 114) (pI pM_187 rfl) rfl rfl ?_
          refine w_iadd (p := 235) (pI pM_187 rfl) rfl ?_
          refine w_iconst (p := 236) (v := nI 2) (pI pM_187 rfl) rfl rfl ?_
          refine w_iload (p := 238) (pI pM_187 rfl) rfl rfl ?_
          refine w_imul (p := 239) (pI pM_187 rfl) rfl ?_
          refine w_iadd (p := 240) (pI pM_187 rfl) rfl ?_
          refine w_iconst (p := 241) (v := nI 1) (pI pM_187 rfl) rfl rfl ?_
          refine w_iadd (p := 242) (pI pM_187 rfl) rfl ?_
          refine w_iload (p := 244) (pI pM_187 rfl) rfl rfl ?_
          obtain ⟨s32, k⟩ := k
          refine s_iast (p := 245) (pI pM_187 rfl) rfl (by decide) (by decide) rfl s32 ?_
          refine w_aload_n (p := 246) (pI pM_187 rfl) rfl rfl ?_
          refine v_getR (p := 249) (kf := 8) (pI pM_187 rfl) rfl rfl rfl (by decide) (by decide) rfl rfl ?_
          refine w_iload (p := 251) (pI pM_187 rfl) rfl rfl ?_
          refine w_iconst (p := 252) (v := nI 2) (pI pM_187 rfl) rfl rfl ?_
          refine w_iadd (p := 253) (pI pM_187 rfl) rfl ?_
          refine w_iload (p := 255) (pI pM_187 rfl) rfl rfl ?_
          refine w_iconst (p := 256) (v := nI 1) (pI pM_187 rfl) rfl rfl ?_
          refine w_iadd (p := 257) (pI pM_187 rfl) rfl ?_
          obtain ⟨s33, k⟩ := k
          refine s_iast (p := 258) (pI pM_187 rfl) rfl (by decide) (by decide) rfl s33 ?_
          refine w_aload_n (p := 259) (pI pM_187 rfl) rfl rfl ?_
          refine v_getR (p := 262) (kf := 8) (pI pM_187 rfl) rfl rfl rfl (by decide) (by decide) rfl rfl ?_
          refine w_iload (p := 264) (pI pM_187 rfl) rfl rfl ?_
          refine w_iconst (p := 265) (v := nI 3) (pI pM_187 rfl) rfl rfl ?_
          refine w_iadd (p := 266) (pI pM_187 rfl) rfl ?_
          refine w_iload (p := 268) (pI pM_187 rfl) rfl rfl ?_
          obtain ⟨s34, k⟩ := k
          refine s_iast (p := 269) (pI pM_187 rfl) rfl (by decide) (by decide) rfl s34 ?_
          refine w_aload_n (p := 270) (pI pM_187 rfl) rfl rfl ?_
          refine v_getR (p := 273) (kf := 8) (pI pM_187 rfl) rfl rfl rfl (by decide) (by decide) rfl rfl ?_
          refine w_iload (p := 275) (pI pM_187 rfl) rfl rfl ?_
          refine w_iconst (p := 276) (v := nI 4) (pI pM_187 rfl) rfl rfl ?_
          refine w_iadd (p := 277) (pI pM_187 rfl) rfl ?_
          refine w_aload_n (p := 278) (pI pM_187 rfl) rfl rfl ?_
          refine v_getI (p := 281) (kf := 22) (pI pM_187 rfl) rfl rfl rfl (by decide) (by decide) rfl rfl rfl ?_
          obtain ⟨s35, k⟩ := k
          refine s_iast (p := 282) (pI pM_187 rfl) rfl (by decide) (by decide) rfl s35 ?_
          refine w_iconst (p := 283) (v := nI 0) (pI pM_187 rfl) rfl rfl ?_
          refine w_istore (p := 285) (pI pM_187 rfl) rfl rfl rfl ?_
          refine k (fun a37 A40 I41 => ∀ u38 u39 : Value, bm_W (bm_M (d + 4)) 187 Q 285 [.ref 1681, .int x, .int v3, .int (I2 1681 37), .int (A7 1688 (((sI I8 1681 22 ((I8 1681 22) + (nI 1))) 1681 35) + (nI 2)).toNatClampNeg), .int a11, u38, .int v26, u39, .int a37] [] (hp L A40 I41)) (fun a37 A40 I41 k => ?_) _ _
          intro u38 u39
          refine w_iload (p := 287) (pI pM_187 rfl) rfl rfl ?_
          refine w_sipush (p := 290) (v := nI 1024) (pI pM_187 rfl) rfl rfl ?_
          refine w_icmp_ge (p := 293) (q := 345) (pI pM_187 rfl) rfl rfl rfl (fun c => ?_) (fun c => ?_)
          · replace k := itn (Int32.not_lt.mpr c) k
            refine w_aload_n (p := 346) (pI pM_187 rfl) rfl rfl ?_
            refine v_getR (p := 349) (kf := 20) (pI pM_187 rfl) rfl rfl rfl (by decide) (by decide) rfl rfl ?_
            refine w_aload_n (p := 350) (pI pM_187 rfl) rfl rfl ?_
            refine v_getI (p := 353) (kf := 21) (pI pM_187 rfl) rfl rfl rfl (by decide) (by decide) rfl rfl rfl ?_
            refine w_iload (p := 355) (pI pM_187 rfl) rfl rfl ?_
            obtain ⟨s43, k⟩ := k
            refine s_iast (p := 356) (pI pM_187 rfl) rfl (by decide) (by decide) rfl s43 ?_
            refine w_aload_n (p := 357) (pI pM_187 rfl) rfl rfl ?_
            refine w_dup (p := 358) (pI pM_187 rfl) rfl rfl ?_
            refine v_getI (p := 361) (kf := 21) (pI pM_187 rfl) rfl rfl rfl (by decide) (by decide) rfl rfl rfl ?_
            refine w_iconst (p := 362) (v := nI 1) (pI pM_187 rfl) rfl rfl ?_
            refine w_iadd (p := 363) (pI pM_187 rfl) rfl ?_
            refine s_putI (p := 366) (kf := 21) (pI pM_187 rfl) rfl rfl rfl (by decide) (by decide) rfl rfl rfl rfl rfl rfl ?_
            refine w_iinc (p := 369) (v := (a11 + nI 1)) (pI pM_187 rfl) rfl rfl rfl rfl ?_
            refine w_goto (p := 85) (pI pM_187 rfl) rfl rfl ?_
            exact k _ _ _ _
          · replace k := itp (Int32.not_le.mp c) k
            refine w_aload_n (p := 294) (pI pM_187 rfl) rfl rfl ?_
            refine v_getR (p := 297) (kf := 9) (pI pM_187 rfl) rfl rfl rfl (by decide) (by decide) rfl rfl ?_
            refine w_sipush (p := 300) (v := nI 1024) (pI pM_187 rfl) rfl rfl ?_
            refine w_iload_n (p := 301) (pI pM_187 rfl) rfl rfl ?_
            refine w_imul (p := 302) (pI pM_187 rfl) rfl ?_
            refine w_iload (p := 304) (pI pM_187 rfl) rfl rfl ?_
            refine w_iadd (p := 305) (pI pM_187 rfl) rfl ?_
            obtain ⟨s44, k⟩ := k
            refine v_bald (p := 306) (pI pM_187 rfl) rfl (by decide) (by decide) rfl (by decide) s44 rfl ?_
            refine w_iconst (p := 307) (v := -1) (pI pM_187 rfl) rfl rfl ?_
            refine w_icmp_ne (p := 310) (q := 339) (pI pM_187 rfl) rfl rfl rfl (fun c => ?_) (fun c => ?_)
            · replace k := itn c k
              refine w_iinc (p := 342) (v := (a37 + nI 1)) (pI pM_187 rfl) rfl rfl rfl rfl ?_
              refine w_goto (p := 285) (pI pM_187 rfl) rfl rfl ?_
              exact k _ _
            · replace k := itp (Decidable.not_not.mp c) k
              refine w_aload_n (p := 311) (pI pM_187 rfl) rfl rfl ?_
              refine v_getR (p := 314) (kf := 40) (pI pM_187 rfl) rfl rfl rfl (by decide) (by decide) rfl rfl ?_
              refine w_iload (p := 316) (pI pM_187 rfl) rfl rfl ?_
              obtain ⟨s45, k⟩ := k
              refine v_iald (p := 317) (pI pM_187 rfl) rfl (by decide) rfl s45 rfl ?_
              refine w_iload (p := 319) (pI pM_187 rfl) rfl rfl ?_
              refine w_icmp_eq (p := 322) (q := 339) (pI pM_187 rfl) rfl rfl rfl (fun c => ?_) (fun c => ?_)
              · replace k := itp c k
                refine w_iinc (p := 342) (v := (a37 + nI 1)) (pI pM_187 rfl) rfl rfl rfl rfl ?_
                refine w_goto (p := 285) (pI pM_187 rfl) rfl rfl ?_
                exact k _ _
              · replace k := itn c k
                refine w_aload_n (p := 323) (pI pM_187 rfl) rfl rfl ?_
                refine v_getR (p := 326) (kf := 9) (pI pM_187 rfl) rfl rfl rfl (by decide) (by decide) rfl rfl ?_
                refine w_sipush (p := 329) (v := nI 1024) (pI pM_187 rfl) rfl rfl ?_
                refine w_iload (p := 331) (pI pM_187 rfl) rfl rfl ?_
                refine w_imul (p := 332) (pI pM_187 rfl) rfl ?_
                refine w_iload (p := 334) (pI pM_187 rfl) rfl rfl ?_
                refine w_iadd (p := 335) (pI pM_187 rfl) rfl ?_
                refine w_iload (p := 337) (pI pM_187 rfl) rfl rfl ?_
                refine w_i2b (p := 338) (pI pM_187 rfl) rfl ?_
                obtain ⟨s46, k⟩ := k
                refine s_bast (p := 339) (pI pM_187 rfl) rfl (by decide) (by decide) rfl (by decide) s46 ?_
                refine w_iinc (p := 342) (v := (a37 + nI 1)) (pI pM_187 rfl) rfl rfl rfl rfl ?_
                refine w_goto (p := 285) (pI pM_187 rfl) rfl rfl ?_
                exact k _ _
        · replace k := itp (Decidable.not_not.mp c) k
          refine w_aload_n (p := 177) (pI pM_187 rfl) rfl rfl ?_
          refine w_dup (p := 178) (pI pM_187 rfl) rfl rfl ?_
          refine v_getI (p := 181) (kf := 25) (pI pM_187 rfl) rfl rfl rfl (by decide) (by decide) rfl rfl rfl ?_
          refine w_iconst (p := 182) (v := nI 1) (pI pM_187 rfl) rfl rfl ?_
          refine w_iadd (p := 183) (pI pM_187 rfl) rfl ?_
          refine s_putI (p := 186) (kf := 25) (pI pM_187 rfl) rfl rfl rfl (by decide) (by decide) rfl rfl rfl rfl rfl rfl ?_
          refine w_goto (p := 366) (pI pM_187 rfl) rfl rfl ?_
          refine w_iinc (p := 369) (v := (a11 + nI 1)) (pI pM_187 rfl) rfl rfl rfl rfl ?_
          refine w_goto (p := 85) (pI pM_187 rfl) rfl rfl ?_
          exact k _ _ _ _
      · replace k := itp (Decidable.not_not.mp c) k
        refine w_aload_n (p := 158) (pI pM_187 rfl) rfl rfl ?_
        refine w_iload_n (p := 159) (pI pM_187 rfl) rfl rfl ?_
        refine w_iload (p := 161) (pI pM_187 rfl) rfl rfl ?_
        refine v_virtual (p := 164) (mj := 191) (pI pM_187 rfl) rfl rfl rfl rfl rfl rfl rfl rfl rfl rfl (by decide) (by decide) rfl ?_
        refine d191_prune (D191_prune_mono k (fun A47 I48 k => ?_))
        refine w_goto (p := 366) (pI pM_187 rfl) rfl rfl ?_
        refine w_iinc (p := 369) (v := (a11 + nI 1)) (pI pM_187 rfl) rfl rfl rfl rfl ?_
        refine w_goto (p := 85) (pI pM_187 rfl) rfl rfl ?_
        exact k _ _ _ _
    · replace k := itp (Int32.not_le.mp c) k
      refine w_iload (p := 107) (pI pM_187 rfl) rfl rfl ?_
      refine w_if_ne (p := 110) (q := 139) (pI pM_187 rfl) rfl rfl rfl (fun c => ?_) (fun c => ?_)
      · replace k := itn c k
        refine w_iconst (p := 140) (v := nI 1) (pI pM_187 rfl) rfl rfl ?_
        refine w_goto (p := 144) (pI pM_187 rfl) rfl rfl ?_
        refine w_istore (p := 146) (pI pM_187 rfl) rfl rfl rfl ?_
        refine w_iinc (p := 149) (v := (a22 + nI 1)) (pI pM_187 rfl) rfl rfl rfl rfl ?_
        refine w_goto (p := 97) (pI pM_187 rfl) rfl rfl ?_
        exact k _ _
      · replace k := itp (Decidable.not_not.mp c) k
        refine w_aload_n (p := 111) (pI pM_187 rfl) rfl rfl ?_
        refine v_getR (p := 114) (kf := 9) (pI pM_187 rfl) rfl rfl rfl (by decide) (by decide) rfl rfl ?_
        refine w_sipush (p := 117) (v := nI 1024) (pI pM_187 rfl) rfl rfl ?_
        refine w_iload_n (p := 118) (pI pM_187 rfl) rfl rfl ?_
        refine w_imul (p := 119) (pI pM_187 rfl) rfl ?_
        refine w_iload (p := 121) (pI pM_187 rfl) rfl rfl ?_
        refine w_iadd (p := 122) (pI pM_187 rfl) rfl ?_
        obtain ⟨s49, k⟩ := k
        refine v_bald (p := 123) (pI pM_187 rfl) rfl (by decide) (by decide) rfl (by decide) s49 rfl ?_
        refine w_iconst (p := 124) (v := -1) (pI pM_187 rfl) rfl rfl ?_
        refine w_icmp_ne (p := 127) (q := 143) (pI pM_187 rfl) rfl rfl rfl (fun c => ?_) (fun c => ?_)
        · replace k := itn c k
          refine w_iconst (p := 144) (v := nI 0) (pI pM_187 rfl) rfl rfl ?_
          refine w_istore (p := 146) (pI pM_187 rfl) rfl rfl rfl ?_
          refine w_iinc (p := 149) (v := (a22 + nI 1)) (pI pM_187 rfl) rfl rfl rfl rfl ?_
          refine w_goto (p := 97) (pI pM_187 rfl) rfl rfl ?_
          exact k _ _
        · replace k := itp (Decidable.not_not.mp c) k
          refine w_aload_n (p := 128) (pI pM_187 rfl) rfl rfl ?_
          refine v_getR (p := 131) (kf := 40) (pI pM_187 rfl) rfl rfl rfl (by decide) (by decide) rfl rfl ?_
          refine w_iload (p := 133) (pI pM_187 rfl) rfl rfl ?_
          obtain ⟨s50, k⟩ := k
          refine v_iald (p := 134) (pI pM_187 rfl) rfl (by decide) rfl s50 rfl ?_
          refine w_iload (p := 136) (pI pM_187 rfl) rfl rfl ?_
          refine w_icmp_ne (p := 139) (q := 143) (pI pM_187 rfl) rfl rfl rfl (fun c => ?_) (fun c => ?_)
          · replace k := itn c k
            refine w_iconst (p := 144) (v := nI 0) (pI pM_187 rfl) rfl rfl ?_
            refine w_istore (p := 146) (pI pM_187 rfl) rfl rfl rfl ?_
            refine w_iinc (p := 149) (v := (a22 + nI 1)) (pI pM_187 rfl) rfl rfl rfl rfl ?_
            refine w_goto (p := 97) (pI pM_187 rfl) rfl rfl ?_
            exact k _ _
          · replace k := itp (Decidable.not_not.mp c) k
            refine w_iconst (p := 140) (v := nI 1) (pI pM_187 rfl) rfl rfl ?_
            refine w_goto (p := 144) (pI pM_187 rfl) rfl rfl ?_
            refine w_istore (p := 146) (pI pM_187 rfl) rfl rfl rfl ?_
            refine w_iinc (p := 149) (v := (a22 + nI 1)) (pI pM_187 rfl) rfl rfl rfl rfl ?_
            refine w_goto (p := 97) (pI pM_187 rfl) rfl rfl ?_
            exact k _ _
set_option maxRecDepth 100000 in
set_option maxHeartbeats 4000000 in
theorem d159_goTill {d L : Nat} {x : Int32} {A I : HA} {Q : bm_Q} (k : D159_goTill x A I (fun A I => Q none (hp L A I))) : bm_M (d + 8) 159 [.ref 1681, .int x] (hp L A I) Q := by
  unfold D159_goTill at k
  refine bw_enter rfl rfl rfl rfl ?_
  refine w_aload_n (p := 1) (pI pM_159 rfl) rfl rfl ?_
  refine w_iconst (p := 2) (v := nI 1) (pI pM_159 rfl) rfl rfl ?_
  refine s_putI (p := 5) (kf := 31) (pI pM_159 rfl) rfl rfl rfl (by decide) (by decide) rfl rfl rfl rfl rfl rfl ?_
  refine k (fun A5 I6 => ∀ u2 u3 u4 : Value, bm_W (bm_M (d + 7)) 159 Q 5 [.ref 1681, .int x, u2, u3, u4] [] (hp L A5 I6)) (fun A5 I6 k => ?_) _ _ _
  intro u2 u3 u4
  refine w_aload_n (p := 6) (pI pM_159 rfl) rfl rfl ?_
  refine v_getI (p := 9) (kf := 21) (pI pM_159 rfl) rfl rfl rfl (by decide) (by decide) rfl rfl rfl ?_
  refine w_if_le (p := 12) (q := 124) (pI pM_159 rfl) rfl rfl rfl (fun c => ?_) (fun c => ?_)
  · replace k := itn (Int32.not_lt.mpr c) k
    refine w_aload_n (p := 125) (pI pM_159 rfl) rfl rfl ?_
    refine w_iconst (p := 126) (v := nI 0) (pI pM_159 rfl) rfl rfl ?_
    refine s_putI (p := 129) (kf := 31) (pI pM_159 rfl) rfl rfl rfl (by decide) (by decide) rfl rfl rfl rfl rfl rfl ?_
    exact w_return (pI pM_159 rfl) rfl k
  · replace k := itp (Int32.not_le.mp c) k
    refine w_aload_n (p := 13) (pI pM_159 rfl) rfl rfl ?_
    refine v_getI (p := 16) (kf := 24) (pI pM_159 rfl) rfl rfl rfl (by decide) (by decide) rfl rfl rfl ?_
    refine w_iload_n (p := 17) (pI pM_159 rfl) rfl rfl ?_
    refine w_icmp_ge (p := 20) (q := 124) (pI pM_159 rfl) rfl rfl rfl (fun c => ?_) (fun c => ?_)
    · replace k := itn (Int32.not_lt.mpr c) k
      refine w_aload_n (p := 125) (pI pM_159 rfl) rfl rfl ?_
      refine w_iconst (p := 126) (v := nI 0) (pI pM_159 rfl) rfl rfl ?_
      refine s_putI (p := 129) (kf := 31) (pI pM_159 rfl) rfl rfl rfl (by decide) (by decide) rfl rfl rfl rfl rfl rfl ?_
      exact w_return (pI pM_159 rfl) rfl k
    · replace k := itp (Int32.not_le.mp c) k
      refine w_aload_n (p := 21) (pI pM_159 rfl) rfl rfl ?_
      refine v_virtual (p := 24) (mj := 160) (pI pM_159 rfl) rfl rfl rfl rfl rfl rfl rfl rfl rfl rfl (by decide) (by decide) rfl ?_
      refine d160_pick (D160_pick_mono k (fun v8 A9 I10 k => ?_))
      refine w_istore_n (p := 25) (pI pM_159 rfl) rfl rfl rfl ?_
      refine w_aload_n (p := 26) (pI pM_159 rfl) rfl rfl ?_
      refine v_getR (p := 29) (kf := 20) (pI pM_159 rfl) rfl rfl rfl (by decide) (by decide) rfl rfl ?_
      refine w_iload_n (p := 30) (pI pM_159 rfl) rfl rfl ?_
      obtain ⟨s11, k⟩ := k
      refine v_iald (p := 31) (pI pM_159 rfl) rfl (by decide) rfl s11 rfl ?_
      refine w_istore_n (p := 32) (pI pM_159 rfl) rfl rfl rfl ?_
      refine w_aload_n (p := 33) (pI pM_159 rfl) rfl rfl ?_
      refine w_dup (p := 34) (pI pM_159 rfl) rfl rfl ?_
      refine v_getI (p := 37) (kf := 21) (pI pM_159 rfl) rfl rfl rfl (by decide) (by decide) rfl rfl rfl ?_
      refine w_iconst (p := 38) (v := nI 1) (pI pM_159 rfl) rfl rfl ?_
      refine w_isub (p := 39) (pI pM_159 rfl) rfl ?_
      refine s_putI (p := 42) (kf := 21) (pI pM_159 rfl) rfl rfl rfl (by decide) (by decide) rfl rfl rfl rfl rfl rfl ?_
      refine w_iload_n (p := 43) (pI pM_159 rfl) rfl rfl ?_
      refine w_istore (p := 45) (pI pM_159 rfl) rfl rfl rfl ?_
      refine k (fun a13 A15 I16 => ∀ u14 : Value, bm_W (bm_M (d + 7)) 159 Q 45 [.ref 1681, .int x, u14, .int (A9 1695 v8.toNatClampNeg), .int a13] [] (hp L A15 I16)) (fun a13 A15 I16 k => ?_) _
      intro u14
      refine w_iload (p := 47) (pI pM_159 rfl) rfl rfl ?_
      refine w_aload_n (p := 48) (pI pM_159 rfl) rfl rfl ?_
      refine v_getI (p := 51) (kf := 21) (pI pM_159 rfl) rfl rfl rfl (by decide) (by decide) rfl rfl rfl ?_
      refine w_icmp_ge (p := 54) (q := 76) (pI pM_159 rfl) rfl rfl rfl (fun c => ?_) (fun c => ?_)
      · replace k := itn (Int32.not_lt.mpr c) k
        refine w_aload_n (p := 77) (pI pM_159 rfl) rfl rfl ?_
        refine w_sipush (p := 80) (v := nI 520) (pI pM_159 rfl) rfl rfl ?_
        refine w_iload_n (p := 81) (pI pM_159 rfl) rfl rfl ?_
        refine w_imul (p := 82) (pI pM_159 rfl) rfl ?_
        refine s_putI (p := 85) (kf := 35) (pI pM_159 rfl) rfl rfl rfl (by decide) (by decide) rfl rfl rfl rfl rfl rfl ?_
        refine w_aload_n (p := 86) (pI pM_159 rfl) rfl rfl ?_
        refine v_virtual (p := 89) (mj := 162) (pI pM_159 rfl) rfl rfl rfl rfl rfl rfl rfl rfl rfl rfl (by decide) (by decide) rfl ?_
        refine d162_goOn (D162_goOn_mono k (fun v18 A19 I20 k => ?_))
        refine w_iconst (p := 90) (v := nI 2) (pI pM_159 rfl) rfl rfl ?_
        refine w_icmp_ne (p := 93) (q := 101) (pI pM_159 rfl) rfl rfl rfl (fun c => ?_) (fun c => ?_)
        · replace k := itn c k
          refine w_aload_n (p := 102) (pI pM_159 rfl) rfl rfl ?_
          refine v_getR (p := 105) (kf := 23) (pI pM_159 rfl) rfl rfl rfl (by decide) (by decide) rfl rfl ?_
          refine w_aload_n (p := 106) (pI pM_159 rfl) rfl rfl ?_
          refine v_getI (p := 109) (kf := 24) (pI pM_159 rfl) rfl rfl rfl (by decide) (by decide) rfl rfl rfl ?_
          refine w_iload_n (p := 110) (pI pM_159 rfl) rfl rfl ?_
          obtain ⟨s21, k⟩ := k
          refine s_iast (p := 111) (pI pM_159 rfl) rfl (by decide) (by decide) rfl s21 ?_
          refine w_aload_n (p := 112) (pI pM_159 rfl) rfl rfl ?_
          refine w_dup (p := 113) (pI pM_159 rfl) rfl rfl ?_
          refine v_getI (p := 116) (kf := 24) (pI pM_159 rfl) rfl rfl rfl (by decide) (by decide) rfl rfl rfl ?_
          refine w_iconst (p := 117) (v := nI 1) (pI pM_159 rfl) rfl rfl ?_
          refine w_iadd (p := 118) (pI pM_159 rfl) rfl ?_
          refine s_putI (p := 121) (kf := 24) (pI pM_159 rfl) rfl rfl rfl (by decide) (by decide) rfl rfl rfl rfl rfl rfl ?_
          refine w_goto (p := 5) (pI pM_159 rfl) rfl rfl ?_
          exact k _ _ _
        · replace k := itp (Decidable.not_not.mp c) k
          refine w_aload_n (p := 94) (pI pM_159 rfl) rfl rfl ?_
          refine w_iload_n (p := 95) (pI pM_159 rfl) rfl rfl ?_
          refine v_virtual (p := 98) (mj := 187) (pI pM_159 rfl) rfl rfl rfl rfl rfl rfl rfl rfl rfl rfl (by decide) (by decide) rfl ?_
          refine d187_divide (D187_divide_mono k (fun A22 I23 k => ?_))
          refine w_goto (p := 121) (pI pM_159 rfl) rfl rfl ?_
          refine w_goto (p := 5) (pI pM_159 rfl) rfl rfl ?_
          exact k _ _ _
      · replace k := itp (Int32.not_le.mp c) k
        refine w_aload_n (p := 55) (pI pM_159 rfl) rfl rfl ?_
        refine v_getR (p := 58) (kf := 20) (pI pM_159 rfl) rfl rfl rfl (by decide) (by decide) rfl rfl ?_
        refine w_iload (p := 60) (pI pM_159 rfl) rfl rfl ?_
        refine w_aload_n (p := 61) (pI pM_159 rfl) rfl rfl ?_
        refine v_getR (p := 64) (kf := 20) (pI pM_159 rfl) rfl rfl rfl (by decide) (by decide) rfl rfl ?_
        refine w_iload (p := 66) (pI pM_159 rfl) rfl rfl ?_
        refine w_iconst (p := 67) (v := nI 1) (pI pM_159 rfl) rfl rfl ?_
        refine w_iadd (p := 68) (pI pM_159 rfl) rfl ?_
        obtain ⟨s24, k⟩ := k
        refine v_iald (p := 69) (pI pM_159 rfl) rfl (by decide) rfl s24 rfl ?_
        obtain ⟨s25, k⟩ := k
        refine s_iast (p := 70) (pI pM_159 rfl) rfl (by decide) (by decide) rfl s25 ?_
        refine w_iinc (p := 73) (v := (a13 + nI 1)) (pI pM_159 rfl) rfl rfl rfl rfl ?_
        refine w_goto (p := 45) (pI pM_159 rfl) rfl rfl ?_
        exact k _
set_option maxRecDepth 100000 in
set_option maxHeartbeats 4000000 in
theorem d154_search {d L : Nat} {x : Int32} {y : Int32} {z : Int32} {u1 : Int32} {A I : HA} {Q : bm_Q} (k : D154_search x y z u1 A I (fun v A I => Q (some (.int v)) (hp L A I))) : bm_M (d + 9) 154 [.ref 1681, .int x, .int y, .int z, .int u1] (hp L A I) Q := by
  unfold D154_search at k
  refine bw_enter rfl rfl rfl rfl ?_
  refine w_iload_n (p := 1) (pI pM_154 rfl) rfl rfl ?_
  refine w_iconst (p := 2) (v := nI 0) (pI pM_154 rfl) rfl rfl ?_
  refine w_aload_n (p := 3) (pI pM_154 rfl) rfl rfl ?_
  refine v_getI (p := 6) (kf := 1) (pI pM_154 rfl) rfl rfl rfl (by decide) (by decide) rfl rfl rfl ?_
  refine w_iconst (p := 7) (v := nI 1) (pI pM_154 rfl) rfl rfl ?_
  refine w_isub (p := 8) (pI pM_154 rfl) rfl ?_
  refine w_static (p := 11) (mj := 149) (pI pM_154 rfl) rfl rfl rfl rfl rfl rfl rfl rfl rfl ?_
  refine d149_isIn (D149_isIn_mono k (fun v1 k => ?_))
  refine w_if_eq (p := 14) (q := 55) (pI pM_154 rfl) rfl rfl rfl (fun c => ?_) (fun c => ?_)
  · replace k := itp c k
    refine w_bipush (p := 57) (v := -2) (pI pM_154 rfl) rfl rfl ?_
    exact w_ireturn (pI pM_154 rfl) rfl rfl rfl k
  · replace k := itn c k
    refine w_aload_n (p := 15) (pI pM_154 rfl) rfl rfl ?_
    refine v_getR (p := 18) (kf := 2) (pI pM_154 rfl) rfl rfl rfl (by decide) (by decide) rfl rfl ?_
    refine w_iload_n (p := 19) (pI pM_154 rfl) rfl rfl ?_
    obtain ⟨s2, k⟩ := k
    refine v_iald (p := 20) (pI pM_154 rfl) rfl (by decide) rfl s2 rfl ?_
    refine w_iconst (p := 21) (v := nI 2) (pI pM_154 rfl) rfl rfl ?_
    refine w_icmp_ne (p := 24) (q := 55) (pI pM_154 rfl) rfl rfl rfl (fun c => ?_) (fun c => ?_)
    · replace k := itn c k
      refine w_bipush (p := 57) (v := -2) (pI pM_154 rfl) rfl rfl ?_
      exact w_ireturn (pI pM_154 rfl) rfl rfl rfl k
    · replace k := itp (Decidable.not_not.mp c) k
      refine w_iload_n (p := 25) (pI pM_154 rfl) rfl rfl ?_
      refine w_iconst (p := 26) (v := nI 1) (pI pM_154 rfl) rfl rfl ?_
      refine w_sipush (p := 29) (v := nI 200) (pI pM_154 rfl) rfl rfl ?_
      refine w_static (p := 32) (mj := 149) (pI pM_154 rfl) rfl rfl rfl rfl rfl rfl rfl rfl rfl ?_
      refine d149_isIn (D149_isIn_mono k (fun v3 k => ?_))
      refine w_if_eq (p := 35) (q := 55) (pI pM_154 rfl) rfl rfl rfl (fun c => ?_) (fun c => ?_)
      · replace k := itp c k
        refine w_bipush (p := 57) (v := -2) (pI pM_154 rfl) rfl rfl ?_
        exact w_ireturn (pI pM_154 rfl) rfl rfl rfl k
      · replace k := itn c k
        refine w_iload_n (p := 36) (pI pM_154 rfl) rfl rfl ?_
        refine w_iconst (p := 37) (v := nI 0) (pI pM_154 rfl) rfl rfl ?_
        refine w_iconst (p := 38) (v := nI 3) (pI pM_154 rfl) rfl rfl ?_
        refine w_static (p := 41) (mj := 149) (pI pM_154 rfl) rfl rfl rfl rfl rfl rfl rfl rfl rfl ?_
        refine d149_isIn (D149_isIn_mono k (fun v4 k => ?_))
        refine w_if_eq (p := 44) (q := 55) (pI pM_154 rfl) rfl rfl rfl (fun c => ?_) (fun c => ?_)
        · replace k := itp c k
          refine w_bipush (p := 57) (v := -2) (pI pM_154 rfl) rfl rfl ?_
          exact w_ireturn (pI pM_154 rfl) rfl rfl rfl k
        · replace k := itn c k
          refine w_iload (p := 46) (pI pM_154 rfl) rfl rfl ?_
          refine w_iconst (p := 47) (v := nI 1) (pI pM_154 rfl) rfl rfl ?_
          refine w_bipush (p := 49) (v := nI 100) (pI pM_154 rfl) rfl rfl ?_
          refine w_static (p := 52) (mj := 149) (pI pM_154 rfl) rfl rfl rfl rfl rfl rfl rfl rfl rfl ?_
          refine d149_isIn (D149_isIn_mono k (fun v5 k => ?_))
          refine w_if_ne (p := 55) (q := 58) (pI pM_154 rfl) rfl rfl rfl (fun c => ?_) (fun c => ?_)
          · replace k := itn c k
            refine w_aload_n (p := 59) (pI pM_154 rfl) rfl rfl ?_
            refine w_iconst (p := 60) (v := nI 1) (pI pM_154 rfl) rfl rfl ?_
            refine s_putI (p := 63) (kf := 16) (pI pM_154 rfl) rfl rfl rfl (by decide) (by decide) rfl rfl rfl rfl rfl rfl ?_
            refine w_aload_n (p := 64) (pI pM_154 rfl) rfl rfl ?_
            refine w_iload_n (p := 65) (pI pM_154 rfl) rfl rfl ?_
            refine s_putI (p := 68) (kf := 18) (pI pM_154 rfl) rfl rfl rfl (by decide) (by decide) rfl rfl rfl rfl rfl rfl ?_
            refine w_aload_n (p := 69) (pI pM_154 rfl) rfl rfl ?_
            refine w_iload_n (p := 70) (pI pM_154 rfl) rfl rfl ?_
            refine s_putI (p := 73) (kf := 17) (pI pM_154 rfl) rfl rfl rfl (by decide) (by decide) rfl rfl rfl rfl rfl rfl ?_
            refine w_aload_n (p := 74) (pI pM_154 rfl) rfl rfl ?_
            refine w_aload_n (p := 75) (pI pM_154 rfl) rfl rfl ?_
            refine v_getI (p := 78) (kf := 0) (pI pM_154 rfl) rfl rfl rfl (by decide) (by decide) rfl rfl rfl ?_
            refine s_putI (p := 81) (kf := 19) (pI pM_154 rfl) rfl rfl rfl (by decide) (by decide) rfl rfl rfl rfl rfl rfl ?_
            refine w_aload_n (p := 82) (pI pM_154 rfl) rfl rfl ?_
            refine w_sipush (p := 85) (v := nI 258) (pI pM_154 rfl) rfl rfl ?_
            refine s_putI (p := 88) (kf := 15) (pI pM_154 rfl) rfl rfl rfl (by decide) (by decide) rfl rfl rfl rfl rfl rfl ?_
            refine w_iconst (p := 89) (v := nI 0) (pI pM_154 rfl) rfl rfl ?_
            refine w_istore (p := 91) (pI pM_154 rfl) rfl rfl rfl ?_
            refine k (fun a7 A11 I12 => ∀ u8 u9 u10 : Value, bm_W (bm_M (d + 8)) 154 Q 91 [.ref 1681, .int x, u8, u9, .int u1, .int a7, u10] [] (hp L A11 I12)) (fun a7 A11 I12 k => ?_) _ _ _
            intro u8 u9 u10
            refine w_iload (p := 93) (pI pM_154 rfl) rfl rfl ?_
            refine w_sipush (p := 96) (v := nI 170) (pI pM_154 rfl) rfl rfl ?_
            refine w_icmp_ge (p := 99) (q := 113) (pI pM_154 rfl) rfl rfl rfl (fun c => ?_) (fun c => ?_)
            · replace k := itn (Int32.not_lt.mpr c) k
              refine w_iconst (p := 114) (v := nI 0) (pI pM_154 rfl) rfl rfl ?_
              refine w_istore (p := 116) (pI pM_154 rfl) rfl rfl rfl ?_
              refine k (fun a15 A19 I20 => ∀ u16 u17 u18 : Value, bm_W (bm_M (d + 8)) 154 Q 116 [.ref 1681, .int x, u16, u17, .int u1, .int a15, u18] [] (hp L A19 I20)) (fun a15 A19 I20 k => ?_) _ _ _
              intro u16 u17 u18
              refine w_iload (p := 118) (pI pM_154 rfl) rfl rfl ?_
              refine w_sipush (p := 121) (v := nI 240) (pI pM_154 rfl) rfl rfl ?_
              refine w_icmp_ge (p := 124) (q := 138) (pI pM_154 rfl) rfl rfl rfl (fun c => ?_) (fun c => ?_)
              · replace k := itn (Int32.not_lt.mpr c) k
                refine w_aload_n (p := 139) (pI pM_154 rfl) rfl rfl ?_
                refine w_iconst (p := 140) (v := nI 0) (pI pM_154 rfl) rfl rfl ?_
                refine s_putI (p := 143) (kf := 30) (pI pM_154 rfl) rfl rfl rfl (by decide) (by decide) rfl rfl rfl rfl rfl rfl ?_
                refine w_aload_n (p := 144) (pI pM_154 rfl) rfl rfl ?_
                refine w_iconst (p := 145) (v := nI 0) (pI pM_154 rfl) rfl rfl ?_
                refine s_putI (p := 148) (kf := 24) (pI pM_154 rfl) rfl rfl rfl (by decide) (by decide) rfl rfl rfl rfl rfl rfl ?_
                refine w_aload_n (p := 149) (pI pM_154 rfl) rfl rfl ?_
                refine w_iconst (p := 150) (v := nI 0) (pI pM_154 rfl) rfl rfl ?_
                refine s_putI (p := 153) (kf := 25) (pI pM_154 rfl) rfl rfl rfl (by decide) (by decide) rfl rfl rfl rfl rfl rfl ?_
                refine w_aload_n (p := 154) (pI pM_154 rfl) rfl rfl ?_
                refine w_iconst (p := 155) (v := nI 0) (pI pM_154 rfl) rfl rfl ?_
                refine s_putI (p := 158) (kf := 26) (pI pM_154 rfl) rfl rfl rfl (by decide) (by decide) rfl rfl rfl rfl rfl rfl ?_
                refine w_aload_n (p := 159) (pI pM_154 rfl) rfl rfl ?_
                refine w_iconst (p := 160) (v := nI 0) (pI pM_154 rfl) rfl rfl ?_
                refine s_putI (p := 163) (kf := 22) (pI pM_154 rfl) rfl rfl rfl (by decide) (by decide) rfl rfl rfl rfl rfl rfl ?_
                refine w_aload_n (p := 164) (pI pM_154 rfl) rfl rfl ?_
                refine v_virtual (p := 167) (mj := 155) (pI pM_154 rfl) rfl rfl rfl rfl rfl rfl rfl rfl rfl rfl (by decide) (by decide) rfl ?_
                refine d155_slot (D155_slot_mono k (fun v22 A23 I24 k => ?_))
                refine w_istore (p := 169) (pI pM_154 rfl) rfl rfl rfl ?_
                refine w_aload_n (p := 170) (pI pM_154 rfl) rfl rfl ?_
                refine w_sipush (p := 173) (v := nI 520) (pI pM_154 rfl) rfl rfl ?_
                refine w_iload (p := 175) (pI pM_154 rfl) rfl rfl ?_
                refine w_imul (p := 176) (pI pM_154 rfl) rfl ?_
                refine s_putI (p := 179) (kf := 35) (pI pM_154 rfl) rfl rfl rfl (by decide) (by decide) rfl rfl rfl rfl rfl rfl ?_
                refine w_aload_n (p := 180) (pI pM_154 rfl) rfl rfl ?_
                refine w_iload_n (p := 181) (pI pM_154 rfl) rfl rfl ?_
                refine w_sipush (p := 184) (v := nI 256) (pI pM_154 rfl) rfl rfl ?_
                refine w_sipush (p := 187) (v := nI 257) (pI pM_154 rfl) rfl rfl ?_
                refine v_virtual (p := 190) (mj := 156) (pI pM_154 rfl) rfl rfl rfl rfl rfl rfl rfl rfl rfl rfl (by decide) (by decide) rfl ?_
                refine d156_begin (D156_begin_mono k (fun A25 I26 k => ?_))
                refine w_iconst (p := 191) (v := nI 0) (pI pM_154 rfl) rfl rfl ?_
                refine w_istore (p := 193) (pI pM_154 rfl) rfl rfl rfl ?_
                refine k (fun a28 A32 I33 => ∀ u29 u30 u31 : Value, bm_W (bm_M (d + 8)) 154 Q 193 [.ref 1681, u29, u30, u31, .int u1, .int v22, .int a28] [] (hp L A32 I33)) (fun a28 A32 I33 k => ?_) _ _ _
                intro u29 u30 u31
                refine w_iload (p := 195) (pI pM_154 rfl) rfl rfl ?_
                refine w_sipush (p := 198) (v := nI 1024) (pI pM_154 rfl) rfl rfl ?_
                refine w_icmp_ge (p := 201) (q := 222) (pI pM_154 rfl) rfl rfl rfl (fun c => ?_) (fun c => ?_)
                · replace k := itn (Int32.not_lt.mpr c) k
                  refine w_aload_n (p := 223) (pI pM_154 rfl) rfl rfl ?_
                  refine v_getR (p := 226) (kf := 20) (pI pM_154 rfl) rfl rfl rfl (by decide) (by decide) rfl rfl ?_
                  refine w_iconst (p := 227) (v := nI 0) (pI pM_154 rfl) rfl rfl ?_
                  refine w_iload (p := 229) (pI pM_154 rfl) rfl rfl ?_
                  obtain ⟨s35, k⟩ := k
                  refine s_iast (p := 230) (pI pM_154 rfl) rfl (by decide) (by decide) rfl s35 ?_
                  refine w_aload_n (p := 231) (pI pM_154 rfl) rfl rfl ?_
                  refine w_iconst (p := 232) (v := nI 1) (pI pM_154 rfl) rfl rfl ?_
                  refine s_putI (p := 235) (kf := 21) (pI pM_154 rfl) rfl rfl rfl (by decide) (by decide) rfl rfl rfl rfl rfl rfl ?_
                  refine w_aload_n (p := 236) (pI pM_154 rfl) rfl rfl ?_
                  refine w_iload (p := 238) (pI pM_154 rfl) rfl rfl ?_
                  refine v_virtual (p := 241) (mj := 159) (pI pM_154 rfl) rfl rfl rfl rfl rfl rfl rfl rfl rfl rfl (by decide) (by decide) rfl ?_
                  refine d159_goTill (D159_goTill_mono k (fun A36 I37 k => ?_))
                  refine w_aload_n (p := 242) (pI pM_154 rfl) rfl rfl ?_
                  refine v_getI (p := 245) (kf := 24) (pI pM_154 rfl) rfl rfl rfl (by decide) (by decide) rfl rfl rfl ?_
                  exact w_ireturn (pI pM_154 rfl) rfl rfl rfl k
                · replace k := itp (Int32.not_le.mp c) k
                  refine w_aload_n (p := 202) (pI pM_154 rfl) rfl rfl ?_
                  refine v_getR (p := 205) (kf := 9) (pI pM_154 rfl) rfl rfl rfl (by decide) (by decide) rfl rfl ?_
                  refine w_sipush (p := 208) (v := nI 1024) (pI pM_154 rfl) rfl rfl ?_
                  refine w_iload (p := 210) (pI pM_154 rfl) rfl rfl ?_
                  refine w_imul (p := 211) (pI pM_154 rfl) rfl ?_
                  refine w_iload (p := 213) (pI pM_154 rfl) rfl rfl ?_
                  refine w_iadd (p := 214) (pI pM_154 rfl) rfl ?_
                  refine w_iconst (p := 215) (v := -1) (pI pM_154 rfl) rfl rfl ?_
                  obtain ⟨s38, k⟩ := k
                  refine s_bast (p := 216) (pI pM_154 rfl) rfl (by decide) (by decide) rfl (by decide) s38 ?_
                  refine w_iinc (p := 219) (v := (a28 + nI 1)) (pI pM_154 rfl) rfl rfl rfl rfl ?_
                  refine w_goto (p := 193) (pI pM_154 rfl) rfl rfl ?_
                  exact k _ _ _
              · replace k := itp (Int32.not_le.mp c) k
                refine w_aload_n (p := 125) (pI pM_154 rfl) rfl rfl ?_
                refine v_getR (p := 128) (kf := 29) (pI pM_154 rfl) rfl rfl rfl (by decide) (by decide) rfl rfl ?_
                refine w_iload (p := 130) (pI pM_154 rfl) rfl rfl ?_
                refine w_iconst (p := 131) (v := nI 0) (pI pM_154 rfl) rfl rfl ?_
                obtain ⟨s39, k⟩ := k
                refine s_iast (p := 132) (pI pM_154 rfl) rfl (by decide) (by decide) rfl s39 ?_
                refine w_iinc (p := 135) (v := (a15 + nI 1)) (pI pM_154 rfl) rfl rfl rfl rfl ?_
                refine w_goto (p := 116) (pI pM_154 rfl) rfl rfl ?_
                exact k _ _ _
            · replace k := itp (Int32.not_le.mp c) k
              refine w_aload_n (p := 100) (pI pM_154 rfl) rfl rfl ?_
              refine v_getR (p := 103) (kf := 10) (pI pM_154 rfl) rfl rfl rfl (by decide) (by decide) rfl rfl ?_
              refine w_iload (p := 105) (pI pM_154 rfl) rfl rfl ?_
              refine w_iconst (p := 106) (v := nI 0) (pI pM_154 rfl) rfl rfl ?_
              obtain ⟨s40, k⟩ := k
              refine s_bast (p := 107) (pI pM_154 rfl) rfl (by decide) (by decide) rfl (by decide) s40 ?_
              refine w_iinc (p := 110) (v := (a7 + nI 1)) (pI pM_154 rfl) rfl rfl rfl rfl ?_
              refine w_goto (p := 91) (pI pM_154 rfl) rfl rfl ?_
              exact k _ _ _
          · replace k := itp (Decidable.not_not.mp c) k
            refine w_bipush (p := 57) (v := -2) (pI pM_154 rfl) rfl rfl ?_
            exact w_ireturn (pI pM_154 rfl) rfl rfl rfl k
set_option maxRecDepth 100000 in
set_option maxHeartbeats 4000000 in
theorem d193_more {d L : Nat} {x : Int32} {A I : HA} {Q : bm_Q} (k : D193_more x A I (fun v A I => Q (some (.int v)) (hp L A I))) : bm_M (d + 9) 193 [.ref 1681, .int x] (hp L A I) Q := by
  unfold D193_more at k
  refine bw_enter rfl rfl rfl rfl ?_
  refine w_aload_n (p := 1) (pI pM_193 rfl) rfl rfl ?_
  refine v_getI (p := 4) (kf := 16) (pI pM_193 rfl) rfl rfl rfl (by decide) (by decide) rfl rfl rfl ?_
  refine w_if_ne (p := 7) (q := 10) (pI pM_193 rfl) rfl rfl rfl (fun c => ?_) (fun c => ?_)
  · replace k := itn c k
    refine w_iload_n (p := 11) (pI pM_193 rfl) rfl rfl ?_
    refine w_iconst (p := 12) (v := nI 1) (pI pM_193 rfl) rfl rfl ?_
    refine w_icmp_ge (p := 15) (q := 18) (pI pM_193 rfl) rfl rfl rfl (fun c => ?_) (fun c => ?_)
    · replace k := itn (Int32.not_lt.mpr c) k
      refine w_aload_n (p := 19) (pI pM_193 rfl) rfl rfl ?_
      refine w_iload_n (p := 20) (pI pM_193 rfl) rfl rfl ?_
      refine w_bipush (p := 22) (v := nI 100) (pI pM_193 rfl) rfl rfl ?_
      refine w_aload_n (p := 23) (pI pM_193 rfl) rfl rfl ?_
      refine v_getI (p := 26) (kf := 24) (pI pM_193 rfl) rfl rfl rfl (by decide) (by decide) rfl rfl rfl ?_
      refine w_isub (p := 27) (pI pM_193 rfl) rfl ?_
      refine w_icmp_le (p := 30) (q := 35) (pI pM_193 rfl) rfl rfl rfl (fun c => ?_) (fun c => ?_)
      · replace k := itn (Int32.not_lt.mpr c) k
        refine w_aload_n (p := 36) (pI pM_193 rfl) rfl rfl ?_
        refine v_getI (p := 39) (kf := 24) (pI pM_193 rfl) rfl rfl rfl (by decide) (by decide) rfl rfl rfl ?_
        refine w_iload_n (p := 40) (pI pM_193 rfl) rfl rfl ?_
        refine w_iadd (p := 41) (pI pM_193 rfl) rfl ?_
        refine v_virtual (p := 44) (mj := 159) (pI pM_193 rfl) rfl rfl rfl rfl rfl rfl rfl rfl rfl rfl (by decide) (by decide) rfl ?_
        refine d159_goTill (D159_goTill_mono k (fun A1 I2 k => ?_))
        refine w_aload_n (p := 45) (pI pM_193 rfl) rfl rfl ?_
        refine v_getI (p := 48) (kf := 24) (pI pM_193 rfl) rfl rfl rfl (by decide) (by decide) rfl rfl rfl ?_
        exact w_ireturn (pI pM_193 rfl) rfl rfl rfl k
      · replace k := itp (Int32.not_le.mp c) k
        refine w_bipush (p := 32) (v := nI 100) (pI pM_193 rfl) rfl rfl ?_
        refine w_goto (p := 41) (pI pM_193 rfl) rfl rfl ?_
        refine v_virtual (p := 44) (mj := 159) (pI pM_193 rfl) rfl rfl rfl rfl rfl rfl rfl rfl rfl rfl (by decide) (by decide) rfl ?_
        refine d159_goTill (D159_goTill_mono k (fun A3 I4 k => ?_))
        refine w_aload_n (p := 45) (pI pM_193 rfl) rfl rfl ?_
        refine v_getI (p := 48) (kf := 24) (pI pM_193 rfl) rfl rfl rfl (by decide) (by decide) rfl rfl rfl ?_
        exact w_ireturn (pI pM_193 rfl) rfl rfl rfl k
    · replace k := itp (Int32.not_le.mp c) k
      refine w_bipush (p := 17) (v := -2) (pI pM_193 rfl) rfl rfl ?_
      exact w_ireturn (pI pM_193 rfl) rfl rfl rfl k
  · replace k := itp (Decidable.not_not.mp c) k
    refine w_bipush (p := 9) (v := -3) (pI pM_193 rfl) rfl rfl ?_
    exact w_ireturn (pI pM_193 rfl) rfl rfl rfl k
set_option maxRecDepth 100000 in
set_option maxHeartbeats 4000000 in
theorem d194_told {d L : Nat} {x : Int32} {A I : HA} {Q : bm_Q} (k : D194_told x A I (fun v => Q (some (.int v)) (hp L A I))) : bm_M (d + 1) 194 [.ref 1681, .int x] (hp L A I) Q := by
  unfold D194_told at k
  refine bw_enter rfl rfl rfl rfl ?_
  refine w_aload_n (p := 1) (pI pM_194 rfl) rfl rfl ?_
  refine v_getI (p := 4) (kf := 16) (pI pM_194 rfl) rfl rfl rfl (by decide) (by decide) rfl rfl rfl ?_
  refine w_if_ne (p := 7) (q := 10) (pI pM_194 rfl) rfl rfl rfl (fun c => ?_) (fun c => ?_)
  · replace k := itn c k
    refine w_iload_n (p := 11) (pI pM_194 rfl) rfl rfl ?_
    by_cases c11_0 : x = nI 0
    · replace k := itp c11_0 k
      refine w_table (p := 44) (off := 33) (pI pM_194 rfl) (sw_at c11_0 (by decide)) rfl rfl ?_
      refine w_aload_n (p := 45) (pI pM_194 rfl) rfl rfl ?_
      refine v_getI (p := 48) (kf := 21) (pI pM_194 rfl) rfl rfl rfl (by decide) (by decide) rfl rfl rfl ?_
      exact w_ireturn (pI pM_194 rfl) rfl rfl rfl k
    · replace k := itn c11_0 k
      by_cases c11_1 : x = nI 1
      · replace k := itp c11_1 k
        refine w_table (p := 49) (off := 38) (pI pM_194 rfl) (sw_at c11_1 (by decide)) rfl rfl ?_
        refine w_aload_n (p := 50) (pI pM_194 rfl) rfl rfl ?_
        refine v_getI (p := 53) (kf := 25) (pI pM_194 rfl) rfl rfl rfl (by decide) (by decide) rfl rfl rfl ?_
        exact w_ireturn (pI pM_194 rfl) rfl rfl rfl k
      · replace k := itn c11_1 k
        by_cases c11_2 : x = nI 2
        · replace k := itp c11_2 k
          refine w_table (p := 54) (off := 43) (pI pM_194 rfl) (sw_at c11_2 (by decide)) rfl rfl ?_
          refine w_aload_n (p := 55) (pI pM_194 rfl) rfl rfl ?_
          refine v_getI (p := 58) (kf := 26) (pI pM_194 rfl) rfl rfl rfl (by decide) (by decide) rfl rfl rfl ?_
          exact w_ireturn (pI pM_194 rfl) rfl rfl rfl k
        · replace k := itn c11_2 k
          by_cases c11_3 : x = nI 3
          · replace k := itp c11_3 k
            refine w_table (p := 59) (off := 48) (pI pM_194 rfl) (sw_at c11_3 (by decide)) rfl rfl ?_
            refine w_aload_n (p := 60) (pI pM_194 rfl) rfl rfl ?_
            refine v_getI (p := 63) (kf := 30) (pI pM_194 rfl) rfl rfl rfl (by decide) (by decide) rfl rfl rfl ?_
            exact w_ireturn (pI pM_194 rfl) rfl rfl rfl k
          · replace k := itn c11_3 k
            by_cases c11_4 : x = nI 4
            · replace k := itp c11_4 k
              refine w_table (p := 64) (off := 53) (pI pM_194 rfl) (sw_at c11_4 (by decide)) rfl rfl ?_
              refine w_aload_n (p := 65) (pI pM_194 rfl) rfl rfl ?_
              refine v_getI (p := 68) (kf := 24) (pI pM_194 rfl) rfl rfl rfl (by decide) (by decide) rfl rfl rfl ?_
              exact w_ireturn (pI pM_194 rfl) rfl rfl rfl k
            · replace k := itn c11_4 k
              refine w_table (p := 69) (off := 58) (pI pM_194 rfl) (by have e0 := neT 0 (by decide) c11_0; have e1 := neT 1 (by decide) c11_1; have e2 := neT 2 (by decide) c11_2; have e3 := neT 3 (by decide) c11_3; have e4 := neT 4 (by decide) c11_4; exact sw_df (fun h1 h2 => by omega)) rfl rfl ?_
              refine w_bipush (p := 71) (v := -2) (pI pM_194 rfl) rfl rfl ?_
              exact w_ireturn (pI pM_194 rfl) rfl rfl rfl k
  · replace k := itp (Decidable.not_not.mp c) k
    refine w_bipush (p := 9) (v := -3) (pI pM_194 rfl) rfl rfl ?_
    exact w_ireturn (pI pM_194 rfl) rfl rfl rfl k
set_option maxRecDepth 100000 in
set_option maxHeartbeats 4000000 in
theorem d196_isPath {d L : Nat} {x : Int32} {A I : HA} {Q : bm_Q} (k : D196_isPath x A I (fun v => Q (some (.int v)) (hp L A I))) : bm_M (d + 2) 196 [.ref 1681, .int x] (hp L A I) Q := by
  unfold D196_isPath at k
  refine bw_enter rfl rfl rfl rfl ?_
  refine w_iload_n (p := 1) (pI pM_196 rfl) rfl rfl ?_
  refine w_iconst (p := 2) (v := nI 0) (pI pM_196 rfl) rfl rfl ?_
  refine w_aload_n (p := 3) (pI pM_196 rfl) rfl rfl ?_
  refine v_getI (p := 6) (kf := 24) (pI pM_196 rfl) rfl rfl rfl (by decide) (by decide) rfl rfl rfl ?_
  refine w_iconst (p := 7) (v := nI 1) (pI pM_196 rfl) rfl rfl ?_
  refine w_isub (p := 8) (pI pM_196 rfl) rfl ?_
  refine w_static (p := 11) (mj := 149) (pI pM_196 rfl) rfl rfl rfl rfl rfl rfl rfl rfl rfl ?_
  refine d149_isIn (D149_isIn_mono k (fun v1 k => ?_))
  obtain ⟨s2, k⟩ := k
  exact w_ireturn (pI pM_196 rfl) rfl rfl s2 k
set_option maxRecDepth 100000 in
set_option maxHeartbeats 4000000 in
theorem d197_countInputs {d L : Nat} {x : Int32} {A I : HA} {Q : bm_Q} (k : D197_countInputs x A I (fun v => Q (some (.int v)) (hp L A I))) : bm_M (d + 1) 197 [.ref 1681, .int x] (hp L A I) Q := by
  unfold D197_countInputs at k
  refine bw_enter rfl rfl rfl rfl ?_
  refine w_iconst (p := 1) (v := nI 0) (pI pM_197 rfl) rfl rfl ?_
  refine w_istore_n (p := 2) (pI pM_197 rfl) rfl rfl rfl ?_
  refine w_iconst (p := 3) (v := nI 0) (pI pM_197 rfl) rfl rfl ?_
  refine w_istore_n (p := 4) (pI pM_197 rfl) rfl rfl rfl ?_
  refine k (fun a2 a3 => bm_W (bm_M (d + 0)) 197 Q 4 [.ref 1681, .int x, .int a2, .int a3] [] (hp L A I)) (fun a2 a3 k => ?_)
  refine w_iload_n (p := 5) (pI pM_197 rfl) rfl rfl ?_
  refine w_sipush (p := 8) (v := nI 1024) (pI pM_197 rfl) rfl rfl ?_
  refine w_icmp_ge (p := 11) (q := 41) (pI pM_197 rfl) rfl rfl rfl (fun c => ?_) (fun c => ?_)
  · replace k := itn (Int32.not_lt.mpr c) k
    refine w_iload_n (p := 42) (pI pM_197 rfl) rfl rfl ?_
    exact w_ireturn (pI pM_197 rfl) rfl rfl rfl k
  · replace k := itp (Int32.not_le.mp c) k
    refine w_iload_n (p := 12) (pI pM_197 rfl) rfl rfl ?_
    refine w_aload_n (p := 13) (pI pM_197 rfl) rfl rfl ?_
    refine v_getR (p := 16) (kf := 9) (pI pM_197 rfl) rfl rfl rfl (by decide) (by decide) rfl rfl ?_
    refine w_sipush (p := 19) (v := nI 1024) (pI pM_197 rfl) rfl rfl ?_
    refine w_iload_n (p := 20) (pI pM_197 rfl) rfl rfl ?_
    refine w_imul (p := 21) (pI pM_197 rfl) rfl ?_
    refine w_iload_n (p := 22) (pI pM_197 rfl) rfl rfl ?_
    refine w_iadd (p := 23) (pI pM_197 rfl) rfl ?_
    obtain ⟨s5, k⟩ := k
    refine v_bald (p := 24) (pI pM_197 rfl) rfl (by decide) (by decide) rfl (by decide) s5 rfl ?_
    refine w_iconst (p := 25) (v := -1) (pI pM_197 rfl) rfl rfl ?_
    refine w_icmp_ne (p := 28) (q := 32) (pI pM_197 rfl) rfl rfl rfl (fun c => ?_) (fun c => ?_)
    · replace k := itn c k
      refine w_iconst (p := 33) (v := nI 0) (pI pM_197 rfl) rfl rfl ?_
      refine w_iadd (p := 34) (pI pM_197 rfl) rfl ?_
      refine w_istore_n (p := 35) (pI pM_197 rfl) rfl rfl rfl ?_
      refine w_iinc (p := 38) (v := (a3 + nI 1)) (pI pM_197 rfl) rfl rfl rfl rfl ?_
      refine w_goto (p := 4) (pI pM_197 rfl) rfl rfl ?_
      exact k
    · replace k := itp (Decidable.not_not.mp c) k
      refine w_iconst (p := 29) (v := nI 1) (pI pM_197 rfl) rfl rfl ?_
      refine w_goto (p := 33) (pI pM_197 rfl) rfl rfl ?_
      refine w_iadd (p := 34) (pI pM_197 rfl) rfl ?_
      refine w_istore_n (p := 35) (pI pM_197 rfl) rfl rfl rfl ?_
      refine w_iinc (p := 38) (v := (a3 + nI 1)) (pI pM_197 rfl) rfl rfl rfl rfl ?_
      refine w_goto (p := 4) (pI pM_197 rfl) rfl rfl ?_
      exact k
set_option maxRecDepth 100000 in
set_option maxHeartbeats 4000000 in
theorem d195_path {d L : Nat} {x : Int32} {y : Int32} {A I : HA} {Q : bm_Q} (k : D195_path x y A I (fun v => Q (some (.int v)) (hp L A I))) : bm_M (d + 3) 195 [.ref 1681, .int x, .int y] (hp L A I) Q := by
  unfold D195_path at k
  refine bw_enter rfl rfl rfl rfl ?_
  refine w_aload_n (p := 1) (pI pM_195 rfl) rfl rfl ?_
  refine v_getI (p := 4) (kf := 16) (pI pM_195 rfl) rfl rfl rfl (by decide) (by decide) rfl rfl rfl ?_
  refine w_if_ne (p := 7) (q := 10) (pI pM_195 rfl) rfl rfl rfl (fun c => ?_) (fun c => ?_)
  · replace k := itn c k
    refine w_iload_n (p := 11) (pI pM_195 rfl) rfl rfl ?_
    refine w_iconst (p := 12) (v := nI 0) (pI pM_195 rfl) rfl rfl ?_
    refine w_bipush (p := 14) (v := nI 6) (pI pM_195 rfl) rfl rfl ?_
    refine w_static (p := 17) (mj := 149) (pI pM_195 rfl) rfl rfl rfl rfl rfl rfl rfl rfl rfl ?_
    refine d149_isIn (D149_isIn_mono k (fun v1 k => ?_))
    refine w_if_ne (p := 20) (q := 23) (pI pM_195 rfl) rfl rfl rfl (fun c => ?_) (fun c => ?_)
    · replace k := itn c k
      refine w_aload_n (p := 24) (pI pM_195 rfl) rfl rfl ?_
      refine w_iload_n (p := 25) (pI pM_195 rfl) rfl rfl ?_
      refine v_virtual (p := 28) (mj := 196) (pI pM_195 rfl) rfl rfl rfl rfl rfl rfl rfl rfl rfl rfl (by decide) (by decide) rfl ?_
      refine d196_isPath (D196_isPath_mono k (fun v2 k => ?_))
      refine w_if_ne (p := 31) (q := 33) (pI pM_195 rfl) rfl rfl rfl (fun c => ?_) (fun c => ?_)
      · replace k := itn c k
        refine w_sipush (p := 36) (v := nI 520) (pI pM_195 rfl) rfl rfl ?_
        refine w_aload_n (p := 37) (pI pM_195 rfl) rfl rfl ?_
        refine v_getR (p := 40) (kf := 23) (pI pM_195 rfl) rfl rfl rfl (by decide) (by decide) rfl rfl ?_
        refine w_iload_n (p := 41) (pI pM_195 rfl) rfl rfl ?_
        obtain ⟨s3, k⟩ := k
        refine v_iald (p := 42) (pI pM_195 rfl) rfl (by decide) rfl s3 rfl ?_
        refine w_imul (p := 43) (pI pM_195 rfl) rfl ?_
        refine w_istore_n (p := 44) (pI pM_195 rfl) rfl rfl rfl ?_
        refine w_iload_n (p := 45) (pI pM_195 rfl) rfl rfl ?_
        by_cases c45_0 : y = nI 0
        · replace k := itp c45_0 k
          refine w_table (p := 84) (off := 39) (pI pM_195 rfl) (sw_at c45_0 (by decide)) rfl rfl ?_
          refine w_aload_n (p := 85) (pI pM_195 rfl) rfl rfl ?_
          refine v_getR (p := 88) (kf := 8) (pI pM_195 rfl) rfl rfl rfl (by decide) (by decide) rfl rfl ?_
          refine w_iload_n (p := 89) (pI pM_195 rfl) rfl rfl ?_
          refine w_sipush (p := 92) (v := nI 514) (pI pM_195 rfl) rfl rfl ?_
          refine w_iadd (p := 93) (pI pM_195 rfl) rfl ?_
          obtain ⟨s4, k⟩ := k
          refine v_iald (p := 94) (pI pM_195 rfl) rfl (by decide) rfl s4 rfl ?_
          exact w_ireturn (pI pM_195 rfl) rfl rfl rfl k
        · replace k := itn c45_0 k
          by_cases c45_1 : y = nI 1
          · replace k := itp c45_1 k
            refine w_table (p := 95) (off := 50) (pI pM_195 rfl) (sw_at c45_1 (by decide)) rfl rfl ?_
            refine w_aload_n (p := 96) (pI pM_195 rfl) rfl rfl ?_
            refine v_getR (p := 99) (kf := 8) (pI pM_195 rfl) rfl rfl rfl (by decide) (by decide) rfl rfl ?_
            refine w_iload_n (p := 100) (pI pM_195 rfl) rfl rfl ?_
            refine w_sipush (p := 103) (v := nI 515) (pI pM_195 rfl) rfl rfl ?_
            refine w_iadd (p := 104) (pI pM_195 rfl) rfl ?_
            obtain ⟨s5, k⟩ := k
            refine v_iald (p := 105) (pI pM_195 rfl) rfl (by decide) rfl s5 rfl ?_
            exact w_ireturn (pI pM_195 rfl) rfl rfl rfl k
          · replace k := itn c45_1 k
            by_cases c45_2 : y = nI 2
            · replace k := itp c45_2 k
              refine w_table (p := 106) (off := 61) (pI pM_195 rfl) (sw_at c45_2 (by decide)) rfl rfl ?_
              refine w_aload_n (p := 107) (pI pM_195 rfl) rfl rfl ?_
              refine v_getR (p := 110) (kf := 8) (pI pM_195 rfl) rfl rfl rfl (by decide) (by decide) rfl rfl ?_
              refine w_iload_n (p := 111) (pI pM_195 rfl) rfl rfl ?_
              refine w_sipush (p := 114) (v := nI 516) (pI pM_195 rfl) rfl rfl ?_
              refine w_iadd (p := 115) (pI pM_195 rfl) rfl ?_
              obtain ⟨s6, k⟩ := k
              refine v_iald (p := 116) (pI pM_195 rfl) rfl (by decide) rfl s6 rfl ?_
              exact w_ireturn (pI pM_195 rfl) rfl rfl rfl k
            · replace k := itn c45_2 k
              by_cases c45_3 : y = nI 3
              · replace k := itp c45_3 k
                refine w_table (p := 117) (off := 72) (pI pM_195 rfl) (sw_at c45_3 (by decide)) rfl rfl ?_
                refine w_aload_n (p := 118) (pI pM_195 rfl) rfl rfl ?_
                refine v_getR (p := 121) (kf := 8) (pI pM_195 rfl) rfl rfl rfl (by decide) (by decide) rfl rfl ?_
                refine w_iload_n (p := 122) (pI pM_195 rfl) rfl rfl ?_
                refine w_iconst (p := 123) (v := nI 1) (pI pM_195 rfl) rfl rfl ?_
                refine w_iadd (p := 124) (pI pM_195 rfl) rfl ?_
                obtain ⟨s7, k⟩ := k
                refine v_iald (p := 125) (pI pM_195 rfl) rfl (by decide) rfl s7 rfl ?_
                exact w_ireturn (pI pM_195 rfl) rfl rfl rfl k
              · replace k := itn c45_3 k
                by_cases c45_4 : y = nI 4
                · replace k := itp c45_4 k
                  refine w_table (p := 126) (off := 81) (pI pM_195 rfl) (sw_at c45_4 (by decide)) rfl rfl ?_
                  refine w_aload_n (p := 127) (pI pM_195 rfl) rfl rfl ?_
                  refine v_getR (p := 130) (kf := 8) (pI pM_195 rfl) rfl rfl rfl (by decide) (by decide) rfl rfl ?_
                  refine w_iload_n (p := 131) (pI pM_195 rfl) rfl rfl ?_
                  refine w_iconst (p := 132) (v := nI 2) (pI pM_195 rfl) rfl rfl ?_
                  refine w_iadd (p := 133) (pI pM_195 rfl) rfl ?_
                  obtain ⟨s8, k⟩ := k
                  refine v_iald (p := 134) (pI pM_195 rfl) rfl (by decide) rfl s8 rfl ?_
                  exact w_ireturn (pI pM_195 rfl) rfl rfl rfl k
                · replace k := itn c45_4 k
                  by_cases c45_5 : y = nI 5
                  · replace k := itp c45_5 k
                    refine w_table (p := 135) (off := 90) (pI pM_195 rfl) (sw_at c45_5 (by decide)) rfl rfl ?_
                    refine w_aload_n (p := 136) (pI pM_195 rfl) rfl rfl ?_
                    refine w_aload_n (p := 137) (pI pM_195 rfl) rfl rfl ?_
                    refine v_getR (p := 140) (kf := 23) (pI pM_195 rfl) rfl rfl rfl (by decide) (by decide) rfl rfl ?_
                    refine w_iload_n (p := 141) (pI pM_195 rfl) rfl rfl ?_
                    obtain ⟨s9, k⟩ := k
                    refine v_iald (p := 142) (pI pM_195 rfl) rfl (by decide) rfl s9 rfl ?_
                    refine v_virtual (p := 145) (mj := 197) (pI pM_195 rfl) rfl rfl rfl rfl rfl rfl rfl rfl rfl rfl (by decide) (by decide) rfl ?_
                    refine d197_countInputs (D197_countInputs_mono k (fun v10 k => ?_))
                    exact w_ireturn (pI pM_195 rfl) rfl rfl rfl k
                  · replace k := itn c45_5 k
                    refine w_table (p := 146) (off := 101) (pI pM_195 rfl) (by have e0 := neT 0 (by decide) c45_0; have e1 := neT 1 (by decide) c45_1; have e2 := neT 2 (by decide) c45_2; have e3 := neT 3 (by decide) c45_3; have e4 := neT 4 (by decide) c45_4; have e5 := neT 5 (by decide) c45_5; exact sw_df (fun h1 h2 => by omega)) rfl rfl ?_
                    refine w_aload_n (p := 147) (pI pM_195 rfl) rfl rfl ?_
                    refine v_getR (p := 150) (kf := 8) (pI pM_195 rfl) rfl rfl rfl (by decide) (by decide) rfl rfl ?_
                    refine w_iload_n (p := 151) (pI pM_195 rfl) rfl rfl ?_
                    refine w_sipush (p := 154) (v := nI 514) (pI pM_195 rfl) rfl rfl ?_
                    refine w_iadd (p := 155) (pI pM_195 rfl) rfl ?_
                    obtain ⟨s11, k⟩ := k
                    refine v_iald (p := 156) (pI pM_195 rfl) rfl (by decide) rfl s11 rfl ?_
                    refine w_iconst (p := 157) (v := nI 1) (pI pM_195 rfl) rfl rfl ?_
                    refine w_icmp_ne (p := 160) (q := 178) (pI pM_195 rfl) rfl rfl rfl (fun c => ?_) (fun c => ?_)
                    · replace k := itn c k
                      refine w_iconst (p := 179) (v := nI 0) (pI pM_195 rfl) rfl rfl ?_
                      exact w_ireturn (pI pM_195 rfl) rfl rfl rfl k
                    · replace k := itp (Decidable.not_not.mp c) k
                      refine w_aload_n (p := 161) (pI pM_195 rfl) rfl rfl ?_
                      refine v_getR (p := 164) (kf := 14) (pI pM_195 rfl) rfl rfl rfl (by decide) (by decide) rfl rfl ?_
                      refine w_aload_n (p := 165) (pI pM_195 rfl) rfl rfl ?_
                      refine v_getR (p := 168) (kf := 8) (pI pM_195 rfl) rfl rfl rfl (by decide) (by decide) rfl rfl ?_
                      refine w_iload_n (p := 169) (pI pM_195 rfl) rfl rfl ?_
                      refine w_sipush (p := 172) (v := nI 517) (pI pM_195 rfl) rfl rfl ?_
                      refine w_iadd (p := 173) (pI pM_195 rfl) rfl ?_
                      obtain ⟨s12, k⟩ := k
                      refine v_iald (p := 174) (pI pM_195 rfl) rfl (by decide) rfl s12 rfl ?_
                      obtain ⟨s13, k⟩ := k
                      refine v_iald (p := 175) (pI pM_195 rfl) rfl (by decide) rfl s13 rfl ?_
                      refine w_goto (p := 179) (pI pM_195 rfl) rfl rfl ?_
                      exact w_ireturn (pI pM_195 rfl) rfl rfl rfl k
      · replace k := itp (Decidable.not_not.mp c) k
        refine w_iconst (p := 32) (v := -1) (pI pM_195 rfl) rfl rfl ?_
        exact w_ireturn (pI pM_195 rfl) rfl rfl rfl k
    · replace k := itp (Decidable.not_not.mp c) k
      refine w_bipush (p := 22) (v := -2) (pI pM_195 rfl) rfl rfl ?_
      exact w_ireturn (pI pM_195 rfl) rfl rfl rfl k
  · replace k := itp (Decidable.not_not.mp c) k
    refine w_bipush (p := 9) (v := -3) (pI pM_195 rfl) rfl rfl ?_
    exact w_ireturn (pI pM_195 rfl) rfl rfl rfl k
set_option maxRecDepth 100000 in
set_option maxHeartbeats 4000000 in
theorem d198_condition {d L : Nat} {x : Int32} {y : Int32} {z : Int32} {A I : HA} {Q : bm_Q} (k : D198_condition x y z A I (fun v => Q (some (.int v)) (hp L A I))) : bm_M (d + 3) 198 [.ref 1681, .int x, .int y, .int z] (hp L A I) Q := by
  unfold D198_condition at k
  refine bw_enter rfl rfl rfl rfl ?_
  refine w_aload_n (p := 1) (pI pM_198 rfl) rfl rfl ?_
  refine v_getI (p := 4) (kf := 16) (pI pM_198 rfl) rfl rfl rfl (by decide) (by decide) rfl rfl rfl ?_
  refine w_if_ne (p := 7) (q := 10) (pI pM_198 rfl) rfl rfl rfl (fun c => ?_) (fun c => ?_)
  · replace k := itn c k
    refine w_iload_n (p := 11) (pI pM_198 rfl) rfl rfl ?_
    refine w_iconst (p := 12) (v := nI 0) (pI pM_198 rfl) rfl rfl ?_
    refine w_iconst (p := 13) (v := nI 1) (pI pM_198 rfl) rfl rfl ?_
    refine w_static (p := 16) (mj := 149) (pI pM_198 rfl) rfl rfl rfl rfl rfl rfl rfl rfl rfl ?_
    refine d149_isIn (D149_isIn_mono k (fun v1 k => ?_))
    refine w_if_ne (p := 19) (q := 22) (pI pM_198 rfl) rfl rfl rfl (fun c => ?_) (fun c => ?_)
    · replace k := itn c k
      refine w_aload_n (p := 23) (pI pM_198 rfl) rfl rfl ?_
      refine w_iload_n (p := 24) (pI pM_198 rfl) rfl rfl ?_
      refine v_virtual (p := 27) (mj := 196) (pI pM_198 rfl) rfl rfl rfl rfl rfl rfl rfl rfl rfl rfl (by decide) (by decide) rfl ?_
      refine d196_isPath (D196_isPath_mono k (fun v2 k => ?_))
      refine w_if_eq (p := 30) (q := 57) (pI pM_198 rfl) rfl rfl rfl (fun c => ?_) (fun c => ?_)
      · replace k := itp c k
        refine w_iconst (p := 58) (v := -1) (pI pM_198 rfl) rfl rfl ?_
        exact w_ireturn (pI pM_198 rfl) rfl rfl rfl k
      · replace k := itn c k
        refine w_iload_n (p := 31) (pI pM_198 rfl) rfl rfl ?_
        refine w_iconst (p := 32) (v := nI 0) (pI pM_198 rfl) rfl rfl ?_
        refine w_aload_n (p := 33) (pI pM_198 rfl) rfl rfl ?_
        refine v_getR (p := 36) (kf := 8) (pI pM_198 rfl) rfl rfl rfl (by decide) (by decide) rfl rfl ?_
        refine w_sipush (p := 39) (v := nI 520) (pI pM_198 rfl) rfl rfl ?_
        refine w_aload_n (p := 40) (pI pM_198 rfl) rfl rfl ?_
        refine v_getR (p := 43) (kf := 23) (pI pM_198 rfl) rfl rfl rfl (by decide) (by decide) rfl rfl ?_
        refine w_iload_n (p := 44) (pI pM_198 rfl) rfl rfl ?_
        obtain ⟨s3, k⟩ := k
        refine v_iald (p := 45) (pI pM_198 rfl) rfl (by decide) rfl s3 rfl ?_
        refine w_imul (p := 46) (pI pM_198 rfl) rfl ?_
        refine w_iconst (p := 47) (v := nI 2) (pI pM_198 rfl) rfl rfl ?_
        refine w_iadd (p := 48) (pI pM_198 rfl) rfl ?_
        obtain ⟨s4, k⟩ := k
        refine v_iald (p := 49) (pI pM_198 rfl) rfl (by decide) rfl s4 rfl ?_
        refine w_iconst (p := 50) (v := nI 1) (pI pM_198 rfl) rfl rfl ?_
        refine w_isub (p := 51) (pI pM_198 rfl) rfl ?_
        refine w_static (p := 54) (mj := 149) (pI pM_198 rfl) rfl rfl rfl rfl rfl rfl rfl rfl rfl ?_
        refine d149_isIn (D149_isIn_mono k (fun v5 k => ?_))
        refine w_if_ne (p := 57) (q := 59) (pI pM_198 rfl) rfl rfl rfl (fun c => ?_) (fun c => ?_)
        · replace k := itn c k
          refine w_aload_n (p := 60) (pI pM_198 rfl) rfl rfl ?_
          refine v_getR (p := 63) (kf := 8) (pI pM_198 rfl) rfl rfl rfl (by decide) (by decide) rfl rfl ?_
          refine w_sipush (p := 66) (v := nI 520) (pI pM_198 rfl) rfl rfl ?_
          refine w_aload_n (p := 67) (pI pM_198 rfl) rfl rfl ?_
          refine v_getR (p := 70) (kf := 23) (pI pM_198 rfl) rfl rfl rfl (by decide) (by decide) rfl rfl ?_
          refine w_iload_n (p := 71) (pI pM_198 rfl) rfl rfl ?_
          obtain ⟨s6, k⟩ := k
          refine v_iald (p := 72) (pI pM_198 rfl) rfl (by decide) rfl s6 rfl ?_
          refine w_imul (p := 73) (pI pM_198 rfl) rfl ?_
          refine w_bipush (p := 75) (v := nI 114) (pI pM_198 rfl) rfl rfl ?_
          refine w_iadd (p := 76) (pI pM_198 rfl) rfl ?_
          refine w_iconst (p := 77) (v := nI 2) (pI pM_198 rfl) rfl rfl ?_
          refine w_iload_n (p := 78) (pI pM_198 rfl) rfl rfl ?_
          refine w_imul (p := 79) (pI pM_198 rfl) rfl ?_
          refine w_iadd (p := 80) (pI pM_198 rfl) rfl ?_
          refine w_iload_n (p := 81) (pI pM_198 rfl) rfl rfl ?_
          refine w_iadd (p := 82) (pI pM_198 rfl) rfl ?_
          obtain ⟨s7, k⟩ := k
          refine v_iald (p := 83) (pI pM_198 rfl) rfl (by decide) rfl s7 rfl ?_
          exact w_ireturn (pI pM_198 rfl) rfl rfl rfl k
        · replace k := itp (Decidable.not_not.mp c) k
          refine w_iconst (p := 58) (v := -1) (pI pM_198 rfl) rfl rfl ?_
          exact w_ireturn (pI pM_198 rfl) rfl rfl rfl k
    · replace k := itp (Decidable.not_not.mp c) k
      refine w_bipush (p := 21) (v := -2) (pI pM_198 rfl) rfl rfl ?_
      exact w_ireturn (pI pM_198 rfl) rfl rfl rfl k
  · replace k := itp (Decidable.not_not.mp c) k
    refine w_bipush (p := 9) (v := -3) (pI pM_198 rfl) rfl rfl ?_
    exact w_ireturn (pI pM_198 rfl) rfl rfl rfl k
set_option maxRecDepth 100000 in
set_option maxHeartbeats 4000000 in
theorem d199_token {d L : Nat} {x : Int32} {y : Int32} {A I : HA} {Q : bm_Q} (k : D199_token x y A I (fun v A I => Q (some (.int v)) (hp L A I))) : bm_M (d + 3) 199 [.ref 1681, .int x, .int y] (hp L A I) Q := by
  unfold D199_token at k
  refine bw_enter rfl rfl rfl rfl ?_
  refine w_aload_n (p := 1) (pI pM_199 rfl) rfl rfl ?_
  refine v_getI (p := 4) (kf := 16) (pI pM_199 rfl) rfl rfl rfl (by decide) (by decide) rfl rfl rfl ?_
  refine w_if_ne (p := 7) (q := 10) (pI pM_199 rfl) rfl rfl rfl (fun c => ?_) (fun c => ?_)
  · replace k := itn c k
    refine w_aload_n (p := 11) (pI pM_199 rfl) rfl rfl ?_
    refine w_iload_n (p := 12) (pI pM_199 rfl) rfl rfl ?_
    refine v_virtual (p := 15) (mj := 196) (pI pM_199 rfl) rfl rfl rfl rfl rfl rfl rfl rfl rfl rfl (by decide) (by decide) rfl ?_
    refine d196_isPath (D196_isPath_mono k (fun v1 k => ?_))
    refine w_if_eq (p := 18) (q := 41) (pI pM_199 rfl) rfl rfl rfl (fun c => ?_) (fun c => ?_)
    · replace k := itp c k
      refine w_iconst (p := 42) (v := -1) (pI pM_199 rfl) rfl rfl ?_
      exact w_ireturn (pI pM_199 rfl) rfl rfl rfl k
    · replace k := itn c k
      refine w_aload_n (p := 19) (pI pM_199 rfl) rfl rfl ?_
      refine v_getR (p := 22) (kf := 8) (pI pM_199 rfl) rfl rfl rfl (by decide) (by decide) rfl rfl ?_
      refine w_sipush (p := 25) (v := nI 520) (pI pM_199 rfl) rfl rfl ?_
      refine w_aload_n (p := 26) (pI pM_199 rfl) rfl rfl ?_
      refine v_getR (p := 29) (kf := 23) (pI pM_199 rfl) rfl rfl rfl (by decide) (by decide) rfl rfl ?_
      refine w_iload_n (p := 30) (pI pM_199 rfl) rfl rfl ?_
      obtain ⟨s2, k⟩ := k
      refine v_iald (p := 31) (pI pM_199 rfl) rfl (by decide) rfl s2 rfl ?_
      refine w_imul (p := 32) (pI pM_199 rfl) rfl ?_
      refine w_sipush (p := 35) (v := nI 514) (pI pM_199 rfl) rfl rfl ?_
      refine w_iadd (p := 36) (pI pM_199 rfl) rfl ?_
      obtain ⟨s3, k⟩ := k
      refine v_iald (p := 37) (pI pM_199 rfl) rfl (by decide) rfl s3 rfl ?_
      refine w_iconst (p := 38) (v := nI 1) (pI pM_199 rfl) rfl rfl ?_
      refine w_icmp_eq (p := 41) (q := 43) (pI pM_199 rfl) rfl rfl rfl (fun c => ?_) (fun c => ?_)
      · replace k := itp c k
        refine w_aload_n (p := 44) (pI pM_199 rfl) rfl rfl ?_
        refine w_aload_n (p := 45) (pI pM_199 rfl) rfl rfl ?_
        refine v_getR (p := 48) (kf := 8) (pI pM_199 rfl) rfl rfl rfl (by decide) (by decide) rfl rfl ?_
        refine w_sipush (p := 51) (v := nI 520) (pI pM_199 rfl) rfl rfl ?_
        refine w_aload_n (p := 52) (pI pM_199 rfl) rfl rfl ?_
        refine v_getR (p := 55) (kf := 23) (pI pM_199 rfl) rfl rfl rfl (by decide) (by decide) rfl rfl ?_
        refine w_iload_n (p := 56) (pI pM_199 rfl) rfl rfl ?_
        obtain ⟨s4, k⟩ := k
        refine v_iald (p := 57) (pI pM_199 rfl) rfl (by decide) rfl s4 rfl ?_
        refine w_imul (p := 58) (pI pM_199 rfl) rfl ?_
        refine w_sipush (p := 61) (v := nI 517) (pI pM_199 rfl) rfl rfl ?_
        refine w_iadd (p := 62) (pI pM_199 rfl) rfl ?_
        obtain ⟨s5, k⟩ := k
        refine v_iald (p := 63) (pI pM_199 rfl) rfl (by decide) rfl s5 rfl ?_
        refine v_virtual (p := 66) (mj := 189) (pI pM_199 rfl) rfl rfl rfl rfl rfl rfl rfl rfl rfl rfl (by decide) (by decide) rfl ?_
        refine d189_spell (D189_spell_mono k (fun v6 A7 I8 k => ?_))
        refine w_istore_n (p := 67) (pI pM_199 rfl) rfl rfl rfl ?_
        refine w_iload_n (p := 68) (pI pM_199 rfl) rfl rfl ?_
        refine w_iconst (p := 69) (v := nI 0) (pI pM_199 rfl) rfl rfl ?_
        refine w_iload_n (p := 70) (pI pM_199 rfl) rfl rfl ?_
        refine w_iconst (p := 71) (v := nI 1) (pI pM_199 rfl) rfl rfl ?_
        refine w_isub (p := 72) (pI pM_199 rfl) rfl ?_
        refine w_static (p := 75) (mj := 149) (pI pM_199 rfl) rfl rfl rfl rfl rfl rfl rfl rfl rfl ?_
        refine d149_isIn (D149_isIn_mono k (fun v9 k => ?_))
        refine w_if_eq (p := 78) (q := 87) (pI pM_199 rfl) rfl rfl rfl (fun c => ?_) (fun c => ?_)
        · replace k := itp c k
          refine w_iconst (p := 88) (v := -1) (pI pM_199 rfl) rfl rfl ?_
          exact w_ireturn (pI pM_199 rfl) rfl rfl rfl k
        · replace k := itn c k
          refine w_aload_n (p := 79) (pI pM_199 rfl) rfl rfl ?_
          refine v_getR (p := 82) (kf := 33) (pI pM_199 rfl) rfl rfl rfl (by decide) (by decide) rfl rfl ?_
          refine w_iload_n (p := 83) (pI pM_199 rfl) rfl rfl ?_
          obtain ⟨s10, k⟩ := k
          refine v_iald (p := 84) (pI pM_199 rfl) rfl (by decide) rfl s10 rfl ?_
          refine w_goto (p := 88) (pI pM_199 rfl) rfl rfl ?_
          exact w_ireturn (pI pM_199 rfl) rfl rfl rfl k
      · replace k := itn c k
        refine w_iconst (p := 42) (v := -1) (pI pM_199 rfl) rfl rfl ?_
        exact w_ireturn (pI pM_199 rfl) rfl rfl rfl k
  · replace k := itp (Decidable.not_not.mp c) k
    refine w_bipush (p := 9) (v := -3) (pI pM_199 rfl) rfl rfl ?_
    exact w_ireturn (pI pM_199 rfl) rfl rfl rfl k
set_option maxRecDepth 100000 in
set_option maxHeartbeats 4000000 in
theorem d201_isInput {d L : Nat} {x : Int32} {y : Int32} {A I : HA} {Q : bm_Q} (k : D201_isInput x y (fun v => Q (some (.int v)) (hp L A I))) : bm_M (d + 2) 201 [.int x, .int y] (hp L A I) Q := by
  unfold D201_isInput at k
  refine bw_enter rfl rfl rfl rfl ?_
  refine w_iload_n (p := 1) (pI pM_201 rfl) rfl rfl ?_
  refine w_bipush (p := 3) (v := -16) (pI pM_201 rfl) rfl rfl ?_
  refine w_bipush (p := 5) (v := nI 15) (pI pM_201 rfl) rfl rfl ?_
  refine w_static (p := 8) (mj := 149) (pI pM_201 rfl) rfl rfl rfl rfl rfl rfl rfl rfl rfl ?_
  refine d149_isIn (D149_isIn_mono k (fun v1 k => ?_))
  refine w_if_eq (p := 11) (q := 26) (pI pM_201 rfl) rfl rfl rfl (fun c => ?_) (fun c => ?_)
  · replace k := itp c k
    refine w_iconst (p := 27) (v := nI 0) (pI pM_201 rfl) rfl rfl ?_
    exact w_ireturn (pI pM_201 rfl) rfl rfl rfl k
  · replace k := itn c k
    refine w_iload_n (p := 12) (pI pM_201 rfl) rfl rfl ?_
    refine w_bipush (p := 14) (v := -16) (pI pM_201 rfl) rfl rfl ?_
    refine w_bipush (p := 16) (v := nI 15) (pI pM_201 rfl) rfl rfl ?_
    refine w_static (p := 19) (mj := 149) (pI pM_201 rfl) rfl rfl rfl rfl rfl rfl rfl rfl rfl ?_
    refine d149_isIn (D149_isIn_mono k (fun v2 k => ?_))
    refine w_if_eq (p := 22) (q := 26) (pI pM_201 rfl) rfl rfl rfl (fun c => ?_) (fun c => ?_)
    · replace k := itp c k
      refine w_iconst (p := 27) (v := nI 0) (pI pM_201 rfl) rfl rfl ?_
      exact w_ireturn (pI pM_201 rfl) rfl rfl rfl k
    · replace k := itn c k
      refine w_iconst (p := 23) (v := nI 1) (pI pM_201 rfl) rfl rfl ?_
      refine w_goto (p := 27) (pI pM_201 rfl) rfl rfl ?_
      exact w_ireturn (pI pM_201 rfl) rfl rfl rfl k
set_option maxRecDepth 100000 in
set_option maxHeartbeats 4000000 in
theorem d200_value {d L : Nat} {x : Int32} {y : Int32} {z : Int32} {A I : HA} {Q : bm_Q} (k : D200_value x y z A I (fun v A I => Q (some (.int v)) (hp L A I))) : bm_M (d + 4) 200 [.ref 1681, .int x, .int y, .int z] (hp L A I) Q := by
  unfold D200_value at k
  refine bw_enter rfl rfl rfl rfl ?_
  refine w_aload_n (p := 1) (pI pM_200 rfl) rfl rfl ?_
  refine v_getI (p := 4) (kf := 16) (pI pM_200 rfl) rfl rfl rfl (by decide) (by decide) rfl rfl rfl ?_
  refine w_if_ne (p := 7) (q := 10) (pI pM_200 rfl) rfl rfl rfl (fun c => ?_) (fun c => ?_)
  · replace k := itn c k
    refine w_iload_n (p := 11) (pI pM_200 rfl) rfl rfl ?_
    refine w_iload_n (p := 12) (pI pM_200 rfl) rfl rfl ?_
    refine w_static (p := 15) (mj := 201) (pI pM_200 rfl) rfl rfl rfl rfl rfl rfl rfl rfl rfl ?_
    refine d201_isInput (D201_isInput_mono k (fun v1 k => ?_))
    refine w_if_ne (p := 18) (q := 21) (pI pM_200 rfl) rfl rfl rfl (fun c => ?_) (fun c => ?_)
    · replace k := itn c k
      refine w_aload_n (p := 22) (pI pM_200 rfl) rfl rfl ?_
      refine w_iload_n (p := 23) (pI pM_200 rfl) rfl rfl ?_
      refine v_virtual (p := 26) (mj := 196) (pI pM_200 rfl) rfl rfl rfl rfl rfl rfl rfl rfl rfl rfl (by decide) (by decide) rfl ?_
      refine d196_isPath (D196_isPath_mono k (fun v2 k => ?_))
      refine w_if_eq (p := 29) (q := 52) (pI pM_200 rfl) rfl rfl rfl (fun c => ?_) (fun c => ?_)
      · replace k := itp c k
        refine w_iconst (p := 53) (v := -1) (pI pM_200 rfl) rfl rfl ?_
        exact w_ireturn (pI pM_200 rfl) rfl rfl rfl k
      · replace k := itn c k
        refine w_aload_n (p := 30) (pI pM_200 rfl) rfl rfl ?_
        refine v_getR (p := 33) (kf := 8) (pI pM_200 rfl) rfl rfl rfl (by decide) (by decide) rfl rfl ?_
        refine w_sipush (p := 36) (v := nI 520) (pI pM_200 rfl) rfl rfl ?_
        refine w_aload_n (p := 37) (pI pM_200 rfl) rfl rfl ?_
        refine v_getR (p := 40) (kf := 23) (pI pM_200 rfl) rfl rfl rfl (by decide) (by decide) rfl rfl ?_
        refine w_iload_n (p := 41) (pI pM_200 rfl) rfl rfl ?_
        obtain ⟨s3, k⟩ := k
        refine v_iald (p := 42) (pI pM_200 rfl) rfl (by decide) rfl s3 rfl ?_
        refine w_imul (p := 43) (pI pM_200 rfl) rfl ?_
        refine w_sipush (p := 46) (v := nI 514) (pI pM_200 rfl) rfl rfl ?_
        refine w_iadd (p := 47) (pI pM_200 rfl) rfl ?_
        obtain ⟨s4, k⟩ := k
        refine v_iald (p := 48) (pI pM_200 rfl) rfl (by decide) rfl s4 rfl ?_
        refine w_iconst (p := 49) (v := nI 1) (pI pM_200 rfl) rfl rfl ?_
        refine w_icmp_eq (p := 52) (q := 54) (pI pM_200 rfl) rfl rfl rfl (fun c => ?_) (fun c => ?_)
        · replace k := itp c k
          refine w_aload_n (p := 55) (pI pM_200 rfl) rfl rfl ?_
          refine w_aload_n (p := 56) (pI pM_200 rfl) rfl rfl ?_
          refine w_aload_n (p := 57) (pI pM_200 rfl) rfl rfl ?_
          refine v_getR (p := 60) (kf := 8) (pI pM_200 rfl) rfl rfl rfl (by decide) (by decide) rfl rfl ?_
          refine w_sipush (p := 63) (v := nI 520) (pI pM_200 rfl) rfl rfl ?_
          refine w_aload_n (p := 64) (pI pM_200 rfl) rfl rfl ?_
          refine v_getR (p := 67) (kf := 23) (pI pM_200 rfl) rfl rfl rfl (by decide) (by decide) rfl rfl ?_
          refine w_iload_n (p := 68) (pI pM_200 rfl) rfl rfl ?_
          obtain ⟨s5, k⟩ := k
          refine v_iald (p := 69) (pI pM_200 rfl) rfl (by decide) rfl s5 rfl ?_
          refine w_imul (p := 70) (pI pM_200 rfl) rfl ?_
          refine w_sipush (p := 73) (v := nI 517) (pI pM_200 rfl) rfl rfl ?_
          refine w_iadd (p := 74) (pI pM_200 rfl) rfl ?_
          obtain ⟨s6, k⟩ := k
          refine v_iald (p := 75) (pI pM_200 rfl) rfl (by decide) rfl s6 rfl ?_
          refine v_virtual (p := 78) (mj := 189) (pI pM_200 rfl) rfl rfl rfl rfl rfl rfl rfl rfl rfl rfl (by decide) (by decide) rfl ?_
          refine d189_spell (D189_spell_mono k (fun v7 A8 I9 k => ?_))
          refine w_iload_n (p := 79) (pI pM_200 rfl) rfl rfl ?_
          refine w_iload_n (p := 80) (pI pM_200 rfl) rfl rfl ?_
          refine v_virtual (p := 83) (mj := 190) (pI pM_200 rfl) rfl rfl rfl rfl rfl rfl rfl rfl rfl rfl (by decide) (by decide) rfl ?_
          refine d190_worth (D190_worth_mono k (fun v10 A11 I12 k => ?_))
          refine w_istore (p := 85) (pI pM_200 rfl) rfl rfl rfl ?_
          refine w_aload_n (p := 86) (pI pM_200 rfl) rfl rfl ?_
          refine v_getI (p := 89) (kf := 34) (pI pM_200 rfl) rfl rfl rfl (by decide) (by decide) rfl rfl rfl ?_
          refine w_if_eq (p := 92) (q := 97) (pI pM_200 rfl) rfl rfl rfl (fun c => ?_) (fun c => ?_)
          · replace k := itp c k
            refine w_iload (p := 99) (pI pM_200 rfl) rfl rfl ?_
            exact w_ireturn (pI pM_200 rfl) rfl rfl rfl k
          · replace k := itn c k
            refine w_bipush (p := 94) (v := -4) (pI pM_200 rfl) rfl rfl ?_
            refine w_goto (p := 99) (pI pM_200 rfl) rfl rfl ?_
            exact w_ireturn (pI pM_200 rfl) rfl rfl rfl k
        · replace k := itn c k
          refine w_iconst (p := 53) (v := -1) (pI pM_200 rfl) rfl rfl ?_
          exact w_ireturn (pI pM_200 rfl) rfl rfl rfl k
    · replace k := itp (Decidable.not_not.mp c) k
      refine w_bipush (p := 20) (v := -2) (pI pM_200 rfl) rfl rfl ?_
      exact w_ireturn (pI pM_200 rfl) rfl rfl rfl k
  · replace k := itp (Decidable.not_not.mp c) k
    refine w_bipush (p := 9) (v := -3) (pI pM_200 rfl) rfl rfl ?_
    exact w_ireturn (pI pM_200 rfl) rfl rfl rfl k
set_option maxRecDepth 100000 in
set_option maxHeartbeats 4000000 in
theorem d202_along {d L : Nat} {x : Int32} {y : Int32} {A I : HA} {Q : bm_Q} (k : D202_along x y A I (fun v => Q (some (.int v)) (hp L A I))) : bm_M (d + 3) 202 [.ref 1681, .int x, .int y] (hp L A I) Q := by
  unfold D202_along at k
  refine bw_enter rfl rfl rfl rfl ?_
  refine w_aload_n (p := 1) (pI pM_202 rfl) rfl rfl ?_
  refine v_getI (p := 4) (kf := 16) (pI pM_202 rfl) rfl rfl rfl (by decide) (by decide) rfl rfl rfl ?_
  refine w_if_ne (p := 7) (q := 10) (pI pM_202 rfl) rfl rfl rfl (fun c => ?_) (fun c => ?_)
  · replace k := itn c k
    refine w_iload_n (p := 11) (pI pM_202 rfl) rfl rfl ?_
    refine w_iload_n (p := 12) (pI pM_202 rfl) rfl rfl ?_
    refine w_static (p := 15) (mj := 201) (pI pM_202 rfl) rfl rfl rfl rfl rfl rfl rfl rfl rfl ?_
    refine d201_isInput (D201_isInput_mono k (fun v1 k => ?_))
    refine w_if_ne (p := 18) (q := 21) (pI pM_202 rfl) rfl rfl rfl (fun c => ?_) (fun c => ?_)
    · replace k := itn c k
      refine w_iconst (p := 22) (v := nI 0) (pI pM_202 rfl) rfl rfl ?_
      refine w_istore_n (p := 23) (pI pM_202 rfl) rfl rfl rfl ?_
      refine k (fun a3 => bm_W (bm_M (d + 2)) 202 Q 23 [.ref 1681, .int x, .int y, .int a3] [] (hp L A I)) (fun a3 k => ?_)
      refine w_iload_n (p := 24) (pI pM_202 rfl) rfl rfl ?_
      refine w_aload_n (p := 25) (pI pM_202 rfl) rfl rfl ?_
      refine v_getI (p := 28) (kf := 24) (pI pM_202 rfl) rfl rfl rfl (by decide) (by decide) rfl rfl rfl ?_
      refine w_icmp_ge (p := 31) (q := 71) (pI pM_202 rfl) rfl rfl rfl (fun c => ?_) (fun c => ?_)
      · replace k := itn (Int32.not_lt.mpr c) k
        refine w_iconst (p := 72) (v := -1) (pI pM_202 rfl) rfl rfl ?_
        exact w_ireturn (pI pM_202 rfl) rfl rfl rfl k
      · replace k := itp (Int32.not_le.mp c) k
        refine w_aload_n (p := 32) (pI pM_202 rfl) rfl rfl ?_
        refine v_getR (p := 35) (kf := 9) (pI pM_202 rfl) rfl rfl rfl (by decide) (by decide) rfl rfl ?_
        refine w_sipush (p := 38) (v := nI 1024) (pI pM_202 rfl) rfl rfl ?_
        refine w_aload_n (p := 39) (pI pM_202 rfl) rfl rfl ?_
        refine v_getR (p := 42) (kf := 23) (pI pM_202 rfl) rfl rfl rfl (by decide) (by decide) rfl rfl ?_
        refine w_iload_n (p := 43) (pI pM_202 rfl) rfl rfl ?_
        obtain ⟨s5, k⟩ := k
        refine v_iald (p := 44) (pI pM_202 rfl) rfl (by decide) rfl s5 rfl ?_
        refine w_imul (p := 45) (pI pM_202 rfl) rfl ?_
        refine w_bipush (p := 47) (v := nI 32) (pI pM_202 rfl) rfl rfl ?_
        refine w_iload_n (p := 48) (pI pM_202 rfl) rfl rfl ?_
        refine w_bipush (p := 50) (v := nI 16) (pI pM_202 rfl) rfl rfl ?_
        refine w_iadd (p := 51) (pI pM_202 rfl) rfl ?_
        refine w_imul (p := 52) (pI pM_202 rfl) rfl ?_
        refine w_iadd (p := 53) (pI pM_202 rfl) rfl ?_
        refine w_iload_n (p := 54) (pI pM_202 rfl) rfl rfl ?_
        refine w_iadd (p := 55) (pI pM_202 rfl) rfl ?_
        refine w_bipush (p := 57) (v := nI 16) (pI pM_202 rfl) rfl rfl ?_
        refine w_iadd (p := 58) (pI pM_202 rfl) rfl ?_
        obtain ⟨s6, k⟩ := k
        refine v_bald (p := 59) (pI pM_202 rfl) rfl (by decide) (by decide) rfl (by decide) s6 rfl ?_
        refine w_iconst (p := 60) (v := -1) (pI pM_202 rfl) rfl rfl ?_
        refine w_icmp_ne (p := 63) (q := 65) (pI pM_202 rfl) rfl rfl rfl (fun c => ?_) (fun c => ?_)
        · replace k := itn c k
          refine w_iinc (p := 68) (v := (a3 + nI 1)) (pI pM_202 rfl) rfl rfl rfl rfl ?_
          refine w_goto (p := 23) (pI pM_202 rfl) rfl rfl ?_
          exact k
        · replace k := itp (Decidable.not_not.mp c) k
          refine w_iload_n (p := 64) (pI pM_202 rfl) rfl rfl ?_
          exact w_ireturn (pI pM_202 rfl) rfl rfl rfl k
    · replace k := itp (Decidable.not_not.mp c) k
      refine w_bipush (p := 20) (v := -2) (pI pM_202 rfl) rfl rfl ?_
      exact w_ireturn (pI pM_202 rfl) rfl rfl rfl k
  · replace k := itp (Decidable.not_not.mp c) k
    refine w_bipush (p := 9) (v := -3) (pI pM_202 rfl) rfl rfl ?_
    exact w_ireturn (pI pM_202 rfl) rfl rfl rfl k
set_option maxRecDepth 100000 in
set_option maxHeartbeats 4000000 in
theorem d203_input {d L : Nat} {x : Int32} {y : Int32} {A I : HA} {Q : bm_Q} (k : D203_input x y A I (fun v => Q (some (.int v)) (hp L A I))) : bm_M (d + 3) 203 [.ref 1681, .int x, .int y] (hp L A I) Q := by
  unfold D203_input at k
  refine bw_enter rfl rfl rfl rfl ?_
  refine w_aload_n (p := 1) (pI pM_203 rfl) rfl rfl ?_
  refine v_getI (p := 4) (kf := 16) (pI pM_203 rfl) rfl rfl rfl (by decide) (by decide) rfl rfl rfl ?_
  refine w_if_ne (p := 7) (q := 10) (pI pM_203 rfl) rfl rfl rfl (fun c => ?_) (fun c => ?_)
  · replace k := itn c k
    refine w_aload_n (p := 11) (pI pM_203 rfl) rfl rfl ?_
    refine w_iload_n (p := 12) (pI pM_203 rfl) rfl rfl ?_
    refine v_virtual (p := 15) (mj := 196) (pI pM_203 rfl) rfl rfl rfl rfl rfl rfl rfl rfl rfl rfl (by decide) (by decide) rfl ?_
    refine d196_isPath (D196_isPath_mono k (fun v1 k => ?_))
    refine w_if_ne (p := 18) (q := 20) (pI pM_203 rfl) rfl rfl rfl (fun c => ?_) (fun c => ?_)
    · replace k := itn c k
      refine w_iconst (p := 21) (v := nI 0) (pI pM_203 rfl) rfl rfl ?_
      refine w_istore_n (p := 22) (pI pM_203 rfl) rfl rfl rfl ?_
      refine w_iconst (p := 23) (v := nI 0) (pI pM_203 rfl) rfl rfl ?_
      refine w_istore (p := 25) (pI pM_203 rfl) rfl rfl rfl ?_
      refine k (fun a3 a4 => bm_W (bm_M (d + 2)) 203 Q 25 [.ref 1681, .int x, .int y, .int a3, .int a4] [] (hp L A I)) (fun a3 a4 k => ?_)
      refine w_iload (p := 27) (pI pM_203 rfl) rfl rfl ?_
      refine w_sipush (p := 30) (v := nI 1024) (pI pM_203 rfl) rfl rfl ?_
      refine w_icmp_ge (p := 33) (q := 72) (pI pM_203 rfl) rfl rfl rfl (fun c => ?_) (fun c => ?_)
      · replace k := itn (Int32.not_lt.mpr c) k
        refine w_iconst (p := 73) (v := -1) (pI pM_203 rfl) rfl rfl ?_
        exact w_ireturn (pI pM_203 rfl) rfl rfl rfl k
      · replace k := itp (Int32.not_le.mp c) k
        refine w_aload_n (p := 34) (pI pM_203 rfl) rfl rfl ?_
        refine v_getR (p := 37) (kf := 9) (pI pM_203 rfl) rfl rfl rfl (by decide) (by decide) rfl rfl ?_
        refine w_sipush (p := 40) (v := nI 1024) (pI pM_203 rfl) rfl rfl ?_
        refine w_aload_n (p := 41) (pI pM_203 rfl) rfl rfl ?_
        refine v_getR (p := 44) (kf := 23) (pI pM_203 rfl) rfl rfl rfl (by decide) (by decide) rfl rfl ?_
        refine w_iload_n (p := 45) (pI pM_203 rfl) rfl rfl ?_
        obtain ⟨s6, k⟩ := k
        refine v_iald (p := 46) (pI pM_203 rfl) rfl (by decide) rfl s6 rfl ?_
        refine w_imul (p := 47) (pI pM_203 rfl) rfl ?_
        refine w_iload (p := 49) (pI pM_203 rfl) rfl rfl ?_
        refine w_iadd (p := 50) (pI pM_203 rfl) rfl ?_
        obtain ⟨s7, k⟩ := k
        refine v_bald (p := 51) (pI pM_203 rfl) rfl (by decide) (by decide) rfl (by decide) s7 rfl ?_
        refine w_iconst (p := 52) (v := -1) (pI pM_203 rfl) rfl rfl ?_
        refine w_icmp_ne (p := 55) (q := 66) (pI pM_203 rfl) rfl rfl rfl (fun c => ?_) (fun c => ?_)
        · replace k := itn c k
          refine w_iinc (p := 69) (v := (a4 + nI 1)) (pI pM_203 rfl) rfl rfl rfl rfl ?_
          refine w_goto (p := 25) (pI pM_203 rfl) rfl rfl ?_
          exact k
        · replace k := itp (Decidable.not_not.mp c) k
          refine w_iload_n (p := 56) (pI pM_203 rfl) rfl rfl ?_
          refine w_iload_n (p := 57) (pI pM_203 rfl) rfl rfl ?_
          refine w_icmp_ne (p := 60) (q := 63) (pI pM_203 rfl) rfl rfl rfl (fun c => ?_) (fun c => ?_)
          · replace k := itn c k
            refine w_iinc (p := 66) (v := (a3 + nI 1)) (pI pM_203 rfl) rfl rfl rfl rfl ?_
            refine w_iinc (p := 69) (v := (a4 + nI 1)) (pI pM_203 rfl) rfl rfl rfl rfl ?_
            refine w_goto (p := 25) (pI pM_203 rfl) rfl rfl ?_
            exact k
          · replace k := itp (Decidable.not_not.mp c) k
            refine w_iload (p := 62) (pI pM_203 rfl) rfl rfl ?_
            exact w_ireturn (pI pM_203 rfl) rfl rfl rfl k
    · replace k := itp (Decidable.not_not.mp c) k
      refine w_iconst (p := 19) (v := -1) (pI pM_203 rfl) rfl rfl ?_
      exact w_ireturn (pI pM_203 rfl) rfl rfl rfl k
  · replace k := itp (Decidable.not_not.mp c) k
    refine w_bipush (p := 9) (v := -3) (pI pM_203 rfl) rfl rfl ?_
    exact w_ireturn (pI pM_203 rfl) rfl rfl rfl k
set_option maxRecDepth 100000 in
set_option maxHeartbeats 4000000 in
theorem d204_flip {d L : Nat} {x : Int32} {y : Int32} {A I : HA} {Q : bm_Q} (k : D204_flip x y A I (fun v => Q (some (.int v)) (hp L A I))) : bm_M (d + 3) 204 [.ref 1681, .int x, .int y] (hp L A I) Q := by
  unfold D204_flip at k
  refine bw_enter rfl rfl rfl rfl ?_
  refine w_aload_n (p := 1) (pI pM_204 rfl) rfl rfl ?_
  refine v_getI (p := 4) (kf := 16) (pI pM_204 rfl) rfl rfl rfl (by decide) (by decide) rfl rfl rfl ?_
  refine w_if_ne (p := 7) (q := 10) (pI pM_204 rfl) rfl rfl rfl (fun c => ?_) (fun c => ?_)
  · replace k := itn c k
    refine w_aload_n (p := 11) (pI pM_204 rfl) rfl rfl ?_
    refine w_iload_n (p := 12) (pI pM_204 rfl) rfl rfl ?_
    refine v_virtual (p := 15) (mj := 196) (pI pM_204 rfl) rfl rfl rfl rfl rfl rfl rfl rfl rfl rfl (by decide) (by decide) rfl ?_
    refine d196_isPath (D196_isPath_mono k (fun v1 k => ?_))
    refine w_if_eq (p := 18) (q := 45) (pI pM_204 rfl) rfl rfl rfl (fun c => ?_) (fun c => ?_)
    · replace k := itp c k
      refine w_iconst (p := 46) (v := -1) (pI pM_204 rfl) rfl rfl ?_
      exact w_ireturn (pI pM_204 rfl) rfl rfl rfl k
    · replace k := itn c k
      refine w_iload_n (p := 19) (pI pM_204 rfl) rfl rfl ?_
      refine w_iconst (p := 20) (v := nI 0) (pI pM_204 rfl) rfl rfl ?_
      refine w_aload_n (p := 21) (pI pM_204 rfl) rfl rfl ?_
      refine v_getR (p := 24) (kf := 8) (pI pM_204 rfl) rfl rfl rfl (by decide) (by decide) rfl rfl ?_
      refine w_sipush (p := 27) (v := nI 520) (pI pM_204 rfl) rfl rfl ?_
      refine w_aload_n (p := 28) (pI pM_204 rfl) rfl rfl ?_
      refine v_getR (p := 31) (kf := 23) (pI pM_204 rfl) rfl rfl rfl (by decide) (by decide) rfl rfl ?_
      refine w_iload_n (p := 32) (pI pM_204 rfl) rfl rfl ?_
      obtain ⟨s2, k⟩ := k
      refine v_iald (p := 33) (pI pM_204 rfl) rfl (by decide) rfl s2 rfl ?_
      refine w_imul (p := 34) (pI pM_204 rfl) rfl ?_
      refine w_iconst (p := 35) (v := nI 2) (pI pM_204 rfl) rfl rfl ?_
      refine w_iadd (p := 36) (pI pM_204 rfl) rfl ?_
      obtain ⟨s3, k⟩ := k
      refine v_iald (p := 37) (pI pM_204 rfl) rfl (by decide) rfl s3 rfl ?_
      refine w_iconst (p := 38) (v := nI 1) (pI pM_204 rfl) rfl rfl ?_
      refine w_isub (p := 39) (pI pM_204 rfl) rfl ?_
      refine w_static (p := 42) (mj := 149) (pI pM_204 rfl) rfl rfl rfl rfl rfl rfl rfl rfl rfl ?_
      refine d149_isIn (D149_isIn_mono k (fun v4 k => ?_))
      refine w_if_ne (p := 45) (q := 47) (pI pM_204 rfl) rfl rfl rfl (fun c => ?_) (fun c => ?_)
      · replace k := itn c k
        refine w_iconst (p := 48) (v := nI 0) (pI pM_204 rfl) rfl rfl ?_
        refine w_istore_n (p := 49) (pI pM_204 rfl) rfl rfl rfl ?_
        refine k (fun a6 => ∀ u7 : Value, bm_W (bm_M (d + 2)) 204 Q 49 [.ref 1681, .int x, .int y, .int a6, u7] [] (hp L A I)) (fun a6 k => ?_) _
        intro u7
        refine w_iload_n (p := 50) (pI pM_204 rfl) rfl rfl ?_
        refine w_sipush (p := 53) (v := nI 1024) (pI pM_204 rfl) rfl rfl ?_
        refine w_icmp_ge (p := 56) (q := 99) (pI pM_204 rfl) rfl rfl rfl (fun c => ?_) (fun c => ?_)
        · replace k := itn (Int32.not_lt.mpr c) k
          refine w_iconst (p := 100) (v := -1) (pI pM_204 rfl) rfl rfl ?_
          exact w_ireturn (pI pM_204 rfl) rfl rfl rfl k
        · replace k := itp (Int32.not_le.mp c) k
          refine w_aload_n (p := 57) (pI pM_204 rfl) rfl rfl ?_
          refine v_getR (p := 60) (kf := 9) (pI pM_204 rfl) rfl rfl rfl (by decide) (by decide) rfl rfl ?_
          refine w_sipush (p := 63) (v := nI 1024) (pI pM_204 rfl) rfl rfl ?_
          refine w_aload_n (p := 64) (pI pM_204 rfl) rfl rfl ?_
          refine v_getR (p := 67) (kf := 23) (pI pM_204 rfl) rfl rfl rfl (by decide) (by decide) rfl rfl ?_
          refine w_iload_n (p := 68) (pI pM_204 rfl) rfl rfl ?_
          obtain ⟨s9, k⟩ := k
          refine v_iald (p := 69) (pI pM_204 rfl) rfl (by decide) rfl s9 rfl ?_
          refine w_imul (p := 70) (pI pM_204 rfl) rfl ?_
          refine w_iload_n (p := 71) (pI pM_204 rfl) rfl rfl ?_
          refine w_iadd (p := 72) (pI pM_204 rfl) rfl ?_
          obtain ⟨s10, k⟩ := k
          refine v_bald (p := 73) (pI pM_204 rfl) rfl (by decide) (by decide) rfl (by decide) s10 rfl ?_
          refine w_istore (p := 75) (pI pM_204 rfl) rfl rfl rfl ?_
          refine w_iload (p := 77) (pI pM_204 rfl) rfl rfl ?_
          refine w_iconst (p := 78) (v := -1) (pI pM_204 rfl) rfl rfl ?_
          refine w_icmp_eq (p := 81) (q := 93) (pI pM_204 rfl) rfl rfl rfl (fun c => ?_) (fun c => ?_)
          · replace k := itp c k
            refine w_iinc (p := 96) (v := (a6 + nI 1)) (pI pM_204 rfl) rfl rfl rfl rfl ?_
            refine w_goto (p := 49) (pI pM_204 rfl) rfl rfl ?_
            exact k _
          · replace k := itn c k
            refine w_iload (p := 83) (pI pM_204 rfl) rfl rfl ?_
            refine w_sipush (p := 86) (v := nI 255) (pI pM_204 rfl) rfl rfl ?_
            refine w_iand (p := 87) (pI pM_204 rfl) rfl ?_
            refine w_iload_n (p := 88) (pI pM_204 rfl) rfl rfl ?_
            refine w_icmp_ne (p := 91) (q := 93) (pI pM_204 rfl) rfl rfl rfl (fun c => ?_) (fun c => ?_)
            · replace k := itn c k
              refine w_iinc (p := 96) (v := (a6 + nI 1)) (pI pM_204 rfl) rfl rfl rfl rfl ?_
              refine w_goto (p := 49) (pI pM_204 rfl) rfl rfl ?_
              exact k _
            · replace k := itp (Decidable.not_not.mp c) k
              refine w_iload_n (p := 92) (pI pM_204 rfl) rfl rfl ?_
              exact w_ireturn (pI pM_204 rfl) rfl rfl rfl k
      · replace k := itp (Decidable.not_not.mp c) k
        refine w_iconst (p := 46) (v := -1) (pI pM_204 rfl) rfl rfl ?_
        exact w_ireturn (pI pM_204 rfl) rfl rfl rfl k
  · replace k := itp (Decidable.not_not.mp c) k
    refine w_bipush (p := 9) (v := -3) (pI pM_204 rfl) rfl rfl ?_
    exact w_ireturn (pI pM_204 rfl) rfl rfl rfl k
set_option maxRecDepth 100000 in
set_option maxHeartbeats 4000000 in
theorem d205_pruned {d L : Nat} {x : Int32} {y : Int32} {A I : HA} {Q : bm_Q} (k : D205_pruned x y A I (fun v => Q (some (.int v)) (hp L A I))) : bm_M (d + 2) 205 [.ref 1681, .int x, .int y] (hp L A I) Q := by
  unfold D205_pruned at k
  refine bw_enter rfl rfl rfl rfl ?_
  refine w_aload_n (p := 1) (pI pM_205 rfl) rfl rfl ?_
  refine v_getI (p := 4) (kf := 16) (pI pM_205 rfl) rfl rfl rfl (by decide) (by decide) rfl rfl rfl ?_
  refine w_if_ne (p := 7) (q := 10) (pI pM_205 rfl) rfl rfl rfl (fun c => ?_) (fun c => ?_)
  · replace k := itn c k
    refine w_iload_n (p := 11) (pI pM_205 rfl) rfl rfl ?_
    refine w_iconst (p := 12) (v := nI 0) (pI pM_205 rfl) rfl rfl ?_
    refine w_iconst (p := 13) (v := nI 1) (pI pM_205 rfl) rfl rfl ?_
    refine w_static (p := 16) (mj := 149) (pI pM_205 rfl) rfl rfl rfl rfl rfl rfl rfl rfl rfl ?_
    refine d149_isIn (D149_isIn_mono k (fun v1 k => ?_))
    refine w_if_ne (p := 19) (q := 22) (pI pM_205 rfl) rfl rfl rfl (fun c => ?_) (fun c => ?_)
    · replace k := itn c k
      refine w_iload_n (p := 23) (pI pM_205 rfl) rfl rfl ?_
      refine w_iconst (p := 24) (v := nI 0) (pI pM_205 rfl) rfl rfl ?_
      refine w_bipush (p := 26) (v := nI 29) (pI pM_205 rfl) rfl rfl ?_
      refine w_static (p := 29) (mj := 149) (pI pM_205 rfl) rfl rfl rfl rfl rfl rfl rfl rfl rfl ?_
      refine d149_isIn (D149_isIn_mono k (fun v2 k => ?_))
      refine w_if_eq (p := 32) (q := 40) (pI pM_205 rfl) rfl rfl rfl (fun c => ?_) (fun c => ?_)
      · replace k := itp c k
        refine w_iconst (p := 41) (v := -1) (pI pM_205 rfl) rfl rfl ?_
        exact w_ireturn (pI pM_205 rfl) rfl rfl rfl k
      · replace k := itn c k
        refine w_iload_n (p := 33) (pI pM_205 rfl) rfl rfl ?_
        refine w_aload_n (p := 34) (pI pM_205 rfl) rfl rfl ?_
        refine v_getI (p := 37) (kf := 26) (pI pM_205 rfl) rfl rfl rfl (by decide) (by decide) rfl rfl rfl ?_
        refine w_icmp_lt (p := 40) (q := 42) (pI pM_205 rfl) rfl rfl rfl (fun c => ?_) (fun c => ?_)
        · replace k := itp c k
          refine w_aload_n (p := 43) (pI pM_205 rfl) rfl rfl ?_
          refine v_getI (p := 46) (kf := 26) (pI pM_205 rfl) rfl rfl rfl (by decide) (by decide) rfl rfl rfl ?_
          refine w_iconst (p := 47) (v := nI 1) (pI pM_205 rfl) rfl rfl ?_
          refine w_isub (p := 48) (pI pM_205 rfl) rfl ?_
          refine w_iload_n (p := 49) (pI pM_205 rfl) rfl rfl ?_
          refine w_isub (p := 50) (pI pM_205 rfl) rfl ?_
          refine w_bipush (p := 52) (v := nI 30) (pI pM_205 rfl) rfl rfl ?_
          refine w_irem (p := 53) (pI pM_205 rfl) rfl (by decide) ?_
          refine w_istore_n (p := 54) (pI pM_205 rfl) rfl rfl rfl ?_
          refine w_iload_n (p := 55) (pI pM_205 rfl) rfl rfl ?_
          refine w_if_ne (p := 58) (q := 67) (pI pM_205 rfl) rfl rfl rfl (fun c => ?_) (fun c => ?_)
          · replace k := itn c k
            refine w_aload_n (p := 68) (pI pM_205 rfl) rfl rfl ?_
            refine v_getR (p := 71) (kf := 28) (pI pM_205 rfl) rfl rfl rfl (by decide) (by decide) rfl rfl ?_
            refine w_iload_n (p := 72) (pI pM_205 rfl) rfl rfl ?_
            obtain ⟨s3, k⟩ := k
            refine v_iald (p := 73) (pI pM_205 rfl) rfl (by decide) rfl s3 rfl ?_
            exact w_ireturn (pI pM_205 rfl) rfl rfl rfl k
          · replace k := itp (Decidable.not_not.mp c) k
            refine w_aload_n (p := 59) (pI pM_205 rfl) rfl rfl ?_
            refine v_getR (p := 62) (kf := 27) (pI pM_205 rfl) rfl rfl rfl (by decide) (by decide) rfl rfl ?_
            refine w_iload_n (p := 63) (pI pM_205 rfl) rfl rfl ?_
            obtain ⟨s4, k⟩ := k
            refine v_iald (p := 64) (pI pM_205 rfl) rfl (by decide) rfl s4 rfl ?_
            refine w_goto (p := 73) (pI pM_205 rfl) rfl rfl ?_
            exact w_ireturn (pI pM_205 rfl) rfl rfl rfl k
        · replace k := itn c k
          refine w_iconst (p := 41) (v := -1) (pI pM_205 rfl) rfl rfl ?_
          exact w_ireturn (pI pM_205 rfl) rfl rfl rfl k
    · replace k := itp (Decidable.not_not.mp c) k
      refine w_bipush (p := 21) (v := -2) (pI pM_205 rfl) rfl rfl ?_
      exact w_ireturn (pI pM_205 rfl) rfl rfl rfl k
  · replace k := itp (Decidable.not_not.mp c) k
    refine w_bipush (p := 9) (v := -3) (pI pM_205 rfl) rfl rfl ?_
    exact w_ireturn (pI pM_205 rfl) rfl rfl rfl k
set_option maxRecDepth 100000 in
set_option maxHeartbeats 4000000 in
theorem d206_times {d L : Nat} {x : Int32} {y : Int32} {A I : HA} {Q : bm_Q} (k : D206_times x y A I (fun v => Q (some (.int v)) (hp L A I))) : bm_M (d + 2) 206 [.ref 1681, .int x, .int y] (hp L A I) Q := by
  unfold D206_times at k
  refine bw_enter rfl rfl rfl rfl ?_
  refine w_aload_n (p := 1) (pI pM_206 rfl) rfl rfl ?_
  refine v_getI (p := 4) (kf := 16) (pI pM_206 rfl) rfl rfl rfl (by decide) (by decide) rfl rfl rfl ?_
  refine w_if_ne (p := 7) (q := 10) (pI pM_206 rfl) rfl rfl rfl (fun c => ?_) (fun c => ?_)
  · replace k := itn c k
    refine w_iload_n (p := 11) (pI pM_206 rfl) rfl rfl ?_
    refine w_iconst (p := 12) (v := nI 0) (pI pM_206 rfl) rfl rfl ?_
    refine w_aload_n (p := 13) (pI pM_206 rfl) rfl rfl ?_
    refine v_getI (p := 16) (kf := 1) (pI pM_206 rfl) rfl rfl rfl (by decide) (by decide) rfl rfl rfl ?_
    refine w_iconst (p := 17) (v := nI 1) (pI pM_206 rfl) rfl rfl ?_
    refine w_isub (p := 18) (pI pM_206 rfl) rfl ?_
    refine w_static (p := 21) (mj := 149) (pI pM_206 rfl) rfl rfl rfl rfl rfl rfl rfl rfl rfl ?_
    refine d149_isIn (D149_isIn_mono k (fun v1 k => ?_))
    refine w_if_eq (p := 24) (q := 40) (pI pM_206 rfl) rfl rfl rfl (fun c => ?_) (fun c => ?_)
    · replace k := itp c k
      refine w_bipush (p := 42) (v := -2) (pI pM_206 rfl) rfl rfl ?_
      refine w_goto (p := 56) (pI pM_206 rfl) rfl rfl ?_
      exact w_ireturn (pI pM_206 rfl) rfl rfl rfl k
    · replace k := itn c k
      refine w_iload_n (p := 25) (pI pM_206 rfl) rfl rfl ?_
      refine w_iconst (p := 26) (v := nI 0) (pI pM_206 rfl) rfl rfl ?_
      refine w_aload_n (p := 27) (pI pM_206 rfl) rfl rfl ?_
      refine v_getR (p := 30) (kf := 3) (pI pM_206 rfl) rfl rfl rfl (by decide) (by decide) rfl rfl ?_
      refine w_iload_n (p := 31) (pI pM_206 rfl) rfl rfl ?_
      obtain ⟨s2, k⟩ := k
      refine v_iald (p := 32) (pI pM_206 rfl) rfl (by decide) rfl s2 rfl ?_
      refine w_iconst (p := 33) (v := nI 1) (pI pM_206 rfl) rfl rfl ?_
      refine w_isub (p := 34) (pI pM_206 rfl) rfl ?_
      refine w_static (p := 37) (mj := 149) (pI pM_206 rfl) rfl rfl rfl rfl rfl rfl rfl rfl rfl ?_
      refine d149_isIn (D149_isIn_mono k (fun v3 k => ?_))
      refine w_if_ne (p := 40) (q := 45) (pI pM_206 rfl) rfl rfl rfl (fun c => ?_) (fun c => ?_)
      · replace k := itn c k
        refine w_aload_n (p := 46) (pI pM_206 rfl) rfl rfl ?_
        refine v_getR (p := 49) (kf := 29) (pI pM_206 rfl) rfl rfl rfl (by decide) (by decide) rfl rfl ?_
        refine w_bipush (p := 51) (v := nI 40) (pI pM_206 rfl) rfl rfl ?_
        refine w_iload_n (p := 52) (pI pM_206 rfl) rfl rfl ?_
        refine w_imul (p := 53) (pI pM_206 rfl) rfl ?_
        refine w_iload_n (p := 54) (pI pM_206 rfl) rfl rfl ?_
        refine w_iadd (p := 55) (pI pM_206 rfl) rfl ?_
        obtain ⟨s4, k⟩ := k
        refine v_iald (p := 56) (pI pM_206 rfl) rfl (by decide) rfl s4 rfl ?_
        exact w_ireturn (pI pM_206 rfl) rfl rfl rfl k
      · replace k := itp (Decidable.not_not.mp c) k
        refine w_bipush (p := 42) (v := -2) (pI pM_206 rfl) rfl rfl ?_
        refine w_goto (p := 56) (pI pM_206 rfl) rfl rfl ?_
        exact w_ireturn (pI pM_206 rfl) rfl rfl rfl k
  · replace k := itp (Decidable.not_not.mp c) k
    refine w_bipush (p := 9) (v := -3) (pI pM_206 rfl) rfl rfl ?_
    exact w_ireturn (pI pM_206 rfl) rfl rfl rfl k
set_option maxRecDepth 100000 in
set_option maxHeartbeats 4000000 in
theorem d207_plain {d L : Nat} {x : Int32} {y : Int32} {z : Int32} {u1 : Int32} {u2 : Int32} {A I : HA} {Q : bm_Q} (k : D207_plain x y z u1 u2 A I (fun v A I => Q (some (.int v)) (hp L A I))) : bm_M (d + 8) 207 [.ref 1681, .int x, .int y, .int z, .int u1, .int u2] (hp L A I) Q := by
  unfold D207_plain at k
  refine bw_enter rfl rfl rfl rfl ?_
  refine w_iload_n (p := 1) (pI pM_207 rfl) rfl rfl ?_
  refine w_iconst (p := 2) (v := nI 0) (pI pM_207 rfl) rfl rfl ?_
  refine w_aload_n (p := 3) (pI pM_207 rfl) rfl rfl ?_
  refine v_getI (p := 6) (kf := 1) (pI pM_207 rfl) rfl rfl rfl (by decide) (by decide) rfl rfl rfl ?_
  refine w_iconst (p := 7) (v := nI 1) (pI pM_207 rfl) rfl rfl ?_
  refine w_isub (p := 8) (pI pM_207 rfl) rfl ?_
  refine w_static (p := 11) (mj := 149) (pI pM_207 rfl) rfl rfl rfl rfl rfl rfl rfl rfl rfl ?_
  refine d149_isIn (D149_isIn_mono k (fun v1 k => ?_))
  refine w_if_eq (p := 14) (q := 68) (pI pM_207 rfl) rfl rfl rfl (fun c => ?_) (fun c => ?_)
  · replace k := itp c k
    refine w_bipush (p := 70) (v := -2) (pI pM_207 rfl) rfl rfl ?_
    exact w_ireturn (pI pM_207 rfl) rfl rfl rfl k
  · replace k := itn c k
    refine w_aload_n (p := 15) (pI pM_207 rfl) rfl rfl ?_
    refine v_getR (p := 18) (kf := 2) (pI pM_207 rfl) rfl rfl rfl (by decide) (by decide) rfl rfl ?_
    refine w_iload_n (p := 19) (pI pM_207 rfl) rfl rfl ?_
    obtain ⟨s2, k⟩ := k
    refine v_iald (p := 20) (pI pM_207 rfl) rfl (by decide) rfl s2 rfl ?_
    refine w_iconst (p := 21) (v := nI 2) (pI pM_207 rfl) rfl rfl ?_
    refine w_icmp_ne (p := 24) (q := 68) (pI pM_207 rfl) rfl rfl rfl (fun c => ?_) (fun c => ?_)
    · replace k := itn c k
      refine w_bipush (p := 70) (v := -2) (pI pM_207 rfl) rfl rfl ?_
      exact w_ireturn (pI pM_207 rfl) rfl rfl rfl k
    · replace k := itp (Decidable.not_not.mp c) k
      refine w_iload_n (p := 25) (pI pM_207 rfl) rfl rfl ?_
      refine w_bipush (p := 27) (v := -128) (pI pM_207 rfl) rfl rfl ?_
      refine w_bipush (p := 29) (v := nI 127) (pI pM_207 rfl) rfl rfl ?_
      refine w_static (p := 32) (mj := 149) (pI pM_207 rfl) rfl rfl rfl rfl rfl rfl rfl rfl rfl ?_
      refine d149_isIn (D149_isIn_mono k (fun v3 k => ?_))
      refine w_if_eq (p := 35) (q := 68) (pI pM_207 rfl) rfl rfl rfl (fun c => ?_) (fun c => ?_)
      · replace k := itp c k
        refine w_bipush (p := 70) (v := -2) (pI pM_207 rfl) rfl rfl ?_
        exact w_ireturn (pI pM_207 rfl) rfl rfl rfl k
      · replace k := itn c k
        refine w_iload_n (p := 36) (pI pM_207 rfl) rfl rfl ?_
        refine w_bipush (p := 38) (v := -128) (pI pM_207 rfl) rfl rfl ?_
        refine w_bipush (p := 40) (v := nI 127) (pI pM_207 rfl) rfl rfl ?_
        refine w_static (p := 43) (mj := 149) (pI pM_207 rfl) rfl rfl rfl rfl rfl rfl rfl rfl rfl ?_
        refine d149_isIn (D149_isIn_mono k (fun v4 k => ?_))
        refine w_if_eq (p := 46) (q := 68) (pI pM_207 rfl) rfl rfl rfl (fun c => ?_) (fun c => ?_)
        · replace k := itp c k
          refine w_bipush (p := 70) (v := -2) (pI pM_207 rfl) rfl rfl ?_
          exact w_ireturn (pI pM_207 rfl) rfl rfl rfl k
        · replace k := itn c k
          refine w_iload (p := 48) (pI pM_207 rfl) rfl rfl ?_
          refine w_iconst (p := 49) (v := nI 1) (pI pM_207 rfl) rfl rfl ?_
          refine w_sipush (p := 52) (v := nI 200) (pI pM_207 rfl) rfl rfl ?_
          refine w_static (p := 55) (mj := 149) (pI pM_207 rfl) rfl rfl rfl rfl rfl rfl rfl rfl rfl ?_
          refine d149_isIn (D149_isIn_mono k (fun v5 k => ?_))
          refine w_if_eq (p := 58) (q := 68) (pI pM_207 rfl) rfl rfl rfl (fun c => ?_) (fun c => ?_)
          · replace k := itp c k
            refine w_bipush (p := 70) (v := -2) (pI pM_207 rfl) rfl rfl ?_
            exact w_ireturn (pI pM_207 rfl) rfl rfl rfl k
          · replace k := itn c k
            refine w_iload (p := 60) (pI pM_207 rfl) rfl rfl ?_
            refine w_iconst (p := 61) (v := nI 0) (pI pM_207 rfl) rfl rfl ?_
            refine w_iconst (p := 62) (v := nI 3) (pI pM_207 rfl) rfl rfl ?_
            refine w_static (p := 65) (mj := 149) (pI pM_207 rfl) rfl rfl rfl rfl rfl rfl rfl rfl rfl ?_
            refine d149_isIn (D149_isIn_mono k (fun v6 k => ?_))
            refine w_if_ne (p := 68) (q := 71) (pI pM_207 rfl) rfl rfl rfl (fun c => ?_) (fun c => ?_)
            · replace k := itn c k
              refine w_aload_n (p := 72) (pI pM_207 rfl) rfl rfl ?_
              refine v_virtual (p := 75) (mj := 155) (pI pM_207 rfl) rfl rfl rfl rfl rfl rfl rfl rfl rfl rfl (by decide) (by decide) rfl ?_
              refine d155_slot (D155_slot_mono k (fun v7 A8 I9 k => ?_))
              refine w_istore (p := 77) (pI pM_207 rfl) rfl rfl rfl ?_
              refine w_aload_n (p := 78) (pI pM_207 rfl) rfl rfl ?_
              refine v_getI (p := 81) (kf := 18) (pI pM_207 rfl) rfl rfl rfl (by decide) (by decide) rfl rfl rfl ?_
              refine w_istore (p := 83) (pI pM_207 rfl) rfl rfl rfl ?_
              refine w_aload_n (p := 84) (pI pM_207 rfl) rfl rfl ?_
              refine w_iload (p := 86) (pI pM_207 rfl) rfl rfl ?_
              refine s_putI (p := 89) (kf := 18) (pI pM_207 rfl) rfl rfl rfl (by decide) (by decide) rfl rfl rfl rfl rfl rfl ?_
              refine w_aload_n (p := 90) (pI pM_207 rfl) rfl rfl ?_
              refine w_sipush (p := 93) (v := nI 520) (pI pM_207 rfl) rfl rfl ?_
              refine w_iload (p := 95) (pI pM_207 rfl) rfl rfl ?_
              refine w_imul (p := 96) (pI pM_207 rfl) rfl ?_
              refine s_putI (p := 99) (kf := 35) (pI pM_207 rfl) rfl rfl rfl (by decide) (by decide) rfl rfl rfl rfl rfl rfl ?_
              refine w_aload_n (p := 100) (pI pM_207 rfl) rfl rfl ?_
              refine w_iload_n (p := 101) (pI pM_207 rfl) rfl rfl ?_
              refine w_iload_n (p := 102) (pI pM_207 rfl) rfl rfl ?_
              refine w_static (p := 105) (mj := 168) (pI pM_207 rfl) rfl rfl rfl rfl rfl rfl rfl rfl rfl ?_
              refine d168_node (D168_node_mono k (fun v10 k => ?_))
              refine w_iload_n (p := 106) (pI pM_207 rfl) rfl rfl ?_
              refine w_static (p := 109) (mj := 168) (pI pM_207 rfl) rfl rfl rfl rfl rfl rfl rfl rfl rfl ?_
              refine d168_node (D168_node_mono k (fun v11 k => ?_))
              refine v_virtual (p := 112) (mj := 156) (pI pM_207 rfl) rfl rfl rfl rfl rfl rfl rfl rfl rfl rfl (by decide) (by decide) rfl ?_
              refine d156_begin (D156_begin_mono k (fun A12 I13 k => ?_))
              refine w_aload_n (p := 113) (pI pM_207 rfl) rfl rfl ?_
              refine v_virtual (p := 116) (mj := 162) (pI pM_207 rfl) rfl rfl rfl rfl rfl rfl rfl rfl rfl rfl (by decide) (by decide) rfl ?_
              refine d162_goOn (D162_goOn_mono k (fun v14 A15 I16 k => ?_))
              refine w_istore (p := 118) (pI pM_207 rfl) rfl rfl rfl ?_
              refine w_aload_n (p := 119) (pI pM_207 rfl) rfl rfl ?_
              refine w_iload (p := 121) (pI pM_207 rfl) rfl rfl ?_
              refine s_putI (p := 124) (kf := 18) (pI pM_207 rfl) rfl rfl rfl (by decide) (by decide) rfl rfl rfl rfl rfl rfl ?_
              refine w_aload_n (p := 125) (pI pM_207 rfl) rfl rfl ?_
              refine v_getR (p := 128) (kf := 10) (pI pM_207 rfl) rfl rfl rfl (by decide) (by decide) rfl rfl ?_
              refine w_iload (p := 130) (pI pM_207 rfl) rfl rfl ?_
              refine w_iconst (p := 131) (v := nI 0) (pI pM_207 rfl) rfl rfl ?_
              obtain ⟨s17, k⟩ := k
              refine s_bast (p := 132) (pI pM_207 rfl) rfl (by decide) (by decide) rfl (by decide) s17 ?_
              refine w_iload (p := 134) (pI pM_207 rfl) rfl rfl ?_
              by_cases c134_0 : u2 = nI 0
              · replace k := itp c134_0 k
                refine w_table (p := 160) (off := 26) (pI pM_207 rfl) (sw_at c134_0 (by decide)) rfl rfl ?_
                refine w_aload_n (p := 161) (pI pM_207 rfl) rfl rfl ?_
                refine v_getR (p := 164) (kf := 8) (pI pM_207 rfl) rfl rfl rfl (by decide) (by decide) rfl rfl ?_
                refine w_aload_n (p := 165) (pI pM_207 rfl) rfl rfl ?_
                refine v_getI (p := 168) (kf := 35) (pI pM_207 rfl) rfl rfl rfl (by decide) (by decide) rfl rfl rfl ?_
                refine w_sipush (p := 171) (v := nI 514) (pI pM_207 rfl) rfl rfl ?_
                refine w_iadd (p := 172) (pI pM_207 rfl) rfl ?_
                obtain ⟨s18, k⟩ := k
                refine v_iald (p := 173) (pI pM_207 rfl) rfl (by decide) rfl s18 rfl ?_
                exact w_ireturn (pI pM_207 rfl) rfl rfl rfl k
              · replace k := itn c134_0 k
                by_cases c134_1 : u2 = nI 1
                · replace k := itp c134_1 k
                  refine w_table (p := 174) (off := 40) (pI pM_207 rfl) (sw_at c134_1 (by decide)) rfl rfl ?_
                  refine w_aload_n (p := 175) (pI pM_207 rfl) rfl rfl ?_
                  refine v_getR (p := 178) (kf := 8) (pI pM_207 rfl) rfl rfl rfl (by decide) (by decide) rfl rfl ?_
                  refine w_aload_n (p := 179) (pI pM_207 rfl) rfl rfl ?_
                  refine v_getI (p := 182) (kf := 35) (pI pM_207 rfl) rfl rfl rfl (by decide) (by decide) rfl rfl rfl ?_
                  refine w_sipush (p := 185) (v := nI 515) (pI pM_207 rfl) rfl rfl ?_
                  refine w_iadd (p := 186) (pI pM_207 rfl) rfl ?_
                  obtain ⟨s19, k⟩ := k
                  refine v_iald (p := 187) (pI pM_207 rfl) rfl (by decide) rfl s19 rfl ?_
                  exact w_ireturn (pI pM_207 rfl) rfl rfl rfl k
                · replace k := itn c134_1 k
                  by_cases c134_2 : u2 = nI 2
                  · replace k := itp c134_2 k
                    refine w_table (p := 188) (off := 54) (pI pM_207 rfl) (sw_at c134_2 (by decide)) rfl rfl ?_
                    refine w_aload_n (p := 189) (pI pM_207 rfl) rfl rfl ?_
                    refine v_getR (p := 192) (kf := 8) (pI pM_207 rfl) rfl rfl rfl (by decide) (by decide) rfl rfl ?_
                    refine w_aload_n (p := 193) (pI pM_207 rfl) rfl rfl ?_
                    refine v_getI (p := 196) (kf := 35) (pI pM_207 rfl) rfl rfl rfl (by decide) (by decide) rfl rfl rfl ?_
                    refine w_sipush (p := 199) (v := nI 514) (pI pM_207 rfl) rfl rfl ?_
                    refine w_iadd (p := 200) (pI pM_207 rfl) rfl ?_
                    obtain ⟨s20, k⟩ := k
                    refine v_iald (p := 201) (pI pM_207 rfl) rfl (by decide) rfl s20 rfl ?_
                    refine w_iconst (p := 202) (v := nI 1) (pI pM_207 rfl) rfl rfl ?_
                    refine w_icmp_ne (p := 205) (q := 224) (pI pM_207 rfl) rfl rfl rfl (fun c => ?_) (fun c => ?_)
                    · replace k := itn c k
                      refine w_aload_n (p := 225) (pI pM_207 rfl) rfl rfl ?_
                      refine v_getR (p := 228) (kf := 8) (pI pM_207 rfl) rfl rfl rfl (by decide) (by decide) rfl rfl ?_
                      refine w_aload_n (p := 229) (pI pM_207 rfl) rfl rfl ?_
                      refine v_getI (p := 232) (kf := 35) (pI pM_207 rfl) rfl rfl rfl (by decide) (by decide) rfl rfl rfl ?_
                      refine w_sipush (p := 235) (v := nI 516) (pI pM_207 rfl) rfl rfl ?_
                      refine w_iadd (p := 236) (pI pM_207 rfl) rfl ?_
                      obtain ⟨s21, k⟩ := k
                      refine v_iald (p := 237) (pI pM_207 rfl) rfl (by decide) rfl s21 rfl ?_
                      exact w_ireturn (pI pM_207 rfl) rfl rfl rfl k
                    · replace k := itp (Decidable.not_not.mp c) k
                      refine w_aload_n (p := 206) (pI pM_207 rfl) rfl rfl ?_
                      refine v_getR (p := 209) (kf := 8) (pI pM_207 rfl) rfl rfl rfl (by decide) (by decide) rfl rfl ?_
                      refine w_aload_n (p := 210) (pI pM_207 rfl) rfl rfl ?_
                      refine v_getI (p := 213) (kf := 35) (pI pM_207 rfl) rfl rfl rfl (by decide) (by decide) rfl rfl rfl ?_
                      refine w_sipush (p := 216) (v := nI 517) (pI pM_207 rfl) rfl rfl ?_
                      refine w_iadd (p := 217) (pI pM_207 rfl) rfl ?_
                      obtain ⟨s22, k⟩ := k
                      refine v_iald (p := 218) (pI pM_207 rfl) rfl (by decide) rfl s22 rfl ?_
                      refine w_static (p := 221) (mj := 178) (pI pM_207 rfl) rfl rfl rfl rfl rfl rfl rfl rfl rfl ?_
                      refine d178_number (D178_number_mono k (fun v23 k => ?_))
                      refine w_goto (p := 237) (pI pM_207 rfl) rfl rfl ?_
                      exact w_ireturn (pI pM_207 rfl) rfl rfl rfl k
                  · replace k := itn c134_2 k
                    refine w_table (p := 238) (off := 104) (pI pM_207 rfl) (by have e0 := neT 0 (by decide) c134_0; have e1 := neT 1 (by decide) c134_1; have e2 := neT 2 (by decide) c134_2; exact sw_df (fun h1 h2 => by omega)) rfl rfl ?_
                    refine w_aload_n (p := 239) (pI pM_207 rfl) rfl rfl ?_
                    refine v_getR (p := 242) (kf := 8) (pI pM_207 rfl) rfl rfl rfl (by decide) (by decide) rfl rfl ?_
                    refine w_aload_n (p := 243) (pI pM_207 rfl) rfl rfl ?_
                    refine v_getI (p := 246) (kf := 35) (pI pM_207 rfl) rfl rfl rfl (by decide) (by decide) rfl rfl rfl ?_
                    refine w_iconst (p := 247) (v := nI 1) (pI pM_207 rfl) rfl rfl ?_
                    refine w_iadd (p := 248) (pI pM_207 rfl) rfl ?_
                    obtain ⟨s24, k⟩ := k
                    refine v_iald (p := 249) (pI pM_207 rfl) rfl (by decide) rfl s24 rfl ?_
                    exact w_ireturn (pI pM_207 rfl) rfl rfl rfl k
            · replace k := itp (Decidable.not_not.mp c) k
              refine w_bipush (p := 70) (v := -2) (pI pM_207 rfl) rfl rfl ?_
              exact w_ireturn (pI pM_207 rfl) rfl rfl rfl k
set_option maxRecDepth 100000 in
set_option maxHeartbeats 4000000 in
theorem d208_agrees {d L : Nat} {A I : HA} {Q : bm_Q} (k : D208_agrees A I (fun v => Q (some (.int v)) (hp L A I))) : bm_M (d + 1) 208 [.ref 1681] (hp L A I) Q := by
  unfold D208_agrees at k
  refine bw_enter rfl rfl rfl rfl ?_
  refine w_aload_n (p := 1) (pI pM_208 rfl) rfl rfl ?_
  refine v_getI (p := 4) (kf := 16) (pI pM_208 rfl) rfl rfl rfl (by decide) (by decide) rfl rfl rfl ?_
  obtain ⟨s1, k⟩ := k
  exact w_ireturn (pI pM_208 rfl) rfl rfl s1 k
