/-! the row of ways that wait; which path there is -/
set_option maxRecDepth 100000 in
theorem c_hasPath (d : Nat) {L n : Nat} {A I : Nat → Nat → Int32} {Q : bm_Q} {k : Int32} (hp1 : I 20 7 = nI n) (hn : n ≤ 100) (h1 : inR k n → Q (some (.int 1)) (hp L A I)) (h0 : ¬ inR k n → Q (some (.int 0)) (hp L A I)) : bm_M (d + 1) 100 [.ref 20, .int k] (hp L A I) Q := by
  refine bw_enter rfl rfl rfl rfl ?_
  refine w_iload_n (p := 1) (pI pM_100 rfl) rfl rfl ?_
  refine w_if_lt (p := 4) (q := 16) (pI pM_100 rfl) rfl rfl rfl (fun c_1 => ?_) (fun c_1 => ?_)
  · refine w_iconst (p := 17) (v := nI 0) (pI pM_100 rfl) rfl rfl ?_
    exact w_ireturn (pI pM_100 rfl) rfl rfl rfl (by first | exact h1 (inR_of (by omega) c_1 c_2) | exact h0 (inR_n0 (by omega) c_1) | exact h0 (inR_nM (by omega) c_2))
  · refine w_iload_n (p := 5) (pI pM_100 rfl) rfl rfl ?_
    refine w_aload_n (p := 6) (pI pM_100 rfl) rfl rfl ?_
    refine v_getI (p := 9) (kf := 7) (x := nI n) (pI pM_100 rfl) rfl rfl rfl (by decide) (by decide) rfl rfl hp1 ?_
    refine w_icmp_ge (p := 12) (q := 16) (pI pM_100 rfl) rfl rfl rfl (fun c_2 => ?_) (fun c_2 => ?_)
    · refine w_iconst (p := 17) (v := nI 0) (pI pM_100 rfl) rfl rfl ?_
      exact w_ireturn (pI pM_100 rfl) rfl rfl rfl (by first | exact h1 (inR_of (by omega) c_1 c_2) | exact h0 (inR_n0 (by omega) c_1) | exact h0 (inR_nM (by omega) c_2))
    · refine w_iconst (p := 13) (v := nI 1) (pI pM_100 rfl) rfl rfl ?_
      refine w_goto (p := 17) (pI pM_100 rfl) rfl rfl ?_
      exact w_ireturn (pI pM_100 rfl) rfl rfl rfl (by first | exact h1 (inR_of (by omega) c_1 c_2) | exact h0 (inR_n0 (by omega) c_1) | exact h0 (inR_nM (by omega) c_2))
set_option maxRecDepth 100000 in
theorem c_isFull (d : Nat) {L n : Nat} {A I : Nat → Nat → Int32} {Q : bm_Q} (hs : I 39 1 = nI n) (hn : n ≤ 60) (h1 : n = 60 → Q (some (.int 1)) (hp L A I)) (h0 : n < 60 → Q (some (.int 0)) (hp L A I)) : bm_M (d + 1) 93 [.ref 39] (hp L A I) Q := by
  refine bw_enter rfl rfl rfl rfl ?_
  refine w_aload_n (p := 1) (pI pM_93 rfl) rfl rfl ?_
  refine v_getI (p := 4) (kf := 1) (x := nI n) (pI pM_93 rfl) rfl rfl rfl (by decide) (by decide) rfl rfl hs ?_
  refine w_bipush (p := 6) (v := nI 60) (pI pM_93 rfl) rfl rfl ?_
  refine w_icmp_lt (p := 9) (q := 13) (pI pM_93 rfl) rfl rfl rfl (fun c_1 => ?_) (fun c_1 => ?_)
  · refine w_iconst (p := 14) (v := nI 0) (pI pM_93 rfl) rfl rfl ?_
    exact w_ireturn (pI pM_93 rfl) rfl rfl rfl (by first | exact h0 ((nI_ltI (by omega) (by decide)).mp c_1) | exact h1 (by have := Nat.not_lt.mp (fun z => c_1 ((nI_ltI (b := 60) (by omega) (by decide)).mpr z)); omega))
  · refine w_iconst (p := 10) (v := nI 1) (pI pM_93 rfl) rfl rfl ?_
    refine w_goto (p := 14) (pI pM_93 rfl) rfl rfl ?_
    exact w_ireturn (pI pM_93 rfl) rfl rfl rfl (by first | exact h0 ((nI_ltI (by omega) (by decide)).mp c_1) | exact h1 (by have := Nat.not_lt.mp (fun z => c_1 ((nI_ltI (b := 60) (by omega) (by decide)).mpr z)); omega))
set_option maxRecDepth 100000 in
theorem c_rowBegin (d : Nat) {L : Nat} {A I : Nat → Nat → Int32} {Q : bm_Q} {x : Int32} (hQ : Q none (hp L A (va_up I 39 (upd (upd (I 39) 1 (nI 0)) 2 x)))) : bm_M (d + 1) 87 [.ref 39, .int x] (hp L A I) Q := by
  refine bw_enter rfl rfl rfl rfl ?_
  refine w_aload_n (p := 1) (pI pM_87 rfl) rfl rfl ?_
  refine w_iconst (p := 2) (v := nI 0) (pI pM_87 rfl) rfl rfl ?_
  refine v_putI (p := 5) (kf := 1) (pI pM_87 rfl) rfl rfl rfl (by decide) (by decide) rfl rfl rfl rfl rfl rfl ?_
  refine w_aload_n (p := 6) (pI pM_87 rfl) rfl rfl ?_
  refine w_iload_n (p := 7) (pI pM_87 rfl) rfl rfl ?_
  refine v_putI (p := 10) (kf := 2) (pI pM_87 rfl) rfl rfl rfl (by decide) (by decide) rfl rfl rfl rfl rfl rfl ?_
  rw [va_up_self, bx_uu]
  exact w_return (pI pM_87 rfl) rfl hQ
set_option maxRecDepth 100000 in
theorem c_rowAdd (d : Nat) {L n : Nat} {A I : Nat → Nat → Int32} {Q : bm_Q} {x : Int32} (hs : I 39 1 = nI n) (hn : n < 60) (hQ : Q none (hp L (va_up A 40 (upd (A 40) n x)) (va_up I 39 (upd (I 39) 1 (nI (n + 1)))))) : bm_M (d + 1) 88 [.ref 39, .int x] (hp L A I) Q := by
  refine bw_enter rfl rfl rfl rfl ?_
  refine w_aload_n (p := 1) (pI pM_88 rfl) rfl rfl ?_
  refine v_getI (p := 4) (kf := 1) (x := nI n) (pI pM_88 rfl) rfl rfl rfl (by decide) (by decide) rfl rfl hs ?_
  refine w_bipush (p := 6) (v := nI 60) (pI pM_88 rfl) rfl rfl ?_
  refine w_icmp_ge (p := 9) (q := 29) (pI pM_88 rfl) rfl rfl rfl (fun c_1 => ?_) (fun c_1 => ?_)
  · first | exact absurd c_1 (nI_ge hn (by decide)) | exact w_return (pI pM_88 rfl) rfl hQ
  · refine w_aload_n (p := 10) (pI pM_88 rfl) rfl rfl ?_
    refine v_getR (p := 13) (kf := 0) (pI pM_88 rfl) rfl rfl rfl (by decide) (by decide) rfl rfl ?_
    refine w_aload_n (p := 14) (pI pM_88 rfl) rfl rfl ?_
    refine v_getI (p := 17) (kf := 1) (x := nI n) (pI pM_88 rfl) rfl rfl rfl (by decide) (by decide) rfl rfl hs ?_
    refine w_iload_n (p := 18) (pI pM_88 rfl) rfl rfl ?_
    refine v_iast (p := 19) (pI pM_88 rfl) rfl (by decide) (by decide) rfl (vp_in_nI hn (by decide)) ?_
    rw [nI_clamp (by omega)]
    refine w_aload_n (p := 20) (pI pM_88 rfl) rfl rfl ?_
    refine w_dup (p := 21) (pI pM_88 rfl) rfl rfl ?_
    refine v_getI (p := 24) (kf := 1) (x := nI n) (pI pM_88 rfl) rfl rfl rfl (by decide) (by decide) rfl rfl hs ?_
    refine w_iconst (p := 25) (v := nI 1) (pI pM_88 rfl) rfl rfl ?_
    refine w_iadd (p := 26) (pI pM_88 rfl) rfl ?_
    rw [nI_add]
    refine v_putI (p := 29) (kf := 1) (pI pM_88 rfl) rfl rfl rfl (by decide) (by decide) rfl rfl rfl rfl rfl rfl ?_
    first | exact absurd c_1 (nI_ge hn (by decide)) | exact w_return (pI pM_88 rfl) rfl hQ
