/-! FORMULAS: which one is a number, on both sides -/
set_option maxRecDepth 100000 in
theorem c_isNumber (d : Nat) {h : bm_H} {Q : bm_Q} {x : Int32} (h1 : inR x 256 → Q (some (.int 1)) h) (h0 : ¬ inR x 256 → Q (some (.int 0)) h) : bm_M (d + 1) 25 [.int x] h Q := by
  refine bw_enter rfl rfl rfl rfl ?_
  refine w_iload_n (p := 1) (pI pM_25 rfl) rfl rfl ?_
  refine w_if_lt (p := 4) (q := 15) (pI pM_25 rfl) rfl rfl rfl (fun c_1 => ?_) (fun c_1 => ?_)
  · refine w_iconst (p := 16) (v := nI 0) (pI pM_25 rfl) rfl rfl ?_
    exact w_ireturn (pI pM_25 rfl) rfl rfl rfl (by first | exact h1 (inR_of (by decide) c_1 c_2) | exact h0 (inR_n0 (by decide) c_1) | exact h0 (inR_nM (by decide) c_2))
  · refine w_iload_n (p := 5) (pI pM_25 rfl) rfl rfl ?_
    refine w_sipush (p := 8) (v := nI 256) (pI pM_25 rfl) rfl rfl ?_
    refine w_icmp_ge (p := 11) (q := 15) (pI pM_25 rfl) rfl rfl rfl (fun c_2 => ?_) (fun c_2 => ?_)
    · refine w_iconst (p := 16) (v := nI 0) (pI pM_25 rfl) rfl rfl ?_
      exact w_ireturn (pI pM_25 rfl) rfl rfl rfl (by first | exact h1 (inR_of (by decide) c_1 c_2) | exact h0 (inR_n0 (by decide) c_1) | exact h0 (inR_nM (by decide) c_2))
    · refine w_iconst (p := 12) (v := nI 1) (pI pM_25 rfl) rfl rfl ?_
      refine w_goto (p := 16) (pI pM_25 rfl) rfl rfl ?_
      exact w_ireturn (pI pM_25 rfl) rfl rfl rfl (by first | exact h1 (inR_of (by decide) c_1 c_2) | exact h0 (inR_n0 (by decide) c_1) | exact h0 (inR_nM (by decide) c_2))
set_option maxRecDepth 100000 in
theorem c_misNumber (d : Nat) {h : bm_H} {Q : bm_Q} {x : Int32} (h1 : inR x 256 → Q (some (.int 1)) h) (h0 : ¬ inR x 256 → Q (some (.int 0)) h) : bm_M (d + 1) 177 [.int x] h Q := by
  refine bw_enter rfl rfl rfl rfl ?_
  refine w_iload_n (p := 1) (pI pM_177 rfl) rfl rfl ?_
  refine w_if_lt (p := 4) (q := 15) (pI pM_177 rfl) rfl rfl rfl (fun c_1 => ?_) (fun c_1 => ?_)
  · refine w_iconst (p := 16) (v := nI 0) (pI pM_177 rfl) rfl rfl ?_
    exact w_ireturn (pI pM_177 rfl) rfl rfl rfl (by first | exact h1 (inR_of (by decide) c_1 c_2) | exact h0 (inR_n0 (by decide) c_1) | exact h0 (inR_nM (by decide) c_2))
  · refine w_iload_n (p := 5) (pI pM_177 rfl) rfl rfl ?_
    refine w_sipush (p := 8) (v := nI 256) (pI pM_177 rfl) rfl rfl ?_
    refine w_icmp_ge (p := 11) (q := 15) (pI pM_177 rfl) rfl rfl rfl (fun c_2 => ?_) (fun c_2 => ?_)
    · refine w_iconst (p := 16) (v := nI 0) (pI pM_177 rfl) rfl rfl ?_
      exact w_ireturn (pI pM_177 rfl) rfl rfl rfl (by first | exact h1 (inR_of (by decide) c_1 c_2) | exact h0 (inR_n0 (by decide) c_1) | exact h0 (inR_nM (by decide) c_2))
    · refine w_iconst (p := 12) (v := nI 1) (pI pM_177 rfl) rfl rfl ?_
      refine w_goto (p := 16) (pI pM_177 rfl) rfl rfl ?_
      exact w_ireturn (pI pM_177 rfl) rfl rfl rfl (by first | exact h1 (inR_of (by decide) c_1 c_2) | exact h0 (inR_n0 (by decide) c_1) | exact h0 (inR_nM (by decide) c_2))
set_option maxRecDepth 100000 in
theorem c_mnumber (d : Nat) {h : bm_H} {Q : bm_Q} {x : Int32} (hQ : Q (some (.int (x - nI 128))) h) : bm_M (d + 1) 178 [.int x] h Q := by
  refine bw_enter rfl rfl rfl rfl ?_
  refine w_iload_n (p := 1) (pI pM_178 rfl) rfl rfl ?_
  refine w_sipush (p := 4) (v := nI 128) (pI pM_178 rfl) rfl rfl ?_
  refine w_isub (p := 5) (pI pM_178 rfl) rfl ?_
  exact w_ireturn (pI pM_178 rfl) rfl rfl rfl hQ
theorem num_same (x : Int32) : x + (-128) = x - nI 128 := by
  have e : (-128 : Int32) = - nI 128 := by decide
  rw [e, Int32.sub_eq_add_neg]
