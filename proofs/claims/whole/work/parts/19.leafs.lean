/-! CONTRACTS of the methods that read no heap -/
theorem c_within (d : Nat) {h : bm_H} {Q : bm_Q} {x lo hi : Int32} (h1 : lo ≤ x ∧ x ≤ hi → Q (some (.int 1)) h) (h0 : ¬ (lo ≤ x ∧ x ≤ hi) → Q (some (.int 0)) h) : bm_M (d + 1) 2 [.int x, .int lo, .int hi] h Q := by
  refine bw_enter rfl rfl rfl rfl ?_
  refine w_iload_n (p := 1) (pI pM_2 rfl) rfl rfl ?_
  refine w_iload_n (p := 2) (pI pM_2 rfl) rfl rfl ?_
  refine w_icmp_lt (p := 5) (q := 14) (pI pM_2 rfl) rfl rfl rfl (fun c_1 => ?_) (fun c_1 => ?_)
  · refine w_iconst (p := 15) (v := nI 0) (pI pM_2 rfl) rfl rfl ?_
    exact w_ireturn (pI pM_2 rfl) rfl rfl rfl (by first | exact h1 (by simp only [Int32.lt_iff_toInt_lt, Int32.le_iff_toInt_le] at *; omega) | exact h0 (by simp only [Int32.lt_iff_toInt_lt, Int32.le_iff_toInt_le] at *; omega))
  · refine w_iload_n (p := 6) (pI pM_2 rfl) rfl rfl ?_
    refine w_iload_n (p := 7) (pI pM_2 rfl) rfl rfl ?_
    refine w_icmp_gt (p := 10) (q := 14) (pI pM_2 rfl) rfl rfl rfl (fun c_2 => ?_) (fun c_2 => ?_)
    · refine w_iconst (p := 15) (v := nI 0) (pI pM_2 rfl) rfl rfl ?_
      exact w_ireturn (pI pM_2 rfl) rfl rfl rfl (by first | exact h1 (by simp only [Int32.lt_iff_toInt_lt, Int32.le_iff_toInt_le] at *; omega) | exact h0 (by simp only [Int32.lt_iff_toInt_lt, Int32.le_iff_toInt_le] at *; omega))
    · refine w_iconst (p := 11) (v := nI 1) (pI pM_2 rfl) rfl rfl ?_
      refine w_goto (p := 15) (pI pM_2 rfl) rfl rfl ?_
      exact w_ireturn (pI pM_2 rfl) rfl rfl rfl (by first | exact h1 (by simp only [Int32.lt_iff_toInt_lt, Int32.le_iff_toInt_le] at *; omega) | exact h0 (by simp only [Int32.lt_iff_toInt_lt, Int32.le_iff_toInt_le] at *; omega))
theorem c_isIn (d : Nat) {h : bm_H} {Q : bm_Q} {x lo hi : Int32} (h1 : lo ≤ x ∧ x ≤ hi → Q (some (.int 1)) h) (h0 : ¬ (lo ≤ x ∧ x ≤ hi) → Q (some (.int 0)) h) : bm_M (d + 1) 149 [.int x, .int lo, .int hi] h Q := by
  refine bw_enter rfl rfl rfl rfl ?_
  refine w_iload_n (p := 1) (pI pM_149 rfl) rfl rfl ?_
  refine w_iload_n (p := 2) (pI pM_149 rfl) rfl rfl ?_
  refine w_icmp_lt (p := 5) (q := 14) (pI pM_149 rfl) rfl rfl rfl (fun c_1 => ?_) (fun c_1 => ?_)
  · refine w_iconst (p := 15) (v := nI 0) (pI pM_149 rfl) rfl rfl ?_
    exact w_ireturn (pI pM_149 rfl) rfl rfl rfl (by first | exact h1 (by simp only [Int32.lt_iff_toInt_lt, Int32.le_iff_toInt_le] at *; omega) | exact h0 (by simp only [Int32.lt_iff_toInt_lt, Int32.le_iff_toInt_le] at *; omega))
  · refine w_iload_n (p := 6) (pI pM_149 rfl) rfl rfl ?_
    refine w_iload_n (p := 7) (pI pM_149 rfl) rfl rfl ?_
    refine w_icmp_gt (p := 10) (q := 14) (pI pM_149 rfl) rfl rfl rfl (fun c_2 => ?_) (fun c_2 => ?_)
    · refine w_iconst (p := 15) (v := nI 0) (pI pM_149 rfl) rfl rfl ?_
      exact w_ireturn (pI pM_149 rfl) rfl rfl rfl (by first | exact h1 (by simp only [Int32.lt_iff_toInt_lt, Int32.le_iff_toInt_le] at *; omega) | exact h0 (by simp only [Int32.lt_iff_toInt_lt, Int32.le_iff_toInt_le] at *; omega))
    · refine w_iconst (p := 11) (v := nI 1) (pI pM_149 rfl) rfl rfl ?_
      refine w_goto (p := 15) (pI pM_149 rfl) rfl rfl ?_
      exact w_ireturn (pI pM_149 rfl) rfl rfl rfl (by first | exact h1 (by simp only [Int32.lt_iff_toInt_lt, Int32.le_iff_toInt_le] at *; omega) | exact h0 (by simp only [Int32.lt_iff_toInt_lt, Int32.le_iff_toInt_le] at *; omega))
theorem c_slot (d : Nat) {h : bm_H} {Q : bm_Q} {x y : Int32} (hQ : Q (some (.int (x * nI 40 + y))) h) : bm_M (d + 1) 77 [.int x, .int y] h Q := by
  refine bw_enter rfl rfl rfl rfl ?_
  refine w_iload_n (p := 1) (pI pM_77 rfl) rfl rfl ?_
  refine w_bipush (p := 3) (v := nI 40) (pI pM_77 rfl) rfl rfl ?_
  refine w_imul (p := 4) (pI pM_77 rfl) rfl ?_
  refine w_iload_n (p := 5) (pI pM_77 rfl) rfl rfl ?_
  refine w_iadd (p := 6) (pI pM_77 rfl) rfl ?_
  exact w_ireturn (pI pM_77 rfl) rfl rfl rfl hQ
theorem c_number (d : Nat) {h : bm_H} {Q : bm_Q} {x : Int32} (hQ : Q (some (.int (x - (-128)))) h) : bm_M (d + 1) 27 [.int x] h Q := by
  refine bw_enter rfl rfl rfl rfl ?_
  refine w_iload_n (p := 1) (pI pM_27 rfl) rfl rfl ?_
  refine w_bipush (p := 3) (v := -128) (pI pM_27 rfl) rfl rfl ?_
  refine w_isub (p := 4) (pI pM_27 rfl) rfl ?_
  exact w_ireturn (pI pM_27 rfl) rfl rfl rfl hQ
theorem c_numberIn (d : Nat) {h : bm_H} {Q : bm_Q} {x : Int32} (hQ : Q (some (.int (x + (-128)))) h) : bm_M (d + 1) 26 [.int x] h Q := by
  refine bw_enter rfl rfl rfl rfl ?_
  refine w_iload_n (p := 1) (pI pM_26 rfl) rfl rfl ?_
  refine w_bipush (p := 3) (v := -128) (pI pM_26 rfl) rfl rfl ?_
  refine w_iadd (p := 4) (pI pM_26 rfl) rfl ?_
  exact w_ireturn (pI pM_26 rfl) rfl rfl rfl hQ
