/-! WORDS: of one operand -/
def w1F (op a : Int32) : Int32 := if op = nI 11 ∨ a < 0 then (-a).toInt8.toInt32 else a
set_option maxRecDepth 100000 in
theorem c_ofOneW (d : Nat) {h : bm_H} {Q : bm_Q} {op a : Int32} (hQ : Q (some (.int (w1F op a))) h) : bm_M (d + 1) 209 [.int op, .int a] h Q := by
  refine bw_enter rfl rfl rfl rfl ?_
  refine w_iload_n (p := 1) (pI pM_209 rfl) rfl rfl ?_
  refine w_bipush (p := 3) (v := nI 11) (pI pM_209 rfl) rfl rfl ?_
  refine w_icmp_eq (p := 6) (q := 10) (pI pM_209 rfl) rfl rfl rfl (fun c_1 => ?_) (fun c_1 => ?_)
  · refine w_iload_n (p := 11) (pI pM_209 rfl) rfl rfl ?_
    refine w_ineg (p := 12) (pI pM_209 rfl) rfl ?_
    refine w_i2b (p := 13) (pI pM_209 rfl) rfl ?_
    refine w_goto (p := 17) (pI pM_209 rfl) rfl rfl ?_
    unfold w1F at hQ
    first | (rw [if_pos (Or.inl c_1)] at hQ; exact w_ireturn (pI pM_209 rfl) rfl rfl rfl hQ) | (rw [if_neg (fun z => z.elim c_1 (fun y => Int32.not_lt.mpr c_2 y))] at hQ; exact w_ireturn (pI pM_209 rfl) rfl rfl rfl hQ) | (rw [if_pos (Or.inr (Int32.not_le.mp c_2))] at hQ; exact w_ireturn (pI pM_209 rfl) rfl rfl rfl hQ)
  · refine w_iload_n (p := 7) (pI pM_209 rfl) rfl rfl ?_
    refine w_if_ge (p := 10) (q := 16) (pI pM_209 rfl) rfl rfl rfl (fun c_2 => ?_) (fun c_2 => ?_)
    · refine w_iload_n (p := 17) (pI pM_209 rfl) rfl rfl ?_
      unfold w1F at hQ
      first | (rw [if_pos (Or.inl c_1)] at hQ; exact w_ireturn (pI pM_209 rfl) rfl rfl rfl hQ) | (rw [if_neg (fun z => z.elim c_1 (fun y => Int32.not_lt.mpr c_2 y))] at hQ; exact w_ireturn (pI pM_209 rfl) rfl rfl rfl hQ) | (rw [if_pos (Or.inr (Int32.not_le.mp c_2))] at hQ; exact w_ireturn (pI pM_209 rfl) rfl rfl rfl hQ)
    · refine w_iload_n (p := 11) (pI pM_209 rfl) rfl rfl ?_
      refine w_ineg (p := 12) (pI pM_209 rfl) rfl ?_
      refine w_i2b (p := 13) (pI pM_209 rfl) rfl ?_
      refine w_goto (p := 17) (pI pM_209 rfl) rfl rfl ?_
      unfold w1F at hQ
      first | (rw [if_pos (Or.inl c_1)] at hQ; exact w_ireturn (pI pM_209 rfl) rfl rfl rfl hQ) | (rw [if_neg (fun z => z.elim c_1 (fun y => Int32.not_lt.mpr c_2 y))] at hQ; exact w_ireturn (pI pM_209 rfl) rfl rfl rfl hQ) | (rw [if_pos (Or.inr (Int32.not_le.mp c_2))] at hQ; exact w_ireturn (pI pM_209 rfl) rfl rfl rfl hQ)
