/-! WORDS: of two operands -/
def w2F (k : Nat) (a b : Int32) : Int32 := match k with
  | 6 => (a + b).toInt8.toInt32
  | 7 => (a - b).toInt8.toInt32
  | 8 => (a * b).toInt8.toInt32
  | 9 => if b = 0 then 0 else (a / b).toInt8.toInt32
  | 10 => if b = 0 then 0 else (a - a / b * b).toInt8.toInt32
  | 12 => a &&& b
  | 13 => a ||| b
  | 14 => a ^^^ b
  | 15 => (a <<< ((b &&& nI 7) &&& 31)).toInt8.toInt32
  | 16 => a >>> ((b &&& nI 7) &&& 31)
  | _ => 0
set_option maxRecDepth 100000 in
set_option maxHeartbeats 4000000 in
theorem c_ofTwoW (d : Nat) {h : bm_H} {Q : bm_Q} {k : Nat} {a b : Int32} (hk : 6 ≤ k ∧ k ≤ 16 ∧ k ≠ 11) (hQ : Q (some (.int (w2F k a b))) h) : bm_M (d + 1) 210 [.int (nI k), .int a, .int b] h Q := by
  refine bw_enter rfl rfl rfl rfl ?_
  refine w_iload_n (p := 1) (pI pM_210 rfl) rfl rfl ?_
  rcases (show k = 6 ∨ k = 7 ∨ k = 8 ∨ k = 9 ∨ k = 10 ∨ k = 12 ∨ k = 13 ∨ k = 14 ∨ k = 15 ∨ k = 16 by omega) with rfl | rfl | rfl | rfl | rfl | rfl | rfl | rfl | rfl | rfl
  · refine w_table (p := 56) (off := 55) (pI pM_210 rfl) (by decide) rfl rfl ?_
    refine w_iload_n (p := 57) (pI pM_210 rfl) rfl rfl ?_
    refine w_iload_n (p := 58) (pI pM_210 rfl) rfl rfl ?_
    refine w_iadd (p := 59) (pI pM_210 rfl) rfl ?_
    refine w_i2b (p := 60) (pI pM_210 rfl) rfl ?_
    exact w_ireturn (pI pM_210 rfl) rfl rfl rfl hQ
  · refine w_table (p := 61) (off := 60) (pI pM_210 rfl) (by decide) rfl rfl ?_
    refine w_iload_n (p := 62) (pI pM_210 rfl) rfl rfl ?_
    refine w_iload_n (p := 63) (pI pM_210 rfl) rfl rfl ?_
    refine w_isub (p := 64) (pI pM_210 rfl) rfl ?_
    refine w_i2b (p := 65) (pI pM_210 rfl) rfl ?_
    exact w_ireturn (pI pM_210 rfl) rfl rfl rfl hQ
  · refine w_table (p := 66) (off := 65) (pI pM_210 rfl) (by decide) rfl rfl ?_
    refine w_iload_n (p := 67) (pI pM_210 rfl) rfl rfl ?_
    refine w_iload_n (p := 68) (pI pM_210 rfl) rfl rfl ?_
    refine w_imul (p := 69) (pI pM_210 rfl) rfl ?_
    refine w_i2b (p := 70) (pI pM_210 rfl) rfl ?_
    exact w_ireturn (pI pM_210 rfl) rfl rfl rfl hQ
  · refine w_table (p := 71) (off := 70) (pI pM_210 rfl) (by decide) rfl rfl ?_
    refine w_iload_n (p := 72) (pI pM_210 rfl) rfl rfl ?_
    refine w_if_ne (p := 75) (q := 79) (pI pM_210 rfl) rfl rfl rfl (fun c_1 => ?_) (fun c_1 => ?_)
    · refine w_iload_n (p := 80) (pI pM_210 rfl) rfl rfl ?_
      refine w_iload_n (p := 81) (pI pM_210 rfl) rfl rfl ?_
      refine w_idiv (p := 82) (pI pM_210 rfl) rfl c_1 ?_
      refine w_i2b (p := 83) (pI pM_210 rfl) rfl ?_
      first | (rw [show w2F 9 a b = 0 from if_pos (by first | exact c_1 | exact Decidable.not_not.mp c_1)] at hQ; exact w_ireturn (pI pM_210 rfl) rfl rfl rfl hQ) | (rw [show w2F 9 a b = _ from if_neg c_1] at hQ; exact w_ireturn (pI pM_210 rfl) rfl rfl rfl hQ)
    · refine w_iconst (p := 76) (v := nI 0) (pI pM_210 rfl) rfl rfl ?_
      refine w_goto (p := 83) (pI pM_210 rfl) rfl rfl ?_
      first | (rw [show w2F 9 a b = 0 from if_pos (by first | exact c_1 | exact Decidable.not_not.mp c_1)] at hQ; exact w_ireturn (pI pM_210 rfl) rfl rfl rfl hQ) | (rw [show w2F 9 a b = _ from if_neg c_1] at hQ; exact w_ireturn (pI pM_210 rfl) rfl rfl rfl hQ)
  · refine w_table (p := 84) (off := 83) (pI pM_210 rfl) (by decide) rfl rfl ?_
    refine w_iload_n (p := 85) (pI pM_210 rfl) rfl rfl ?_
    refine w_if_ne (p := 88) (q := 92) (pI pM_210 rfl) rfl rfl rfl (fun c_1 => ?_) (fun c_1 => ?_)
    · refine w_iload_n (p := 93) (pI pM_210 rfl) rfl rfl ?_
      refine w_iload_n (p := 94) (pI pM_210 rfl) rfl rfl ?_
      refine w_irem (p := 95) (pI pM_210 rfl) rfl c_1 ?_
      refine w_i2b (p := 96) (pI pM_210 rfl) rfl ?_
      first | (rw [show w2F 10 a b = 0 from if_pos (by first | exact c_1 | exact Decidable.not_not.mp c_1)] at hQ; exact w_ireturn (pI pM_210 rfl) rfl rfl rfl hQ) | (rw [show w2F 10 a b = _ from if_neg c_1] at hQ; exact w_ireturn (pI pM_210 rfl) rfl rfl rfl hQ)
    · refine w_iconst (p := 89) (v := nI 0) (pI pM_210 rfl) rfl rfl ?_
      refine w_goto (p := 96) (pI pM_210 rfl) rfl rfl ?_
      first | (rw [show w2F 10 a b = 0 from if_pos (by first | exact c_1 | exact Decidable.not_not.mp c_1)] at hQ; exact w_ireturn (pI pM_210 rfl) rfl rfl rfl hQ) | (rw [show w2F 10 a b = _ from if_neg c_1] at hQ; exact w_ireturn (pI pM_210 rfl) rfl rfl rfl hQ)
  · refine w_table (p := 97) (off := 96) (pI pM_210 rfl) (by decide) rfl rfl ?_
    refine w_iload_n (p := 98) (pI pM_210 rfl) rfl rfl ?_
    refine w_iload_n (p := 99) (pI pM_210 rfl) rfl rfl ?_
    refine w_iand (p := 100) (pI pM_210 rfl) rfl ?_
    exact w_ireturn (pI pM_210 rfl) rfl rfl rfl hQ
  · refine w_table (p := 101) (off := 100) (pI pM_210 rfl) (by decide) rfl rfl ?_
    refine w_iload_n (p := 102) (pI pM_210 rfl) rfl rfl ?_
    refine w_iload_n (p := 103) (pI pM_210 rfl) rfl rfl ?_
    refine w_ior (p := 104) (pI pM_210 rfl) rfl ?_
    exact w_ireturn (pI pM_210 rfl) rfl rfl rfl hQ
  · refine w_table (p := 105) (off := 104) (pI pM_210 rfl) (by decide) rfl rfl ?_
    refine w_iload_n (p := 106) (pI pM_210 rfl) rfl rfl ?_
    refine w_iload_n (p := 107) (pI pM_210 rfl) rfl rfl ?_
    refine w_ixor (p := 108) (pI pM_210 rfl) rfl ?_
    exact w_ireturn (pI pM_210 rfl) rfl rfl rfl hQ
  · refine w_table (p := 109) (off := 108) (pI pM_210 rfl) (by decide) rfl rfl ?_
    refine w_iload_n (p := 110) (pI pM_210 rfl) rfl rfl ?_
    refine w_iload_n (p := 111) (pI pM_210 rfl) rfl rfl ?_
    refine w_bipush (p := 113) (v := nI 7) (pI pM_210 rfl) rfl rfl ?_
    refine w_iand (p := 114) (pI pM_210 rfl) rfl ?_
    refine w_ishl (p := 115) (pI pM_210 rfl) rfl ?_
    refine w_i2b (p := 116) (pI pM_210 rfl) rfl ?_
    exact w_ireturn (pI pM_210 rfl) rfl rfl rfl hQ
  · refine w_table (p := 117) (off := 116) (pI pM_210 rfl) (by decide) rfl rfl ?_
    refine w_iload_n (p := 118) (pI pM_210 rfl) rfl rfl ?_
    refine w_iload_n (p := 119) (pI pM_210 rfl) rfl rfl ?_
    refine w_bipush (p := 121) (v := nI 7) (pI pM_210 rfl) rfl rfl ?_
    refine w_iand (p := 122) (pI pM_210 rfl) rfl ?_
    refine w_ishr (p := 123) (pI pM_210 rfl) rfl ?_
    exact w_ireturn (pI pM_210 rfl) rfl rfl rfl hQ
