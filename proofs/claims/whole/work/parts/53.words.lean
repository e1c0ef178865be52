/-! WORDS AND FORMULAS, pure; the class's and the reference's -/
theorem shE (x : Int32) : (x <<< (nI 24 &&& 31)) >>> (nI 24 &&& 31) = x.toInt8.toInt32 := by
  apply Int32.toBitVec_inj.mp
  rw [Int32.toBitVec_shiftRight, Int32.toBitVec_shiftLeft, Int8.toBitVec_toInt32, Int32.toBitVec_toInt8]
  have e : (nI 24 &&& 31).toBitVec.smod 32 = 24#32 := by decide
  rw [e]
  apply BitVec.eq_of_getLsbD_eq
  intro i hi
  show ((x.toBitVec <<< 24).sshiftRight 24).getLsbD i = _
  rw [BitVec.getLsbD_sshiftRight, BitVec.getLsbD_signExtend, BitVec.getLsbD_signExtend, BitVec.msb_eq_getLsbD_last, BitVec.msb_eq_getLsbD_last, BitVec.getLsbD_shiftLeft, BitVec.getLsbD_shiftLeft, BitVec.msb_eq_getLsbD_last, BitVec.getLsbD_signExtend]
  by_cases h : i < 8
  · simp [h, hi, show 24 + i < 32 by omega, show ¬ 32 ≤ i by omega, show ¬ (24 + i < 24) by omega]
  · have h2 : ¬ (24 + i < 32) := by omega
    simp [h, hi, h2]
theorem subE (x : Int32) : x - (-128) = x + nI 128 := by rw [Int32.sub_eq_add_neg]; rfl
theorem addE (x : Int32) : x + (-128) = x - nI 128 := by rw [Int32.sub_eq_add_neg]; rfl
/-- a byte's words stay as they are -/
theorem bi8 {x : Int32} (h1 : -128 ≤ x.toInt) (h2 : x.toInt ≤ 127) : x.toInt8.toInt32 = x := by
  apply Int32.toInt_inj.mp
  rw [Int8.toInt_toInt32, Int32.toInt_toInt8]
  unfold Int.bmod
  simp only [Nat.reducePow]
  split <;> omega
theorem i8r (x : Int32) : -128 ≤ (x.toInt8.toInt32).toInt ∧ (x.toInt8.toInt32).toInt ≤ 127 := by
  rw [Int8.toInt_toInt32]
  exact ⟨x.toInt8.le_toInt, Int.le_of_lt_add_one x.toInt8.toInt_lt⟩
/-- a number's word -/
theorem nbR {j : Nat} (h : j < 256) : (nI j - nI 128).toInt = (j : Int) - 128 := pk_sub_toInt (by omega) (by decide)
theorem nbA {x : Int32} (h1 : -128 ≤ x.toInt) (h2 : x.toInt ≤ 127) : ∃ j, j < 256 ∧ x + nI 128 = nI j := by
  refine ⟨(x.toInt + 128).toNat, by omega, ?_⟩
  apply Int32.toInt_inj.mp
  rw [Int32.toInt_add, nI_toInt (by omega), nI_toInt (by omega)]
  unfold Int.bmod
  simp only [Nat.reducePow]
  split <;> omega
/-- a word -/
def bR (x : Int32) : Prop := -128 ≤ x.toInt ∧ x.toInt ≤ 127
theorem bR.i8 {x : Int32} (h : bR x) : x.toInt8.toInt32 = x := bi8 h.1 h.2
theorem bR8 (x : Int32) : bR x.toInt8.toInt32 := i8r x
theorem bR32 (x : Int8) : bR x.toInt32 := by
  unfold bR
  rw [Int8.toInt_toInt32]
  exact ⟨x.le_toInt, Int.le_of_lt_add_one x.toInt_lt⟩
theorem bR_num {j : Nat} (h : j < 256) : bR (nI j - nI 128) := by
  unfold bR
  rw [nbR h]
  omega
theorem bR_and {a b : Int32} (ha : bR a) (hb : bR b) : bR (a &&& b) := by
  have := bR32 (a.toInt8 &&& b.toInt8)
  rw [Int8.toInt32_and, ha.i8, hb.i8] at this
  exact this
theorem bR_or {a b : Int32} (ha : bR a) (hb : bR b) : bR (a ||| b) := by
  have := bR32 (a.toInt8 ||| b.toInt8)
  rw [Int8.toInt32_or, ha.i8, hb.i8] at this
  exact this
theorem bR_xor {a b : Int32} (ha : bR a) (hb : bR b) : bR (a ^^^ b) := by
  have := bR32 (a.toInt8 ^^^ b.toInt8)
  rw [Int8.toInt32_xor, ha.i8, hb.i8] at this
  exact this
theorem shr_toInt (a s : Int32) {n : Nat} (hs : (s.toBitVec.smod 32).toNat = n) : (a >>> s).toInt = a.toInt >>> n := by
  show (a >>> s).toBitVec.toInt = _
  rw [Int32.toBitVec_shiftRight]
  show (a.toBitVec.sshiftRight (s.toBitVec.smod 32).toNat).toInt = _
  rw [hs, BitVec.toInt_sshiftRight]
  rfl
theorem bR_shr {a b : Int32} (ha : bR a) : bR (a >>> ((b &&& nI 7) &&& 31)) := by
  obtain ⟨j, hj, e⟩ := pk_andE b (m := nI 7) 3 (by decide)
  rw [e]
  have hj : j < 8 := hj
  unfold bR at ha ⊢
  rcases (show j = 0 ∨ j = 1 ∨ j = 2 ∨ j = 3 ∨ j = 4 ∨ j = 5 ∨ j = 6 ∨ j = 7 by omega) with rfl | rfl | rfl | rfl | rfl | rfl | rfl | rfl
  · rw [shr_toInt a _ (n := 0) (by decide), Int.shiftRight_eq_div_pow]; omega
  · rw [shr_toInt a _ (n := 1) (by decide), Int.shiftRight_eq_div_pow]; omega
  · rw [shr_toInt a _ (n := 2) (by decide), Int.shiftRight_eq_div_pow]; omega
  · rw [shr_toInt a _ (n := 3) (by decide), Int.shiftRight_eq_div_pow]; omega
  · rw [shr_toInt a _ (n := 4) (by decide), Int.shiftRight_eq_div_pow]; omega
  · rw [shr_toInt a _ (n := 5) (by decide), Int.shiftRight_eq_div_pow]; omega
  · rw [shr_toInt a _ (n := 6) (by decide), Int.shiftRight_eq_div_pow]; omega
  · rw [shr_toInt a _ (n := 7) (by decide), Int.shiftRight_eq_div_pow]; omega
theorem bR_w1 {op a : Int32} (ha : bR a) : bR (w1F op a) := by
  unfold w1F
  split
  · exact bR8 _
  · exact ha
theorem bR0 : bR 0 := ⟨by decide, by decide⟩
theorem bR_w2 {k : Nat} {a b : Int32} (ha : bR a) (hb : bR b) : bR (w2F k a b) := by
  unfold w2F
  split
  · exact bR8 _
  · exact bR8 _
  · exact bR8 _
  · split
    · exact bR0
    · exact bR8 _
  · split
    · exact bR0
    · exact bR8 _
  · exact bR_and ha hb
  · exact bR_or ha hb
  · exact bR_xor ha hb
  · exact bR8 _
  · exact bR_shr ha
  · exact bR0
theorem C_ofOneW {Q : Int32 → Prop} {op a : Int32} (k : Q (w1F op a)) : D209_ofOne op a Q := by
  unfold D209_ofOne
  unfold w1F at k
  by_cases h : op = nI 11
  · rw [if_pos h]; rw [if_pos (Or.inl h)] at k; exact k
  · rw [if_neg h]
    by_cases h2 : a < 0
    · rw [if_pos h2]; rw [if_pos (Or.inr h2)] at k; exact k
    · rw [if_neg h2]; rw [if_neg (fun z => z.elim h h2)] at k; exact k
/-- the operations of two words -/
def op2 (k : Nat) : Prop := 6 ≤ k ∧ k ≤ 16 ∧ k ≠ 11
theorem C_ofTwoW {Q : Int32 → Prop} {n : Nat} {a b : Int32} (hn : op2 n) (k : Q (w2F n a b)) : D210_ofTwo (nI n) a b Q := by
  obtain ⟨n1, n2, n3⟩ := hn
  unfold D210_ofTwo
  simp only [eqT (show n < 2 ^ 31 by omega) (show 6 < 2 ^ 31 by decide), eqT (show n < 2 ^ 31 by omega) (show 7 < 2 ^ 31 by decide), eqT (show n < 2 ^ 31 by omega) (show 8 < 2 ^ 31 by decide), eqT (show n < 2 ^ 31 by omega) (show 9 < 2 ^ 31 by decide), eqT (show n < 2 ^ 31 by omega) (show 10 < 2 ^ 31 by decide), eqT (show n < 2 ^ 31 by omega) (show 12 < 2 ^ 31 by decide), eqT (show n < 2 ^ 31 by omega) (show 13 < 2 ^ 31 by decide), eqT (show n < 2 ^ 31 by omega) (show 14 < 2 ^ 31 by decide), eqT (show n < 2 ^ 31 by omega) (show 15 < 2 ^ 31 by decide)]
  rcases (show n = 6 ∨ n = 7 ∨ n = 8 ∨ n = 9 ∨ n = 10 ∨ n = 12 ∨ n = 13 ∨ n = 14 ∨ n = 15 ∨ n = 16 by omega) with rfl | rfl | rfl | rfl | rfl | rfl | rfl | rfl | rfl | rfl
  · rw [if_pos rfl]
    exact k
  · rw [if_neg (by decide), if_pos rfl]
    exact k
  · rw [if_neg (by decide), if_neg (by decide), if_pos rfl]
    exact k
  · rw [if_neg (by decide), if_neg (by decide), if_neg (by decide), if_pos rfl]
    have k : Q (if b = 0 then 0 else (a / b).toInt8.toInt32) := k
    by_cases h : b = 0
    · rw [if_pos h] at k ⊢; exact k
    · rw [if_neg h] at k ⊢; exact ⟨h, k⟩
  · rw [if_neg (by decide), if_neg (by decide), if_neg (by decide), if_neg (by decide), if_pos rfl]
    have k : Q (if b = 0 then 0 else (a - a / b * b).toInt8.toInt32) := k
    by_cases h : b = 0
    · rw [if_pos h] at k ⊢; exact k
    · rw [if_neg h] at k ⊢; exact ⟨h, k⟩
  · rw [if_neg (by decide), if_neg (by decide), if_neg (by decide), if_neg (by decide), if_neg (by decide), if_pos rfl]
    exact k
  · rw [if_neg (by decide), if_neg (by decide), if_neg (by decide), if_neg (by decide), if_neg (by decide), if_neg (by decide), if_pos rfl]
    exact k
  · rw [if_neg (by decide), if_neg (by decide), if_neg (by decide), if_neg (by decide), if_neg (by decide), if_neg (by decide), if_neg (by decide), if_pos rfl]
    exact k
  · rw [if_neg (by decide), if_neg (by decide), if_neg (by decide), if_neg (by decide), if_neg (by decide), if_neg (by decide), if_neg (by decide), if_neg (by decide), if_pos rfl]
    exact k
  · rw [if_neg (by decide), if_neg (by decide), if_neg (by decide), if_neg (by decide), if_neg (by decide), if_neg (by decide), if_neg (by decide), if_neg (by decide), if_neg (by decide)]
    exact k
theorem M_word {Q : Int32 → Prop} {x : Int32} (k : Q x.toInt8.toInt32) : D169_word x Q := by
  unfold D169_word
  rw [shE]
  exact k
theorem M_reckon1 {Q : Int32 → Prop} {n : Nat} {a b : Int32} (hn : n = 11 ∨ n = 29) (ha : bR a) (k : Q (w1F (nI n) a)) : D179_reckon (nI n) a b Q := by
  unfold D179_reckon
  simp only [eqT (show n < 2 ^ 31 by omega) (show 6 < 2 ^ 31 by decide), eqT (show n < 2 ^ 31 by omega) (show 7 < 2 ^ 31 by decide), eqT (show n < 2 ^ 31 by omega) (show 8 < 2 ^ 31 by decide), eqT (show n < 2 ^ 31 by omega) (show 9 < 2 ^ 31 by decide), eqT (show n < 2 ^ 31 by omega) (show 10 < 2 ^ 31 by decide), eqT (show n < 2 ^ 31 by omega) (show 11 < 2 ^ 31 by decide), eqT (show n < 2 ^ 31 by omega) (show 12 < 2 ^ 31 by decide), eqT (show n < 2 ^ 31 by omega) (show 13 < 2 ^ 31 by decide), eqT (show n < 2 ^ 31 by omega) (show 14 < 2 ^ 31 by decide), eqT (show n < 2 ^ 31 by omega) (show 15 < 2 ^ 31 by decide), eqT (show n < 2 ^ 31 by omega) (show 16 < 2 ^ 31 by decide)]
  unfold w1F at k
  rcases hn with rfl | rfl
  · rw [if_neg (by decide), if_neg (by decide), if_neg (by decide), if_neg (by decide), if_neg (by decide), if_pos rfl]
    rw [if_pos (Or.inl rfl)] at k
    exact M_word k
  · rw [if_neg (by decide), if_neg (by decide), if_neg (by decide), if_neg (by decide), if_neg (by decide), if_neg (by decide), if_neg (by decide), if_neg (by decide), if_neg (by decide), if_neg (by decide), if_neg (by decide)]
    by_cases h : a < 0
    · rw [if_pos (Or.inr h)] at k
      rw [if_pos h]; exact M_word k
    · rw [if_neg (fun z => z.elim (by decide) h)] at k
      rw [if_neg h]; exact M_word (by rw [ha.i8]; exact k)
theorem M_reckon2 {Q : Int32 → Prop} {n : Nat} {a b : Int32} (hn : op2 n) (hb : n = 9 ∨ n = 10 → ¬ b = 0) (k : Q (w2F n a b)) : D179_reckon (nI n) a b Q := by
  obtain ⟨n1, n2, n3⟩ := hn
  unfold D179_reckon
  simp only [eqT (show n < 2 ^ 31 by omega) (show 6 < 2 ^ 31 by decide), eqT (show n < 2 ^ 31 by omega) (show 7 < 2 ^ 31 by decide), eqT (show n < 2 ^ 31 by omega) (show 8 < 2 ^ 31 by decide), eqT (show n < 2 ^ 31 by omega) (show 9 < 2 ^ 31 by decide), eqT (show n < 2 ^ 31 by omega) (show 10 < 2 ^ 31 by decide), eqT (show n < 2 ^ 31 by omega) (show 11 < 2 ^ 31 by decide), eqT (show n < 2 ^ 31 by omega) (show 12 < 2 ^ 31 by decide), eqT (show n < 2 ^ 31 by omega) (show 13 < 2 ^ 31 by decide), eqT (show n < 2 ^ 31 by omega) (show 14 < 2 ^ 31 by decide), eqT (show n < 2 ^ 31 by omega) (show 15 < 2 ^ 31 by decide), eqT (show n < 2 ^ 31 by omega) (show 16 < 2 ^ 31 by decide)]
  rcases (show n = 6 ∨ n = 7 ∨ n = 8 ∨ n = 9 ∨ n = 10 ∨ n = 12 ∨ n = 13 ∨ n = 14 ∨ n = 15 ∨ n = 16 by omega) with rfl | rfl | rfl | rfl | rfl | rfl | rfl | rfl | rfl | rfl
  · rw [if_pos rfl]
    exact M_word k
  · rw [if_neg (by decide), if_pos rfl]
    exact M_word k
  · rw [if_neg (by decide), if_neg (by decide), if_pos rfl]
    exact M_word k
  · rw [if_neg (by decide), if_neg (by decide), if_neg (by decide), if_pos rfl]
    have k : Q (if b = 0 then 0 else (a / b).toInt8.toInt32) := k
    have hb := hb (by decide)
    rw [if_neg hb] at k; exact ⟨hb, M_word k⟩
  · rw [if_neg (by decide), if_neg (by decide), if_neg (by decide), if_neg (by decide), if_pos rfl]
    have k : Q (if b = 0 then 0 else (a - a / b * b).toInt8.toInt32) := k
    have hb := hb (by decide)
    rw [if_neg hb] at k; exact ⟨hb, M_word k⟩
  · rw [if_neg (by decide), if_neg (by decide), if_neg (by decide), if_neg (by decide), if_neg (by decide), if_neg (by decide), if_pos rfl]
    exact k
  · rw [if_neg (by decide), if_neg (by decide), if_neg (by decide), if_neg (by decide), if_neg (by decide), if_neg (by decide), if_neg (by decide), if_pos rfl]
    exact k
  · rw [if_neg (by decide), if_neg (by decide), if_neg (by decide), if_neg (by decide), if_neg (by decide), if_neg (by decide), if_neg (by decide), if_neg (by decide), if_pos rfl]
    exact k
  · rw [if_neg (by decide), if_neg (by decide), if_neg (by decide), if_neg (by decide), if_neg (by decide), if_neg (by decide), if_neg (by decide), if_neg (by decide), if_neg (by decide), if_pos rfl]
    exact M_word k
  · rw [if_neg (by decide), if_neg (by decide), if_neg (by decide), if_neg (by decide), if_neg (by decide), if_neg (by decide), if_neg (by decide), if_neg (by decide), if_neg (by decide), if_neg (by decide), if_pos rfl]
    exact k
theorem M_node {Q : Int32 → Prop} {x : Int32} (hx : bR x) (k : Q (x + nI 128)) : D168_node x Q := by
  unfold D168_node
  exact M_word (by rw [hx.i8]; exact k)
