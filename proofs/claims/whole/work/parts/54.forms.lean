/-! FORMULAS: made on both sides alike -/
abbrev isn (v : Int32) : Prop := ¬ v < 0 ∧ v < nI 256
def zsz (F : zF) (v : Int32) : Nat := if v < nI 258 then 1 else F.2.2.2.2 v.toNatClampNeg
def zmk (F : zF) (op a b : Int32) (s : Nat) : Int32 × zF := if 60 < s then (-1, F) else (nI F.1, (F.1 + 1, un F.2.1 F.1 op, un F.2.2.1 F.1 a, un F.2.2.2.1 F.1 b, un F.2.2.2.2 F.1 s))
def z1 (F : zF) (op a : Int32) : Int32 × zF := if isn a then (w1F op (a - nI 128) + nI 128, F) else zmk F op a (-1) (zsz F a + 1)
def z2 (F : zF) (n : Nat) (a b : Int32) : Int32 × zF := if isn a ∧ isn b then (w2F n (a - nI 128) (b - nI 128) + nI 128, F) else zmk F (nI n) a b (zsz F a + zsz F b + 1)
/-- a word: a formula's number -/
def wdv (F : zF) (v : Int32) : Prop := ∃ j, j < F.1 ∧ v = nI j
/-- sizes of made formulas -/
def zfok (F : zF) : Prop := ∀ j, 258 ≤ j → j < F.1 → F.2.2.2.2 j ≤ 60
theorem isn_nI {j : Nat} (h : j < 2 ^ 31) : isn (nI j) ↔ j < 256 := ⟨fun e => (nI_ltI h (by decide)).mp e.2, fun e => ⟨nI_pos h, (nI_ltI h (by decide)).mpr e⟩⟩
theorem C_isNumber {Q : Int32 → Prop} {x : Int32} (k1 : isn x → Q (nI 1)) (k0 : ¬ isn x → Q (nI 0)) : D25_isNumber x Q := by
  unfold D25_isNumber
  by_cases h : x < 0
  · rw [if_pos h]; exact k0 fun e => e.1 h
  · rw [if_neg h]
    by_cases h2 : x < nI 256
    · rw [if_pos h2]; exact k1 ⟨h, h2⟩
    · rw [if_neg h2]; exact k0 fun e => h2 e.2
theorem M_isNumber {Q : Int32 → Prop} {x : Int32} (k1 : isn x → Q (nI 1)) (k0 : ¬ isn x → Q (nI 0)) : D177_isNumber x Q := C_isNumber k1 k0
theorem zsz_nI {F : zF} {j : Nat} (h : j < 2 ^ 31) : zsz F (nI j) = if j < 258 then 1 else F.2.2.2.2 j := by
  unfold zsz
  by_cases e : j < 258
  · rw [if_pos e, if_pos ((nI_ltI h (by decide)).mpr e)]
  · rw [if_neg e, if_neg (fun z => e ((nI_ltI h (by decide)).mp z)), nI_clamp h]
theorem zsz_le {F : zF} {v : Int32} (hf : zfok F) (hN : F.1 ≤ 32258) (hv : wdv F v) : zsz F v ≤ 60 := by
  obtain ⟨j, hj, rfl⟩ := hv
  rw [zsz_nI (by omega)]
  split
  · omega
  · exact hf j (by omega) hj
section FO
variable {w b : Nat} {A0 I0 A I : HA} {S : zW} {F : zF}
theorem C_sizeOf {Q : Int32 → Prop} {v : Int32} (h : zFC A I F) (hv : wdv F v) (k : Q (nI (zsz F v))) : D28_sizeOf v A I Q := by
  obtain ⟨j, hj, rfl⟩ := hv
  obtain ⟨h1, h2, h3, h4⟩ := h
  rw [zsz_nI (by omega)] at k
  unfold D28_sizeOf
  rw [h1, iLt (by omega) (by decide), iLt (by omega) (by omega)]
  by_cases e : j < 258
  · rw [if_pos e] at k ⊢; exact k
  · rw [if_neg e] at k ⊢
    rw [if_pos hj, vpT (by omega) (by decide), nI_clamp (by omega), (h4 j (by omega) hj).2.2.2]
    exact ⟨trivial, k⟩
theorem zFC.mk {op a c : Int32} {s : Nat} (h : zFC A I F) (hN : F.1 < 32258) (hs : ¬ 60 < s) : zFC (sA (sA (sA (sA A 33 F.1 op) 34 F.1 a) 35 F.1 c) 36 F.1 (nI s)) (sI I 32 4 (nI (F.1 + 1))) (zmk F op a c s).2 := by
  obtain ⟨h1, h2, h3, h4⟩ := h
  unfold zmk
  rw [if_neg hs]
  refine ⟨sI_e, by show 258 ≤ F.1 + 1; omega, by show F.1 + 1 ≤ 32258; omega, fun j j1 j2 => ?_⟩
  have j2 : j < F.1 + 1 := j2
  show _ = un F.2.1 F.1 op j ∧ _ = un F.2.2.1 F.1 a j ∧ _ = un F.2.2.2.1 F.1 c j ∧ _ = nI (un F.2.2.2.2 F.1 s j)
  by_cases e : j = F.1
  · subst e
    rw [un_e, un_e, un_e, un_e, sA_n (by omega), sA_n (by omega), sA_n (by omega), sA_e, sA_n (by omega), sA_n (by omega), sA_e, sA_n (by omega), sA_e, sA_e]
    exact ⟨rfl, rfl, rfl, rfl⟩
  · rw [un_n e, un_n e, un_n e, un_n e, sA_n (by omega), sA_n (by omega), sA_n (by omega), sA_n (by omega), sA_n (by omega), sA_n (by omega), sA_n (by omega), sA_n (by omega), sA_n (by omega), sA_n (by omega), sA_n (by omega), sA_n (by omega), sA_n (by omega), sA_n (by omega), sA_n (by omega), sA_n (by omega)]
    exact h4 j j1 (by omega)
theorem zFM.mk {op a c : Int32} {s : Nat} (h : zFM A I F) (hN : F.1 < 32258) (hs : ¬ 60 < s) : zFM (sA (sA (sA (sA A 1691 F.1 op) 1692 F.1 a) 1693 F.1 c) 1694 F.1 (nI s)) (sI I 1681 15 (nI (F.1 + 1))) (zmk F op a c s).2 := by
  obtain ⟨h1, h2, h3, h5, h4⟩ := h
  unfold zmk
  rw [if_neg hs]
  refine ⟨sI_e, by show 258 ≤ F.1 + 1; omega, by show F.1 + 1 ≤ 32258; omega, fun j hj => by rw [sA_n (by omega), sA_n (by omega), sA_n (by omega), sA_n (by omega)]; exact h5 j hj, fun j j1 j2 => ?_⟩
  have j2 : j < F.1 + 1 := j2
  show _ = un F.2.1 F.1 op j ∧ _ = un F.2.2.1 F.1 a j ∧ _ = un F.2.2.2.1 F.1 c j ∧ _ = nI (un F.2.2.2.2 F.1 s j)
  by_cases e : j = F.1
  · subst e
    rw [un_e, un_e, un_e, un_e, sA_n (by omega), sA_n (by omega), sA_n (by omega), sA_e, sA_n (by omega), sA_n (by omega), sA_e, sA_n (by omega), sA_e, sA_e]
    exact ⟨rfl, rfl, rfl, rfl⟩
  · rw [un_n e, un_n e, un_n e, un_n e, sA_n (by omega), sA_n (by omega), sA_n (by omega), sA_n (by omega), sA_n (by omega), sA_n (by omega), sA_n (by omega), sA_n (by omega), sA_n (by omega), sA_n (by omega), sA_n (by omega), sA_n (by omega), sA_n (by omega), sA_n (by omega), sA_n (by omega), sA_n (by omega)]
    exact h4 j j1 (by omega)
theorem zRepC.off (h : zRepC w A I S) {A' I' : HA} (ha : ∀ a, w + 1 ≤ a → a ≤ w + 6 → A' a = A a) (hi : I' w = I w) : zRepC w A' I' S := by
  unfold zRepC
  rw [hi, ha (w + 1) (by omega) (by omega), ha (w + 2) (by omega) (by omega), ha (w + 3) (by omega) (by omega), ha (w + 4) (by omega) (by omega), ha (w + 5) (by omega) (by omega), ha (w + 6) (by omega) (by omega)]
  exact h
theorem GC.mk {op a c : Int32} {s : Nat} (h : GC w A0 I0 A I S F) (hN : F.1 < 32258) (hs : ¬ 60 < s) : GC w A0 I0 (sA (sA (sA (sA A 33 F.1 op) 34 F.1 a) 35 F.1 c) 36 F.1 (nI s)) (sI I 32 4 (nI (F.1 + 1))) S (zmk F op a c s).2 := by
  obtain ⟨hw, hz, h1, h2, h3, h4⟩ := h
  have hf := hw.far
  refine ⟨hw, hz, h1.off (fun x x1 x2 => by rw [sA_na (by omega), sA_na (by omega), sA_na (by omega), sA_na (by omega)]) (sI_na (by omega)), h2.mk hN hs, fun x n1 n2 => by rw [sA_na (by omega), sA_na (by omega), sA_na (by omega), sA_na (by omega)]; exact h3 x n1 n2, fun x j n1 n2 => by rw [sI_n (by omega)]; exact h4 x j n1 n2⟩
theorem C_make {Q : Int32 → HA → HA → Prop} {op a c : Int32} {s : Nat} (h : GC w A0 I0 A I S F) (hN : F.1 < 32258) (hs : s < 1000) (k : ∀ A' I', GC w A0 I0 A' I' S (zmk F op a c s).2 → Q (zmk F op a c s).1 A' I') : D29_make op a c (nI s) A I Q := by
  unfold D29_make
  rw [h.2.2.2.1.1, iLt (by decide) (by omega), iLt (by omega) (by decide)]
  by_cases e : 60 < s
  · rw [if_pos e]
    have k := k A I
    unfold zmk at k
    rw [if_pos e] at k
    exact k h
  · rw [if_neg e, if_pos hN, vpT (by omega) (by decide), sI_e, nI_add, pk_sub (by omega), nI_clamp (by omega)]
    have k := k _ _ (h.mk (op := op) (a := a) (c := c) hN e)
    refine ⟨trivial, trivial, trivial, trivial, ?_⟩
    have e1 : (zmk F op a c s).1 = nI (F.1 + 1 - 1) := by unfold zmk; rw [if_neg e]; rfl
    rw [e1] at k
    exact k
theorem C_one {Q : Int32 → HA → HA → Prop} {n : Nat} {v : Int32} (h : GC w A0 I0 A I S F) (hf : zfok F) (hN : F.1 < 32258) (hv : wdv F v) (k : ∀ A' I', GC w A0 I0 A' I' S (z1 F (nI n) v).2 → Q (z1 F (nI n) v).1 A' I') : D24_ofOne (nI n) v A I Q := by
  unfold z1 at k
  unfold D24_ofOne
  refine C_isNumber (fun e => ?_) (fun e => ?_)
  · rw [i1]
    rw [if_pos e] at k
    unfold D26_numberIn
    rw [addE]
    refine C_ofOneW ?_
    unfold D27_number
    rw [subE]
    exact k A I h
  · rw [i0]
    rw [if_neg e] at k
    have := zsz_le hf h.2.2.2.1.2.2.1 hv
    refine C_sizeOf h.2.2.2.1 hv ?_
    rw [nI_add]
    exact C_make h hN (by omega) k
theorem C_two {Q : Int32 → HA → HA → Prop} {n : Nat} {v u : Int32} (h : GC w A0 I0 A I S F) (hf : zfok F) (hN : F.1 < 32258) (hn : op2 n) (hv : wdv F v) (hu : wdv F u) (k : ∀ A' I', GC w A0 I0 A' I' S (z2 F n v u).2 → Q (z2 F n v u).1 A' I') : D30_ofTwo (nI n) v u A I Q := by
  have s1 := zsz_le hf h.2.2.2.1.2.2.1 hv
  have s2 := zsz_le hf h.2.2.2.1.2.2.1 hu
  unfold z2 at k
  unfold D30_ofTwo
  refine C_isNumber (fun e => ?_) (fun e => ?_)
  · rw [i1]
    refine C_isNumber (fun e2 => ?_) (fun e2 => ?_)
    · rw [i1]
      rw [if_pos ⟨e, e2⟩] at k
      unfold D26_numberIn
      rw [addE, addE]
      refine C_ofTwoW hn ?_
      unfold D27_number
      rw [subE]
      exact k A I h
    · rw [i0]
      rw [if_neg (fun z => e2 z.2)] at k
      refine C_sizeOf h.2.2.2.1 hv (C_sizeOf h.2.2.2.1 hu ?_)
      rw [nI_add, nI_add]
      exact C_make h hN (by omega) k
  · rw [i0]
    rw [if_neg (fun z => e z.1)] at k
    refine C_sizeOf h.2.2.2.1 hv (C_sizeOf h.2.2.2.1 hu ?_)
    rw [nI_add, nI_add]
    exact C_make h hN (by omega) k
end FO
