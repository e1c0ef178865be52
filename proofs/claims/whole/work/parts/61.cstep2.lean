/-! THE CLASS: the operations that may split -/
theorem nb0 {v : Int32} : v + (-128) = 0 ↔ v = nI 128 := by
  rw [addE]
  constructor
  · intro e
    have := Int32.sub_add_cancel v (nI 128)
    rw [e, Int32.zero_add] at this
    exact this.symm
  · rintro rfl; decide
theorem nbE {u v : Int32} : u + (-128) = v + (-128) ↔ u = v := ⟨fun e => by
  have a := Int32.add_sub_cancel u (-128)
  rw [e, Int32.add_sub_cancel] at a
  exact a.symm, fun e => by rw [e]⟩
theorem nbL {i j : Nat} (hi : i < 256) (hj : j < 256) : nI i + (-128) < nI j + (-128) ↔ nI i < nI j := by
  rw [addE, addE, Int32.lt_iff_toInt_lt, nbR hi, nbR hj, nI_ltI (by omega) (by omega)]
  omega
theorem nbN {j : Nat} (h1 : 128 ≤ j) : nI j + (-128) = nI (j - 128) := by rw [addE, pk_sub h1]
theorem nb_neg {j : Nat} (h : j < 256) : nI j + (-128) < 0 ↔ j < 128 := by
  rw [addE, Int32.lt_iff_toInt_lt, nbR h]
  show (j : Int) - 128 < 0 ↔ _
  omega
theorem zcl_nI {j : Nat} (h : j < 256) : zcl (nI j) = if j < 128 then 6 else if 133 < j then 7 else j - 128 := by
  unfold zcl
  by_cases e : j < 128
  · rw [if_pos e, if_pos ((nI_ltI (by omega) (by decide)).mpr e)]
  · rw [if_neg e, if_neg (fun z => e ((nI_ltI (by omega) (by decide)).mp z))]
    by_cases e2 : 133 < j
    · rw [if_pos e2, if_pos ((nI_ltI (by decide) (by omega)).mpr e2)]
    · rw [if_neg e2, if_neg (fun z => e2 ((nI_ltI (by decide) (by omega)).mp z)), pk_sub (by omega), nI_clamp (by omega)]
theorem zci_nI {j n : Nat} (h : j < 256) (hn : n ≤ 5) : zci (nI j) n = if j < 128 then n else if j < 128 + n then j - 128 else n := by
  unfold zci
  by_cases e : j < 128
  · rw [if_pos e, if_pos ((nI_ltI (by omega) (by decide)).mpr e)]
  · rw [if_neg e, if_neg (fun z => e ((nI_ltI (by omega) (by decide)).mp z))]
    by_cases e2 : j < 128 + n
    · rw [if_pos e2, if_pos ((nI_ltI (by omega) (by omega)).mpr e2), pk_sub (by omega), nI_clamp (by omega)]
    · rw [if_neg e2, if_neg (fun z => e2 ((nI_ltI (by omega) (by omega)).mp z))]
theorem isn.nat {v : Int32} (h : isn v) : ∃ j, j < 256 ∧ v = nI j := by
  obtain ⟨j, hj, rfl⟩ := nI_of h.1
  exact ⟨j, (nI_ltI hj (by decide)).mp h.2, rfl⟩
section CT
variable {w : Nat} {A0 I0 A I : HA} {S : zW} {F : zF} {G : zG} {Q : HA → HA → Prop}
theorem C_arrNo {Q : Int32 → Prop} {K : Nat} (hK : K < 30) (h3 : ¬ (K = 22 ∨ K = 23 ∨ K = 24)) (k : Q (-1)) : D54_arrayOf w (nI K) A I Q := by
  unfold D54_arrayOf
  refine C_needsArray hK (fun z => absurd z h3) (fun _ => ?_)
  rw [i0]; exact k
theorem C_arrAt {Q : Int32 → Prop} {K b : Nat} (h : GC w A0 I0 A I S F) (hg : gRC A0 I0 G) (hK : K < 30) (h3 : K = 22 ∨ K = 23 ∨ K = 24) (ht : tkN K = b + 1) (hb : b < zh S) (k : Q (zpk S b)) : D54_arrayOf w (nI K) A I Q := by
  unfold D54_arrayOf
  refine C_needsArray hK (fun _ => ?_) (fun z => absurd h3 z)
  have := (tk_e K hK).2.2.1
  rw [i1, vpT (by omega) (by decide), C_tk h hg hK, ht, pk_sub (by omega)]
  exact ⟨trivial, C_peek h hb k⟩
theorem C_lengthAt0 {Q : Int32 → Prop} {K : Nat} (hK : K < 30) (h3 : ¬ (K = 22 ∨ K = 23 ∨ K = 24)) (k : Q (nI 0)) : D53_lengthAt w (nI K) A I Q := by
  unfold D53_lengthAt
  exact C_arrNo hK h3 (C_lenNo rfl k)
theorem C_lengthAtK {Q : Int32 → Prop} {K b j : Nat} (h : GC w A0 I0 A I S F) (hg : gRC A0 I0 G) (hK : K < 30) (h3 : K = 22 ∨ K = 23 ∨ K = 24) (ht : tkN K = b + 1) (hb : b < zh S) (hj : j < zn S) (hv : zpk S b = -2 - nI j) (k : Q (nI (zL S j))) : D53_lengthAt w (nI K) A I Q := by
  unfold D53_lengthAt
  exact C_arrAt h hg hK h3 ht hb (C_lenOf h hj hv k)
/-- DIV, REM -/
theorem C_actD {K c : Nat} (h : GC w A0 I0 A I S F) (hg : gRC A0 I0 G) (hok : zok S F) (hN : F.1 < 32258) (hK : K = 9 ∨ K = 10) (hc : c < 100) (hh : 2 ≤ zh S) (hv : ¬ zpk S 0 < 0) (hu : ¬ zpk S 1 < 0) (hp : zpc S < 40) (k : rC w A0 I0 (if c = 0 then zcm S 2 (z2 F K (zpk S 1) (zpk S 0)) else zthr G F S 1) Q) : D48_act w (nI K) (nI c) A I Q := by
  have k1 : if nI c = 0 then D50_compute w (nI K) A I (fun A3 I4 => Q A3 I4) else D51_raise w (nI 1) A I (fun A1 I2 => Q A1 I2) := by
    rw [iEq0 (by omega)]
    by_cases e : c = 0
    · rw [if_pos e] at k ⊢
      exact C_compute2 h hg hok hN ⟨by omega, by omega, by omega⟩ hh hv hu hp k
    · rw [if_neg e] at k ⊢
      exact C_thr h hg (by decide) k
  unfold D48_act
  rcases hK with rfl | rfl <;> simp (decide := true) only [reduceIte] <;> exact k1
/-- LESS, SAME -/
theorem C_actL {K c n : Nat} (h : GC w A0 I0 A I S F) (hg : gRC A0 I0 G) (hp : zpc S < gL G (zq S)) (hK : K = 18 ∨ K = 19) (hc : c < 100) (hn : n ≤ 39) (e : gU G (zq S) (zpc S) = nI n) (hp4 : zpc S < 40) (k : rC w A0 I0 (0, zjump (zdrop S 2) (if c = 0 then n else zpc S + 1), F) Q) : D48_act w (nI K) (nI c) A I Q := by
  have k1 : if nI c = 0 then D49_numberOf w A I (fun v14 => D120_drop w (nI 2) A I (fun A15 I16 => D121_jump w v14 A15 I16 (fun A17 I18 => Q A17 I18))) else D119_operationNow w A I (fun v9 => D120_drop w (nI 2) A I (fun A10 I11 => D121_jump w (v9 + (nI 1)) A10 I11 (fun A12 I13 => Q A12 I13))) := by
    rw [iEq0 (by omega)]
    by_cases e0 : c = 0
    · rw [if_pos e0] at k ⊢
      refine C_numberOf h hg hp ?_
      rw [e]
      exact C_drop h (by decide) (fun A1 h1 => C_jump h1 (by omega) (fun A2 h2 => k _ _ h2))
    · rw [if_neg e0] at k ⊢
      refine C_operationNow h (C_drop h (by decide) (fun A1 h1 => ?_))
      rw [nI_add]
      exact C_jump h1 (by omega) (fun A2 h2 => k _ _ h2)
  unfold D48_act
  rcases hK with rfl | rfl <;> simp (decide := true) only [reduceIte] <;> exact k1
/-- NEW -/
theorem C_actN {c K : Nat} (hK : K = 21) (h : GC w A0 I0 A I S F) (hg : gRC A0 I0 G) (hc : c < 100) (hh : 1 ≤ zh S) (hp : zpc S < 40) (k : rC w A0 I0 (if c = 6 then zthr G F S 3 else if 5 < c ∨ zn S = 4 then zthr G F S 4 else (0, zfin (zarr S c) 1 (-2 - nI (zn S)), F)) Q) : D48_act w (nI K) (nI c) A I Q := by
  subst hK
  have hz := h.wf.hi
  have hn := h.wf.2.2.2.1
  unfold D48_act
  simp (decide := true) only [reduceIte]
  unfold D52_makeArray
  rw [iEq (by omega) (by decide), iLt (by decide) (by omega)]
  by_cases e : c = 6
  · rw [if_pos e] at k ⊢
    exact C_thr h hg (by decide) k
  · rw [if_neg e] at k ⊢
    by_cases e2 : 5 < c
    · rw [if_pos (Or.inl e2)] at k
      rw [if_pos e2]
      exact C_thr h hg (by decide) k
    · rw [if_neg e2]
      refine C_hasAllArrays h ?_
      by_cases e3 : zn S = 4
      · rw [if_pos (Or.inr e3)] at k
        rw [if_pos e3, i1]
        exact C_thr h hg (by decide) k
      · rw [if_neg (by omega)] at k
        rw [if_neg e3, i0]
        exact C_addArray h (by omega) (by omega) (fun A1 I1 h1 => C_finish h1 (by decide) (by show zh S - 1 < 12; omega) hp (fun A2 h2 => k _ _ h2))
/-- GET -/
theorem C_actG {c j K : Nat} (hK : K = 22) (h : GC w A0 I0 A I S F) (hg : gRC A0 I0 G) (hc : c < 100) (hh : 2 ≤ zh S) (hj : j < zn S) (hv : zpk S 1 = -2 - nI j) (hp : zpc S < 40) (k : rC w A0 I0 (if c < zL S j then (0, zfin S 2 (zE S j c), F) else zthr G F S 2) Q) : D48_act w (nI K) (nI c) A I Q := by
  subst hK
  have hz := h.wf.hi
  have hl := h.wf.2.2.2.2.1 j hj
  unfold D48_act
  simp (decide := true) only [reduceIte]
  refine C_lengthAtK (b := 1) h hg (by decide) (by decide) rfl (by omega) hj hv ?_
  rw [iLt (by omega) (by omega)]
  by_cases e : c < zL S j
  · rw [if_pos e] at k ⊢
    unfold D56_useElement
    refine C_arrAt (b := 1) h hg (by decide) (by decide) rfl (by omega) ?_
    rw [if_pos rfl, hv]
    exact C_elementOf h hj e (C_finish h (by decide) (by omega) hp (fun A2 h2 => k _ _ h2))
  · rw [if_neg e] at k ⊢
    exact C_thr h hg (by decide) k
/-- SET -/
theorem C_actS {c j K : Nat} (hK : K = 23) (h : GC w A0 I0 A I S F) (hg : gRC A0 I0 G) (hc : c < 100) (hh : 3 ≤ zh S) (hj : j < zn S) (hv : zpk S 2 = -2 - nI j) (hp : zpc S < 40) (k : rC w A0 I0 (if c < zL S j then (0, znext (zdrop (zset S j c (zpk S 0)) 3), F) else zthr G F S 2) Q) : D48_act w (nI K) (nI c) A I Q := by
  subst hK
  have hz := h.wf.hi
  have hl := h.wf.2.2.2.2.1 j hj
  unfold D48_act
  simp (decide := true) only [reduceIte]
  refine C_lengthAtK (b := 2) h hg (by decide) (by decide) rfl (by omega) hj hv ?_
  rw [iLt (by omega) (by omega)]
  by_cases e : c < zL S j
  · rw [if_pos e] at k ⊢
    unfold D56_useElement
    refine C_arrAt (b := 2) h hg (by decide) (by decide) rfl (by omega) ?_
    rw [if_neg (by decide), hv]
    exact C_peek h (by omega) (C_keepElement h hj e (fun A1 h1 => C_drop h1 (by decide) (fun A2 h2 => C_next h2 hp (fun A3 h3 => k _ _ h3))))
  · rw [if_neg e] at k ⊢
    exact C_thr h hg (by decide) k
theorem C_cmp {Q : Int32 → Prop} {K : Nat} (hK : K < 30) (k1 : K = 18 ∨ K = 19 → Q (nI 1)) (k0 : ¬ (K = 18 ∨ K = 19) → Q (nI 0)) : D64_compares (nI K) Q := by
  unfold D64_compares
  rw [iEq (by omega) (by decide), iEq (by omega) (by decide)]
  split
  · exact k1 (by omega)
  · split
    · exact k1 (by omega)
    · exact k0 (by omega)
/-- what decides, first and second -/
def zlf (K : Nat) (S : zW) : Int32 := if K = 18 ∨ K = 19 ∨ K = 23 then zpk S 1 else zpk S 0
def zrt (K : Nat) (S : zW) : Int32 := if K = 18 ∨ K = 19 then zpk S 0 else nI 128
theorem C_leftOf {Q : Int32 → Prop} {K : Nat} (h : GC w A0 I0 A I S F) (hK : K < 30) (h1 : K = 18 ∨ K = 19 ∨ K = 23 → 1 < zh S) (h0 : 0 < zh S) (k : Q (zlf K S)) : D63_leftOf w (nI K) A I Q := by
  unfold zlf at k
  unfold D63_leftOf
  refine C_cmp hK (fun e => ?_) (fun e => ?_)
  · rw [i1]
    rw [if_pos (by omega)] at k
    exact C_peek h (h1 (by omega)) k
  · rw [i0, iEq (by omega) (by decide)]
    by_cases e2 : K = 23
    · rw [if_pos (by omega)] at k
      rw [if_pos e2]
      exact C_peek h (h1 (by omega)) k
    · rw [if_neg (by omega)] at k
      rw [if_neg e2]
      exact C_peek h h0 k
theorem C_rightOf {Q : Int32 → Prop} {K : Nat} (h : GC w A0 I0 A I S F) (hK : K < 30) (h0 : K = 18 ∨ K = 19 → 0 < zh S) (k : Q (zrt K S)) : D65_rightOf w (nI K) A I Q := by
  unfold zrt at k
  unfold D65_rightOf
  refine C_cmp hK (fun e => ?_) (fun e => ?_)
  · rw [i1]
    rw [if_pos e] at k
    exact C_peek h (h0 e) k
  · rw [i0]
    rw [if_neg e] at k
    unfold D27_number
    rw [subE, nI_add]
    exact k
end CT
section CSr
variable {w : Nat} {A I : HA} {Q : Int32 → HA → HA → Prop}
theorem r58x_9 {K : Nat} (hK : K = 9) {a : Int32} (k : D63_leftOf w (nI K) A I (fun v14 => D65_rightOf w (nI K) A I (fun v15 => D25_isNumber v14 (fun v16 => if v16 = 0 then Q (nI 1) A I else D25_isNumber v15 (fun v17 => if v17 = 0 then Q (nI 1) A I else D26_numberIn v14 (fun v18 => D26_numberIn v15 (fun v19 => D53_lengthAt w (nI K) A I (fun v20 => D66_choose (nI K) v18 v19 v20 (fun v21 => D48_act w (nI K) v21 A I (fun A22 I23 => Q (nI 0) A22 I23)))))))))) : R58 w (nI K) a A I Q := by subst hK; exact r58_9 k
theorem ch_9 {Q : Int32 → Prop} {K : Nat} (hK : K = 9) {y z u : Int32} (k : if y = 0 then Q (nI 1) else Q (nI 0)) : D66_choose (nI K) y z u Q := by
  subst hK
  unfold D66_choose
  simp (decide := true) only [reduceIte]
  exact k
theorem r58x_10 {K : Nat} (hK : K = 10) {a : Int32} (k : D63_leftOf w (nI K) A I (fun v14 => D65_rightOf w (nI K) A I (fun v15 => D25_isNumber v14 (fun v16 => if v16 = 0 then Q (nI 1) A I else D25_isNumber v15 (fun v17 => if v17 = 0 then Q (nI 1) A I else D26_numberIn v14 (fun v18 => D26_numberIn v15 (fun v19 => D53_lengthAt w (nI K) A I (fun v20 => D66_choose (nI K) v18 v19 v20 (fun v21 => D48_act w (nI K) v21 A I (fun A22 I23 => Q (nI 0) A22 I23)))))))))) : R58 w (nI K) a A I Q := by subst hK; exact r58_10 k
theorem ch_10 {Q : Int32 → Prop} {K : Nat} (hK : K = 10) {y z u : Int32} (k : if y = 0 then Q (nI 1) else Q (nI 0)) : D66_choose (nI K) y z u Q := by
  subst hK
  unfold D66_choose
  simp (decide := true) only [reduceIte]
  exact k
theorem r58x_18 {K : Nat} (hK : K = 18) {a : Int32} (k : D63_leftOf w (nI K) A I (fun v14 => D65_rightOf w (nI K) A I (fun v15 => D25_isNumber v14 (fun v16 => if v16 = 0 then Q (nI 1) A I else D25_isNumber v15 (fun v17 => if v17 = 0 then Q (nI 1) A I else D26_numberIn v14 (fun v18 => D26_numberIn v15 (fun v19 => D53_lengthAt w (nI K) A I (fun v20 => D66_choose (nI K) v18 v19 v20 (fun v21 => D48_act w (nI K) v21 A I (fun A22 I23 => Q (nI 0) A22 I23)))))))))) : R58 w (nI K) a A I Q := by subst hK; exact r58_18 k
theorem ch_18 {Q : Int32 → Prop} {K : Nat} (hK : K = 18) {y z u : Int32} (k : if y < z then Q (nI 0) else Q (nI 1)) : D66_choose (nI K) y z u Q := by
  subst hK
  unfold D66_choose
  simp (decide := true) only [reduceIte]
  exact k
theorem r58x_19 {K : Nat} (hK : K = 19) {a : Int32} (k : D63_leftOf w (nI K) A I (fun v14 => D65_rightOf w (nI K) A I (fun v15 => D25_isNumber v14 (fun v16 => if v16 = 0 then Q (nI 1) A I else D25_isNumber v15 (fun v17 => if v17 = 0 then Q (nI 1) A I else D26_numberIn v14 (fun v18 => D26_numberIn v15 (fun v19 => D53_lengthAt w (nI K) A I (fun v20 => D66_choose (nI K) v18 v19 v20 (fun v21 => D48_act w (nI K) v21 A I (fun A22 I23 => Q (nI 0) A22 I23)))))))))) : R58 w (nI K) a A I Q := by subst hK; exact r58_19 k
theorem ch_19 {Q : Int32 → Prop} {K : Nat} (hK : K = 19) {y z u : Int32} (k : if y = z then Q (nI 0) else Q (nI 1)) : D66_choose (nI K) y z u Q := by
  subst hK
  unfold D66_choose
  simp (decide := true) only [reduceIte]
  exact k
theorem r58x_21 {K : Nat} (hK : K = 21) {a : Int32} (k : D63_leftOf w (nI K) A I (fun v14 => D65_rightOf w (nI K) A I (fun v15 => D25_isNumber v14 (fun v16 => if v16 = 0 then Q (nI 1) A I else D25_isNumber v15 (fun v17 => if v17 = 0 then Q (nI 1) A I else D26_numberIn v14 (fun v18 => D26_numberIn v15 (fun v19 => D53_lengthAt w (nI K) A I (fun v20 => D66_choose (nI K) v18 v19 v20 (fun v21 => D48_act w (nI K) v21 A I (fun A22 I23 => Q (nI 0) A22 I23)))))))))) : R58 w (nI K) a A I Q := by subst hK; exact r58_21 k
theorem ch_21 {Q : Int32 → Prop} {K : Nat} (hK : K = 21) {y z u : Int32} (k : if y < 0 then Q (nI 6) else if (nI 5) < y then Q (nI 7) else Q y) : D66_choose (nI K) y z u Q := by
  subst hK
  unfold D66_choose
  simp (decide := true) only [reduceIte]
  exact k
theorem r58x_22 {K : Nat} (hK : K = 22) {a : Int32} (k : D54_arrayOf w (nI K) A I (fun v24 => if v24 = (-1) then D51_raise w (nI 5) A I (fun A44 I45 => Q (nI 0) A44 I45) else D63_leftOf w (nI K) A I (fun v14 => D65_rightOf w (nI K) A I (fun v15 => D25_isNumber v14 (fun v16 => if v16 = 0 then Q (nI 1) A I else D25_isNumber v15 (fun v17 => if v17 = 0 then Q (nI 1) A I else D26_numberIn v14 (fun v18 => D26_numberIn v15 (fun v19 => D53_lengthAt w (nI K) A I (fun v20 => D66_choose (nI K) v18 v19 v20 (fun v21 => D48_act w (nI K) v21 A I (fun A22 I23 => Q (nI 0) A22 I23))))))))))) : R58 w (nI K) a A I Q := by subst hK; exact r58_22 k
theorem ch_22 {Q : Int32 → Prop} {K : Nat} (hK : K = 22) {y z u : Int32} (k : if y < 0 then Q u else if y < u then Q y else Q u) : D66_choose (nI K) y z u Q := by
  subst hK
  unfold D66_choose
  simp (decide := true) only [reduceIte]
  exact k
theorem r58x_23 {K : Nat} (hK : K = 23) {a : Int32} (k : D54_arrayOf w (nI K) A I (fun v24 => if v24 = (-1) then D51_raise w (nI 5) A I (fun A44 I45 => Q (nI 0) A44 I45) else D63_leftOf w (nI K) A I (fun v14 => D65_rightOf w (nI K) A I (fun v15 => D25_isNumber v14 (fun v16 => if v16 = 0 then Q (nI 1) A I else D25_isNumber v15 (fun v17 => if v17 = 0 then Q (nI 1) A I else D26_numberIn v14 (fun v18 => D26_numberIn v15 (fun v19 => D53_lengthAt w (nI K) A I (fun v20 => D66_choose (nI K) v18 v19 v20 (fun v21 => D48_act w (nI K) v21 A I (fun A22 I23 => Q (nI 0) A22 I23))))))))))) : R58 w (nI K) a A I Q := by subst hK; exact r58_23 k
theorem ch_23 {Q : Int32 → Prop} {K : Nat} (hK : K = 23) {y z u : Int32} (k : if y < 0 then Q u else if y < u then Q y else Q u) : D66_choose (nI K) y z u Q := by
  subst hK
  unfold D66_choose
  simp (decide := true) only [reduceIte]
  exact k
end CSr
section CSt
variable {w : Nat} {A0 I0 A I : HA} {S : zW} {F : zF} {G : zG} {Q : Int32 → HA → HA → Prop}
theorem act_nN {c : Nat} {X : zW} : ¬ (if c = 6 then zthr G F S 3 else if 5 < c ∨ zn S = 4 then zthr G F S 4 else (0, X, F)).1 = 2 := by
  split
  · exact zthr_n
  · split
    · exact zthr_n
    · intro y; cases y
theorem act_nG {p : Prop} [Decidable p] {X : zW} : ¬ (if p then (0, X, F) else zthr G F S 2).1 = 2 := by
  split
  · intro y; cases y
  · exact zthr_n
set_option maxRecDepth 100000 in
theorem cs_9 {K : Nat} (hK : K = 9) (h : GC w A0 I0 A I S F) (hg : gRC A0 I0 G) (hok : zok S F) (hN : F.1 < 32258) (hp : zpc S < gL G (zq S)) (ho : gO G (zq S) (zpc S) = K) (k : CSk w A0 I0 (zoper G none F S) A I Q) : D58_stopsToSplit w A I Q := by
  have hz := h.wf.hi
  have h40 := g_pc hg h.wf hp
  have hr := g_num hg h.wf hp (ho.trans hK)
  have e := zo_9 (alt := none) (F := F) (ho.trans hK)
  refine cs_pre h hg hp ho (by omega) (by omega) (fun z => absurd z (by omega)) (fun z => ?_) (fun z => r58x_9 hK ?_)
  · rw [zb_w2 hz.2.2.2 (by subst hK; rfl) (by subst hK; decide) (by omega) (by unfold rfo; omega) (by omega)] at z
    exact k.bk (by rw [e, if_pos z])
  · rw [zb_w2 hz.2.2.2 (by subst hK; rfl) (by subst hK; decide) (by omega) (by unfold rfo; omega) (by omega)] at z
    rw [if_neg z] at e
    have v0 : ¬ zpk S 0 < 0 := fun y => z (Or.inr (Or.inl y))
    have v1 : ¬ zpk S 1 < 0 := fun y => z (Or.inr (Or.inr y))
    have hh : 2 ≤ zh S := by omega
    refine C_leftOf h (by omega) (fun _ => by omega) (by omega) (C_rightOf h (by omega) (fun _ => by omega) ?_)
    rw [show zlf K S = zpk S 0 from if_neg (by omega), show zrt K S = nI 128 from if_neg (by omega)]
    refine C_isNumber (fun c => ?_) (fun c => ?_)
    · rw [i1]
      rw [if_pos c] at e
      refine C_isNumber (fun _ => ?_) (fun y => absurd (by decide) y)
      rw [i1]
      unfold D26_numberIn
      generalize hy : zpk S 0 + (-128) = y0
      refine C_lengthAt0 (by omega) (by omega) ?_
      refine ch_9 hK ?_
      by_cases c0 : zpk S 0 = nI 128
      · rw [if_pos c0] at e
        rw [if_pos (hy.symm.trans (nb0.mpr c0))]
        have k := k.go e zthr_n
        exact C_actD h hg hok hN (by omega) (by decide) hh v0 v1 h40 (by rw [if_neg (by decide)]; exact k)
      · rw [if_neg c0] at e
        rw [if_neg (fun y => c0 (nb0.mp (hy.trans y)))]
        have k := k.go e zcm_n
        exact C_actD h hg hok hN (by omega) (by decide) hh v0 v1 h40 (by rw [if_pos rfl]; subst hK; exact k)
    · rw [i0]
      rw [if_neg c] at e
      exact k.sp e
set_option maxRecDepth 100000 in
theorem cs_10 {K : Nat} (hK : K = 10) (h : GC w A0 I0 A I S F) (hg : gRC A0 I0 G) (hok : zok S F) (hN : F.1 < 32258) (hp : zpc S < gL G (zq S)) (ho : gO G (zq S) (zpc S) = K) (k : CSk w A0 I0 (zoper G none F S) A I Q) : D58_stopsToSplit w A I Q := by
  have hz := h.wf.hi
  have h40 := g_pc hg h.wf hp
  have hr := g_num hg h.wf hp (ho.trans hK)
  have e := zo_10 (alt := none) (F := F) (ho.trans hK)
  refine cs_pre h hg hp ho (by omega) (by omega) (fun z => absurd z (by omega)) (fun z => ?_) (fun z => r58x_10 hK ?_)
  · rw [zb_w2 hz.2.2.2 (by subst hK; rfl) (by subst hK; decide) (by omega) (by unfold rfo; omega) (by omega)] at z
    exact k.bk (by rw [e, if_pos z])
  · rw [zb_w2 hz.2.2.2 (by subst hK; rfl) (by subst hK; decide) (by omega) (by unfold rfo; omega) (by omega)] at z
    rw [if_neg z] at e
    have v0 : ¬ zpk S 0 < 0 := fun y => z (Or.inr (Or.inl y))
    have v1 : ¬ zpk S 1 < 0 := fun y => z (Or.inr (Or.inr y))
    have hh : 2 ≤ zh S := by omega
    refine C_leftOf h (by omega) (fun _ => by omega) (by omega) (C_rightOf h (by omega) (fun _ => by omega) ?_)
    rw [show zlf K S = zpk S 0 from if_neg (by omega), show zrt K S = nI 128 from if_neg (by omega)]
    refine C_isNumber (fun c => ?_) (fun c => ?_)
    · rw [i1]
      rw [if_pos c] at e
      refine C_isNumber (fun _ => ?_) (fun y => absurd (by decide) y)
      rw [i1]
      unfold D26_numberIn
      generalize hy : zpk S 0 + (-128) = y0
      refine C_lengthAt0 (by omega) (by omega) ?_
      refine ch_10 hK ?_
      by_cases c0 : zpk S 0 = nI 128
      · rw [if_pos c0] at e
        rw [if_pos (hy.symm.trans (nb0.mpr c0))]
        have k := k.go e zthr_n
        exact C_actD h hg hok hN (by omega) (by decide) hh v0 v1 h40 (by rw [if_neg (by decide)]; exact k)
      · rw [if_neg c0] at e
        rw [if_neg (fun y => c0 (nb0.mp (hy.trans y)))]
        have k := k.go e zcm_n
        exact C_actD h hg hok hN (by omega) (by decide) hh v0 v1 h40 (by rw [if_pos rfl]; subst hK; exact k)
    · rw [i0]
      rw [if_neg c] at e
      exact k.sp e
set_option maxRecDepth 100000 in
theorem cs_18 {K : Nat} (hK : K = 18) (h : GC w A0 I0 A I S F) (hg : gRC A0 I0 G) (hok : zok S F) (hN : F.1 < 32258) (hp : zpc S < gL G (zq S)) (ho : gO G (zq S) (zpc S) = K) (k : CSk w A0 I0 (zoper G none F S) A I Q) : D58_stopsToSplit w A I Q := by
  have hz := h.wf.hi
  have h40 := g_pc hg h.wf hp
  have hr := g_num hg h.wf hp (ho.trans hK)
  have e := zo_18 (alt := none) (F := F) (ho.trans hK)
  refine cs_pre h hg hp ho (by omega) (by omega) (fun z => absurd z (by omega)) (fun z => ?_) (fun z => r58x_18 hK ?_)
  · rw [zb_w2 hz.2.2.2 (by subst hK; rfl) (by subst hK; decide) (by omega) (by unfold rfo; omega) (by omega)] at z
    exact k.bk (by rw [e, if_pos z])
  · rw [zb_w2 hz.2.2.2 (by subst hK; rfl) (by subst hK; decide) (by omega) (by unfold rfo; omega) (by omega)] at z
    obtain ⟨n, -, i2, ei⟩ := rg_nat hr (by decide) (by decide)
    rw [ei, nI_clamp (by omega), if_neg z] at e
    have hh : 2 ≤ zh S := by omega
    refine C_leftOf h (by omega) (fun _ => by omega) (by omega) (C_rightOf h (by omega) (fun _ => by omega) ?_)
    rw [show zlf K S = zpk S 1 from if_pos (by omega), show zrt K S = zpk S 0 from if_pos (by omega)]
    refine C_isNumber (fun c => ?_) (fun c => ?_)
    · rw [i1]
      refine C_isNumber (fun c2 => ?_) (fun c2 => ?_)
      · rw [i1]
        rw [if_pos ⟨c, c2⟩] at e
        have k := k.go e (by intro y; cases y)
        obtain ⟨i, hi, ii⟩ := c.nat
        obtain ⟨j, hj, jj⟩ := c2.nat
        have cc : zpk S 1 + (-128) < zpk S 0 + (-128) ↔ zpk S 1 < zpk S 0 := by rw [ii, jj]; exact nbL hi hj
        unfold D26_numberIn
        generalize zpk S 1 + (-128) = y0 at cc ⊢
        generalize zpk S 0 + (-128) = y1 at cc ⊢
        refine C_lengthAt0 (by omega) (by omega) ?_
        refine ch_18 hK ?_
        by_cases c0 : zpk S 1 < zpk S 0
        · rw [if_pos c0] at k
          rw [if_pos (cc.mpr c0)]
          exact C_actL h hg hp (by omega) (by decide) i2 ei h40 (by rw [if_pos rfl]; exact k)
        · rw [if_neg c0] at k
          rw [if_neg (fun y => c0 (cc.mp y))]
          exact C_actL h hg hp (by omega) (by decide) i2 ei h40 (by rw [if_neg (by decide)]; exact k)
      · rw [i0]
        rw [if_neg (fun y => c2 y.2)] at e
        exact k.sp e
    · rw [i0]
      rw [if_neg (fun y => c y.1)] at e
      exact k.sp e
set_option maxRecDepth 100000 in
theorem cs_19 {K : Nat} (hK : K = 19) (h : GC w A0 I0 A I S F) (hg : gRC A0 I0 G) (hok : zok S F) (hN : F.1 < 32258) (hp : zpc S < gL G (zq S)) (ho : gO G (zq S) (zpc S) = K) (k : CSk w A0 I0 (zoper G none F S) A I Q) : D58_stopsToSplit w A I Q := by
  have hz := h.wf.hi
  have h40 := g_pc hg h.wf hp
  have hr := g_num hg h.wf hp (ho.trans hK)
  have e := zo_19 (alt := none) (F := F) (ho.trans hK)
  refine cs_pre h hg hp ho (by omega) (by omega) (fun z => absurd z (by omega)) (fun z => ?_) (fun z => r58x_19 hK ?_)
  · rw [zb_w2 hz.2.2.2 (by subst hK; rfl) (by subst hK; decide) (by omega) (by unfold rfo; omega) (by omega)] at z
    exact k.bk (by rw [e, if_pos z])
  · rw [zb_w2 hz.2.2.2 (by subst hK; rfl) (by subst hK; decide) (by omega) (by unfold rfo; omega) (by omega)] at z
    obtain ⟨n, -, i2, ei⟩ := rg_nat hr (by decide) (by decide)
    rw [ei, nI_clamp (by omega), if_neg z] at e
    have hh : 2 ≤ zh S := by omega
    refine C_leftOf h (by omega) (fun _ => by omega) (by omega) (C_rightOf h (by omega) (fun _ => by omega) ?_)
    rw [show zlf K S = zpk S 1 from if_pos (by omega), show zrt K S = zpk S 0 from if_pos (by omega)]
    refine C_isNumber (fun c => ?_) (fun c => ?_)
    · rw [i1]
      refine C_isNumber (fun c2 => ?_) (fun c2 => ?_)
      · rw [i1]
        rw [if_pos ⟨c, c2⟩] at e
        have k := k.go e (by intro y; cases y)
        obtain ⟨i, hi, ii⟩ := c.nat
        obtain ⟨j, hj, jj⟩ := c2.nat
        have cc : zpk S 1 + (-128) = zpk S 0 + (-128) ↔ zpk S 1 = zpk S 0 := by rw [ii, jj]; exact nbE
        unfold D26_numberIn
        generalize zpk S 1 + (-128) = y0 at cc ⊢
        generalize zpk S 0 + (-128) = y1 at cc ⊢
        refine C_lengthAt0 (by omega) (by omega) ?_
        refine ch_19 hK ?_
        by_cases c0 : zpk S 1 = zpk S 0
        · rw [if_pos c0] at k
          rw [if_pos (cc.mpr c0)]
          exact C_actL h hg hp (by omega) (by decide) i2 ei h40 (by rw [if_pos rfl]; exact k)
        · rw [if_neg c0] at k
          rw [if_neg (fun y => c0 (cc.mp y))]
          exact C_actL h hg hp (by omega) (by decide) i2 ei h40 (by rw [if_neg (by decide)]; exact k)
      · rw [i0]
        rw [if_neg (fun y => c2 y.2)] at e
        exact k.sp e
    · rw [i0]
      rw [if_neg (fun y => c y.1)] at e
      exact k.sp e
set_option maxRecDepth 100000 in
theorem cs_21 {K : Nat} (hK : K = 21) (h : GC w A0 I0 A I S F) (hg : gRC A0 I0 G) (hok : zok S F) (hN : F.1 < 32258) (hp : zpc S < gL G (zq S)) (ho : gO G (zq S) (zpc S) = K) (k : CSk w A0 I0 (zoper G none F S) A I Q) : D58_stopsToSplit w A I Q := by
  have hz := h.wf.hi
  have h40 := g_pc hg h.wf hp
  have hr := g_num hg h.wf hp (ho.trans hK)
  have e := zo_21 (alt := none) (F := F) (ho.trans hK)
  refine cs_pre h hg hp ho (by omega) (by omega) (fun z => absurd z (by omega)) (fun z => ?_) (fun z => r58x_21 hK ?_)
  · rw [zb_w1 hz.2.2.2 (by subst hK; rfl) (by subst hK; decide) (by omega) (by unfold rfo; omega) (by omega)] at z
    exact k.bk (by rw [e, if_pos z])
  · rw [zb_w1 hz.2.2.2 (by subst hK; rfl) (by subst hK; decide) (by omega) (by unfold rfo; omega) (by omega)] at z
    rw [if_neg z] at e
    have hh : 1 ≤ zh S := by omega
    refine C_leftOf h (by omega) (fun y => absurd y (by omega)) (by omega) (C_rightOf h (by omega) (fun y => absurd y (by omega)) ?_)
    rw [show zlf K S = zpk S 0 from if_neg (by omega), show zrt K S = nI 128 from if_neg (by omega)]
    refine C_isNumber (fun c => ?_) (fun c => ?_)
    · rw [i1]
      rw [if_pos c] at e
      refine C_isNumber (fun _ => ?_) (fun y => absurd (by decide) y)
      rw [i1]
      obtain ⟨j, hj, jj⟩ := c.nat
      unfold D26_numberIn
      generalize hy : zpk S 0 + (-128) = y0
      rw [jj] at hy
      refine C_lengthAt0 (by omega) (by omega) ?_
      refine ch_21 hK ?_
      rw [jj, zcl_nI hj] at e
      have k := k.go (r := if (if j < 128 then 6 else if 133 < j then 7 else j - 128) = 6 then zthr G F S 3 else if 5 < (if j < 128 then 6 else if 133 < j then 7 else j - 128) ∨ zn S = 4 then zthr G F S 4 else (0, zfin (zarr S (if j < 128 then 6 else if 133 < j then 7 else j - 128)) 1 (-2 - nI (zn S)), F)) e act_nN
      have act := fun (q : Nat) (hq : q < 100) (e : q = (if j < 128 then 6 else if 133 < j then 7 else j - 128)) => C_actN (c := q) (Q := Q (nI 0)) hK h hg hq hh h40 (by rw [e]; exact k)
      by_cases c1 : j < 128
      · rw [if_pos (by rw [← hy]; exact (nb_neg hj).mpr c1)]
        exact act 6 (by decide) (by rw [if_pos c1])
      · rw [if_neg (by rw [← hy]; exact fun y => c1 ((nb_neg hj).mp y)), ← hy, nbN (by omega), iLt (by decide) (by omega)]
        by_cases c2 : 5 < j - 128
        · rw [if_pos c2]
          exact act 7 (by decide) (by rw [if_neg c1, if_pos (by omega)])
        · rw [if_neg c2]
          exact act (j - 128) (by omega) (by rw [if_neg c1, if_neg (by omega)])
    · rw [i0]
      rw [if_neg c] at e
      exact k.sp e
set_option maxRecDepth 100000 in
theorem cs_22 {K : Nat} (hK : K = 22) (h : GC w A0 I0 A I S F) (hg : gRC A0 I0 G) (hok : zok S F) (hN : F.1 < 32258) (hp : zpc S < gL G (zq S)) (ho : gO G (zq S) (zpc S) = K) (k : CSk w A0 I0 (zoper G none F S) A I Q) : D58_stopsToSplit w A I Q := by
  have hz := h.wf.hi
  have h40 := g_pc hg h.wf hp
  have hr := g_num hg h.wf hp (ho.trans hK)
  have e := zo_22 (alt := none) (F := F) (ho.trans hK)
  refine cs_pre h hg hp ho (by omega) (by omega) (fun z => absurd z (by omega)) (fun z => ?_) (fun z => r58x_22 hK ?_)
  · rw [hK, zb_22 hz.2.2.2] at z
    exact k.bk (by rw [e, if_pos z])
  · rw [hK, zb_22 hz.2.2.2] at z
    rw [if_neg z] at e
    have hh : 2 ≤ zh S := by omega
    have hv : zpk S 1 < 0 := Decidable.byContradiction fun y => z (Or.inr (Or.inr y))
    refine C_arrAt (b := 1) h hg (by omega) (by omega) (by subst hK; rfl) (by omega) ?_
    rcases (hok.pk (b := 1) (by omega)).ref hv (by omega) with y | ⟨j, hj, y⟩
    · rw [if_pos y] at e ⊢
      exact C_thr h hg (by decide) (k.go e zthr_n)
    · have hn := h.wf.2.2.2.1
      have hl := h.wf.2.2.2.2.1 j hj
      have y0 : ¬ zpk S 1 = -1 := by rw [y]; exact ar_n1 j (by omega)
      rw [if_neg y0] at e ⊢
      rw [y, zar_nI (by omega)] at e
      refine C_leftOf h (by omega) (fun _ => by omega) (by omega) (C_rightOf h (by omega) (fun _ => by omega) ?_)
      rw [show zlf K S = zpk S 0 from if_neg (by omega), show zrt K S = nI 128 from if_neg (by omega)]
      refine C_isNumber (fun c => ?_) (fun c => ?_)
      · rw [i1]
        rw [if_pos c] at e
        refine C_isNumber (fun _ => ?_) (fun y => absurd (by decide) y)
        rw [i1]
        obtain ⟨i, hi, ii⟩ := c.nat
        unfold D26_numberIn
        generalize hy : zpk S 0 + (-128) = y0
        rw [ii] at hy
        refine C_lengthAtK (b := 1) h hg (by omega) (by omega) (by subst hK; rfl) (by omega) hj y ?_
        refine ch_22 hK ?_
        rw [ii, zci_nI hi hl] at e
        have k := k.go (r := if (if i < 128 then zL S j else if i < 128 + zL S j then i - 128 else zL S j) < zL S j then (0, zfin S 2 (zE S j (if i < 128 then zL S j else if i < 128 + zL S j then i - 128 else zL S j)), F) else zthr G F S 2) e act_nG
        have act := fun (q : Nat) (hq : q < 100) (e : q = (if i < 128 then zL S j else if i < 128 + zL S j then i - 128 else zL S j)) => C_actG (c := q) (Q := Q (nI 0)) hK h hg hq hh hj y h40 (by rw [e]; exact k)
        by_cases c1 : i < 128
        · rw [if_pos (by rw [← hy]; exact (nb_neg hi).mpr c1)]
          exact act (zL S j) (by omega) (by rw [if_pos c1])
        · rw [if_neg (by rw [← hy]; exact fun y => c1 ((nb_neg hi).mp y)), ← hy, nbN (by omega), iLt (by omega) (by omega)]
          by_cases c2 : i - 128 < zL S j
          · rw [if_pos c2]
            exact act (i - 128) (by omega) (by rw [if_neg c1, if_pos (by omega)])
          · rw [if_neg c2]
            exact act (zL S j) (by omega) (by rw [if_neg c1, if_neg (by omega)])
      · rw [i0]
        rw [if_neg c] at e
        exact k.sp e
set_option maxRecDepth 100000 in
theorem cs_23 {K : Nat} (hK : K = 23) (h : GC w A0 I0 A I S F) (hg : gRC A0 I0 G) (hok : zok S F) (hN : F.1 < 32258) (hp : zpc S < gL G (zq S)) (ho : gO G (zq S) (zpc S) = K) (k : CSk w A0 I0 (zoper G none F S) A I Q) : D58_stopsToSplit w A I Q := by
  have hz := h.wf.hi
  have h40 := g_pc hg h.wf hp
  have hr := g_num hg h.wf hp (ho.trans hK)
  have e := zo_23 (alt := none) (F := F) (ho.trans hK)
  refine cs_pre h hg hp ho (by omega) (by omega) (fun z => absurd z (by omega)) (fun z => ?_) (fun z => r58x_23 hK ?_)
  · rw [hK, zb_23 hz.2.2.2] at z
    exact k.bk (by rw [e, if_pos z])
  · rw [hK, zb_23 hz.2.2.2] at z
    rw [if_neg z] at e
    have hh : 3 ≤ zh S := by omega
    have hv : zpk S 2 < 0 := Decidable.byContradiction fun y => z (Or.inr (Or.inr (Or.inr y)))
    refine C_arrAt (b := 2) h hg (by omega) (by omega) (by subst hK; rfl) (by omega) ?_
    rcases (hok.pk (b := 2) (by omega)).ref hv (by omega) with y | ⟨j, hj, y⟩
    · rw [if_pos y] at e ⊢
      exact C_thr h hg (by decide) (k.go e zthr_n)
    · have hn := h.wf.2.2.2.1
      have hl := h.wf.2.2.2.2.1 j hj
      have y0 : ¬ zpk S 2 = -1 := by rw [y]; exact ar_n1 j (by omega)
      rw [if_neg y0] at e ⊢
      rw [y, zar_nI (by omega)] at e
      refine C_leftOf h (by omega) (fun _ => by omega) (by omega) (C_rightOf h (by omega) (fun _ => by omega) ?_)
      rw [show zlf K S = zpk S 1 from if_pos (by omega), show zrt K S = nI 128 from if_neg (by omega)]
      refine C_isNumber (fun c => ?_) (fun c => ?_)
      · rw [i1]
        rw [if_pos c] at e
        refine C_isNumber (fun _ => ?_) (fun y => absurd (by decide) y)
        rw [i1]
        obtain ⟨i, hi, ii⟩ := c.nat
        unfold D26_numberIn
        generalize hy : zpk S 1 + (-128) = y0
        rw [ii] at hy
        refine C_lengthAtK (b := 2) h hg (by omega) (by omega) (by subst hK; rfl) (by omega) hj y ?_
        refine ch_23 hK ?_
        rw [ii, zci_nI hi hl] at e
        have k := k.go (r := if (if i < 128 then zL S j else if i < 128 + zL S j then i - 128 else zL S j) < zL S j then (0, znext (zdrop (zset S j (if i < 128 then zL S j else if i < 128 + zL S j then i - 128 else zL S j) (zpk S 0)) 3), F) else zthr G F S 2) e act_nG
        have act := fun (q : Nat) (hq : q < 100) (e : q = (if i < 128 then zL S j else if i < 128 + zL S j then i - 128 else zL S j)) => C_actS (c := q) (Q := Q (nI 0)) hK h hg hq hh hj y h40 (by rw [e]; exact k)
        by_cases c1 : i < 128
        · rw [if_pos (by rw [← hy]; exact (nb_neg hi).mpr c1)]
          exact act (zL S j) (by omega) (by rw [if_pos c1])
        · rw [if_neg (by rw [← hy]; exact fun y => c1 ((nb_neg hi).mp y)), ← hy, nbN (by omega), iLt (by omega) (by omega)]
          by_cases c2 : i - 128 < zL S j
          · rw [if_pos c2]
            exact act (i - 128) (by omega) (by rw [if_neg c1, if_pos (by omega)])
          · rw [if_neg c2]
            exact act (zL S j) (by omega) (by rw [if_neg c1, if_neg (by omega)])
      · rw [i0]
        rw [if_neg c] at e
        exact k.sp e
/-- THE CLASS DOES ONE OPERATION as the pure one -/
theorem C_step (h : GC w A0 I0 A I S F) (hg : gRC A0 I0 G) (hok : zok S F) (hN : F.1 < 32258) (hp : zpc S < gL G (zq S)) (k : CSk w A0 I0 (zoper G none F S) A I Q) : D58_stopsToSplit w A I Q := by
  have ho := ((hg.1.2.2 (zq S) h.wf.hi.2.1).2.2.1 (zpc S) hp).1
  generalize e : gO G (zq S) (zpc S) = K at ho
  rcases (show K = 0 ∨ K = 1 ∨ K = 2 ∨ K = 3 ∨ K = 4 ∨ K = 5 ∨ K = 6 ∨ K = 7 ∨ K = 8 ∨ K = 9 ∨ K = 10 ∨ K = 11 ∨ K = 12 ∨ K = 13 ∨ K = 14 ∨ K = 15 ∨ K = 16 ∨ K = 17 ∨ K = 18 ∨ K = 19 ∨ K = 20 ∨ K = 21 ∨ K = 22 ∨ K = 23 ∨ K = 24 ∨ K = 25 ∨ K = 26 ∨ K = 27 ∨ K = 28 ∨ K = 29 by omega) with rfl | rfl | rfl | rfl | rfl | rfl | rfl | rfl | rfl | rfl | rfl | rfl | rfl | rfl | rfl | rfl | rfl | rfl | rfl | rfl | rfl | rfl | rfl | rfl | rfl | rfl | rfl | rfl | rfl | rfl
  · exact cs_0 h hg hok hN hp e k
  · exact cs_1 h hg hok hN hp e k
  · exact cs_2 h hg hok hN hp e k
  · exact cs_3 h hg hok hN hp e k
  · exact cs_4 h hg hok hN hp e k
  · exact cs_5 h hg hok hN hp e k
  · exact cs_6 h hg hok hN hp e k
  · exact cs_7 h hg hok hN hp e k
  · exact cs_8 h hg hok hN hp e k
  · exact cs_9 rfl h hg hok hN hp e k
  · exact cs_10 rfl h hg hok hN hp e k
  · exact cs_11 h hg hok hN hp e k
  · exact cs_12 h hg hok hN hp e k
  · exact cs_13 h hg hok hN hp e k
  · exact cs_14 h hg hok hN hp e k
  · exact cs_15 h hg hok hN hp e k
  · exact cs_16 h hg hok hN hp e k
  · exact cs_17 h hg hok hN hp e k
  · exact cs_18 rfl h hg hok hN hp e k
  · exact cs_19 rfl h hg hok hN hp e k
  · exact cs_20 h hg hok hN hp e k
  · exact cs_21 rfl h hg hok hN hp e k
  · exact cs_22 rfl h hg hok hN hp e k
  · exact cs_23 rfl h hg hok hN hp e k
  · exact cs_24 h hg hok hN hp e k
  · exact cs_25 h hg hok hN hp e k
  · exact cs_26 h hg hok hN hp e k
  · exact cs_27 h hg hok hN hp e k
  · exact cs_28 h hg hok hN hp e k
  · exact cs_29 h hg hok hN hp e k
end CSt
