/-! THE CLASS does one operation as the pure one -/
def R58 (w : Nat) (v1 v2 : Int32) (A I : HA) (Q : Int32 → HA → HA → Prop) : Prop := D55_needsArray v1 (fun v4 => if v4 = 0 then D62_isDecided v1 (fun v5 => if v5 = 0 then if (nI 5) < v1 then if v1 = (nI 28) then D67_moveValues w v1 v2 A I (fun A12 I13 => Q (nI 0) A12 I13) else if (nI 16) < v1 then D68_goElsewhere w v1 v2 A I (fun A8 I9 => Q (nI 0) A8 I9) else D50_compute w v1 A I (fun A10 I11 => Q (nI 0) A10 I11) else D67_moveValues w v1 v2 A I (fun A6 I7 => Q (nI 0) A6 I7) else D63_leftOf w v1 A I (fun v14 => D65_rightOf w v1 A I (fun v15 => D25_isNumber v14 (fun v16 => if v16 = 0 then Q (nI 1) A I else D25_isNumber v15 (fun v17 => if v17 = 0 then Q (nI 1) A I else D26_numberIn v14 (fun v18 => D26_numberIn v15 (fun v19 => D53_lengthAt w v1 A I (fun v20 => D66_choose v1 v18 v19 v20 (fun v21 => D48_act w v1 v21 A I (fun A22 I23 => Q (nI 0) A22 I23)))))))))) else D54_arrayOf w v1 A I (fun v24 => if v24 = (-1) then D51_raise w (nI 5) A I (fun A44 I45 => Q (nI 0) A44 I45) else D62_isDecided v1 (fun v25 => if v25 = 0 then if (nI 5) < v1 then if v1 = (nI 28) then D67_moveValues w v1 v2 A I (fun A32 I33 => Q (nI 0) A32 I33) else if (nI 16) < v1 then D68_goElsewhere w v1 v2 A I (fun A28 I29 => Q (nI 0) A28 I29) else D50_compute w v1 A I (fun A30 I31 => Q (nI 0) A30 I31) else D67_moveValues w v1 v2 A I (fun A26 I27 => Q (nI 0) A26 I27) else D63_leftOf w v1 A I (fun v34 => D65_rightOf w v1 A I (fun v35 => D25_isNumber v34 (fun v36 => if v36 = 0 then Q (nI 1) A I else D25_isNumber v35 (fun v37 => if v37 = 0 then Q (nI 1) A I else D26_numberIn v34 (fun v38 => D26_numberIn v35 (fun v39 => D53_lengthAt w v1 A I (fun v40 => D66_choose v1 v38 v39 v40 (fun v41 => D48_act w v1 v41 A I (fun A42 I43 => Q (nI 0) A42 I43))))))))))))
def zbad (K : Nat) (S : zW) (a : Int32) : Prop := zh S < tkN K ∨ 12 < zh S - tkN K + lvN K ∨ (K = 1 ∧ zV S (zt S) a.toNatClampNeg = -100) ∨ (¬ (K ≤ 5 ∨ K = 26) ∧ zws S (rfo K) (tkN K))
section CS
variable {w : Nat} {A0 I0 A I : HA} {S : zW} {F : zF} {G : zG} {Q : Int32 → HA → HA → Prop}
theorem cs_pre {K : Nat} (h : GC w A0 I0 A I S F) (hg : gRC A0 I0 G) (hp : zpc S < gL G (zq S)) (ho : gO G (zq S) (zpc S) = K) (hK : K < 30) (h25 : K ≠ 25) (h29 : K = 29 → gU G (zq S) (zpc S) = 0) (kb : zbad K S (gU G (zq S) (zpc S)) → ∀ A' I', GC w A0 I0 A' I' (zend S (nI 5) (zplace S)) F → Q (nI 0) A' I') (kg : ¬ zbad K S (gU G (zq S) (zpc S)) → R58 w (nI K) (gU G (zq S) (zpc S)) A I Q) : D58_stopsToSplit w A I Q := by
  have hz := h.wf.hi
  have bad : zbad K S (gU G (zq S) (zpc S)) → D123_placeNow w A I (fun v46 => D124_end w (nI 5) v46 A I (fun A47 I48 => Q (nI 0) A47 I48)) := fun z => C_placeNow h (C_end h (fun I' h' => kb z _ _ h'))
  have rg : K = 1 → ∃ i, i < 6 ∧ gU G (zq S) (zpc S) = nI i := fun e => by
    have := ((hg.1.2.2 (zq S) hz.2.1).2.2.1 (zpc S) hp).2
    rw [ho, e] at this
    obtain ⟨j, hj, e⟩ := nI_of (x := gU G (zq S) (zpc S)) (Int32.not_lt.mpr this.1)
    rw [e] at this ⊢
    exact ⟨j, by have := (nI_leI hj (by decide)).mp this.2; omega, rfl⟩
  unfold D58_stopsToSplit
  refine C_opOf h hg hp (C_numberOf h hg hp ?_)
  rw [ho]
  refine C_isBroken h hg hK h25 h29 rg (fun z => ?_) (fun i e1 hi e2 e3 e4 => ?_) (fun i e1 hi e2 e3 e4 => ?_) (fun e1 e2 e3 e4 => ?_) (fun e1 e2 e3 e4 => ?_) (fun e1 e2 e3 e4 => ?_)
  · rw [i1]; exact bad (z.elim Or.inl (fun y => Or.inr (Or.inl y)))
  · rw [i1]; exact bad (Or.inr (Or.inr (Or.inl ⟨e1, by rw [e2, nI_clamp (by omega)]; exact e4⟩)))
  · rw [i0]
    refine kg ?_
    subst e1
    rintro (z | z | z | z)
    · exact absurd z (Nat.not_lt_zero _)
    · have z : 12 < zh S - 0 + 1 := z
      omega
    · have z := z.2
      rw [e2, nI_clamp (by omega)] at z
      exact e4 z
    · exact z.1 (Or.inl (by decide))
  · rw [i0]; exact kg (by rintro (z | z | z | z); omega; omega; exact e4 z.1; exact z.1 e3)
  · rw [i1]; exact bad (Or.inr (Or.inr (Or.inr ⟨e3, e4⟩)))
  · rw [i0]; exact kg (by rintro (z | z | z | z); omega; omega; omega; exact e4 z.2)
theorem r58_0 {a : Int32} (k : D67_moveValues w (nI 0) a A I (fun A I => Q (nI 0) A I)) : R58 w (nI 0) a A I Q := by
  unfold R58 D55_needsArray D62_isDecided
  simp (decide := true) only [reduceIte]
  exact k
theorem r58_1 {a : Int32} (k : D67_moveValues w (nI 1) a A I (fun A I => Q (nI 0) A I)) : R58 w (nI 1) a A I Q := by
  unfold R58 D55_needsArray D62_isDecided
  simp (decide := true) only [reduceIte]
  exact k
theorem r58_2 {a : Int32} (k : D67_moveValues w (nI 2) a A I (fun A I => Q (nI 0) A I)) : R58 w (nI 2) a A I Q := by
  unfold R58 D55_needsArray D62_isDecided
  simp (decide := true) only [reduceIte]
  exact k
theorem r58_3 {a : Int32} (k : D67_moveValues w (nI 3) a A I (fun A I => Q (nI 0) A I)) : R58 w (nI 3) a A I Q := by
  unfold R58 D55_needsArray D62_isDecided
  simp (decide := true) only [reduceIte]
  exact k
theorem r58_4 {a : Int32} (k : D67_moveValues w (nI 4) a A I (fun A I => Q (nI 0) A I)) : R58 w (nI 4) a A I Q := by
  unfold R58 D55_needsArray D62_isDecided
  simp (decide := true) only [reduceIte]
  exact k
theorem r58_5 {a : Int32} (k : D67_moveValues w (nI 5) a A I (fun A I => Q (nI 0) A I)) : R58 w (nI 5) a A I Q := by
  unfold R58 D55_needsArray D62_isDecided
  simp (decide := true) only [reduceIte]
  exact k
theorem r58_6 {a : Int32} (k : D50_compute w (nI 6) A I (fun A I => Q (nI 0) A I)) : R58 w (nI 6) a A I Q := by
  unfold R58 D55_needsArray D62_isDecided
  simp (decide := true) only [reduceIte]
  exact k
theorem r58_7 {a : Int32} (k : D50_compute w (nI 7) A I (fun A I => Q (nI 0) A I)) : R58 w (nI 7) a A I Q := by
  unfold R58 D55_needsArray D62_isDecided
  simp (decide := true) only [reduceIte]
  exact k
theorem r58_8 {a : Int32} (k : D50_compute w (nI 8) A I (fun A I => Q (nI 0) A I)) : R58 w (nI 8) a A I Q := by
  unfold R58 D55_needsArray D62_isDecided
  simp (decide := true) only [reduceIte]
  exact k
theorem r58_9 {a : Int32} (k : D63_leftOf w (nI 9) A I (fun v14 => D65_rightOf w (nI 9) A I (fun v15 => D25_isNumber v14 (fun v16 => if v16 = 0 then Q (nI 1) A I else D25_isNumber v15 (fun v17 => if v17 = 0 then Q (nI 1) A I else D26_numberIn v14 (fun v18 => D26_numberIn v15 (fun v19 => D53_lengthAt w (nI 9) A I (fun v20 => D66_choose (nI 9) v18 v19 v20 (fun v21 => D48_act w (nI 9) v21 A I (fun A22 I23 => Q (nI 0) A22 I23)))))))))) : R58 w (nI 9) a A I Q := by
  unfold R58 D55_needsArray D62_isDecided
  simp (decide := true) only [reduceIte]
  exact k
theorem r58_10 {a : Int32} (k : D63_leftOf w (nI 10) A I (fun v14 => D65_rightOf w (nI 10) A I (fun v15 => D25_isNumber v14 (fun v16 => if v16 = 0 then Q (nI 1) A I else D25_isNumber v15 (fun v17 => if v17 = 0 then Q (nI 1) A I else D26_numberIn v14 (fun v18 => D26_numberIn v15 (fun v19 => D53_lengthAt w (nI 10) A I (fun v20 => D66_choose (nI 10) v18 v19 v20 (fun v21 => D48_act w (nI 10) v21 A I (fun A22 I23 => Q (nI 0) A22 I23)))))))))) : R58 w (nI 10) a A I Q := by
  unfold R58 D55_needsArray D62_isDecided
  simp (decide := true) only [reduceIte]
  exact k
theorem r58_11 {a : Int32} (k : D50_compute w (nI 11) A I (fun A I => Q (nI 0) A I)) : R58 w (nI 11) a A I Q := by
  unfold R58 D55_needsArray D62_isDecided
  simp (decide := true) only [reduceIte]
  exact k
theorem r58_12 {a : Int32} (k : D50_compute w (nI 12) A I (fun A I => Q (nI 0) A I)) : R58 w (nI 12) a A I Q := by
  unfold R58 D55_needsArray D62_isDecided
  simp (decide := true) only [reduceIte]
  exact k
theorem r58_13 {a : Int32} (k : D50_compute w (nI 13) A I (fun A I => Q (nI 0) A I)) : R58 w (nI 13) a A I Q := by
  unfold R58 D55_needsArray D62_isDecided
  simp (decide := true) only [reduceIte]
  exact k
theorem r58_14 {a : Int32} (k : D50_compute w (nI 14) A I (fun A I => Q (nI 0) A I)) : R58 w (nI 14) a A I Q := by
  unfold R58 D55_needsArray D62_isDecided
  simp (decide := true) only [reduceIte]
  exact k
theorem r58_15 {a : Int32} (k : D50_compute w (nI 15) A I (fun A I => Q (nI 0) A I)) : R58 w (nI 15) a A I Q := by
  unfold R58 D55_needsArray D62_isDecided
  simp (decide := true) only [reduceIte]
  exact k
theorem r58_16 {a : Int32} (k : D50_compute w (nI 16) A I (fun A I => Q (nI 0) A I)) : R58 w (nI 16) a A I Q := by
  unfold R58 D55_needsArray D62_isDecided
  simp (decide := true) only [reduceIte]
  exact k
theorem r58_17 {a : Int32} (k : D68_goElsewhere w (nI 17) a A I (fun A I => Q (nI 0) A I)) : R58 w (nI 17) a A I Q := by
  unfold R58 D55_needsArray D62_isDecided
  simp (decide := true) only [reduceIte]
  exact k
theorem r58_18 {a : Int32} (k : D63_leftOf w (nI 18) A I (fun v14 => D65_rightOf w (nI 18) A I (fun v15 => D25_isNumber v14 (fun v16 => if v16 = 0 then Q (nI 1) A I else D25_isNumber v15 (fun v17 => if v17 = 0 then Q (nI 1) A I else D26_numberIn v14 (fun v18 => D26_numberIn v15 (fun v19 => D53_lengthAt w (nI 18) A I (fun v20 => D66_choose (nI 18) v18 v19 v20 (fun v21 => D48_act w (nI 18) v21 A I (fun A22 I23 => Q (nI 0) A22 I23)))))))))) : R58 w (nI 18) a A I Q := by
  unfold R58 D55_needsArray D62_isDecided
  simp (decide := true) only [reduceIte]
  exact k
theorem r58_19 {a : Int32} (k : D63_leftOf w (nI 19) A I (fun v14 => D65_rightOf w (nI 19) A I (fun v15 => D25_isNumber v14 (fun v16 => if v16 = 0 then Q (nI 1) A I else D25_isNumber v15 (fun v17 => if v17 = 0 then Q (nI 1) A I else D26_numberIn v14 (fun v18 => D26_numberIn v15 (fun v19 => D53_lengthAt w (nI 19) A I (fun v20 => D66_choose (nI 19) v18 v19 v20 (fun v21 => D48_act w (nI 19) v21 A I (fun A22 I23 => Q (nI 0) A22 I23)))))))))) : R58 w (nI 19) a A I Q := by
  unfold R58 D55_needsArray D62_isDecided
  simp (decide := true) only [reduceIte]
  exact k
theorem r58_20 {a : Int32} (k : D68_goElsewhere w (nI 20) a A I (fun A I => Q (nI 0) A I)) : R58 w (nI 20) a A I Q := by
  unfold R58 D55_needsArray D62_isDecided
  simp (decide := true) only [reduceIte]
  exact k
theorem r58_21 {a : Int32} (k : D63_leftOf w (nI 21) A I (fun v14 => D65_rightOf w (nI 21) A I (fun v15 => D25_isNumber v14 (fun v16 => if v16 = 0 then Q (nI 1) A I else D25_isNumber v15 (fun v17 => if v17 = 0 then Q (nI 1) A I else D26_numberIn v14 (fun v18 => D26_numberIn v15 (fun v19 => D53_lengthAt w (nI 21) A I (fun v20 => D66_choose (nI 21) v18 v19 v20 (fun v21 => D48_act w (nI 21) v21 A I (fun A22 I23 => Q (nI 0) A22 I23)))))))))) : R58 w (nI 21) a A I Q := by
  unfold R58 D55_needsArray D62_isDecided
  simp (decide := true) only [reduceIte]
  exact k
theorem r58_22 {a : Int32} (k : D54_arrayOf w (nI 22) A I (fun v24 => if v24 = (-1) then D51_raise w (nI 5) A I (fun A44 I45 => Q (nI 0) A44 I45) else D63_leftOf w (nI 22) A I (fun v14 => D65_rightOf w (nI 22) A I (fun v15 => D25_isNumber v14 (fun v16 => if v16 = 0 then Q (nI 1) A I else D25_isNumber v15 (fun v17 => if v17 = 0 then Q (nI 1) A I else D26_numberIn v14 (fun v18 => D26_numberIn v15 (fun v19 => D53_lengthAt w (nI 22) A I (fun v20 => D66_choose (nI 22) v18 v19 v20 (fun v21 => D48_act w (nI 22) v21 A I (fun A22 I23 => Q (nI 0) A22 I23))))))))))) : R58 w (nI 22) a A I Q := by
  unfold R58 D55_needsArray D62_isDecided
  simp (decide := true) only [reduceIte]
  exact k
theorem r58_23 {a : Int32} (k : D54_arrayOf w (nI 23) A I (fun v24 => if v24 = (-1) then D51_raise w (nI 5) A I (fun A44 I45 => Q (nI 0) A44 I45) else D63_leftOf w (nI 23) A I (fun v14 => D65_rightOf w (nI 23) A I (fun v15 => D25_isNumber v14 (fun v16 => if v16 = 0 then Q (nI 1) A I else D25_isNumber v15 (fun v17 => if v17 = 0 then Q (nI 1) A I else D26_numberIn v14 (fun v18 => D26_numberIn v15 (fun v19 => D53_lengthAt w (nI 23) A I (fun v20 => D66_choose (nI 23) v18 v19 v20 (fun v21 => D48_act w (nI 23) v21 A I (fun A22 I23 => Q (nI 0) A22 I23))))))))))) : R58 w (nI 23) a A I Q := by
  unfold R58 D55_needsArray D62_isDecided
  simp (decide := true) only [reduceIte]
  exact k
theorem r58_24 {a : Int32} (k : D54_arrayOf w (nI 24) A I (fun v24 => if v24 = (-1) then D51_raise w (nI 5) A I (fun A44 I45 => Q (nI 0) A44 I45) else D68_goElsewhere w (nI 24) a A I (fun A I => Q (nI 0) A I))) : R58 w (nI 24) a A I Q := by
  unfold R58 D55_needsArray D62_isDecided
  simp (decide := true) only [reduceIte]
  exact k
theorem r58_26 {a : Int32} (k : D68_goElsewhere w (nI 26) a A I (fun A I => Q (nI 0) A I)) : R58 w (nI 26) a A I Q := by
  unfold R58 D55_needsArray D62_isDecided
  simp (decide := true) only [reduceIte]
  exact k
theorem r58_27 {a : Int32} (k : D68_goElsewhere w (nI 27) a A I (fun A I => Q (nI 0) A I)) : R58 w (nI 27) a A I Q := by
  unfold R58 D55_needsArray D62_isDecided
  simp (decide := true) only [reduceIte]
  exact k
theorem r58_28 {a : Int32} (k : D67_moveValues w (nI 28) a A I (fun A I => Q (nI 0) A I)) : R58 w (nI 28) a A I Q := by
  unfold R58 D55_needsArray D62_isDecided
  simp (decide := true) only [reduceIte]
  exact k
theorem r58_29 {a : Int32} (k : D68_goElsewhere w (nI 29) a A I (fun A I => Q (nI 0) A I)) : R58 w (nI 29) a A I Q := by
  unfold R58 D55_needsArray D62_isDecided
  simp (decide := true) only [reduceIte]
  exact k
end CS
