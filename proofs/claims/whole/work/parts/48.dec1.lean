/-! THE FORMULAS of the methods, each monotone in what is to hold behind it (written by wip/gen/dec.py) -/
def D2_within (x : Int32) (y : Int32) (z : Int32) (Q : Int32 → Prop) : Prop := if x < y then Q (nI 0) else if z < x then Q (nI 0) else Q (nI 1)
theorem D2_within_mono {x : Int32} {y : Int32} {z : Int32} {Q Q' : Int32 → Prop} (k : D2_within x y z Q) (m : ∀ v, Q v → Q' v) : D2_within x y z Q' := by
  unfold D2_within at k ⊢
  refine itm k (fun k => ?_) (fun k => ?_)
  · exact m _ k
  · refine itm k (fun k => ?_) (fun k => ?_)
    · exact m _ k
    · exact m _ k
def D74_hasMethod (x : Int32) (A I : HA) (Q : Int32 → Prop) : Prop := if x < 0 then Q (nI 0) else if x < (I 22 0) then Q (nI 1) else Q (nI 0)
theorem D74_hasMethod_mono {x : Int32} {A I : HA} {Q Q' : Int32 → Prop} (k : D74_hasMethod x A I Q) (m : ∀ v, Q v → Q' v) : D74_hasMethod x A I Q' := by
  unfold D74_hasMethod at k ⊢
  refine itm k (fun k => ?_) (fun k => ?_)
  · exact m _ k
  · refine itm k (fun k => ?_) (fun k => ?_)
    · exact m _ k
    · exact m _ k
def D79_canBegin (x : Int32) (A I : HA) (Q : Int32 → Prop) : Prop := D74_hasMethod x A I (fun v1 => if v1 = 0 then Q (nI 0) else vp_in x 6 ∧ (if (A 23 x.toNatClampNeg) = (nI 2) then Q (nI 1) else Q (nI 0)))
theorem D79_canBegin_mono {x : Int32} {A I : HA} {Q Q' : Int32 → Prop} (k : D79_canBegin x A I Q) (m : ∀ v, Q v → Q' v) : D79_canBegin x A I Q' := by
  unfold D79_canBegin at k ⊢
  refine D74_hasMethod_mono k (fun _ k => ?_)
  refine itm k (fun k => ?_) (fun k => ?_)
  · exact m _ k
  · refine ⟨k.1, ?_⟩
    replace k := k.2
    refine itm k (fun k => ?_) (fun k => ?_)
    · exact m _ k
    · exact m _ k
def D23_forget (A I : HA) (Q : HA → HA → Prop) : Prop := Q A (sI I 32 4 (nI 258))
theorem D23_forget_mono {A I : HA} {Q Q' : HA → HA → Prop} (k : D23_forget A I Q) (m : ∀ A I, Q A I → Q' A I) : D23_forget A I Q' := by
  unfold D23_forget at k ⊢
  exact m _ _ k
def D87_begin (x : Int32) (A I : HA) (Q : HA → HA → Prop) : Prop := Q A (sI (sI I 39 1 (nI 0)) 39 2 x)
theorem D87_begin_mono {x : Int32} {A I : HA} {Q Q' : HA → HA → Prop} (k : D87_begin x A I Q) (m : ∀ A I, Q A I → Q' A I) : D87_begin x A I Q' := by
  unfold D87_begin at k ⊢
  exact m _ _ k
def D88_add (x : Int32) (A I : HA) (Q : HA → HA → Prop) : Prop := if (I 39 1) < (nI 60) then vp_in (I 39 1) 60 ∧ (Q (sA A 40 (I 39 1).toNatClampNeg x) (sI I 39 1 ((I 39 1) + (nI 1)))) else Q A I
theorem D88_add_mono {x : Int32} {A I : HA} {Q Q' : HA → HA → Prop} (k : D88_add x A I Q) (m : ∀ A I, Q A I → Q' A I) : D88_add x A I Q' := by
  unfold D88_add at k ⊢
  refine itm k (fun k => ?_) (fun k => ?_)
  · refine ⟨k.1, ?_⟩
    replace k := k.2
    exact m _ _ k
  · exact m _ _ k
def D117_openFrame (w : Nat) (x : Int32) (A I : HA) (Q : HA → HA → Prop) : Prop := vp_in (I w 4) 4 ∧ (vp_in (I w 4) 4 ∧ (vp_in (I w 4) 4 ∧ ((∀ P4 : Int32 → HA → HA → Prop, (∀ (a5 : Int32) (A7 I8 : HA), (if a5 < (nI 6) then vp_in (((I8 w 4) * (nI 18)) + a5) 72 ∧ (P4 (a5 + nI 1) (sA A7 (w + 4) (((I8 w 4) * (nI 18)) + a5).toNatClampNeg (-100)) I8) else Q A7 I8) → P4 a5 A7 I8) → P4 (nI 0) (sA (sA (sA A (w + 1) (I w 4).toNatClampNeg x) (w + 2) (I w 4).toNatClampNeg (nI 0)) (w + 3) (I w 4).toNatClampNeg (nI 0)) I))))
theorem D117_openFrame_mono {w : Nat} {x : Int32} {A I : HA} {Q Q' : HA → HA → Prop} (k : D117_openFrame w x A I Q) (m : ∀ A I, Q A I → Q' A I) : D117_openFrame w x A I Q' := by
  unfold D117_openFrame at k ⊢
  refine ⟨k.1, ?_⟩
  replace k := k.2
  refine ⟨k.1, ?_⟩
  replace k := k.2
  refine ⟨k.1, ?_⟩
  replace k := k.2
  intro P hP
  refine k P (fun a0 a1 a2 k => hP a0 a1 a2 ?_)
  refine itm k (fun k => ?_) (fun k => ?_)
  · refine ⟨k.1, ?_⟩
    replace k := k.2
    exact k
  · exact m _ _ k
def D36_addAll (n : Nat) (A I : HA) (Q : HA → HA → Prop) : Prop := Q (sF A (n + 1) (-1) 32) I
theorem D36_addAll_mono {n : Nat} {A I : HA} {Q Q' : HA → HA → Prop} (k : D36_addAll n A I Q) (m : ∀ A I, Q A I → Q' A I) : D36_addAll n A I Q' := by
  unfold D36_addAll at k ⊢
  exact m _ _ k
def D116_begin (w : Nat) (x : Int32) (y : Int32) (z : Int32) (A I : HA) (Q : HA → HA → Prop) : Prop := D117_openFrame w x A (sI I w 4 (nI 0)) (fun A1 I2 => vp_in (nI 0) 72 ∧ (vp_in (nI 1) 72 ∧ (D36_addAll (w + 8) (sA (sA A1 (w + 4) (nI 0).toNatClampNeg y) (w + 4) (nI 1).toNatClampNeg z) (sI (sI I2 w 7 (nI 0)) w 9 (nI 0)) (fun A5 I6 => Q A5 (sI (sI (sI (sI (sI (sI (sI I6 w 11 (nI 0)) w 12 (nI 0)) w 13 (nI 0)) w 14 (nI 0)) w 15 (nI 0)) w 16 (-1)) w 17 (nI 0))))))
theorem D116_begin_mono {w : Nat} {x : Int32} {y : Int32} {z : Int32} {A I : HA} {Q Q' : HA → HA → Prop} (k : D116_begin w x y z A I Q) (m : ∀ A I, Q A I → Q' A I) : D116_begin w x y z A I Q' := by
  unfold D116_begin at k ⊢
  refine D117_openFrame_mono k (fun _ _ k => ?_)
  refine ⟨k.1, ?_⟩
  replace k := k.2
  refine ⟨k.1, ?_⟩
  replace k := k.2
  refine D36_addAll_mono k (fun _ _ k => ?_)
  exact m _ _ k
def D95_begin (x : Int32) (y : Int32) (z : Int32) (A I : HA) (Q : HA → HA → Prop) : Prop := (∀ P1 : Int32 → HA → HA → Prop, (∀ (a2 : Int32) (A6 I7 : HA), (if a2 < (nI 161) then vp_in a2 161 ∧ (P1 (a2 + nI 1) (sA A6 38 a2.toNatClampNeg a2) I7) else D23_forget (sF A6 42 (nI 0) 240) (sI (sI (sI (sI (sI (sI I7 20 4 (nI 161)) 20 7 (nI 0)) 20 9 (nI 0)) 20 10 (nI 0)) 20 12 (nI 0)) 20 17 (nI 0)) (fun A9 I10 => D87_begin (I10 20 1) A9 I10 (fun A11 I12 => vp_in ((sI I12 20 4 ((I12 20 4) - (nI 1))) 20 4) 161 ∧ (D88_add (A11 38 ((sI I12 20 4 ((I12 20 4) - (nI 1))) 20 4).toNatClampNeg) A11 (sI I12 20 4 ((I12 20 4) - (nI 1))) (fun A14 I15 => vp_in (I15 20 4) 161 ∧ (vp_in (A14 38 (I15 20 4).toNatClampNeg) 161 ∧ (D116_begin (71 + 10 * (A14 38 (I15 20 4).toNatClampNeg).toNatClampNeg) (I15 20 14) (nI 256) (nI 257) A14 I15 (fun A18 I19 => Q A18 I19)))))))) → P1 a2 A6 I7) → P1 (nI 0) A (sI (sI (sI I 20 14 x) 20 15 y) 20 16 z))
theorem D95_begin_mono {x : Int32} {y : Int32} {z : Int32} {A I : HA} {Q Q' : HA → HA → Prop} (k : D95_begin x y z A I Q) (m : ∀ A I, Q A I → Q' A I) : D95_begin x y z A I Q' := by
  unfold D95_begin at k ⊢
  intro P hP
  refine k P (fun a0 a1 a2 k => hP a0 a1 a2 ?_)
  refine itm k (fun k => ?_) (fun k => ?_)
  · refine ⟨k.1, ?_⟩
    replace k := k.2
    exact k
  · refine D23_forget_mono k (fun _ _ k => ?_)
    refine D87_begin_mono k (fun _ _ k => ?_)
    refine ⟨k.1, ?_⟩
    replace k := k.2
    refine D88_add_mono k (fun _ _ k => ?_)
    refine ⟨k.1, ?_⟩
    replace k := k.2
    refine ⟨k.1, ?_⟩
    replace k := k.2
    refine D116_begin_mono k (fun _ _ k => ?_)
    exact m _ _ k
def D91_firstOfLastSplit (A I : HA) (Q : Int32 → Prop) : Prop := vp_in ((I 39 1) - (nI 1)) 60 ∧ (vp_in (A 40 ((I 39 1) - (nI 1)).toNatClampNeg) 161 ∧ ((∀ P3 : Int32 → Int32 → Prop, (∀ (a4 : Int32) (a5 : Int32), (if a5 < 0 then Q a4 else vp_in a5 60 ∧ (vp_in (A 40 a5.toNatClampNeg) 161 ∧ (if (I (71 + 10 * (A 40 a5.toNatClampNeg).toNatClampNeg) 17) = (I (71 + 10 * (A 40 ((I 39 1) - (nI 1)).toNatClampNeg).toNatClampNeg) 17) then P3 a5 (a5 + (-1)) else Q a4))) → P3 a4 a5) → P3 ((I 39 1) - (nI 1)) ((I 39 1) - (nI 1)))))
theorem D91_firstOfLastSplit_mono {A I : HA} {Q Q' : Int32 → Prop} (k : D91_firstOfLastSplit A I Q) (m : ∀ v, Q v → Q' v) : D91_firstOfLastSplit A I Q' := by
  unfold D91_firstOfLastSplit at k ⊢
  refine ⟨k.1, ?_⟩
  replace k := k.2
  refine ⟨k.1, ?_⟩
  replace k := k.2
  intro P hP
  refine k P (fun a0 a1 k => hP a0 a1 ?_)
  refine itm k (fun k => ?_) (fun k => ?_)
  · exact m _ k
  · refine ⟨k.1, ?_⟩
    replace k := k.2
    refine ⟨k.1, ?_⟩
    replace k := k.2
    refine itm k (fun k => ?_) (fun k => ?_)
    · exact k
    · exact m _ k
def D118_slotNow (w : Nat) (A I : HA) (Q : Int32 → Prop) : Prop := vp_in (I w 4) 4 ∧ (vp_in (I w 4) 4 ∧ (Q (((A (w + 1) (I w 4).toNatClampNeg) * (nI 40)) + (A (w + 2) (I w 4).toNatClampNeg))))
theorem D118_slotNow_mono {w : Nat} {A I : HA} {Q Q' : Int32 → Prop} (k : D118_slotNow w A I Q) (m : ∀ v, Q v → Q' v) : D118_slotNow w A I Q' := by
  unfold D118_slotNow at k ⊢
  refine ⟨k.1, ?_⟩
  replace k := k.2
  refine ⟨k.1, ?_⟩
  replace k := k.2
  exact m _ k
def D92_mostSeldom (A I : HA) (Q : Int32 → Prop) : Prop := (∀ P1 : Int32 → Int32 → Prop, (∀ (a2 : Int32) (a3 : Int32), (if a3 < (I 39 1) then vp_in a3 60 ∧ (vp_in (A 40 a3.toNatClampNeg) 161 ∧ (D118_slotNow (71 + 10 * (A 40 a3.toNatClampNeg).toNatClampNeg) A I (fun v7 => vp_in v7 240 ∧ (vp_in a2 60 ∧ (vp_in (A 40 a2.toNatClampNeg) 161 ∧ (D118_slotNow (71 + 10 * (A 40 a2.toNatClampNeg).toNatClampNeg) A I (fun v11 => vp_in v11 240 ∧ (if (A 42 v7.toNatClampNeg) < (A 42 v11.toNatClampNeg) then P1 a3 (a3 + nI 1) else P1 a2 (a3 + nI 1))))))))) else Q a2) → P1 a2 a3) → P1 (nI 0) (nI 1))
theorem D92_mostSeldom_mono {A I : HA} {Q Q' : Int32 → Prop} (k : D92_mostSeldom A I Q) (m : ∀ v, Q v → Q' v) : D92_mostSeldom A I Q' := by
  unfold D92_mostSeldom at k ⊢
  intro P hP
  refine k P (fun a0 a1 k => hP a0 a1 ?_)
  refine itm k (fun k => ?_) (fun k => ?_)
  · refine ⟨k.1, ?_⟩
    replace k := k.2
    refine ⟨k.1, ?_⟩
    replace k := k.2
    refine D118_slotNow_mono k (fun _ k => ?_)
    refine ⟨k.1, ?_⟩
    replace k := k.2
    refine ⟨k.1, ?_⟩
    replace k := k.2
    refine ⟨k.1, ?_⟩
    replace k := k.2
    refine D118_slotNow_mono k (fun _ k => ?_)
    refine ⟨k.1, ?_⟩
    replace k := k.2
    refine itm k (fun k => ?_) (fun k => ?_)
    · exact k
    · exact k
  · exact m _ k
def D90_choosePlace (x : Int32) (A I : HA) (Q : Int32 → HA → HA → Prop) : Prop := if x = nI 0 then D91_firstOfLastSplit A I (fun v1 => Q v1 A I) else if x = nI 2 then if 0 < ((sI I 39 2 (((I 39 2) * (nI 1664525)) + (nI 1013904223))) 39 1) then ¬ ((sI I 39 2 (((I 39 2) * (nI 1664525)) + (nI 1013904223))) 39 1) = 0 ∧ (Q ((Int32.toUInt32 ((sI I 39 2 (((I 39 2) * (nI 1664525)) + (nI 1013904223))) 39 2) >>> (Int32.toUInt32 (nI 8) &&& Int32.toUInt32 31)).toInt32 - (Int32.toUInt32 ((sI I 39 2 (((I 39 2) * (nI 1664525)) + (nI 1013904223))) 39 2) >>> (Int32.toUInt32 (nI 8) &&& Int32.toUInt32 31)).toInt32 / ((sI I 39 2 (((I 39 2) * (nI 1664525)) + (nI 1013904223))) 39 1) * ((sI I 39 2 (((I 39 2) * (nI 1664525)) + (nI 1013904223))) 39 1)) A (sI I 39 2 (((I 39 2) * (nI 1664525)) + (nI 1013904223)))) else Q (nI 0) A (sI I 39 2 (((I 39 2) * (nI 1664525)) + (nI 1013904223))) else if x = nI 3 then D92_mostSeldom A I (fun v3 => Q v3 A I) else Q (nI 0) A I
theorem D90_choosePlace_mono {x : Int32} {A I : HA} {Q Q' : Int32 → HA → HA → Prop} (k : D90_choosePlace x A I Q) (m : ∀ v A I, Q v A I → Q' v A I) : D90_choosePlace x A I Q' := by
  unfold D90_choosePlace at k ⊢
  refine itm k (fun k => ?_) (fun k => ?_)
  · refine D91_firstOfLastSplit_mono k (fun _ k => ?_)
    exact m _ _ _ k
  · refine itm k (fun k => ?_) (fun k => ?_)
    · refine itm k (fun k => ?_) (fun k => ?_)
      · refine ⟨k.1, ?_⟩
        replace k := k.2
        exact m _ _ _ k
      · exact m _ _ _ k
    · refine itm k (fun k => ?_) (fun k => ?_)
      · refine D92_mostSeldom_mono k (fun _ k => ?_)
        exact m _ _ _ k
      · exact m _ _ _ k
def D89_take (x : Int32) (A I : HA) (Q : Int32 → HA → HA → Prop) : Prop := if 0 < (I 39 1) then D90_choosePlace x A I (fun v1 A2 I3 => vp_in v1 60 ∧ ((∀ P5 : Int32 → HA → HA → Prop, (∀ (a6 : Int32) (A11 I12 : HA), (if a6 < (I12 39 1) then vp_in (a6 + (nI 1)) 60 ∧ (vp_in a6 60 ∧ (P5 (a6 + nI 1) (sA A11 40 a6.toNatClampNeg (A11 40 (a6 + (nI 1)).toNatClampNeg)) I12)) else Q (A2 40 v1.toNatClampNeg) A11 I12) → P5 a6 A11 I12) → P5 v1 A2 (sI I3 39 1 ((I3 39 1) - (nI 1)))))) else Q (-1) A I
theorem D89_take_mono {x : Int32} {A I : HA} {Q Q' : Int32 → HA → HA → Prop} (k : D89_take x A I Q) (m : ∀ v A I, Q v A I → Q' v A I) : D89_take x A I Q' := by
  unfold D89_take at k ⊢
  refine itm k (fun k => ?_) (fun k => ?_)
  · refine D90_choosePlace_mono k (fun _ _ _ k => ?_)
    refine ⟨k.1, ?_⟩
    replace k := k.2
    intro P hP
    refine k P (fun a0 a1 a2 k => hP a0 a1 a2 ?_)
    refine itm k (fun k => ?_) (fun k => ?_)
    · refine ⟨k.1, ?_⟩
      replace k := k.2
      refine ⟨k.1, ?_⟩
      replace k := k.2
      exact k
    · exact m _ _ _ k
  · exact m _ _ _ k
def D80_opAt (x : Int32) (A I : HA) (Q : Int32 → Prop) : Prop := vp_in x 240 ∧ (Q (A 25 x.toNatClampNeg))
theorem D80_opAt_mono {x : Int32} {A I : HA} {Q Q' : Int32 → Prop} (k : D80_opAt x A I Q) (m : ∀ v, Q v → Q' v) : D80_opAt x A I Q' := by
  unfold D80_opAt at k ⊢
  refine ⟨k.1, ?_⟩
  replace k := k.2
  exact m _ k
def D47_opOf (w : Nat) (A I : HA) (Q : Int32 → Prop) : Prop := D118_slotNow w A I (fun v1 => D80_opAt v1 A I (fun v2 => Q v2))
theorem D47_opOf_mono {w : Nat} {A I : HA} {Q Q' : Int32 → Prop} (k : D47_opOf w A I Q) (m : ∀ v, Q v → Q' v) : D47_opOf w A I Q' := by
  unfold D47_opOf at k ⊢
  refine D118_slotNow_mono k (fun _ k => ?_)
  refine D80_opAt_mono k (fun _ k => ?_)
  exact m _ k
def D81_numberAt (x : Int32) (A I : HA) (Q : Int32 → Prop) : Prop := vp_in x 240 ∧ (Q (A 26 x.toNatClampNeg))
theorem D81_numberAt_mono {x : Int32} {A I : HA} {Q Q' : Int32 → Prop} (k : D81_numberAt x A I Q) (m : ∀ v, Q v → Q' v) : D81_numberAt x A I Q' := by
  unfold D81_numberAt at k ⊢
  refine ⟨k.1, ?_⟩
  replace k := k.2
  exact m _ k
def D49_numberOf (w : Nat) (A I : HA) (Q : Int32 → Prop) : Prop := D118_slotNow w A I (fun v1 => D81_numberAt v1 A I (fun v2 => Q v2))
theorem D49_numberOf_mono {w : Nat} {A I : HA} {Q Q' : Int32 → Prop} (k : D49_numberOf w A I Q) (m : ∀ v, Q v → Q' v) : D49_numberOf w A I Q' := by
  unfold D49_numberOf at k ⊢
  refine D118_slotNow_mono k (fun _ k => ?_)
  refine D81_numberAt_mono k (fun _ k => ?_)
  exact m _ k
def D119_operationNow (w : Nat) (A I : HA) (Q : Int32 → Prop) : Prop := vp_in (I w 4) 4 ∧ (Q (A (w + 2) (I w 4).toNatClampNeg))
theorem D119_operationNow_mono {w : Nat} {A I : HA} {Q Q' : Int32 → Prop} (k : D119_operationNow w A I Q) (m : ∀ v, Q v → Q' v) : D119_operationNow w A I Q' := by
  unfold D119_operationNow at k ⊢
  refine ⟨k.1, ?_⟩
  replace k := k.2
  exact m _ k
def D120_drop (w : Nat) (x : Int32) (A I : HA) (Q : HA → HA → Prop) : Prop := vp_in (I w 4) 4 ∧ (if x < (A (w + 3) (I w 4).toNatClampNeg) then vp_in (I w 4) 4 ∧ (vp_in (I w 4) 4 ∧ (Q (sA A (w + 3) (I w 4).toNatClampNeg ((A (w + 3) (I w 4).toNatClampNeg) - x)) I)) else vp_in (I w 4) 4 ∧ (Q (sA A (w + 3) (I w 4).toNatClampNeg (nI 0)) I))
theorem D120_drop_mono {w : Nat} {x : Int32} {A I : HA} {Q Q' : HA → HA → Prop} (k : D120_drop w x A I Q) (m : ∀ A I, Q A I → Q' A I) : D120_drop w x A I Q' := by
  unfold D120_drop at k ⊢
  refine ⟨k.1, ?_⟩
  replace k := k.2
  refine itm k (fun k => ?_) (fun k => ?_)
  · refine ⟨k.1, ?_⟩
    replace k := k.2
    refine ⟨k.1, ?_⟩
    replace k := k.2
    exact m _ _ k
  · refine ⟨k.1, ?_⟩
    replace k := k.2
    exact m _ _ k
def D121_jump (w : Nat) (x : Int32) (A I : HA) (Q : HA → HA → Prop) : Prop := vp_in (I w 4) 4 ∧ (Q (sA A (w + 2) (I w 4).toNatClampNeg x) I)
theorem D121_jump_mono {w : Nat} {x : Int32} {A I : HA} {Q Q' : HA → HA → Prop} (k : D121_jump w x A I Q) (m : ∀ A I, Q A I → Q' A I) : D121_jump w x A I Q' := by
  unfold D121_jump at k ⊢
  refine ⟨k.1, ?_⟩
  replace k := k.2
  exact m _ _ k
def D122_peek (w : Nat) (x : Int32) (A I : HA) (Q : Int32 → Prop) : Prop := vp_in (I w 4) 4 ∧ (if (((A (w + 3) (I w 4).toNatClampNeg) - (nI 1)) - x) < 0 then Q (-100) else vp_in ((((I w 4) * (nI 18)) + (nI 6)) + (((A (w + 3) (I w 4).toNatClampNeg) - (nI 1)) - x)) 72 ∧ (Q (A (w + 4) ((((I w 4) * (nI 18)) + (nI 6)) + (((A (w + 3) (I w 4).toNatClampNeg) - (nI 1)) - x)).toNatClampNeg)))
theorem D122_peek_mono {w : Nat} {x : Int32} {A I : HA} {Q Q' : Int32 → Prop} (k : D122_peek w x A I Q) (m : ∀ v, Q v → Q' v) : D122_peek w x A I Q' := by
  unfold D122_peek at k ⊢
  refine ⟨k.1, ?_⟩
  replace k := k.2
  refine itm k (fun k => ?_) (fun k => ?_)
  · exact m _ k
  · refine ⟨k.1, ?_⟩
    replace k := k.2
    exact m _ k
def D25_isNumber (x : Int32) (Q : Int32 → Prop) : Prop := if x < 0 then Q (nI 0) else if x < (nI 256) then Q (nI 1) else Q (nI 0)
theorem D25_isNumber_mono {x : Int32} {Q Q' : Int32 → Prop} (k : D25_isNumber x Q) (m : ∀ v, Q v → Q' v) : D25_isNumber x Q' := by
  unfold D25_isNumber at k ⊢
  refine itm k (fun k => ?_) (fun k => ?_)
  · exact m _ k
  · refine itm k (fun k => ?_) (fun k => ?_)
    · exact m _ k
    · exact m _ k
def D26_numberIn (x : Int32) (Q : Int32 → Prop) : Prop := Q (x + (-128))
theorem D26_numberIn_mono {x : Int32} {Q Q' : Int32 → Prop} (k : D26_numberIn x Q) (m : ∀ v, Q v → Q' v) : D26_numberIn x Q' := by
  unfold D26_numberIn at k ⊢
  exact m _ k
def D209_ofOne (x : Int32) (y : Int32) (Q : Int32 → Prop) : Prop := if x = (nI 11) then Q (Int8.toInt32 (Int32.toInt8 (-y))) else if y < 0 then Q (Int8.toInt32 (Int32.toInt8 (-y))) else Q y
theorem D209_ofOne_mono {x : Int32} {y : Int32} {Q Q' : Int32 → Prop} (k : D209_ofOne x y Q) (m : ∀ v, Q v → Q' v) : D209_ofOne x y Q' := by
  unfold D209_ofOne at k ⊢
  refine itm k (fun k => ?_) (fun k => ?_)
  · exact m _ k
  · refine itm k (fun k => ?_) (fun k => ?_)
    · exact m _ k
    · exact m _ k
def D27_number (x : Int32) (Q : Int32 → Prop) : Prop := Q (x - (-128))
theorem D27_number_mono {x : Int32} {Q Q' : Int32 → Prop} (k : D27_number x Q) (m : ∀ v, Q v → Q' v) : D27_number x Q' := by
  unfold D27_number at k ⊢
  exact m _ k
def D28_sizeOf (x : Int32) (A I : HA) (Q : Int32 → Prop) : Prop := if x < (nI 258) then Q (nI 1) else if x < (I 32 4) then vp_in x 32258 ∧ (Q (A 36 x.toNatClampNeg)) else Q (nI 1)
theorem D28_sizeOf_mono {x : Int32} {A I : HA} {Q Q' : Int32 → Prop} (k : D28_sizeOf x A I Q) (m : ∀ v, Q v → Q' v) : D28_sizeOf x A I Q' := by
  unfold D28_sizeOf at k ⊢
  refine itm k (fun k => ?_) (fun k => ?_)
  · exact m _ k
  · refine itm k (fun k => ?_) (fun k => ?_)
    · refine ⟨k.1, ?_⟩
      replace k := k.2
      exact m _ k
    · exact m _ k
def D29_make (x : Int32) (y : Int32) (z : Int32) (u1 : Int32) (A I : HA) (Q : Int32 → HA → HA → Prop) : Prop := if (nI 60) < u1 then Q (-1) A I else if (I 32 4) < (nI 32258) then vp_in (I 32 4) 32258 ∧ (vp_in (I 32 4) 32258 ∧ (vp_in (I 32 4) 32258 ∧ (vp_in (I 32 4) 32258 ∧ (Q (((sI I 32 4 ((I 32 4) + (nI 1))) 32 4) - (nI 1)) (sA (sA (sA (sA A 33 (I 32 4).toNatClampNeg x) 34 (I 32 4).toNatClampNeg y) 35 (I 32 4).toNatClampNeg z) 36 (I 32 4).toNatClampNeg u1) (sI I 32 4 ((I 32 4) + (nI 1))))))) else Q (-1) A I
theorem D29_make_mono {x : Int32} {y : Int32} {z : Int32} {u1 : Int32} {A I : HA} {Q Q' : Int32 → HA → HA → Prop} (k : D29_make x y z u1 A I Q) (m : ∀ v A I, Q v A I → Q' v A I) : D29_make x y z u1 A I Q' := by
  unfold D29_make at k ⊢
  refine itm k (fun k => ?_) (fun k => ?_)
  · exact m _ _ _ k
  · refine itm k (fun k => ?_) (fun k => ?_)
    · refine ⟨k.1, ?_⟩
      replace k := k.2
      refine ⟨k.1, ?_⟩
      replace k := k.2
      refine ⟨k.1, ?_⟩
      replace k := k.2
      refine ⟨k.1, ?_⟩
      replace k := k.2
      exact m _ _ _ k
    · exact m _ _ _ k
def D24_ofOne (x : Int32) (y : Int32) (A I : HA) (Q : Int32 → HA → HA → Prop) : Prop := D25_isNumber y (fun v1 => if v1 = 0 then D28_sizeOf y A I (fun v2 => D29_make x y (-1) (v2 + (nI 1)) A I (fun v3 A4 I5 => Q v3 A4 I5)) else D26_numberIn y (fun v6 => D209_ofOne x v6 (fun v7 => D27_number v7 (fun v8 => Q v8 A I))))
theorem D24_ofOne_mono {x : Int32} {y : Int32} {A I : HA} {Q Q' : Int32 → HA → HA → Prop} (k : D24_ofOne x y A I Q) (m : ∀ v A I, Q v A I → Q' v A I) : D24_ofOne x y A I Q' := by
  unfold D24_ofOne at k ⊢
  refine D25_isNumber_mono k (fun _ k => ?_)
  refine itm k (fun k => ?_) (fun k => ?_)
  · refine D28_sizeOf_mono k (fun _ k => ?_)
    refine D29_make_mono k (fun _ _ _ k => ?_)
    exact m _ _ _ k
  · refine D26_numberIn_mono k (fun _ k => ?_)
    refine D209_ofOne_mono k (fun _ k => ?_)
    refine D27_number_mono k (fun _ k => ?_)
    exact m _ _ _ k
def D210_ofTwo (x : Int32) (y : Int32) (z : Int32) (Q : Int32 → Prop) : Prop := if x = nI 6 then Q (Int8.toInt32 (Int32.toInt8 (y + z))) else if x = nI 7 then Q (Int8.toInt32 (Int32.toInt8 (y - z))) else if x = nI 8 then Q (Int8.toInt32 (Int32.toInt8 (y * z))) else if x = nI 9 then if z = 0 then Q (nI 0) else ¬ z = 0 ∧ (Q (Int8.toInt32 (Int32.toInt8 (y / z)))) else if x = nI 10 then if z = 0 then Q (nI 0) else ¬ z = 0 ∧ (Q (Int8.toInt32 (Int32.toInt8 (y - y / z * z)))) else if x = nI 12 then Q (y &&& z) else if x = nI 13 then Q (y ||| z) else if x = nI 14 then Q (y ^^^ z) else if x = nI 15 then Q (Int8.toInt32 (Int32.toInt8 (y <<< ((z &&& (nI 7)) &&& 31)))) else Q (y >>> ((z &&& (nI 7)) &&& 31))
theorem D210_ofTwo_mono {x : Int32} {y : Int32} {z : Int32} {Q Q' : Int32 → Prop} (k : D210_ofTwo x y z Q) (m : ∀ v, Q v → Q' v) : D210_ofTwo x y z Q' := by
  unfold D210_ofTwo at k ⊢
  refine itm k (fun k => ?_) (fun k => ?_)
  · exact m _ k
  · refine itm k (fun k => ?_) (fun k => ?_)
    · exact m _ k
    · refine itm k (fun k => ?_) (fun k => ?_)
      · exact m _ k
      · refine itm k (fun k => ?_) (fun k => ?_)
        · refine itm k (fun k => ?_) (fun k => ?_)
          · exact m _ k
          · refine ⟨k.1, ?_⟩
            replace k := k.2
            exact m _ k
        · refine itm k (fun k => ?_) (fun k => ?_)
          · refine itm k (fun k => ?_) (fun k => ?_)
            · exact m _ k
            · refine ⟨k.1, ?_⟩
              replace k := k.2
              exact m _ k
          · refine itm k (fun k => ?_) (fun k => ?_)
            · exact m _ k
            · refine itm k (fun k => ?_) (fun k => ?_)
              · exact m _ k
              · refine itm k (fun k => ?_) (fun k => ?_)
                · exact m _ k
                · refine itm k (fun k => ?_) (fun k => ?_)
                  · exact m _ k
                  · exact m _ k
def D30_ofTwo (x : Int32) (y : Int32) (z : Int32) (A I : HA) (Q : Int32 → HA → HA → Prop) : Prop := D25_isNumber y (fun v1 => if v1 = 0 then D28_sizeOf y A I (fun v2 => D28_sizeOf z A I (fun v3 => D29_make x y z ((v2 + v3) + (nI 1)) A I (fun v4 A5 I6 => Q v4 A5 I6))) else D25_isNumber z (fun v7 => if v7 = 0 then D28_sizeOf y A I (fun v8 => D28_sizeOf z A I (fun v9 => D29_make x y z ((v8 + v9) + (nI 1)) A I (fun v10 A11 I12 => Q v10 A11 I12))) else D26_numberIn y (fun v13 => D26_numberIn z (fun v14 => D210_ofTwo x v13 v14 (fun v15 => D27_number v15 (fun v16 => Q v16 A I))))))
theorem D30_ofTwo_mono {x : Int32} {y : Int32} {z : Int32} {A I : HA} {Q Q' : Int32 → HA → HA → Prop} (k : D30_ofTwo x y z A I Q) (m : ∀ v A I, Q v A I → Q' v A I) : D30_ofTwo x y z A I Q' := by
  unfold D30_ofTwo at k ⊢
  refine D25_isNumber_mono k (fun _ k => ?_)
  refine itm k (fun k => ?_) (fun k => ?_)
  · refine D28_sizeOf_mono k (fun _ k => ?_)
    refine D28_sizeOf_mono k (fun _ k => ?_)
    refine D29_make_mono k (fun _ _ _ k => ?_)
    exact m _ _ _ k
  · refine D25_isNumber_mono k (fun _ k => ?_)
    refine itm k (fun k => ?_) (fun k => ?_)
    · refine D28_sizeOf_mono k (fun _ k => ?_)
      refine D28_sizeOf_mono k (fun _ k => ?_)
      refine D29_make_mono k (fun _ _ _ k => ?_)
      exact m _ _ _ k
    · refine D26_numberIn_mono k (fun _ k => ?_)
      refine D26_numberIn_mono k (fun _ k => ?_)
      refine D210_ofTwo_mono k (fun _ k => ?_)
      refine D27_number_mono k (fun _ k => ?_)
      exact m _ _ _ k
def D123_placeNow (w : Nat) (A I : HA) (Q : Int32 → Prop) : Prop := vp_in (I w 4) 4 ∧ (vp_in (I w 4) 4 ∧ (Q (((nI 100) * (A (w + 1) (I w 4).toNatClampNeg)) + (A (w + 2) (I w 4).toNatClampNeg))))
theorem D123_placeNow_mono {w : Nat} {A I : HA} {Q Q' : Int32 → Prop} (k : D123_placeNow w A I Q) (m : ∀ v, Q v → Q' v) : D123_placeNow w A I Q' := by
  unfold D123_placeNow at k ⊢
  refine ⟨k.1, ?_⟩
  replace k := k.2
  refine ⟨k.1, ?_⟩
  replace k := k.2
  exact m _ k
def D124_end (w : Nat) (x : Int32) (y : Int32) (A I : HA) (Q : HA → HA → Prop) : Prop := Q A (sI (sI I w 12 x) w 13 y)
theorem D124_end_mono {w : Nat} {x : Int32} {y : Int32} {A I : HA} {Q Q' : HA → HA → Prop} (k : D124_end w x y A I Q) (m : ∀ A I, Q A I → Q' A I) : D124_end w x y A I Q' := by
  unfold D124_end at k ⊢
  exact m _ _ k
def D126_push (w : Nat) (x : Int32) (A I : HA) (Q : HA → HA → Prop) : Prop := vp_in (I w 4) 4 ∧ (if (A (w + 3) (I w 4).toNatClampNeg) < (nI 12) then vp_in (I w 4) 4 ∧ (vp_in ((((I w 4) * (nI 18)) + (nI 6)) + (A (w + 3) (I w 4).toNatClampNeg)) 72 ∧ (vp_in (I w 4) 4 ∧ (vp_in (I w 4) 4 ∧ (Q (sA (sA A (w + 4) ((((I w 4) * (nI 18)) + (nI 6)) + (A (w + 3) (I w 4).toNatClampNeg)).toNatClampNeg x) (w + 3) (I w 4).toNatClampNeg (((sA A (w + 4) ((((I w 4) * (nI 18)) + (nI 6)) + (A (w + 3) (I w 4).toNatClampNeg)).toNatClampNeg x) (w + 3) (I w 4).toNatClampNeg) + (nI 1))) I)))) else Q A I)
theorem D126_push_mono {w : Nat} {x : Int32} {A I : HA} {Q Q' : HA → HA → Prop} (k : D126_push w x A I Q) (m : ∀ A I, Q A I → Q' A I) : D126_push w x A I Q' := by
  unfold D126_push at k ⊢
  refine ⟨k.1, ?_⟩
  replace k := k.2
  refine itm k (fun k => ?_) (fun k => ?_)
  · refine ⟨k.1, ?_⟩
    replace k := k.2
    refine ⟨k.1, ?_⟩
    replace k := k.2
    refine ⟨k.1, ?_⟩
    replace k := k.2
    refine ⟨k.1, ?_⟩
    replace k := k.2
    exact m _ _ k
  · exact m _ _ k
def D125_finish (w : Nat) (x : Int32) (y : Int32) (A I : HA) (Q : HA → HA → Prop) : Prop := D120_drop w x A I (fun A1 I2 => D126_push w y A1 I2 (fun A3 I4 => vp_in (I4 w 4) 4 ∧ (vp_in (I4 w 4) 4 ∧ (Q (sA A3 (w + 2) (I4 w 4).toNatClampNeg ((A3 (w + 2) (I4 w 4).toNatClampNeg) + (nI 1))) I4))))
theorem D125_finish_mono {w : Nat} {x : Int32} {y : Int32} {A I : HA} {Q Q' : HA → HA → Prop} (k : D125_finish w x y A I Q) (m : ∀ A I, Q A I → Q' A I) : D125_finish w x y A I Q' := by
  unfold D125_finish at k ⊢
  refine D120_drop_mono k (fun _ _ k => ?_)
  refine D126_push_mono k (fun _ _ k => ?_)
  refine ⟨k.1, ?_⟩
  replace k := k.2
  refine ⟨k.1, ?_⟩
  replace k := k.2
  exact m _ _ k
def D50_compute (w : Nat) (x : Int32) (A I : HA) (Q : HA → HA → Prop) : Prop := vp_in x 30 ∧ (if (A 1 x.toNatClampNeg) = (nI 1) then D122_peek w (nI 0) A I (fun v12 => D24_ofOne x v12 A I (fun v13 A14 I15 => if v13 = (-1) then D123_placeNow w A14 I15 (fun v18 => D124_end w (nI 7) v18 A14 I15 (fun A19 I20 => Q A19 I20)) else D125_finish w (A 1 x.toNatClampNeg) v13 A14 I15 (fun A16 I17 => Q A16 I17))) else D122_peek w (nI 1) A I (fun v2 => D122_peek w (nI 0) A I (fun v3 => D30_ofTwo x v2 v3 A I (fun v4 A5 I6 => if v4 = (-1) then D123_placeNow w A5 I6 (fun v9 => D124_end w (nI 7) v9 A5 I6 (fun A10 I11 => Q A10 I11)) else D125_finish w (A 1 x.toNatClampNeg) v4 A5 I6 (fun A7 I8 => Q A7 I8)))))
theorem D50_compute_mono {w : Nat} {x : Int32} {A I : HA} {Q Q' : HA → HA → Prop} (k : D50_compute w x A I Q) (m : ∀ A I, Q A I → Q' A I) : D50_compute w x A I Q' := by
  unfold D50_compute at k ⊢
  refine ⟨k.1, ?_⟩
  replace k := k.2
  refine itm k (fun k => ?_) (fun k => ?_)
  · refine D122_peek_mono k (fun _ k => ?_)
    refine D24_ofOne_mono k (fun _ _ _ k => ?_)
    refine itm k (fun k => ?_) (fun k => ?_)
    · refine D123_placeNow_mono k (fun _ k => ?_)
      refine D124_end_mono k (fun _ _ k => ?_)
      exact m _ _ k
    · refine D125_finish_mono k (fun _ _ k => ?_)
      exact m _ _ k
  · refine D122_peek_mono k (fun _ k => ?_)
    refine D122_peek_mono k (fun _ k => ?_)
    refine D30_ofTwo_mono k (fun _ _ _ k => ?_)
    refine itm k (fun k => ?_) (fun k => ?_)
    · refine D123_placeNow_mono k (fun _ k => ?_)
      refine D124_end_mono k (fun _ _ k => ?_)
      exact m _ _ k
    · refine D125_finish_mono k (fun _ _ k => ?_)
      exact m _ _ k
def D127_methodNow (w : Nat) (A I : HA) (Q : Int32 → Prop) : Prop := vp_in (I w 4) 4 ∧ (Q (A (w + 1) (I w 4).toNatClampNeg))
theorem D127_methodNow_mono {w : Nat} {A I : HA} {Q Q' : Int32 → Prop} (k : D127_methodNow w A I Q) (m : ∀ v, Q v → Q' v) : D127_methodNow w A I Q' := by
  unfold D127_methodNow at k ⊢
  refine ⟨k.1, ?_⟩
  replace k := k.2
  exact m _ k
def D82_handlerTarget (x : Int32) (y : Int32) (z : Int32) (A I : HA) (Q : Int32 → Prop) : Prop := (∀ P1 : Int32 → Prop, (∀ (a2 : Int32), (vp_in x 6 ∧ (if a2 < ((x * (nI 4)) + (A 27 x.toNatClampNeg)) then vp_in a2 24 ∧ (if (A 31 a2.toNatClampNeg) = 0 then vp_in a2 24 ∧ (if y < (A 28 a2.toNatClampNeg) then P1 (a2 + nI 1) else vp_in a2 24 ∧ (if y < (A 29 a2.toNatClampNeg) then vp_in a2 24 ∧ (Q (A 30 a2.toNatClampNeg)) else P1 (a2 + nI 1))) else vp_in a2 24 ∧ (if (A 31 a2.toNatClampNeg) = z then vp_in a2 24 ∧ (if y < (A 28 a2.toNatClampNeg) then P1 (a2 + nI 1) else vp_in a2 24 ∧ (if y < (A 29 a2.toNatClampNeg) then vp_in a2 24 ∧ (Q (A 30 a2.toNatClampNeg)) else P1 (a2 + nI 1))) else P1 (a2 + nI 1))) else Q (-1))) → P1 a2) → P1 (x * (nI 4)))
theorem D82_handlerTarget_mono {x : Int32} {y : Int32} {z : Int32} {A I : HA} {Q Q' : Int32 → Prop} (k : D82_handlerTarget x y z A I Q) (m : ∀ v, Q v → Q' v) : D82_handlerTarget x y z A I Q' := by
  unfold D82_handlerTarget at k ⊢
  intro P hP
  refine k P (fun a0 k => hP a0 ?_)
  refine ⟨k.1, ?_⟩
  replace k := k.2
  refine itm k (fun k => ?_) (fun k => ?_)
  · refine ⟨k.1, ?_⟩
    replace k := k.2
    refine itm k (fun k => ?_) (fun k => ?_)
    · refine ⟨k.1, ?_⟩
      replace k := k.2
      refine itm k (fun k => ?_) (fun k => ?_)
      · exact k
      · refine ⟨k.1, ?_⟩
        replace k := k.2
        refine itm k (fun k => ?_) (fun k => ?_)
        · refine ⟨k.1, ?_⟩
          replace k := k.2
          exact m _ k
        · exact k
    · refine ⟨k.1, ?_⟩
      replace k := k.2
      refine itm k (fun k => ?_) (fun k => ?_)
      · refine ⟨k.1, ?_⟩
        replace k := k.2
        refine itm k (fun k => ?_) (fun k => ?_)
        · exact k
        · refine ⟨k.1, ?_⟩
          replace k := k.2
          refine itm k (fun k => ?_) (fun k => ?_)
          · refine ⟨k.1, ?_⟩
            replace k := k.2
            exact m _ k
          · exact k
      · exact k
  · exact m _ k
def D128_leave (w : Nat) (A I : HA) (Q : Int32 → HA → HA → Prop) : Prop := if (I w 4) = 0 then Q (nI 0) A I else Q (nI 1) A (sI I w 4 ((I w 4) - (nI 1)))
theorem D128_leave_mono {w : Nat} {A I : HA} {Q Q' : Int32 → HA → HA → Prop} (k : D128_leave w A I Q) (m : ∀ v A I, Q v A I → Q' v A I) : D128_leave w A I Q' := by
  unfold D128_leave at k ⊢
  refine itm k (fun k => ?_) (fun k => ?_)
  · exact m _ _ _ k
  · exact m _ _ _ k
def D51_raise (w : Nat) (x : Int32) (A I : HA) (Q : HA → HA → Prop) : Prop := D123_placeNow w A I (fun v1 => (∀ P2 : Int32 → HA → HA → Prop, (∀ (a3 : Int32) (A5 I6 : HA), (if a3 < (nI 4) then D127_methodNow w A5 I6 (fun v8 => D119_operationNow w A5 I6 (fun v9 => D82_handlerTarget v8 v9 x A5 I6 (fun v10 => if v10 = (-1) then D128_leave w A5 I6 (fun v11 A12 I13 => if v11 = 0 then D124_end w (nI 3) v1 A12 (sI I13 w 14 x) (fun A14 I15 => Q A14 I15) else P2 (a3 + nI 1) A12 I13) else D120_drop w (nI 12) A5 I6 (fun A16 I17 => D27_number x (fun v18 => D126_push w v18 A16 I17 (fun A19 I20 => D121_jump w v10 A19 I20 (fun A21 I22 => Q A21 I22))))))) else Q A5 I6) → P2 a3 A5 I6) → P2 (nI 0) A I))
theorem D51_raise_mono {w : Nat} {x : Int32} {A I : HA} {Q Q' : HA → HA → Prop} (k : D51_raise w x A I Q) (m : ∀ A I, Q A I → Q' A I) : D51_raise w x A I Q' := by
  unfold D51_raise at k ⊢
  refine D123_placeNow_mono k (fun _ k => ?_)
  intro P hP
  refine k P (fun a0 a1 a2 k => hP a0 a1 a2 ?_)
  refine itm k (fun k => ?_) (fun k => ?_)
  · refine D127_methodNow_mono k (fun _ k => ?_)
    refine D119_operationNow_mono k (fun _ k => ?_)
    refine D82_handlerTarget_mono k (fun _ k => ?_)
    refine itm k (fun k => ?_) (fun k => ?_)
    · refine D128_leave_mono k (fun _ _ _ k => ?_)
      refine itm k (fun k => ?_) (fun k => ?_)
      · refine D124_end_mono k (fun _ _ k => ?_)
        exact m _ _ k
      · exact k
    · refine D120_drop_mono k (fun _ _ k => ?_)
      refine D27_number_mono k (fun _ k => ?_)
      refine D126_push_mono k (fun _ _ k => ?_)
      refine D121_jump_mono k (fun _ _ k => ?_)
      exact m _ _ k
  · exact m _ _ k
def D129_hasAllArrays (w : Nat) (A I : HA) (Q : Int32 → Prop) : Prop := if (I w 7) < (nI 4) then Q (nI 0) else Q (nI 1)
theorem D129_hasAllArrays_mono {w : Nat} {A I : HA} {Q Q' : Int32 → Prop} (k : D129_hasAllArrays w A I Q) (m : ∀ v, Q v → Q' v) : D129_hasAllArrays w A I Q' := by
  unfold D129_hasAllArrays at k ⊢
  refine itm k (fun k => ?_) (fun k => ?_)
  · exact m _ k
  · exact m _ k
def D130_addArray (w : Nat) (x : Int32) (A I : HA) (Q : Int32 → HA → HA → Prop) : Prop := vp_in (I w 7) 4 ∧ ((∀ P2 : Int32 → HA → HA → Prop, (∀ (a3 : Int32) (A4 I5 : HA), (if a3 < x then D27_number (nI 0) (fun v7 => vp_in (((I w 7) * (nI 5)) + a3) 20 ∧ (P2 (a3 + nI 1) (sA A4 (w + 6) (((I w 7) * (nI 5)) + a3).toNatClampNeg v7) I5)) else Q ((-2) - (((sI I5 w 7 ((I5 w 7) + (nI 1))) w 7) - (nI 1))) A4 (sI I5 w 7 ((I5 w 7) + (nI 1)))) → P2 a3 A4 I5) → P2 (nI 0) (sA A (w + 5) (I w 7).toNatClampNeg x) I))
theorem D130_addArray_mono {w : Nat} {x : Int32} {A I : HA} {Q Q' : Int32 → HA → HA → Prop} (k : D130_addArray w x A I Q) (m : ∀ v A I, Q v A I → Q' v A I) : D130_addArray w x A I Q' := by
  unfold D130_addArray at k ⊢
  refine ⟨k.1, ?_⟩
  replace k := k.2
  intro P hP
  refine k P (fun a0 a1 a2 k => hP a0 a1 a2 ?_)
  refine itm k (fun k => ?_) (fun k => ?_)
  · refine D27_number_mono k (fun _ k => ?_)
    refine ⟨k.1, ?_⟩
    replace k := k.2
    exact k
  · exact m _ _ _ k
def D52_makeArray (w : Nat) (x : Int32) (A I : HA) (Q : HA → HA → Prop) : Prop := if x = (nI 6) then D51_raise w (nI 3) A I (fun A11 I12 => Q A11 I12) else if (nI 5) < x then D51_raise w (nI 4) A I (fun A1 I2 => Q A1 I2) else D129_hasAllArrays w A I (fun v3 => if v3 = 0 then D130_addArray w x A I (fun v4 A5 I6 => D125_finish w (nI 1) v4 A5 I6 (fun A7 I8 => Q A7 I8)) else D51_raise w (nI 4) A I (fun A9 I10 => Q A9 I10))
theorem D52_makeArray_mono {w : Nat} {x : Int32} {A I : HA} {Q Q' : HA → HA → Prop} (k : D52_makeArray w x A I Q) (m : ∀ A I, Q A I → Q' A I) : D52_makeArray w x A I Q' := by
  unfold D52_makeArray at k ⊢
  refine itm k (fun k => ?_) (fun k => ?_)
  · refine D51_raise_mono k (fun _ _ k => ?_)
    exact m _ _ k
  · refine itm k (fun k => ?_) (fun k => ?_)
    · refine D51_raise_mono k (fun _ _ k => ?_)
      exact m _ _ k
    · refine D129_hasAllArrays_mono k (fun _ k => ?_)
      refine itm k (fun k => ?_) (fun k => ?_)
      · refine D130_addArray_mono k (fun _ _ _ k => ?_)
        refine D125_finish_mono k (fun _ _ k => ?_)
        exact m _ _ k
      · refine D51_raise_mono k (fun _ _ k => ?_)
        exact m _ _ k
def D55_needsArray (x : Int32) (Q : Int32 → Prop) : Prop := if x = (nI 22) then Q (nI 1) else if x = (nI 23) then Q (nI 1) else if x = (nI 24) then Q (nI 1) else Q (nI 0)
theorem D55_needsArray_mono {x : Int32} {Q Q' : Int32 → Prop} (k : D55_needsArray x Q) (m : ∀ v, Q v → Q' v) : D55_needsArray x Q' := by
  unfold D55_needsArray at k ⊢
  refine itm k (fun k => ?_) (fun k => ?_)
  · exact m _ k
  · refine itm k (fun k => ?_) (fun k => ?_)
    · exact m _ k
    · refine itm k (fun k => ?_) (fun k => ?_)
      · exact m _ k
      · exact m _ k
def D54_arrayOf (w : Nat) (x : Int32) (A I : HA) (Q : Int32 → Prop) : Prop := D55_needsArray x (fun v1 => if v1 = 0 then Q (-1) else vp_in x 30 ∧ (D122_peek w ((A 1 x.toNatClampNeg) - (nI 1)) A I (fun v3 => Q v3)))
theorem D54_arrayOf_mono {w : Nat} {x : Int32} {A I : HA} {Q Q' : Int32 → Prop} (k : D54_arrayOf w x A I Q) (m : ∀ v, Q v → Q' v) : D54_arrayOf w x A I Q' := by
  unfold D54_arrayOf at k ⊢
  refine D55_needsArray_mono k (fun _ k => ?_)
  refine itm k (fun k => ?_) (fun k => ?_)
  · exact m _ k
  · refine ⟨k.1, ?_⟩
    replace k := k.2
    refine D122_peek_mono k (fun _ k => ?_)
    exact m _ k
def D131_lengthOf (w : Nat) (x : Int32) (A I : HA) (Q : Int32 → Prop) : Prop := if (-2) < x then Q (nI 0) else if (-100) < x then vp_in ((-2) - x) 4 ∧ (Q (A (w + 5) ((-2) - x).toNatClampNeg)) else Q (nI 0)
theorem D131_lengthOf_mono {w : Nat} {x : Int32} {A I : HA} {Q Q' : Int32 → Prop} (k : D131_lengthOf w x A I Q) (m : ∀ v, Q v → Q' v) : D131_lengthOf w x A I Q' := by
  unfold D131_lengthOf at k ⊢
  refine itm k (fun k => ?_) (fun k => ?_)
  · exact m _ k
  · refine itm k (fun k => ?_) (fun k => ?_)
    · refine ⟨k.1, ?_⟩
      replace k := k.2
      exact m _ k
    · exact m _ k
def D53_lengthAt (w : Nat) (x : Int32) (A I : HA) (Q : Int32 → Prop) : Prop := D54_arrayOf w x A I (fun v1 => D131_lengthOf w v1 A I (fun v2 => Q v2))
theorem D53_lengthAt_mono {w : Nat} {x : Int32} {A I : HA} {Q Q' : Int32 → Prop} (k : D53_lengthAt w x A I Q) (m : ∀ v, Q v → Q' v) : D53_lengthAt w x A I Q' := by
  unfold D53_lengthAt at k ⊢
  refine D54_arrayOf_mono k (fun _ k => ?_)
  refine D131_lengthOf_mono k (fun _ k => ?_)
  exact m _ k
def D132_elementOf (w : Nat) (x : Int32) (y : Int32) (A I : HA) (Q : Int32 → Prop) : Prop := vp_in ((((-2) - x) * (nI 5)) + y) 20 ∧ (Q (A (w + 6) ((((-2) - x) * (nI 5)) + y).toNatClampNeg))
theorem D132_elementOf_mono {w : Nat} {x : Int32} {y : Int32} {A I : HA} {Q Q' : Int32 → Prop} (k : D132_elementOf w x y A I Q) (m : ∀ v, Q v → Q' v) : D132_elementOf w x y A I Q' := by
  unfold D132_elementOf at k ⊢
  refine ⟨k.1, ?_⟩
  replace k := k.2
  exact m _ k
def D133_keepElement (w : Nat) (x : Int32) (y : Int32) (z : Int32) (A I : HA) (Q : HA → HA → Prop) : Prop := vp_in ((((-2) - x) * (nI 5)) + y) 20 ∧ (Q (sA A (w + 6) ((((-2) - x) * (nI 5)) + y).toNatClampNeg z) I)
theorem D133_keepElement_mono {w : Nat} {x : Int32} {y : Int32} {z : Int32} {A I : HA} {Q Q' : HA → HA → Prop} (k : D133_keepElement w x y z A I Q) (m : ∀ A I, Q A I → Q' A I) : D133_keepElement w x y z A I Q' := by
  unfold D133_keepElement at k ⊢
  refine ⟨k.1, ?_⟩
  replace k := k.2
  exact m _ _ k
def D134_next (w : Nat) (A I : HA) (Q : HA → HA → Prop) : Prop := vp_in (I w 4) 4 ∧ (vp_in (I w 4) 4 ∧ (Q (sA A (w + 2) (I w 4).toNatClampNeg ((A (w + 2) (I w 4).toNatClampNeg) + (nI 1))) I))
theorem D134_next_mono {w : Nat} {A I : HA} {Q Q' : HA → HA → Prop} (k : D134_next w A I Q) (m : ∀ A I, Q A I → Q' A I) : D134_next w A I Q' := by
  unfold D134_next at k ⊢
  refine ⟨k.1, ?_⟩
  replace k := k.2
  refine ⟨k.1, ?_⟩
  replace k := k.2
  exact m _ _ k
def D56_useElement (w : Nat) (x : Int32) (y : Int32) (A I : HA) (Q : HA → HA → Prop) : Prop := D54_arrayOf w x A I (fun v1 => if x = (nI 22) then D132_elementOf w v1 y A I (fun v9 => D125_finish w (nI 2) v9 A I (fun A10 I11 => Q A10 I11)) else D122_peek w (nI 0) A I (fun v2 => D133_keepElement w v1 y v2 A I (fun A3 I4 => D120_drop w (nI 3) A3 I4 (fun A5 I6 => D134_next w A5 I6 (fun A7 I8 => Q A7 I8)))))
theorem D56_useElement_mono {w : Nat} {x : Int32} {y : Int32} {A I : HA} {Q Q' : HA → HA → Prop} (k : D56_useElement w x y A I Q) (m : ∀ A I, Q A I → Q' A I) : D56_useElement w x y A I Q' := by
  unfold D56_useElement at k ⊢
  refine D54_arrayOf_mono k (fun _ k => ?_)
  refine itm k (fun k => ?_) (fun k => ?_)
  · refine D132_elementOf_mono k (fun _ k => ?_)
    refine D125_finish_mono k (fun _ _ k => ?_)
    exact m _ _ k
  · refine D122_peek_mono k (fun _ k => ?_)
    refine D133_keepElement_mono k (fun _ _ k => ?_)
    refine D120_drop_mono k (fun _ _ k => ?_)
    refine D134_next_mono k (fun _ _ k => ?_)
    exact m _ _ k
def D48_act (w : Nat) (x : Int32) (y : Int32) (A I : HA) (Q : HA → HA → Prop) : Prop := if x = nI 9 then if y = 0 then D50_compute w x A I (fun A3 I4 => Q A3 I4) else D51_raise w (nI 1) A I (fun A1 I2 => Q A1 I2) else if x = nI 10 then if y = 0 then D50_compute w x A I (fun A7 I8 => Q A7 I8) else D51_raise w (nI 1) A I (fun A5 I6 => Q A5 I6) else if x = nI 18 then if y = 0 then D49_numberOf w A I (fun v14 => D120_drop w (nI 2) A I (fun A15 I16 => D121_jump w v14 A15 I16 (fun A17 I18 => Q A17 I18))) else D119_operationNow w A I (fun v9 => D120_drop w (nI 2) A I (fun A10 I11 => D121_jump w (v9 + (nI 1)) A10 I11 (fun A12 I13 => Q A12 I13))) else if x = nI 19 then if y = 0 then D49_numberOf w A I (fun v24 => D120_drop w (nI 2) A I (fun A25 I26 => D121_jump w v24 A25 I26 (fun A27 I28 => Q A27 I28))) else D119_operationNow w A I (fun v19 => D120_drop w (nI 2) A I (fun A20 I21 => D121_jump w (v19 + (nI 1)) A20 I21 (fun A22 I23 => Q A22 I23))) else if x = nI 21 then D52_makeArray w y A I (fun A29 I30 => Q A29 I30) else D53_lengthAt w x A I (fun v31 => if y < v31 then D56_useElement w x y A I (fun A34 I35 => Q A34 I35) else D51_raise w (nI 2) A I (fun A32 I33 => Q A32 I33))
theorem D48_act_mono {w : Nat} {x : Int32} {y : Int32} {A I : HA} {Q Q' : HA → HA → Prop} (k : D48_act w x y A I Q) (m : ∀ A I, Q A I → Q' A I) : D48_act w x y A I Q' := by
  unfold D48_act at k ⊢
  refine itm k (fun k => ?_) (fun k => ?_)
  · refine itm k (fun k => ?_) (fun k => ?_)
    · refine D50_compute_mono k (fun _ _ k => ?_)
      exact m _ _ k
    · refine D51_raise_mono k (fun _ _ k => ?_)
      exact m _ _ k
  · refine itm k (fun k => ?_) (fun k => ?_)
    · refine itm k (fun k => ?_) (fun k => ?_)
      · refine D50_compute_mono k (fun _ _ k => ?_)
        exact m _ _ k
      · refine D51_raise_mono k (fun _ _ k => ?_)
        exact m _ _ k
    · refine itm k (fun k => ?_) (fun k => ?_)
      · refine itm k (fun k => ?_) (fun k => ?_)
        · refine D49_numberOf_mono k (fun _ k => ?_)
          refine D120_drop_mono k (fun _ _ k => ?_)
          refine D121_jump_mono k (fun _ _ k => ?_)
          exact m _ _ k
        · refine D119_operationNow_mono k (fun _ k => ?_)
          refine D120_drop_mono k (fun _ _ k => ?_)
          refine D121_jump_mono k (fun _ _ k => ?_)
          exact m _ _ k
      · refine itm k (fun k => ?_) (fun k => ?_)
        · refine itm k (fun k => ?_) (fun k => ?_)
          · refine D49_numberOf_mono k (fun _ k => ?_)
            refine D120_drop_mono k (fun _ _ k => ?_)
            refine D121_jump_mono k (fun _ _ k => ?_)
            exact m _ _ k
          · refine D119_operationNow_mono k (fun _ k => ?_)
            refine D120_drop_mono k (fun _ _ k => ?_)
            refine D121_jump_mono k (fun _ _ k => ?_)
            exact m _ _ k
        · refine itm k (fun k => ?_) (fun k => ?_)
          · refine D52_makeArray_mono k (fun _ _ k => ?_)
            exact m _ _ k
          · refine D53_lengthAt_mono k (fun _ k => ?_)
            refine itm k (fun k => ?_) (fun k => ?_)
            · refine D56_useElement_mono k (fun _ _ k => ?_)
              exact m _ _ k
            · refine D51_raise_mono k (fun _ _ k => ?_)
              exact m _ _ k
def D135_hasEnded (w : Nat) (A I : HA) (Q : Int32 → Prop) : Prop := if (I w 12) = 0 then Q (nI 0) else Q (nI 1)
theorem D135_hasEnded_mono {w : Nat} {A I : HA} {Q Q' : Int32 → Prop} (k : D135_hasEnded w A I Q) (m : ∀ v, Q v → Q' v) : D135_hasEnded w A I Q' := by
  unfold D135_hasEnded at k ⊢
  refine itm k (fun k => ?_) (fun k => ?_)
  · exact m _ k
  · exact m _ k
def D83_hasOperation (x : Int32) (y : Int32) (A I : HA) (Q : Int32 → Prop) : Prop := if y < 0 then Q (nI 0) else vp_in x 6 ∧ (if y < (A 24 x.toNatClampNeg) then Q (nI 1) else Q (nI 0))
theorem D83_hasOperation_mono {x : Int32} {y : Int32} {A I : HA} {Q Q' : Int32 → Prop} (k : D83_hasOperation x y A I Q) (m : ∀ v, Q v → Q' v) : D83_hasOperation x y A I Q' := by
  unfold D83_hasOperation at k ⊢
  refine itm k (fun k => ?_) (fun k => ?_)
  · exact m _ k
  · refine ⟨k.1, ?_⟩
    replace k := k.2
    refine itm k (fun k => ?_) (fun k => ?_)
    · exact m _ k
    · exact m _ k
def D57_comesToOne (w : Nat) (x : Int32) (A I : HA) (Q : Int32 → HA → HA → Prop) : Prop := D135_hasEnded w A I (fun v1 => if v1 = 0 then if (I w 11) < x then D127_methodNow w A I (fun v2 => D119_operationNow w A I (fun v3 => D83_hasOperation v2 v3 A I (fun v4 => if v4 = 0 then D123_placeNow w A I (fun v5 => D124_end w (nI 5) v5 A I (fun A6 I7 => Q (nI 0) A6 I7)) else Q (nI 1) A (sI I w 11 ((I w 11) + (nI 1)))))) else D123_placeNow w A I (fun v8 => D124_end w (nI 4) v8 A I (fun A9 I10 => Q (nI 0) A9 I10)) else Q (nI 0) A I)
theorem D57_comesToOne_mono {w : Nat} {x : Int32} {A I : HA} {Q Q' : Int32 → HA → HA → Prop} (k : D57_comesToOne w x A I Q) (m : ∀ v A I, Q v A I → Q' v A I) : D57_comesToOne w x A I Q' := by
  unfold D57_comesToOne at k ⊢
  refine D135_hasEnded_mono k (fun _ k => ?_)
  refine itm k (fun k => ?_) (fun k => ?_)
  · refine itm k (fun k => ?_) (fun k => ?_)
    · refine D127_methodNow_mono k (fun _ k => ?_)
      refine D119_operationNow_mono k (fun _ k => ?_)
      refine D83_hasOperation_mono k (fun _ k => ?_)
      refine itm k (fun k => ?_) (fun k => ?_)
      · refine D123_placeNow_mono k (fun _ k => ?_)
        refine D124_end_mono k (fun _ _ k => ?_)
        exact m _ _ _ k
      · exact m _ _ _ k
    · refine D123_placeNow_mono k (fun _ k => ?_)
      refine D124_end_mono k (fun _ _ k => ?_)
      exact m _ _ _ k
  · exact m _ _ _ k
def D84_canBeCalled (x : Int32) (A I : HA) (Q : Int32 → Prop) : Prop := D74_hasMethod x A I (fun v1 => if v1 = 0 then Q (nI 0) else vp_in x 6 ∧ (if 0 < (A 24 x.toNatClampNeg) then Q (nI 1) else Q (nI 0)))
theorem D84_canBeCalled_mono {x : Int32} {A I : HA} {Q Q' : Int32 → Prop} (k : D84_canBeCalled x A I Q) (m : ∀ v, Q v → Q' v) : D84_canBeCalled x A I Q' := by
  unfold D84_canBeCalled at k ⊢
  refine D74_hasMethod_mono k (fun _ k => ?_)
  refine itm k (fun k => ?_) (fun k => ?_)
  · exact m _ k
  · refine ⟨k.1, ?_⟩
    replace k := k.2
    refine itm k (fun k => ?_) (fun k => ?_)
    · exact m _ k
    · exact m _ k
def D85_argumentsOf (x : Int32) (A I : HA) (Q : Int32 → Prop) : Prop := vp_in x 6 ∧ (Q (A 23 x.toNatClampNeg))
theorem D85_argumentsOf_mono {x : Int32} {A I : HA} {Q Q' : Int32 → Prop} (k : D85_argumentsOf x A I Q) (m : ∀ v, Q v → Q' v) : D85_argumentsOf x A I Q' := by
  unfold D85_argumentsOf at k ⊢
  refine ⟨k.1, ?_⟩
  replace k := k.2
  exact m _ k
def D136_height (w : Nat) (A I : HA) (Q : Int32 → Prop) : Prop := vp_in (I w 4) 4 ∧ (Q (A (w + 3) (I w 4).toNatClampNeg))
theorem D136_height_mono {w : Nat} {A I : HA} {Q Q' : Int32 → Prop} (k : D136_height w A I Q) (m : ∀ v, Q v → Q' v) : D136_height w A I Q' := by
  unfold D136_height at k ⊢
  refine ⟨k.1, ?_⟩
  replace k := k.2
  exact m _ k
def D137_localAt (w : Nat) (x : Int32) (A I : HA) (Q : Int32 → Prop) : Prop := vp_in (((I w 4) * (nI 18)) + x) 72 ∧ (Q (A (w + 4) (((I w 4) * (nI 18)) + x).toNatClampNeg))
theorem D137_localAt_mono {w : Nat} {x : Int32} {A I : HA} {Q Q' : Int32 → Prop} (k : D137_localAt w x A I Q) (m : ∀ v, Q v → Q' v) : D137_localAt w x A I Q' := by
  unfold D137_localAt at k ⊢
  refine ⟨k.1, ?_⟩
  replace k := k.2
  exact m _ k
def D60_takesAnySort (x : Int32) (Q : Int32 → Prop) : Prop := if (nI 5) < x then if x = (nI 25) then Q (nI 1) else if x = (nI 26) then Q (nI 1) else Q (nI 0) else Q (nI 1)
theorem D60_takesAnySort_mono {x : Int32} {Q Q' : Int32 → Prop} (k : D60_takesAnySort x Q) (m : ∀ v, Q v → Q' v) : D60_takesAnySort x Q' := by
  unfold D60_takesAnySort at k ⊢
  refine itm k (fun k => ?_) (fun k => ?_)
  · refine itm k (fun k => ?_) (fun k => ?_)
    · exact m _ k
    · refine itm k (fun k => ?_) (fun k => ?_)
      · exact m _ k
      · exact m _ k
  · exact m _ k
def D61_hasWrongSort (w : Nat) (x : Int32) (y : Int32) (A I : HA) (Q : Int32 → Prop) : Prop := (∀ P1 : Int32 → Prop, (∀ (a2 : Int32), (if a2 < y then D122_peek w a2 A I (fun v6 => if v6 < 0 then if a2 = (y - (nI 1)) then D55_needsArray x (fun v8 => if v8 = 0 then if x = (nI 20) then P1 (a2 + nI 1) else Q (nI 1) else P1 (a2 + nI 1)) else Q (nI 1) else if a2 = (y - (nI 1)) then D55_needsArray x (fun v7 => if v7 = 0 then if x = (nI 20) then Q (nI 1) else P1 (a2 + nI 1) else Q (nI 1)) else P1 (a2 + nI 1)) else Q (nI 0)) → P1 a2) → P1 (nI 0))
theorem D61_hasWrongSort_mono {w : Nat} {x : Int32} {y : Int32} {A I : HA} {Q Q' : Int32 → Prop} (k : D61_hasWrongSort w x y A I Q) (m : ∀ v, Q v → Q' v) : D61_hasWrongSort w x y A I Q' := by
  unfold D61_hasWrongSort at k ⊢
  intro P hP
  refine k P (fun a0 k => hP a0 ?_)
  refine itm k (fun k => ?_) (fun k => ?_)
  · refine D122_peek_mono k (fun _ k => ?_)
    refine itm k (fun k => ?_) (fun k => ?_)
    · refine itm k (fun k => ?_) (fun k => ?_)
      · refine D55_needsArray_mono k (fun _ k => ?_)
        refine itm k (fun k => ?_) (fun k => ?_)
        · refine itm k (fun k => ?_) (fun k => ?_)
          · exact k
          · exact m _ k
        · exact k
      · exact m _ k
    · refine itm k (fun k => ?_) (fun k => ?_)
      · refine D55_needsArray_mono k (fun _ k => ?_)
        refine itm k (fun k => ?_) (fun k => ?_)
        · refine itm k (fun k => ?_) (fun k => ?_)
          · exact m _ k
          · exact k
        · exact m _ k
      · exact k
  · exact m _ k
def D59_isBroken (w : Nat) (x : Int32) (y : Int32) (A I : HA) (Q : Int32 → Prop) : Prop := if x = (nI 29) then if y = 0 then vp_in x 30 ∧ (vp_in x 30 ∧ (if x = (nI 25) then D84_canBeCalled y A I (fun v22 => if v22 = 0 then Q (nI 1) else D85_argumentsOf y A I (fun v23 => D136_height w A I (fun v24 => if v24 < v23 then Q (nI 1) else D136_height w A I (fun v25 => if (nI 12) < ((v25 - v23) + (nI 1)) then Q (nI 1) else if x = (nI 1) then D137_localAt w y A I (fun v28 => if v28 = (-100) then Q (nI 1) else Q (nI 0)) else D60_takesAnySort x (fun v26 => if v26 = 0 then D61_hasWrongSort w x v23 A I (fun v27 => if v27 = 0 then Q (nI 0) else Q (nI 1)) else Q (nI 0)))))) else D136_height w A I (fun v17 => if v17 < (A 1 x.toNatClampNeg) then Q (nI 1) else D136_height w A I (fun v18 => if (nI 12) < ((v18 - (A 1 x.toNatClampNeg)) + (A 2 x.toNatClampNeg)) then Q (nI 1) else if x = (nI 1) then D137_localAt w y A I (fun v21 => if v21 = (-100) then Q (nI 1) else Q (nI 0)) else D60_takesAnySort x (fun v19 => if v19 = 0 then D61_hasWrongSort w x (A 1 x.toNatClampNeg) A I (fun v20 => if v20 = 0 then Q (nI 0) else Q (nI 1)) else Q (nI 0)))))) else Q (nI 0) else vp_in x 30 ∧ (vp_in x 30 ∧ (if x = (nI 25) then D84_canBeCalled y A I (fun v8 => if v8 = 0 then Q (nI 1) else D85_argumentsOf y A I (fun v9 => D136_height w A I (fun v10 => if v10 < v9 then Q (nI 1) else D136_height w A I (fun v11 => if (nI 12) < ((v11 - v9) + (nI 1)) then Q (nI 1) else if x = (nI 1) then D137_localAt w y A I (fun v14 => if v14 = (-100) then Q (nI 1) else Q (nI 0)) else D60_takesAnySort x (fun v12 => if v12 = 0 then D61_hasWrongSort w x v9 A I (fun v13 => if v13 = 0 then Q (nI 0) else Q (nI 1)) else Q (nI 0)))))) else D136_height w A I (fun v3 => if v3 < (A 1 x.toNatClampNeg) then Q (nI 1) else D136_height w A I (fun v4 => if (nI 12) < ((v4 - (A 1 x.toNatClampNeg)) + (A 2 x.toNatClampNeg)) then Q (nI 1) else if x = (nI 1) then D137_localAt w y A I (fun v7 => if v7 = (-100) then Q (nI 1) else Q (nI 0)) else D60_takesAnySort x (fun v5 => if v5 = 0 then D61_hasWrongSort w x (A 1 x.toNatClampNeg) A I (fun v6 => if v6 = 0 then Q (nI 0) else Q (nI 1)) else Q (nI 0))))))
theorem D59_isBroken_mono {w : Nat} {x : Int32} {y : Int32} {A I : HA} {Q Q' : Int32 → Prop} (k : D59_isBroken w x y A I Q) (m : ∀ v, Q v → Q' v) : D59_isBroken w x y A I Q' := by
  unfold D59_isBroken at k ⊢
  refine itm k (fun k => ?_) (fun k => ?_)
  · refine itm k (fun k => ?_) (fun k => ?_)
    · refine ⟨k.1, ?_⟩
      replace k := k.2
      refine ⟨k.1, ?_⟩
      replace k := k.2
      refine itm k (fun k => ?_) (fun k => ?_)
      · refine D84_canBeCalled_mono k (fun _ k => ?_)
        refine itm k (fun k => ?_) (fun k => ?_)
        · exact m _ k
        · refine D85_argumentsOf_mono k (fun _ k => ?_)
          refine D136_height_mono k (fun _ k => ?_)
          refine itm k (fun k => ?_) (fun k => ?_)
          · exact m _ k
          · refine D136_height_mono k (fun _ k => ?_)
            refine itm k (fun k => ?_) (fun k => ?_)
            · exact m _ k
            · refine itm k (fun k => ?_) (fun k => ?_)
              · refine D137_localAt_mono k (fun _ k => ?_)
                refine itm k (fun k => ?_) (fun k => ?_)
                · exact m _ k
                · exact m _ k
              · refine D60_takesAnySort_mono k (fun _ k => ?_)
                refine itm k (fun k => ?_) (fun k => ?_)
                · refine D61_hasWrongSort_mono k (fun _ k => ?_)
                  refine itm k (fun k => ?_) (fun k => ?_)
                  · exact m _ k
                  · exact m _ k
                · exact m _ k
      · refine D136_height_mono k (fun _ k => ?_)
        refine itm k (fun k => ?_) (fun k => ?_)
        · exact m _ k
        · refine D136_height_mono k (fun _ k => ?_)
          refine itm k (fun k => ?_) (fun k => ?_)
          · exact m _ k
          · refine itm k (fun k => ?_) (fun k => ?_)
            · refine D137_localAt_mono k (fun _ k => ?_)
              refine itm k (fun k => ?_) (fun k => ?_)
              · exact m _ k
              · exact m _ k
            · refine D60_takesAnySort_mono k (fun _ k => ?_)
              refine itm k (fun k => ?_) (fun k => ?_)
              · refine D61_hasWrongSort_mono k (fun _ k => ?_)
                refine itm k (fun k => ?_) (fun k => ?_)
                · exact m _ k
                · exact m _ k
              · exact m _ k
    · exact m _ k
  · refine ⟨k.1, ?_⟩
    replace k := k.2
    refine ⟨k.1, ?_⟩
    replace k := k.2
    refine itm k (fun k => ?_) (fun k => ?_)
    · refine D84_canBeCalled_mono k (fun _ k => ?_)
      refine itm k (fun k => ?_) (fun k => ?_)
      · exact m _ k
      · refine D85_argumentsOf_mono k (fun _ k => ?_)
        refine D136_height_mono k (fun _ k => ?_)
        refine itm k (fun k => ?_) (fun k => ?_)
        · exact m _ k
        · refine D136_height_mono k (fun _ k => ?_)
          refine itm k (fun k => ?_) (fun k => ?_)
          · exact m _ k
          · refine itm k (fun k => ?_) (fun k => ?_)
            · refine D137_localAt_mono k (fun _ k => ?_)
              refine itm k (fun k => ?_) (fun k => ?_)
              · exact m _ k
              · exact m _ k
            · refine D60_takesAnySort_mono k (fun _ k => ?_)
              refine itm k (fun k => ?_) (fun k => ?_)
              · refine D61_hasWrongSort_mono k (fun _ k => ?_)
                refine itm k (fun k => ?_) (fun k => ?_)
                · exact m _ k
                · exact m _ k
              · exact m _ k
    · refine D136_height_mono k (fun _ k => ?_)
      refine itm k (fun k => ?_) (fun k => ?_)
      · exact m _ k
      · refine D136_height_mono k (fun _ k => ?_)
        refine itm k (fun k => ?_) (fun k => ?_)
        · exact m _ k
        · refine itm k (fun k => ?_) (fun k => ?_)
          · refine D137_localAt_mono k (fun _ k => ?_)
            refine itm k (fun k => ?_) (fun k => ?_)
            · exact m _ k
            · exact m _ k
          · refine D60_takesAnySort_mono k (fun _ k => ?_)
            refine itm k (fun k => ?_) (fun k => ?_)
            · refine D61_hasWrongSort_mono k (fun _ k => ?_)
              refine itm k (fun k => ?_) (fun k => ?_)
              · exact m _ k
              · exact m _ k
            · exact m _ k
def D62_isDecided (x : Int32) (Q : Int32 → Prop) : Prop := if x = (nI 18) then Q (nI 1) else if x = (nI 19) then Q (nI 1) else if x = (nI 9) then Q (nI 1) else if x = (nI 10) then Q (nI 1) else if x = (nI 22) then Q (nI 1) else if x = (nI 23) then Q (nI 1) else if x = (nI 21) then Q (nI 1) else Q (nI 0)
theorem D62_isDecided_mono {x : Int32} {Q Q' : Int32 → Prop} (k : D62_isDecided x Q) (m : ∀ v, Q v → Q' v) : D62_isDecided x Q' := by
  unfold D62_isDecided at k ⊢
  refine itm k (fun k => ?_) (fun k => ?_)
  · exact m _ k
  · refine itm k (fun k => ?_) (fun k => ?_)
    · exact m _ k
    · refine itm k (fun k => ?_) (fun k => ?_)
      · exact m _ k
      · refine itm k (fun k => ?_) (fun k => ?_)
        · exact m _ k
        · refine itm k (fun k => ?_) (fun k => ?_)
          · exact m _ k
          · refine itm k (fun k => ?_) (fun k => ?_)
            · exact m _ k
            · refine itm k (fun k => ?_) (fun k => ?_)
              · exact m _ k
              · exact m _ k
def D64_compares (x : Int32) (Q : Int32 → Prop) : Prop := if x = (nI 18) then Q (nI 1) else if x = (nI 19) then Q (nI 1) else Q (nI 0)
theorem D64_compares_mono {x : Int32} {Q Q' : Int32 → Prop} (k : D64_compares x Q) (m : ∀ v, Q v → Q' v) : D64_compares x Q' := by
  unfold D64_compares at k ⊢
  refine itm k (fun k => ?_) (fun k => ?_)
  · exact m _ k
  · refine itm k (fun k => ?_) (fun k => ?_)
    · exact m _ k
    · exact m _ k
def D63_leftOf (w : Nat) (x : Int32) (A I : HA) (Q : Int32 → Prop) : Prop := D64_compares x (fun v1 => if v1 = 0 then if x = (nI 23) then D122_peek w (nI 1) A I (fun v4 => Q v4) else D122_peek w (nI 0) A I (fun v3 => Q v3) else D122_peek w (nI 1) A I (fun v2 => Q v2))
theorem D63_leftOf_mono {w : Nat} {x : Int32} {A I : HA} {Q Q' : Int32 → Prop} (k : D63_leftOf w x A I Q) (m : ∀ v, Q v → Q' v) : D63_leftOf w x A I Q' := by
  unfold D63_leftOf at k ⊢
  refine D64_compares_mono k (fun _ k => ?_)
  refine itm k (fun k => ?_) (fun k => ?_)
  · refine itm k (fun k => ?_) (fun k => ?_)
    · refine D122_peek_mono k (fun _ k => ?_)
      exact m _ k
    · refine D122_peek_mono k (fun _ k => ?_)
      exact m _ k
  · refine D122_peek_mono k (fun _ k => ?_)
    exact m _ k
def D65_rightOf (w : Nat) (x : Int32) (A I : HA) (Q : Int32 → Prop) : Prop := D64_compares x (fun v1 => if v1 = 0 then D27_number (nI 0) (fun v2 => Q v2) else D122_peek w (nI 0) A I (fun v3 => Q v3))
theorem D65_rightOf_mono {w : Nat} {x : Int32} {A I : HA} {Q Q' : Int32 → Prop} (k : D65_rightOf w x A I Q) (m : ∀ v, Q v → Q' v) : D65_rightOf w x A I Q' := by
  unfold D65_rightOf at k ⊢
  refine D64_compares_mono k (fun _ k => ?_)
  refine itm k (fun k => ?_) (fun k => ?_)
  · refine D27_number_mono k (fun _ k => ?_)
    exact m _ k
  · refine D122_peek_mono k (fun _ k => ?_)
    exact m _ k
def D66_choose (x : Int32) (y : Int32) (z : Int32) (u1 : Int32) (Q : Int32 → Prop) : Prop := if x = nI 9 then if y = 0 then Q (nI 1) else Q (nI 0) else if x = nI 10 then if y = 0 then Q (nI 1) else Q (nI 0) else if x = nI 18 then if y < z then Q (nI 0) else Q (nI 1) else if x = nI 19 then if y = z then Q (nI 0) else Q (nI 1) else if x = nI 21 then if y < 0 then Q (nI 6) else if (nI 5) < y then Q (nI 7) else Q y else if y < 0 then Q u1 else if y < u1 then Q y else Q u1
theorem D66_choose_mono {x : Int32} {y : Int32} {z : Int32} {u1 : Int32} {Q Q' : Int32 → Prop} (k : D66_choose x y z u1 Q) (m : ∀ v, Q v → Q' v) : D66_choose x y z u1 Q' := by
  unfold D66_choose at k ⊢
  refine itm k (fun k => ?_) (fun k => ?_)
  · refine itm k (fun k => ?_) (fun k => ?_)
    · exact m _ k
    · exact m _ k
  · refine itm k (fun k => ?_) (fun k => ?_)
    · refine itm k (fun k => ?_) (fun k => ?_)
      · exact m _ k
      · exact m _ k
    · refine itm k (fun k => ?_) (fun k => ?_)
      · refine itm k (fun k => ?_) (fun k => ?_)
        · exact m _ k
        · exact m _ k
      · refine itm k (fun k => ?_) (fun k => ?_)
        · refine itm k (fun k => ?_) (fun k => ?_)
          · exact m _ k
          · exact m _ k
        · refine itm k (fun k => ?_) (fun k => ?_)
          · refine itm k (fun k => ?_) (fun k => ?_)
            · exact m _ k
            · refine itm k (fun k => ?_) (fun k => ?_)
              · exact m _ k
              · exact m _ k
          · refine itm k (fun k => ?_) (fun k => ?_)
            · exact m _ k
            · refine itm k (fun k => ?_) (fun k => ?_)
              · exact m _ k
              · exact m _ k
def D138_keepLocal (w : Nat) (x : Int32) (y : Int32) (A I : HA) (Q : HA → HA → Prop) : Prop := vp_in (((I w 4) * (nI 18)) + x) 72 ∧ (Q (sA A (w + 4) (((I w 4) * (nI 18)) + x).toNatClampNeg y) I)
theorem D138_keepLocal_mono {w : Nat} {x : Int32} {y : Int32} {A I : HA} {Q Q' : HA → HA → Prop} (k : D138_keepLocal w x y A I Q) (m : ∀ A I, Q A I → Q' A I) : D138_keepLocal w x y A I Q' := by
  unfold D138_keepLocal at k ⊢
  refine ⟨k.1, ?_⟩
  replace k := k.2
  exact m _ _ k
def D67_moveValues (w : Nat) (x : Int32) (y : Int32) (A I : HA) (Q : HA → HA → Prop) : Prop := D122_peek w (nI 0) A I (fun v1 => D122_peek w (nI 1) A I (fun v2 => vp_in x 30 ∧ (D120_drop w (A 1 x.toNatClampNeg) A I (fun A4 I5 => if x = nI 0 then D27_number y (fun v6 => D126_push w v6 A4 I5 (fun A7 I8 => D134_next w A7 I8 (fun A9 I10 => Q A9 I10))) else if x = nI 1 then D137_localAt w y A4 I5 (fun v11 => D126_push w v11 A4 I5 (fun A12 I13 => D134_next w A12 I13 (fun A14 I15 => Q A14 I15))) else if x = nI 2 then D138_keepLocal w y v1 A4 I5 (fun A16 I17 => D134_next w A16 I17 (fun A18 I19 => Q A18 I19)) else if x = nI 4 then D126_push w v1 A4 I5 (fun A20 I21 => D126_push w v1 A20 I21 (fun A22 I23 => D134_next w A22 I23 (fun A24 I25 => Q A24 I25))) else if x = nI 5 then D126_push w v1 A4 I5 (fun A26 I27 => D126_push w v2 A26 I27 (fun A28 I29 => D134_next w A28 I29 (fun A30 I31 => Q A30 I31))) else if x = nI 28 then D126_push w (-1) A4 I5 (fun A32 I33 => D134_next w A32 I33 (fun A34 I35 => Q A34 I35)) else D134_next w A4 I5 (fun A36 I37 => Q A36 I37)))))
theorem D67_moveValues_mono {w : Nat} {x : Int32} {y : Int32} {A I : HA} {Q Q' : HA → HA → Prop} (k : D67_moveValues w x y A I Q) (m : ∀ A I, Q A I → Q' A I) : D67_moveValues w x y A I Q' := by
  unfold D67_moveValues at k ⊢
  refine D122_peek_mono k (fun _ k => ?_)
  refine D122_peek_mono k (fun _ k => ?_)
  refine ⟨k.1, ?_⟩
  replace k := k.2
  refine D120_drop_mono k (fun _ _ k => ?_)
  refine itm k (fun k => ?_) (fun k => ?_)
  · refine D27_number_mono k (fun _ k => ?_)
    refine D126_push_mono k (fun _ _ k => ?_)
    refine D134_next_mono k (fun _ _ k => ?_)
    exact m _ _ k
  · refine itm k (fun k => ?_) (fun k => ?_)
    · refine D137_localAt_mono k (fun _ k => ?_)
      refine D126_push_mono k (fun _ _ k => ?_)
      refine D134_next_mono k (fun _ _ k => ?_)
      exact m _ _ k
    · refine itm k (fun k => ?_) (fun k => ?_)
      · refine D138_keepLocal_mono k (fun _ _ k => ?_)
        refine D134_next_mono k (fun _ _ k => ?_)
        exact m _ _ k
      · refine itm k (fun k => ?_) (fun k => ?_)
        · refine D126_push_mono k (fun _ _ k => ?_)
          refine D126_push_mono k (fun _ _ k => ?_)
          refine D134_next_mono k (fun _ _ k => ?_)
          exact m _ _ k
        · refine itm k (fun k => ?_) (fun k => ?_)
          · refine D126_push_mono k (fun _ _ k => ?_)
            refine D126_push_mono k (fun _ _ k => ?_)
            refine D134_next_mono k (fun _ _ k => ?_)
            exact m _ _ k
          · refine itm k (fun k => ?_) (fun k => ?_)
            · refine D126_push_mono k (fun _ _ k => ?_)
              refine D134_next_mono k (fun _ _ k => ?_)
              exact m _ _ k
            · refine D134_next_mono k (fun _ _ k => ?_)
              exact m _ _ k
def D139_isDeepest (w : Nat) (A I : HA) (Q : Int32 → Prop) : Prop := if (I w 4) < (nI 3) then Q (nI 0) else Q (nI 1)
theorem D139_isDeepest_mono {w : Nat} {A I : HA} {Q Q' : Int32 → Prop} (k : D139_isDeepest w A I Q) (m : ∀ v, Q v → Q' v) : D139_isDeepest w A I Q' := by
  unfold D139_isDeepest at k ⊢
  refine itm k (fun k => ?_) (fun k => ?_)
  · exact m _ k
  · exact m _ k
def D140_enter (w : Nat) (x : Int32) (y : Int32) (A I : HA) (Q : HA → HA → Prop) : Prop := vp_in (I w 4) 4 ∧ (D120_drop w y A I (fun A2 I3 => D117_openFrame w x A2 (sI I3 w 4 ((I3 w 4) + (nI 1))) (fun A4 I5 => ¬ (((((I w 4) * (nI 18)) + (nI 6)) + (A (w + 3) (I w 4).toNatClampNeg)) - y) < 0 ∧ ¬ ((I5 w 4) * (nI 18)) < 0 ∧ ¬ y < 0 ∧ (((((I w 4) * (nI 18)) + (nI 6)) + (A (w + 3) (I w 4).toNatClampNeg)) - y).toNatClampNeg + y.toNatClampNeg ≤ 72 ∧ ((I5 w 4) * (nI 18)).toNatClampNeg + y.toNatClampNeg ≤ 72 ∧ (Q (sC A4 (w + 4) (w + 4) (((((I w 4) * (nI 18)) + (nI 6)) + (A (w + 3) (I w 4).toNatClampNeg)) - y).toNatClampNeg ((I5 w 4) * (nI 18)).toNatClampNeg y.toNatClampNeg) I5))))
theorem D140_enter_mono {w : Nat} {x : Int32} {y : Int32} {A I : HA} {Q Q' : HA → HA → Prop} (k : D140_enter w x y A I Q) (m : ∀ A I, Q A I → Q' A I) : D140_enter w x y A I Q' := by
  unfold D140_enter at k ⊢
  refine ⟨k.1, ?_⟩
  replace k := k.2
  refine D120_drop_mono k (fun _ _ k => ?_)
  refine D117_openFrame_mono k (fun _ _ k => ?_)
  refine ⟨k.1, k.2.1, k.2.2.1, k.2.2.2.1, k.2.2.2.2.1, ?_⟩
  replace k := k.2.2.2.2.2
  exact m _ _ k
def D69_giveBack (w : Nat) (x : Int32) (A I : HA) (Q : HA → HA → Prop) : Prop := D123_placeNow w A I (fun v1 => D128_leave w A I (fun v2 A3 I4 => if v2 = 0 then if x < 0 then D124_end w (nI 2) v1 A3 (sI I4 w 15 x) (fun A7 I8 => Q A7 I8) else D124_end w (nI 1) v1 A3 (sI I4 w 15 x) (fun A5 I6 => Q A5 I6) else D125_finish w (nI 0) x A3 I4 (fun A9 I10 => Q A9 I10)))
theorem D69_giveBack_mono {w : Nat} {x : Int32} {A I : HA} {Q Q' : HA → HA → Prop} (k : D69_giveBack w x A I Q) (m : ∀ A I, Q A I → Q' A I) : D69_giveBack w x A I Q' := by
  unfold D69_giveBack at k ⊢
  refine D123_placeNow_mono k (fun _ k => ?_)
  refine D128_leave_mono k (fun _ _ _ k => ?_)
  refine itm k (fun k => ?_) (fun k => ?_)
  · refine itm k (fun k => ?_) (fun k => ?_)
    · refine D124_end_mono k (fun _ _ k => ?_)
      exact m _ _ k
    · refine D124_end_mono k (fun _ _ k => ?_)
      exact m _ _ k
  · refine D125_finish_mono k (fun _ _ k => ?_)
    exact m _ _ k
def D68_goElsewhere (w : Nat) (x : Int32) (y : Int32) (A I : HA) (Q : HA → HA → Prop) : Prop := if x = nI 17 then D121_jump w y A I (fun A1 I2 => Q A1 I2) else if x = nI 20 then D122_peek w (nI 0) A I (fun v3 => if v3 = (-1) then D120_drop w (nI 1) A I (fun A9 I10 => D121_jump w y A9 I10 (fun A11 I12 => Q A11 I12)) else D119_operationNow w A I (fun v4 => D120_drop w (nI 1) A I (fun A5 I6 => D121_jump w (v4 + (nI 1)) A5 I6 (fun A7 I8 => Q A7 I8)))) else if x = nI 24 then D122_peek w (nI 0) A I (fun v13 => D131_lengthOf w v13 A I (fun v14 => D27_number v14 (fun v15 => D125_finish w (nI 1) v15 A I (fun A16 I17 => Q A16 I17)))) else if x = nI 25 then D139_isDeepest w A I (fun v18 => if v18 = 0 then D85_argumentsOf y A I (fun v19 => D140_enter w y v19 A I (fun A20 I21 => Q A20 I21)) else D51_raise w (nI 6) A I (fun A22 I23 => Q A22 I23)) else if x = nI 26 then D122_peek w (nI 0) A I (fun v24 => D69_giveBack w v24 A I (fun A25 I26 => Q A25 I26)) else if x = nI 27 then D51_raise w y A I (fun A27 I28 => Q A27 I28) else if y = 0 then D50_compute w x A I (fun A32 I33 => Q A32 I33) else D123_placeNow w A I (fun v29 => D124_end w (nI 6) v29 A I (fun A30 I31 => Q A30 I31))
theorem D68_goElsewhere_mono {w : Nat} {x : Int32} {y : Int32} {A I : HA} {Q Q' : HA → HA → Prop} (k : D68_goElsewhere w x y A I Q) (m : ∀ A I, Q A I → Q' A I) : D68_goElsewhere w x y A I Q' := by
  unfold D68_goElsewhere at k ⊢
  refine itm k (fun k => ?_) (fun k => ?_)
  · refine D121_jump_mono k (fun _ _ k => ?_)
    exact m _ _ k
  · refine itm k (fun k => ?_) (fun k => ?_)
    · refine D122_peek_mono k (fun _ k => ?_)
      refine itm k (fun k => ?_) (fun k => ?_)
      · refine D120_drop_mono k (fun _ _ k => ?_)
        refine D121_jump_mono k (fun _ _ k => ?_)
        exact m _ _ k
      · refine D119_operationNow_mono k (fun _ k => ?_)
        refine D120_drop_mono k (fun _ _ k => ?_)
        refine D121_jump_mono k (fun _ _ k => ?_)
        exact m _ _ k
    · refine itm k (fun k => ?_) (fun k => ?_)
      · refine D122_peek_mono k (fun _ k => ?_)
        refine D131_lengthOf_mono k (fun _ k => ?_)
        refine D27_number_mono k (fun _ k => ?_)
        refine D125_finish_mono k (fun _ _ k => ?_)
        exact m _ _ k
      · refine itm k (fun k => ?_) (fun k => ?_)
        · refine D139_isDeepest_mono k (fun _ k => ?_)
          refine itm k (fun k => ?_) (fun k => ?_)
          · refine D85_argumentsOf_mono k (fun _ k => ?_)
            refine D140_enter_mono k (fun _ _ k => ?_)
            exact m _ _ k
          · refine D51_raise_mono k (fun _ _ k => ?_)
            exact m _ _ k
        · refine itm k (fun k => ?_) (fun k => ?_)
          · refine D122_peek_mono k (fun _ k => ?_)
            refine D69_giveBack_mono k (fun _ _ k => ?_)
            exact m _ _ k
          · refine itm k (fun k => ?_) (fun k => ?_)
            · refine D51_raise_mono k (fun _ _ k => ?_)
              exact m _ _ k
            · refine itm k (fun k => ?_) (fun k => ?_)
              · refine D50_compute_mono k (fun _ _ k => ?_)
                exact m _ _ k
              · refine D123_placeNow_mono k (fun _ k => ?_)
                refine D124_end_mono k (fun _ _ k => ?_)
                exact m _ _ k
def D58_stopsToSplit (w : Nat) (A I : HA) (Q : Int32 → HA → HA → Prop) : Prop := D47_opOf w A I (fun v1 => D49_numberOf w A I (fun v2 => D59_isBroken w v1 v2 A I (fun v3 => if v3 = 0 then D55_needsArray v1 (fun v4 => if v4 = 0 then D62_isDecided v1 (fun v5 => if v5 = 0 then if (nI 5) < v1 then if v1 = (nI 28) then D67_moveValues w v1 v2 A I (fun A12 I13 => Q (nI 0) A12 I13) else if (nI 16) < v1 then D68_goElsewhere w v1 v2 A I (fun A8 I9 => Q (nI 0) A8 I9) else D50_compute w v1 A I (fun A10 I11 => Q (nI 0) A10 I11) else D67_moveValues w v1 v2 A I (fun A6 I7 => Q (nI 0) A6 I7) else D63_leftOf w v1 A I (fun v14 => D65_rightOf w v1 A I (fun v15 => D25_isNumber v14 (fun v16 => if v16 = 0 then Q (nI 1) A I else D25_isNumber v15 (fun v17 => if v17 = 0 then Q (nI 1) A I else D26_numberIn v14 (fun v18 => D26_numberIn v15 (fun v19 => D53_lengthAt w v1 A I (fun v20 => D66_choose v1 v18 v19 v20 (fun v21 => D48_act w v1 v21 A I (fun A22 I23 => Q (nI 0) A22 I23)))))))))) else D54_arrayOf w v1 A I (fun v24 => if v24 = (-1) then D51_raise w (nI 5) A I (fun A44 I45 => Q (nI 0) A44 I45) else D62_isDecided v1 (fun v25 => if v25 = 0 then if (nI 5) < v1 then if v1 = (nI 28) then D67_moveValues w v1 v2 A I (fun A32 I33 => Q (nI 0) A32 I33) else if (nI 16) < v1 then D68_goElsewhere w v1 v2 A I (fun A28 I29 => Q (nI 0) A28 I29) else D50_compute w v1 A I (fun A30 I31 => Q (nI 0) A30 I31) else D67_moveValues w v1 v2 A I (fun A26 I27 => Q (nI 0) A26 I27) else D63_leftOf w v1 A I (fun v34 => D65_rightOf w v1 A I (fun v35 => D25_isNumber v34 (fun v36 => if v36 = 0 then Q (nI 1) A I else D25_isNumber v35 (fun v37 => if v37 = 0 then Q (nI 1) A I else D26_numberIn v34 (fun v38 => D26_numberIn v35 (fun v39 => D53_lengthAt w v1 A I (fun v40 => D66_choose v1 v38 v39 v40 (fun v41 => D48_act w v1 v41 A I (fun A42 I43 => Q (nI 0) A42 I43)))))))))))) else D123_placeNow w A I (fun v46 => D124_end w (nI 5) v46 A I (fun A47 I48 => Q (nI 0) A47 I48)))))
theorem D58_stopsToSplit_mono {w : Nat} {A I : HA} {Q Q' : Int32 → HA → HA → Prop} (k : D58_stopsToSplit w A I Q) (m : ∀ v A I, Q v A I → Q' v A I) : D58_stopsToSplit w A I Q' := by
  unfold D58_stopsToSplit at k ⊢
  refine D47_opOf_mono k (fun _ k => ?_)
  refine D49_numberOf_mono k (fun _ k => ?_)
  refine D59_isBroken_mono k (fun _ k => ?_)
  refine itm k (fun k => ?_) (fun k => ?_)
  · refine D55_needsArray_mono k (fun _ k => ?_)
    refine itm k (fun k => ?_) (fun k => ?_)
    · refine D62_isDecided_mono k (fun _ k => ?_)
      refine itm k (fun k => ?_) (fun k => ?_)
      · refine itm k (fun k => ?_) (fun k => ?_)
        · refine itm k (fun k => ?_) (fun k => ?_)
          · refine D67_moveValues_mono k (fun _ _ k => ?_)
            exact m _ _ _ k
          · refine itm k (fun k => ?_) (fun k => ?_)
            · refine D68_goElsewhere_mono k (fun _ _ k => ?_)
              exact m _ _ _ k
            · refine D50_compute_mono k (fun _ _ k => ?_)
              exact m _ _ _ k
        · refine D67_moveValues_mono k (fun _ _ k => ?_)
          exact m _ _ _ k
      · refine D63_leftOf_mono k (fun _ k => ?_)
        refine D65_rightOf_mono k (fun _ k => ?_)
        refine D25_isNumber_mono k (fun _ k => ?_)
        refine itm k (fun k => ?_) (fun k => ?_)
        · exact m _ _ _ k
        · refine D25_isNumber_mono k (fun _ k => ?_)
          refine itm k (fun k => ?_) (fun k => ?_)
          · exact m _ _ _ k
          · refine D26_numberIn_mono k (fun _ k => ?_)
            refine D26_numberIn_mono k (fun _ k => ?_)
            refine D53_lengthAt_mono k (fun _ k => ?_)
            refine D66_choose_mono k (fun _ k => ?_)
            refine D48_act_mono k (fun _ _ k => ?_)
            exact m _ _ _ k
    · refine D54_arrayOf_mono k (fun _ k => ?_)
      refine itm k (fun k => ?_) (fun k => ?_)
      · refine D51_raise_mono k (fun _ _ k => ?_)
        exact m _ _ _ k
      · refine D62_isDecided_mono k (fun _ k => ?_)
        refine itm k (fun k => ?_) (fun k => ?_)
        · refine itm k (fun k => ?_) (fun k => ?_)
          · refine itm k (fun k => ?_) (fun k => ?_)
            · refine D67_moveValues_mono k (fun _ _ k => ?_)
              exact m _ _ _ k
            · refine itm k (fun k => ?_) (fun k => ?_)
              · refine D68_goElsewhere_mono k (fun _ _ k => ?_)
                exact m _ _ _ k
              · refine D50_compute_mono k (fun _ _ k => ?_)
                exact m _ _ _ k
          · refine D67_moveValues_mono k (fun _ _ k => ?_)
            exact m _ _ _ k
        · refine D63_leftOf_mono k (fun _ k => ?_)
          refine D65_rightOf_mono k (fun _ k => ?_)
          refine D25_isNumber_mono k (fun _ k => ?_)
          refine itm k (fun k => ?_) (fun k => ?_)
          · exact m _ _ _ k
          · refine D25_isNumber_mono k (fun _ k => ?_)
            refine itm k (fun k => ?_) (fun k => ?_)
            · exact m _ _ _ k
            · refine D26_numberIn_mono k (fun _ k => ?_)
              refine D26_numberIn_mono k (fun _ k => ?_)
              refine D53_lengthAt_mono k (fun _ k => ?_)
              refine D66_choose_mono k (fun _ k => ?_)
              refine D48_act_mono k (fun _ _ k => ?_)
              exact m _ _ _ k
  · refine D123_placeNow_mono k (fun _ k => ?_)
    refine D124_end_mono k (fun _ _ k => ?_)
    exact m _ _ _ k
def D97_goesToSplit (w : Nat) (A I : HA) (Q : Int32 → HA → HA → Prop) : Prop := (∀ P1 : Int32 → HA → HA → Prop, (∀ (a2 : Int32) (A3 I4 : HA), (if (nI 200) < a2 then Q (nI 0) A3 I4 else D57_comesToOne w (I4 20 15) A3 I4 (fun v6 A7 I8 => if v6 = 0 then Q (nI 0) A7 I8 else D118_slotNow w A7 I8 (fun v9 => vp_in v9 240 ∧ (vp_in v9 240 ∧ (D58_stopsToSplit w (sA A7 42 v9.toNatClampNeg ((A7 42 v9.toNatClampNeg) + (nI 1))) (sI I8 20 9 ((I8 20 9) + (nI 1))) (fun v12 A13 I14 => if v12 = 0 then P1 (a2 + nI 1) A13 I14 else Q (nI 1) A13 I14)))))) → P1 a2 A3 I4) → P1 (nI 0) A I)
theorem D97_goesToSplit_mono {w : Nat} {A I : HA} {Q Q' : Int32 → HA → HA → Prop} (k : D97_goesToSplit w A I Q) (m : ∀ v A I, Q v A I → Q' v A I) : D97_goesToSplit w A I Q' := by
  unfold D97_goesToSplit at k ⊢
  intro P hP
  refine k P (fun a0 a1 a2 k => hP a0 a1 a2 ?_)
  refine itm k (fun k => ?_) (fun k => ?_)
  · exact m _ _ _ k
  · refine D57_comesToOne_mono k (fun _ _ _ k => ?_)
    refine itm k (fun k => ?_) (fun k => ?_)
    · exact m _ _ _ k
    · refine D118_slotNow_mono k (fun _ k => ?_)
      refine ⟨k.1, ?_⟩
      replace k := k.2
      refine ⟨k.1, ?_⟩
      replace k := k.2
      refine D58_stopsToSplit_mono k (fun _ _ _ k => ?_)
      refine itm k (fun k => ?_) (fun k => ?_)
      · exact k
      · exact m _ _ _ k
def D32_isMade (x : Int32) (A I : HA) (Q : Int32 → Prop) : Prop := if x < (nI 258) then Q (nI 0) else if x < (I 32 4) then Q (nI 1) else Q (nI 0)
theorem D32_isMade_mono {x : Int32} {A I : HA} {Q Q' : Int32 → Prop} (k : D32_isMade x A I Q) (m : ∀ v, Q v → Q' v) : D32_isMade x A I Q' := by
  unfold D32_isMade at k ⊢
  refine itm k (fun k => ?_) (fun k => ?_)
  · exact m _ k
  · refine itm k (fun k => ?_) (fun k => ?_)
    · exact m _ k
    · exact m _ k
def D31_lastTokenOf (x : Int32) (A I : HA) (Q : Int32 → Prop) : Prop := D32_isMade x A I (fun v1 => if v1 = 0 then D25_isNumber x (fun v2 => if v2 = 0 then if x = (nI 256) then Q (nI 1) else Q (nI 2) else D26_numberIn x (fun v3 => Q ((nI 1000) + v3))) else vp_in x 32258 ∧ (Q (A 33 x.toNatClampNeg)))
theorem D31_lastTokenOf_mono {x : Int32} {A I : HA} {Q Q' : Int32 → Prop} (k : D31_lastTokenOf x A I Q) (m : ∀ v, Q v → Q' v) : D31_lastTokenOf x A I Q' := by
  unfold D31_lastTokenOf at k ⊢
  refine D32_isMade_mono k (fun _ k => ?_)
  refine itm k (fun k => ?_) (fun k => ?_)
  · refine D25_isNumber_mono k (fun _ k => ?_)
    refine itm k (fun k => ?_) (fun k => ?_)
    · refine itm k (fun k => ?_) (fun k => ?_)
      · exact m _ k
      · exact m _ k
    · refine D26_numberIn_mono k (fun _ k => ?_)
      exact m _ k
  · refine ⟨k.1, ?_⟩
    replace k := k.2
    exact m _ k
def D33_leftOf (x : Int32) (A I : HA) (Q : Int32 → Prop) : Prop := D32_isMade x A I (fun v1 => if v1 = 0 then Q (-1) else vp_in x 32258 ∧ (Q (A 34 x.toNatClampNeg)))
theorem D33_leftOf_mono {x : Int32} {A I : HA} {Q Q' : Int32 → Prop} (k : D33_leftOf x A I Q) (m : ∀ v, Q v → Q' v) : D33_leftOf x A I Q' := by
  unfold D33_leftOf at k ⊢
  refine D32_isMade_mono k (fun _ k => ?_)
  refine itm k (fun k => ?_) (fun k => ?_)
  · exact m _ k
  · refine ⟨k.1, ?_⟩
    replace k := k.2
    exact m _ k
def D111_leaveOpen (t : Nat) (x : Int32) (y : Int32) (A I : HA) (Q : Int32 → HA → HA → Prop) : Prop := if x < 0 then Q y A I else if y < (nI 61) then vp_in y 61 ∧ (Q (y + (nI 1)) (sA A (t + 2) y.toNatClampNeg x) I) else Q y A I
theorem D111_leaveOpen_mono {t : Nat} {x : Int32} {y : Int32} {A I : HA} {Q Q' : Int32 → HA → HA → Prop} (k : D111_leaveOpen t x y A I Q) (m : ∀ v A I, Q v A I → Q' v A I) : D111_leaveOpen t x y A I Q' := by
  unfold D111_leaveOpen at k ⊢
  refine itm k (fun k => ?_) (fun k => ?_)
  · exact m _ _ _ k
  · refine itm k (fun k => ?_) (fun k => ?_)
    · refine ⟨k.1, ?_⟩
      replace k := k.2
      exact m _ _ _ k
    · exact m _ _ _ k
def D34_rightOf (x : Int32) (A I : HA) (Q : Int32 → Prop) : Prop := D32_isMade x A I (fun v1 => if v1 = 0 then Q (-1) else vp_in x 32258 ∧ (Q (A 35 x.toNatClampNeg)))
theorem D34_rightOf_mono {x : Int32} {A I : HA} {Q Q' : Int32 → Prop} (k : D34_rightOf x A I Q) (m : ∀ v, Q v → Q' v) : D34_rightOf x A I Q' := by
  unfold D34_rightOf at k ⊢
  refine D32_isMade_mono k (fun _ k => ?_)
  refine itm k (fun k => ?_) (fun k => ?_)
  · exact m _ k
  · refine ⟨k.1, ?_⟩
    replace k := k.2
    exact m _ k
def D110_write (t : Nat) (x : Int32) (A I : HA) (Q : HA → HA → Prop) : Prop := D28_sizeOf x A I (fun v1 => vp_in (nI 0) 61 ∧ ((∀ P3 : Int32 → Int32 → HA → HA → Prop, (∀ (a4 : Int32) (a5 : Int32) (A8 I9 : HA), (if a5 < 0 then Q A8 I9 else if 0 < a4 then vp_in (a4 + (-1)) 61 ∧ (D31_lastTokenOf (A8 (t + 2) (a4 + (-1)).toNatClampNeg) A8 I9 (fun v12 => vp_in a5 60 ∧ (D33_leftOf (A8 (t + 2) (a4 + (-1)).toNatClampNeg) (sA A8 (t + 1) a5.toNatClampNeg v12) I9 (fun v14 => D111_leaveOpen t v14 (a4 + (-1)) (sA A8 (t + 1) a5.toNatClampNeg v12) I9 (fun v15 A16 I17 => D34_rightOf (A8 (t + 2) (a4 + (-1)).toNatClampNeg) A16 I17 (fun v18 => D111_leaveOpen t v18 v15 A16 I17 (fun v19 A20 I21 => P3 v19 (a5 + (-1)) A20 I21))))))) else Q A8 I9) → P3 a4 a5 A8 I9) → P3 (nI 1) (((sI I t 3 (if (nI 60) < v1 then (nI 60) else v1)) t 3) - (nI 1)) (sA A (t + 2) (nI 0).toNatClampNeg x) (sI I t 3 (if (nI 60) < v1 then (nI 60) else v1)))))
theorem D110_write_mono {t : Nat} {x : Int32} {A I : HA} {Q Q' : HA → HA → Prop} (k : D110_write t x A I Q) (m : ∀ A I, Q A I → Q' A I) : D110_write t x A I Q' := by
  unfold D110_write at k ⊢
  refine D28_sizeOf_mono k (fun _ k => ?_)
  refine ⟨k.1, ?_⟩
  replace k := k.2
  intro P hP
  refine k P (fun a0 a1 a2 a3 k => hP a0 a1 a2 a3 ?_)
  refine itm k (fun k => ?_) (fun k => ?_)
  · exact m _ _ k
  · refine itm k (fun k => ?_) (fun k => ?_)
    · refine ⟨k.1, ?_⟩
      replace k := k.2
      refine D31_lastTokenOf_mono k (fun _ k => ?_)
      refine ⟨k.1, ?_⟩
      replace k := k.2
      refine D33_leftOf_mono k (fun _ k => ?_)
      refine D111_leaveOpen_mono k (fun _ _ _ k => ?_)
      refine D34_rightOf_mono k (fun _ k => ?_)
      refine D111_leaveOpen_mono k (fun _ _ _ k => ?_)
      exact k
    · exact m _ _ k
def D37_clear (n : Nat) (A I : HA) (Q : HA → HA → Prop) : Prop := Q (sF A (n + 1) (nI 0) 32) I
theorem D37_clear_mono {n : Nat} {A I : HA} {Q Q' : HA → HA → Prop} (k : D37_clear n A I Q) (m : ∀ A I, Q A I → Q' A I) : D37_clear n A I Q' := by
  unfold D37_clear at k ⊢
  exact m _ _ k
def D38_has (n : Nat) (x : Int32) (A I : HA) (Q : Int32 → Prop) : Prop := vp_in (x / (nI 32)) 32 ∧ (if ((Int32.toUInt32 (A (n + 1) (x / (nI 32)).toNatClampNeg) >>> (Int32.toUInt32 (x - x / (nI 32) * (nI 32)) &&& Int32.toUInt32 31)).toInt32 &&& (nI 1)) = (nI 1) then Q (nI 1) else Q (nI 0))
theorem D38_has_mono {n : Nat} {x : Int32} {A I : HA} {Q Q' : Int32 → Prop} (k : D38_has n x A I Q) (m : ∀ v, Q v → Q' v) : D38_has n x A I Q' := by
  unfold D38_has at k ⊢
  refine ⟨k.1, ?_⟩
  replace k := k.2
  refine itm k (fun k => ?_) (fun k => ?_)
  · exact m _ k
  · exact m _ k
def D39_xOf (x : Int32) (Q : Int32 → Prop) : Prop := Q ((x / (nI 32)) + (-16))
theorem D39_xOf_mono {x : Int32} {Q Q' : Int32 → Prop} (k : D39_xOf x Q) (m : ∀ v, Q v → Q' v) : D39_xOf x Q' := by
  unfold D39_xOf at k ⊢
  exact m _ k
def D40_yOf (x : Int32) (Q : Int32 → Prop) : Prop := Q ((x - x / (nI 32) * (nI 32)) + (-16))
theorem D40_yOf_mono {x : Int32} {Q Q' : Int32 → Prop} (k : D40_yOf x Q) (m : ∀ v, Q v → Q' v) : D40_yOf x Q' := by
  unfold D40_yOf at k ⊢
  exact m _ k
def D113_isOfOne (x : Int32) (Q : Int32 → Prop) : Prop := if x = (nI 11) then Q (nI 1) else if x = (nI 29) then Q (nI 1) else Q (nI 0)
theorem D113_isOfOne_mono {x : Int32} {Q Q' : Int32 → Prop} (k : D113_isOfOne x Q) (m : ∀ v, Q v → Q' v) : D113_isOfOne x Q' := by
  unfold D113_isOfOne at k ⊢
  refine itm k (fun k => ?_) (fun k => ?_)
  · exact m _ k
  · refine itm k (fun k => ?_) (fun k => ?_)
    · exact m _ k
    · exact m _ k
def D112_wordFor (t : Nat) (x : Int32) (y : Int32) (A I : HA) (Q : Int32 → HA → HA → Prop) : Prop := (∀ P1 : Int32 → Int32 → HA → HA → Prop, (∀ (a2 : Int32) (a3 : Int32) (A6 I7 : HA), (if a3 < (I7 t 3) then vp_in a3 60 ∧ (if (A6 (t + 1) a3.toNatClampNeg) < (nI 872) then if (A6 (t + 1) a3.toNatClampNeg) = (nI 1) then if (A6 (t + 1) a3.toNatClampNeg) = (nI 1) then vp_in a2 60 ∧ (P1 (a2 + nI 1) (a3 + nI 1) (sA A6 (t + 3) a2.toNatClampNeg x) I7) else vp_in a2 60 ∧ (P1 (a2 + nI 1) (a3 + nI 1) (sA A6 (t + 3) a2.toNatClampNeg y) I7) else if (A6 (t + 1) a3.toNatClampNeg) = (nI 2) then if (A6 (t + 1) a3.toNatClampNeg) = (nI 1) then vp_in a2 60 ∧ (P1 (a2 + nI 1) (a3 + nI 1) (sA A6 (t + 3) a2.toNatClampNeg x) I7) else vp_in a2 60 ∧ (P1 (a2 + nI 1) (a3 + nI 1) (sA A6 (t + 3) a2.toNatClampNeg y) I7) else D113_isOfOne (A6 (t + 1) a3.toNatClampNeg) (fun v13 => if v13 = 0 then if a2 < (nI 2) then P1 a2 (a3 + nI 1) A6 I7 else vp_in (a2 + (-1)) 60 ∧ (if (A6 (t + 3) (a2 + (-1)).toNatClampNeg) = 0 then if (A6 (t + 1) a3.toNatClampNeg) = (nI 9) then Q (nI 1000) A6 I7 else if (A6 (t + 1) a3.toNatClampNeg) = (nI 10) then Q (nI 1000) A6 I7 else vp_in ((a2 + (-1)) - (nI 1)) 60 ∧ (D210_ofTwo (A6 (t + 1) a3.toNatClampNeg) (A6 (t + 3) ((a2 + (-1)) - (nI 1)).toNatClampNeg) (A6 (t + 3) (a2 + (-1)).toNatClampNeg) (fun v19 => vp_in ((a2 + (-1)) - (nI 1)) 60 ∧ (P1 (a2 + (-1)) (a3 + nI 1) (sA A6 (t + 3) ((a2 + (-1)) - (nI 1)).toNatClampNeg v19) I7))) else vp_in ((a2 + (-1)) - (nI 1)) 60 ∧ (D210_ofTwo (A6 (t + 1) a3.toNatClampNeg) (A6 (t + 3) ((a2 + (-1)) - (nI 1)).toNatClampNeg) (A6 (t + 3) (a2 + (-1)).toNatClampNeg) (fun v16 => vp_in ((a2 + (-1)) - (nI 1)) 60 ∧ (P1 (a2 + (-1)) (a3 + nI 1) (sA A6 (t + 3) ((a2 + (-1)) - (nI 1)).toNatClampNeg v16) I7)))) else if a2 < (nI 1) then if a2 < (nI 2) then P1 a2 (a3 + nI 1) A6 I7 else vp_in (a2 + (-1)) 60 ∧ (if (A6 (t + 3) (a2 + (-1)).toNatClampNeg) = 0 then if (A6 (t + 1) a3.toNatClampNeg) = (nI 9) then Q (nI 1000) A6 I7 else if (A6 (t + 1) a3.toNatClampNeg) = (nI 10) then Q (nI 1000) A6 I7 else vp_in ((a2 + (-1)) - (nI 1)) 60 ∧ (D210_ofTwo (A6 (t + 1) a3.toNatClampNeg) (A6 (t + 3) ((a2 + (-1)) - (nI 1)).toNatClampNeg) (A6 (t + 3) (a2 + (-1)).toNatClampNeg) (fun v26 => vp_in ((a2 + (-1)) - (nI 1)) 60 ∧ (P1 (a2 + (-1)) (a3 + nI 1) (sA A6 (t + 3) ((a2 + (-1)) - (nI 1)).toNatClampNeg v26) I7))) else vp_in ((a2 + (-1)) - (nI 1)) 60 ∧ (D210_ofTwo (A6 (t + 1) a3.toNatClampNeg) (A6 (t + 3) ((a2 + (-1)) - (nI 1)).toNatClampNeg) (A6 (t + 3) (a2 + (-1)).toNatClampNeg) (fun v23 => vp_in ((a2 + (-1)) - (nI 1)) 60 ∧ (P1 (a2 + (-1)) (a3 + nI 1) (sA A6 (t + 3) ((a2 + (-1)) - (nI 1)).toNatClampNeg v23) I7)))) else vp_in (a2 - (nI 1)) 60 ∧ (D209_ofOne (A6 (t + 1) a3.toNatClampNeg) (A6 (t + 3) (a2 - (nI 1)).toNatClampNeg) (fun v29 => vp_in (a2 - (nI 1)) 60 ∧ (P1 a2 (a3 + nI 1) (sA A6 (t + 3) (a2 - (nI 1)).toNatClampNeg v29) I7)))) else vp_in a2 60 ∧ (P1 (a2 + nI 1) (a3 + nI 1) (sA A6 (t + 3) a2.toNatClampNeg ((A6 (t + 1) a3.toNatClampNeg) - (nI 1000))) I7)) else vp_in (nI 0) 60 ∧ (Q (A6 (t + 3) (nI 0).toNatClampNeg) A6 I7)) → P1 a2 a3 A6 I7) → P1 (nI 0) (nI 0) A I)
theorem D112_wordFor_mono {t : Nat} {x : Int32} {y : Int32} {A I : HA} {Q Q' : Int32 → HA → HA → Prop} (k : D112_wordFor t x y A I Q) (m : ∀ v A I, Q v A I → Q' v A I) : D112_wordFor t x y A I Q' := by
  unfold D112_wordFor at k ⊢
  intro P hP
  refine k P (fun a0 a1 a2 a3 k => hP a0 a1 a2 a3 ?_)
  refine itm k (fun k => ?_) (fun k => ?_)
  · refine ⟨k.1, ?_⟩
    replace k := k.2
    refine itm k (fun k => ?_) (fun k => ?_)
    · refine itm k (fun k => ?_) (fun k => ?_)
      · refine itm k (fun k => ?_) (fun k => ?_)
        · refine ⟨k.1, ?_⟩
          replace k := k.2
          exact k
        · refine ⟨k.1, ?_⟩
          replace k := k.2
          exact k
      · refine itm k (fun k => ?_) (fun k => ?_)
        · refine itm k (fun k => ?_) (fun k => ?_)
          · refine ⟨k.1, ?_⟩
            replace k := k.2
            exact k
          · refine ⟨k.1, ?_⟩
            replace k := k.2
            exact k
        · refine D113_isOfOne_mono k (fun _ k => ?_)
          refine itm k (fun k => ?_) (fun k => ?_)
          · refine itm k (fun k => ?_) (fun k => ?_)
            · exact k
            · refine ⟨k.1, ?_⟩
              replace k := k.2
              refine itm k (fun k => ?_) (fun k => ?_)
              · refine itm k (fun k => ?_) (fun k => ?_)
                · exact m _ _ _ k
                · refine itm k (fun k => ?_) (fun k => ?_)
                  · exact m _ _ _ k
                  · refine ⟨k.1, ?_⟩
                    replace k := k.2
                    refine D210_ofTwo_mono k (fun _ k => ?_)
                    refine ⟨k.1, ?_⟩
                    replace k := k.2
                    exact k
              · refine ⟨k.1, ?_⟩
                replace k := k.2
                refine D210_ofTwo_mono k (fun _ k => ?_)
                refine ⟨k.1, ?_⟩
                replace k := k.2
                exact k
          · refine itm k (fun k => ?_) (fun k => ?_)
            · refine itm k (fun k => ?_) (fun k => ?_)
              · exact k
              · refine ⟨k.1, ?_⟩
                replace k := k.2
                refine itm k (fun k => ?_) (fun k => ?_)
                · refine itm k (fun k => ?_) (fun k => ?_)
                  · exact m _ _ _ k
                  · refine itm k (fun k => ?_) (fun k => ?_)
                    · exact m _ _ _ k
                    · refine ⟨k.1, ?_⟩
                      replace k := k.2
                      refine D210_ofTwo_mono k (fun _ k => ?_)
                      refine ⟨k.1, ?_⟩
                      replace k := k.2
                      exact k
                · refine ⟨k.1, ?_⟩
                  replace k := k.2
                  refine D210_ofTwo_mono k (fun _ k => ?_)
                  refine ⟨k.1, ?_⟩
                  replace k := k.2
                  exact k
            · refine ⟨k.1, ?_⟩
              replace k := k.2
              refine D209_ofOne_mono k (fun _ k => ?_)
              refine ⟨k.1, ?_⟩
              replace k := k.2
              exact k
    · refine ⟨k.1, ?_⟩
      replace k := k.2
      exact k
  · refine ⟨k.1, ?_⟩
    replace k := k.2
    exact m _ _ _ k
def D41_add (n : Nat) (x : Int32) (A I : HA) (Q : HA → HA → Prop) : Prop := vp_in (x / (nI 32)) 32 ∧ (vp_in (x / (nI 32)) 32 ∧ (Q (sA A (n + 1) (x / (nI 32)).toNatClampNeg ((A (n + 1) (x / (nI 32)).toNatClampNeg) ||| ((nI 1) <<< ((x - x / (nI 32) * (nI 32)) &&& 31)))) I))
theorem D41_add_mono {n : Nat} {x : Int32} {A I : HA} {Q Q' : HA → HA → Prop} (k : D41_add n x A I Q) (m : ∀ A I, Q A I → Q' A I) : D41_add n x A I Q' := by
  unfold D41_add at k ⊢
  refine ⟨k.1, ?_⟩
  replace k := k.2
  refine ⟨k.1, ?_⟩
  replace k := k.2
  exact m _ _ k
def D105_share (w : Nat) (x : Int32) (y : Int32) (A I : HA) (Q : HA → HA → Prop) : Prop := D63_leftOf w x A I (fun v1 => D110_write 47 v1 A I (fun A2 I3 => D65_rightOf w x A2 I3 (fun v4 => D110_write 51 v4 A2 I3 (fun A5 I6 => (∀ P7 : Int32 → HA → HA → Prop, (∀ (a8 : Int32) (A13 I14 : HA), (if a8 < (nI 8) then vp_in a8 8 ∧ (D37_clear (55 + 2 * a8.toNatClampNeg) A13 I14 (fun A41 I42 => P7 (a8 + nI 1) A41 I42)) else (∀ P16 : Int32 → HA → HA → Prop, (∀ (a17 : Int32) (A22 I23 : HA), (if a17 < (nI 1024) then D38_has (w + 8) a17 A22 I23 (fun v25 => if v25 = 0 then P16 (a17 + nI 1) A22 I23 else D39_xOf a17 (fun v26 => D40_yOf a17 (fun v27 => D112_wordFor 47 v26 v27 A22 I23 (fun v28 A29 I30 => D112_wordFor 51 v26 v27 A29 I30 (fun v31 A32 I33 => D66_choose x v28 v31 y (fun v34 => vp_in v34 8 ∧ (D41_add (55 + 2 * v34.toNatClampNeg) a17 A32 I33 (fun A36 I37 => vp_in v34 8 ∧ (if (A36 46 v34.toNatClampNeg) = (-1) then vp_in v34 8 ∧ (P16 (a17 + nI 1) (sA A36 46 v34.toNatClampNeg a17) I37) else P16 (a17 + nI 1) A36 I37))))))))) else Q A22 I23) → P16 a17 A22 I23) → P16 (nI 0) A13 I14)) → P7 a8 A13 I14) → P7 (nI 0) (sF A5 46 (-1) 8) I6)))))
theorem D105_share_mono {w : Nat} {x : Int32} {y : Int32} {A I : HA} {Q Q' : HA → HA → Prop} (k : D105_share w x y A I Q) (m : ∀ A I, Q A I → Q' A I) : D105_share w x y A I Q' := by
  unfold D105_share at k ⊢
  refine D63_leftOf_mono k (fun _ k => ?_)
  refine D110_write_mono k (fun _ _ k => ?_)
  refine D65_rightOf_mono k (fun _ k => ?_)
  refine D110_write_mono k (fun _ _ k => ?_)
  intro P hP
  refine k P (fun a0 a1 a2 k => hP a0 a1 a2 ?_)
  refine itm k (fun k => ?_) (fun k => ?_)
  · refine ⟨k.1, ?_⟩
    replace k := k.2
    refine D37_clear_mono k (fun _ _ k => ?_)
    exact k
  · intro P hP
    refine k P (fun a0 a1 a2 k => hP a0 a1 a2 ?_)
    refine itm k (fun k => ?_) (fun k => ?_)
    · refine D38_has_mono k (fun _ k => ?_)
      refine itm k (fun k => ?_) (fun k => ?_)
      · exact k
      · refine D39_xOf_mono k (fun _ k => ?_)
        refine D40_yOf_mono k (fun _ k => ?_)
        refine D112_wordFor_mono k (fun _ _ _ k => ?_)
        refine D112_wordFor_mono k (fun _ _ _ k => ?_)
        refine D66_choose_mono k (fun _ k => ?_)
        refine ⟨k.1, ?_⟩
        replace k := k.2
        refine D41_add_mono k (fun _ _ k => ?_)
        refine ⟨k.1, ?_⟩
        replace k := k.2
        refine itm k (fun k => ?_) (fun k => ?_)
        · refine ⟨k.1, ?_⟩
          replace k := k.2
          exact k
        · exact k
    · exact m _ _ k
def D70_alternativesOf (x : Int32) (y : Int32) (Q : Int32 → Prop) : Prop := if x = (nI 21) then Q (nI 8) else if x = (nI 22) then Q (y + (nI 1)) else if x = (nI 23) then Q (y + (nI 1)) else Q (nI 2)
theorem D70_alternativesOf_mono {x : Int32} {y : Int32} {Q Q' : Int32 → Prop} (k : D70_alternativesOf x y Q) (m : ∀ v, Q v → Q' v) : D70_alternativesOf x y Q' := by
  unfold D70_alternativesOf at k ⊢
  refine itm k (fun k => ?_) (fun k => ?_)
  · exact m _ k
  · refine itm k (fun k => ?_) (fun k => ?_)
    · exact m _ k
    · refine itm k (fun k => ?_) (fun k => ?_)
      · exact m _ k
      · exact m _ k
def D106_isTaken (x : Int32) (A I : HA) (Q : Int32 → Prop) : Prop := vp_in x 8 ∧ (if (A 46 x.toNatClampNeg) = (-1) then Q (nI 0) else Q (nI 1))
theorem D106_isTaken_mono {x : Int32} {A I : HA} {Q Q' : Int32 → Prop} (k : D106_isTaken x A I Q) (m : ∀ v, Q v → Q' v) : D106_isTaken x A I Q' := by
  unfold D106_isTaken at k ⊢
  refine ⟨k.1, ?_⟩
  replace k := k.2
  refine itm k (fun k => ?_) (fun k => ?_)
  · exact m _ k
  · exact m _ k
def D93_isFull (A I : HA) (Q : Int32 → Prop) : Prop := if (I 39 1) < (nI 60) then Q (nI 0) else Q (nI 1)
theorem D93_isFull_mono {A I : HA} {Q Q' : Int32 → Prop} (k : D93_isFull A I Q) (m : ∀ v, Q v → Q' v) : D93_isFull A I Q' := by
  unfold D93_isFull at k ⊢
  refine itm k (fun k => ?_) (fun k => ?_)
  · exact m _ k
  · exact m _ k
def D141_copyRun (w : Nat) (o : Nat) (A I : HA) (Q : HA → HA → Prop) : Prop := ¬ (nI 0) < 0 ∧ ¬ (nI 0) < 0 ∧ ¬ (nI 4) < 0 ∧ (nI 0).toNatClampNeg + (nI 4).toNatClampNeg ≤ 4 ∧ (nI 0).toNatClampNeg + (nI 4).toNatClampNeg ≤ 4 ∧ (¬ (nI 0) < 0 ∧ ¬ (nI 0) < 0 ∧ ¬ (nI 4) < 0 ∧ (nI 0).toNatClampNeg + (nI 4).toNatClampNeg ≤ 4 ∧ (nI 0).toNatClampNeg + (nI 4).toNatClampNeg ≤ 4 ∧ (¬ (nI 0) < 0 ∧ ¬ (nI 0) < 0 ∧ ¬ (nI 4) < 0 ∧ (nI 0).toNatClampNeg + (nI 4).toNatClampNeg ≤ 4 ∧ (nI 0).toNatClampNeg + (nI 4).toNatClampNeg ≤ 4 ∧ (¬ (nI 0) < 0 ∧ ¬ (nI 0) < 0 ∧ ¬ (((I o 4) + (nI 1)) * (nI 18)) < 0 ∧ (nI 0).toNatClampNeg + (((I o 4) + (nI 1)) * (nI 18)).toNatClampNeg ≤ 72 ∧ (nI 0).toNatClampNeg + (((I o 4) + (nI 1)) * (nI 18)).toNatClampNeg ≤ 72 ∧ (¬ (nI 0) < 0 ∧ ¬ (nI 0) < 0 ∧ ¬ (nI 4) < 0 ∧ (nI 0).toNatClampNeg + (nI 4).toNatClampNeg ≤ 4 ∧ (nI 0).toNatClampNeg + (nI 4).toNatClampNeg ≤ 4 ∧ (¬ (nI 0) < 0 ∧ ¬ (nI 0) < 0 ∧ ¬ (nI 20) < 0 ∧ (nI 0).toNatClampNeg + (nI 20).toNatClampNeg ≤ 20 ∧ (nI 0).toNatClampNeg + (nI 20).toNatClampNeg ≤ 20 ∧ (¬ (nI 0) < 0 ∧ ¬ (nI 0) < 0 ∧ ¬ ((sI (sI I w 4 (I o 4)) w 7 ((sI I w 4 (I o 4)) o 7)) o 9) < 0 ∧ (nI 0).toNatClampNeg + ((sI (sI I w 4 (I o 4)) w 7 ((sI I w 4 (I o 4)) o 7)) o 9).toNatClampNeg ≤ 200 ∧ (nI 0).toNatClampNeg + ((sI (sI I w 4 (I o 4)) w 7 ((sI I w 4 (I o 4)) o 7)) o 9).toNatClampNeg ≤ 200 ∧ (Q (sC (sC (sC (sC (sC (sC (sC A (o + 1) (w + 1) (nI 0).toNatClampNeg (nI 0).toNatClampNeg (nI 4).toNatClampNeg) (o + 2) (w + 2) (nI 0).toNatClampNeg (nI 0).toNatClampNeg (nI 4).toNatClampNeg) (o + 3) (w + 3) (nI 0).toNatClampNeg (nI 0).toNatClampNeg (nI 4).toNatClampNeg) (o + 4) (w + 4) (nI 0).toNatClampNeg (nI 0).toNatClampNeg (((I o 4) + (nI 1)) * (nI 18)).toNatClampNeg) (o + 5) (w + 5) (nI 0).toNatClampNeg (nI 0).toNatClampNeg (nI 4).toNatClampNeg) (o + 6) (w + 6) (nI 0).toNatClampNeg (nI 0).toNatClampNeg (nI 20).toNatClampNeg) (o + 7) (w + 7) (nI 0).toNatClampNeg (nI 0).toNatClampNeg ((sI (sI I w 4 (I o 4)) w 7 ((sI I w 4 (I o 4)) o 7)) o 9).toNatClampNeg) (sI (sI (sI (sI (sI (sI (sI (sI I w 4 (I o 4)) w 7 ((sI I w 4 (I o 4)) o 7)) w 9 ((sI (sI I w 4 (I o 4)) w 7 ((sI I w 4 (I o 4)) o 7)) o 9)) w 11 ((sI (sI (sI I w 4 (I o 4)) w 7 ((sI I w 4 (I o 4)) o 7)) w 9 ((sI (sI I w 4 (I o 4)) w 7 ((sI I w 4 (I o 4)) o 7)) o 9)) o 11)) w 12 (nI 0)) w 13 (nI 0)) w 14 (nI 0)) w 15 (nI 0)))))))))
theorem D141_copyRun_mono {w : Nat} {o : Nat} {A I : HA} {Q Q' : HA → HA → Prop} (k : D141_copyRun w o A I Q) (m : ∀ A I, Q A I → Q' A I) : D141_copyRun w o A I Q' := by
  unfold D141_copyRun at k ⊢
  refine ⟨k.1, k.2.1, k.2.2.1, k.2.2.2.1, k.2.2.2.2.1, ?_⟩
  replace k := k.2.2.2.2.2
  refine ⟨k.1, k.2.1, k.2.2.1, k.2.2.2.1, k.2.2.2.2.1, ?_⟩
  replace k := k.2.2.2.2.2
  refine ⟨k.1, k.2.1, k.2.2.1, k.2.2.2.1, k.2.2.2.2.1, ?_⟩
  replace k := k.2.2.2.2.2
  refine ⟨k.1, k.2.1, k.2.2.1, k.2.2.2.1, k.2.2.2.2.1, ?_⟩
  replace k := k.2.2.2.2.2
  refine ⟨k.1, k.2.1, k.2.2.1, k.2.2.2.1, k.2.2.2.2.1, ?_⟩
  replace k := k.2.2.2.2.2
  refine ⟨k.1, k.2.1, k.2.2.1, k.2.2.2.1, k.2.2.2.2.1, ?_⟩
  replace k := k.2.2.2.2.2
  refine ⟨k.1, k.2.1, k.2.2.1, k.2.2.2.1, k.2.2.2.2.1, ?_⟩
  replace k := k.2.2.2.2.2
  exact m _ _ k
def D107_inputsOf (x : Int32) (A I : HA) (Q : Nat → Prop) : Prop := vp_in x 8 ∧ (Q (55 + 2 * x.toNatClampNeg))
theorem D107_inputsOf_mono {x : Int32} {A I : HA} {Q Q' : Nat → Prop} (k : D107_inputsOf x A I Q) (m : ∀ v, Q v → Q' v) : D107_inputsOf x A I Q' := by
  unfold D107_inputsOf at k ⊢
  refine ⟨k.1, ?_⟩
  replace k := k.2
  exact m _ k
def D42_copy (n : Nat) (o : Nat) (A I : HA) (Q : HA → HA → Prop) : Prop := ¬ (nI 0) < 0 ∧ ¬ (nI 0) < 0 ∧ ¬ (nI 32) < 0 ∧ (nI 0).toNatClampNeg + (nI 32).toNatClampNeg ≤ 32 ∧ (nI 0).toNatClampNeg + (nI 32).toNatClampNeg ≤ 32 ∧ (Q (sC A (o + 1) (n + 1) (nI 0).toNatClampNeg (nI 0).toNatClampNeg (nI 32).toNatClampNeg) I)
theorem D42_copy_mono {n : Nat} {o : Nat} {A I : HA} {Q Q' : HA → HA → Prop} (k : D42_copy n o A I Q) (m : ∀ A I, Q A I → Q' A I) : D42_copy n o A I Q' := by
  unfold D42_copy at k ⊢
  refine ⟨k.1, k.2.1, k.2.2.1, k.2.2.2.1, k.2.2.2.2.1, ?_⟩
  replace k := k.2.2.2.2.2
  exact m _ _ k
def D108_leastOfOthers (x : Int32) (A I : HA) (Q : Int32 → Prop) : Prop := (∀ P1 : Int32 → Int32 → Prop, (∀ (a2 : Int32) (a3 : Int32), (if a3 < (nI 8) then if a3 = x then P1 a2 (a3 + nI 1) else vp_in a3 8 ∧ (if (A 46 a3.toNatClampNeg) = (-1) then P1 a2 (a3 + nI 1) else if a2 = (-1) then vp_in a3 8 ∧ (P1 (A 46 a3.toNatClampNeg) (a3 + nI 1)) else vp_in a3 8 ∧ (if (A 46 a3.toNatClampNeg) < a2 then vp_in a3 8 ∧ (P1 (A 46 a3.toNatClampNeg) (a3 + nI 1)) else P1 a2 (a3 + nI 1))) else Q a2) → P1 a2 a3) → P1 (-1) (nI 0))
theorem D108_leastOfOthers_mono {x : Int32} {A I : HA} {Q Q' : Int32 → Prop} (k : D108_leastOfOthers x A I Q) (m : ∀ v, Q v → Q' v) : D108_leastOfOthers x A I Q' := by
  unfold D108_leastOfOthers at k ⊢
  intro P hP
  refine k P (fun a0 a1 k => hP a0 a1 ?_)
  refine itm k (fun k => ?_) (fun k => ?_)
  · refine itm k (fun k => ?_) (fun k => ?_)
    · exact k
    · refine ⟨k.1, ?_⟩
      replace k := k.2
      refine itm k (fun k => ?_) (fun k => ?_)
      · exact k
      · refine itm k (fun k => ?_) (fun k => ?_)
        · refine ⟨k.1, ?_⟩
          replace k := k.2
          exact k
        · refine ⟨k.1, ?_⟩
          replace k := k.2
          refine itm k (fun k => ?_) (fun k => ?_)
          · refine ⟨k.1, ?_⟩
            replace k := k.2
            exact k
          · exact k
  · exact m _ k
def D142_addCondition (w : Nat) (x : Int32) (y : Int32) (z : Int32) (A I : HA) (Q : HA → HA → Prop) : Prop := if (I w 9) < (nI 200) then vp_in (I w 9) 200 ∧ (Q (sA A (w + 7) (I w 9).toNatClampNeg (((((z + (nI 1)) * (nI 8)) + y) * (nI 1000)) + x)) (sI I w 9 ((I w 9) + (nI 1)))) else Q A I
theorem D142_addCondition_mono {w : Nat} {x : Int32} {y : Int32} {z : Int32} {A I : HA} {Q Q' : HA → HA → Prop} (k : D142_addCondition w x y z A I Q) (m : ∀ A I, Q A I → Q' A I) : D142_addCondition w x y z A I Q' := by
  unfold D142_addCondition at k ⊢
  refine itm k (fun k => ?_) (fun k => ?_)
  · refine ⟨k.1, ?_⟩
    replace k := k.2
    exact m _ _ k
  · exact m _ _ k
def D99_addAlternative (w : Nat) (x : Int32) (A I : HA) (Q : HA → HA → Prop) : Prop := D93_isFull A I (fun v1 => if v1 = 0 then if 0 < (I 20 4) then vp_in ((sI I 20 4 ((I 20 4) - (nI 1))) 20 4) 161 ∧ (vp_in (A 38 ((sI I 20 4 ((I 20 4) - (nI 1))) 20 4).toNatClampNeg) 161 ∧ (D141_copyRun (71 + 10 * (A 38 ((sI I 20 4 ((I 20 4) - (nI 1))) 20 4).toNatClampNeg).toNatClampNeg) w A (sI I 20 4 ((I 20 4) - (nI 1))) (fun A4 I5 => D107_inputsOf x A4 I5 (fun v6 => isN v6 ∧ (D42_copy ((71 + 10 * (A 38 ((sI I 20 4 ((I 20 4) - (nI 1))) 20 4).toNatClampNeg).toNatClampNeg) + 8) v6 A4 I5 (fun A8 I9 => D123_placeNow w A8 I9 (fun v10 => D108_leastOfOthers x A8 I9 (fun v11 => D142_addCondition (71 + 10 * (A 38 ((sI I 20 4 ((I 20 4) - (nI 1))) 20 4).toNatClampNeg).toNatClampNeg) v10 x v11 A8 I9 (fun A12 I13 => D88_add (A 38 ((sI I 20 4 ((I 20 4) - (nI 1))) 20 4).toNatClampNeg) A12 (sI (sI I13 (71 + 10 * (A 38 ((sI I 20 4 ((I 20 4) - (nI 1))) 20 4).toNatClampNeg).toNatClampNeg) 16 x) (71 + 10 * (A 38 ((sI I 20 4 ((I 20 4) - (nI 1))) 20 4).toNatClampNeg).toNatClampNeg) 17 ((sI I13 (71 + 10 * (A 38 ((sI I 20 4 ((I 20 4) - (nI 1))) 20 4).toNatClampNeg).toNatClampNeg) 16 x) 20 17)) (fun A14 I15 => Q A14 I15)))))))))) else Q A (sI I 20 10 ((I 20 10) + (nI 1))) else Q A (sI I 20 10 ((I 20 10) + (nI 1))))
theorem D99_addAlternative_mono {w : Nat} {x : Int32} {A I : HA} {Q Q' : HA → HA → Prop} (k : D99_addAlternative w x A I Q) (m : ∀ A I, Q A I → Q' A I) : D99_addAlternative w x A I Q' := by
  unfold D99_addAlternative at k ⊢
  refine D93_isFull_mono k (fun _ k => ?_)
  refine itm k (fun k => ?_) (fun k => ?_)
  · refine itm k (fun k => ?_) (fun k => ?_)
    · refine ⟨k.1, ?_⟩
      replace k := k.2
      refine ⟨k.1, ?_⟩
      replace k := k.2
      refine D141_copyRun_mono k (fun _ _ k => ?_)
      refine D107_inputsOf_mono k (fun _ k => ?_)
      refine ⟨k.1, ?_⟩
      replace k := k.2
      refine D42_copy_mono k (fun _ _ k => ?_)
      refine D123_placeNow_mono k (fun _ k => ?_)
      refine D108_leastOfOthers_mono k (fun _ k => ?_)
      refine D142_addCondition_mono k (fun _ _ k => ?_)
      refine D88_add_mono k (fun _ _ k => ?_)
      exact m _ _ k
    · exact m _ _ k
  · exact m _ _ k
def D98_split (w : Nat) (A I : HA) (Q : HA → HA → Prop) : Prop := D47_opOf w A I (fun v1 => D53_lengthAt w v1 A I (fun v2 => D105_share w v1 v2 A I (fun A3 I4 => D70_alternativesOf v1 v2 (fun v5 => (∀ P6 : Int32 → HA → HA → Prop, (∀ (a7 : Int32) (A10 I11 : HA), (if a7 < v5 then D106_isTaken a7 A10 I11 (fun v13 => if v13 = 0 then D123_placeNow w A10 I11 (fun v14 => vp_in ((I11 20 12) - (I11 20 12) / (nI 30) * (nI 30)) 30 ∧ (P6 (a7 + nI 1) (sA A10 43 ((I11 20 12) - (I11 20 12) / (nI 30) * (nI 30)).toNatClampNeg ((v14 * (nI 8)) + a7)) (sI I11 20 12 ((I11 20 12) + (nI 1))))) else D99_addAlternative w a7 A10 I11 (fun A16 I17 => P6 (a7 + nI 1) A16 I17)) else Q A10 I11) → P6 a7 A10 I11) → P6 (nI 0) A3 (sI I4 20 17 ((I4 20 17) + (nI 1))))))))
theorem D98_split_mono {w : Nat} {A I : HA} {Q Q' : HA → HA → Prop} (k : D98_split w A I Q) (m : ∀ A I, Q A I → Q' A I) : D98_split w A I Q' := by
  unfold D98_split at k ⊢
  refine D47_opOf_mono k (fun _ k => ?_)
  refine D53_lengthAt_mono k (fun _ k => ?_)
  refine D105_share_mono k (fun _ _ k => ?_)
  refine D70_alternativesOf_mono k (fun _ k => ?_)
  intro P hP
  refine k P (fun a0 a1 a2 k => hP a0 a1 a2 ?_)
  refine itm k (fun k => ?_) (fun k => ?_)
  · refine D106_isTaken_mono k (fun _ k => ?_)
    refine itm k (fun k => ?_) (fun k => ?_)
    · refine D123_placeNow_mono k (fun _ k => ?_)
      refine ⟨k.1, ?_⟩
      replace k := k.2
      exact k
    · refine D99_addAlternative_mono k (fun _ _ k => ?_)
      exact k
  · exact m _ _ k
def D96_goOn (x : Int32) (A I : HA) (Q : Int32 → HA → HA → Prop) : Prop := (∀ P1 : Int32 → HA → HA → Prop, (∀ (a2 : Int32) (A6 I7 : HA), (if a2 < (nI 1000000) then if (I7 20 7) < (if (nI 100) < x then (nI 100) else x) then if 0 < (I7 39 1) then D89_take (I7 20 16) A6 I7 (fun v9 A10 I11 => vp_in v9 161 ∧ (if (I11 (71 + 10 * v9.toNatClampNeg) 16) = (-1) then D97_goesToSplit (71 + 10 * v9.toNatClampNeg) A10 I11 (fun v13 A14 I15 => if v13 = 0 then vp_in (I15 20 7) 100 ∧ (P1 (a2 + nI 1) (sA A14 41 (I15 20 7).toNatClampNeg v9) (sI I15 20 7 ((I15 20 7) + (nI 1)))) else D98_split (71 + 10 * v9.toNatClampNeg) A14 I15 (fun A17 I18 => vp_in (I18 20 4) 161 ∧ (P1 (a2 + nI 1) (sA A17 38 (I18 20 4).toNatClampNeg v9) (sI I18 20 4 ((I18 20 4) + (nI 1)))))) else D47_opOf (71 + 10 * v9.toNatClampNeg) A10 I11 (fun v20 => D48_act (71 + 10 * v9.toNatClampNeg) v20 (I11 (71 + 10 * v9.toNatClampNeg) 16) A10 I11 (fun A21 I22 => D97_goesToSplit (71 + 10 * v9.toNatClampNeg) A21 (sI I22 (71 + 10 * v9.toNatClampNeg) 16 (-1)) (fun v23 A24 I25 => if v23 = 0 then vp_in (I25 20 7) 100 ∧ (P1 (a2 + nI 1) (sA A24 41 (I25 20 7).toNatClampNeg v9) (sI I25 20 7 ((I25 20 7) + (nI 1)))) else D98_split (71 + 10 * v9.toNatClampNeg) A24 I25 (fun A27 I28 => vp_in (I28 20 4) 161 ∧ (P1 (a2 + nI 1) (sA A27 38 (I28 20 4).toNatClampNeg v9) (sI I28 20 4 ((I28 20 4) + (nI 1)))))))))) else Q (I7 20 7) A6 I7 else Q (I7 20 7) A6 I7 else Q (I7 20 7) A6 I7) → P1 a2 A6 I7) → P1 (nI 0) A I)
theorem D96_goOn_mono {x : Int32} {A I : HA} {Q Q' : Int32 → HA → HA → Prop} (k : D96_goOn x A I Q) (m : ∀ v A I, Q v A I → Q' v A I) : D96_goOn x A I Q' := by
  unfold D96_goOn at k ⊢
  intro P hP
  refine k P (fun a0 a1 a2 k => hP a0 a1 a2 ?_)
  refine itm k (fun k => ?_) (fun k => ?_)
  · refine itm k (fun k => ?_) (fun k => ?_)
    · refine itm k (fun k => ?_) (fun k => ?_)
      · refine D89_take_mono k (fun _ _ _ k => ?_)
        refine ⟨k.1, ?_⟩
        replace k := k.2
        refine itm k (fun k => ?_) (fun k => ?_)
        · refine D97_goesToSplit_mono k (fun _ _ _ k => ?_)
          refine itm k (fun k => ?_) (fun k => ?_)
          · refine ⟨k.1, ?_⟩
            replace k := k.2
            exact k
          · refine D98_split_mono k (fun _ _ k => ?_)
            refine ⟨k.1, ?_⟩
            replace k := k.2
            exact k
        · refine D47_opOf_mono k (fun _ k => ?_)
          refine D48_act_mono k (fun _ _ k => ?_)
          refine D97_goesToSplit_mono k (fun _ _ _ k => ?_)
          refine itm k (fun k => ?_) (fun k => ?_)
          · refine ⟨k.1, ?_⟩
            replace k := k.2
            exact k
          · refine D98_split_mono k (fun _ _ k => ?_)
            refine ⟨k.1, ?_⟩
            replace k := k.2
            exact k
      · exact m _ _ _ k
    · exact m _ _ _ k
  · exact m _ _ _ k
def D5_search (x : Int32) (y : Int32) (z : Int32) (u1 : Int32) (A I : HA) (Q : Int32 → HA → HA → Prop) : Prop := D79_canBegin x A I (fun v1 => if v1 = 0 then Q (-2) A I else D2_within y (nI 1) (nI 200) (fun v2 => if v2 = 0 then Q (-2) A I else D2_within z (nI 0) (nI 3) (fun v3 => if v3 = 0 then Q (-2) A I else D2_within u1 (nI 1) (nI 100) (fun v4 => if v4 = 0 then Q (-2) A I else D95_begin x y z A I (fun A5 I6 => D96_goOn u1 A5 (sI I6 3 7 (nI 1)) (fun v7 A8 I9 => Q v7 A8 I9))))))
theorem D5_search_mono {x : Int32} {y : Int32} {z : Int32} {u1 : Int32} {A I : HA} {Q Q' : Int32 → HA → HA → Prop} (k : D5_search x y z u1 A I Q) (m : ∀ v A I, Q v A I → Q' v A I) : D5_search x y z u1 A I Q' := by
  unfold D5_search at k ⊢
  refine D79_canBegin_mono k (fun _ k => ?_)
  refine itm k (fun k => ?_) (fun k => ?_)
  · exact m _ _ _ k
  · refine D2_within_mono k (fun _ k => ?_)
    refine itm k (fun k => ?_) (fun k => ?_)
    · exact m _ _ _ k
    · refine D2_within_mono k (fun _ k => ?_)
      refine itm k (fun k => ?_) (fun k => ?_)
      · exact m _ _ _ k
      · refine D2_within_mono k (fun _ k => ?_)
        refine itm k (fun k => ?_) (fun k => ?_)
        · exact m _ _ _ k
        · refine D95_begin_mono k (fun _ _ k => ?_)
          refine D96_goOn_mono k (fun _ _ _ k => ?_)
          exact m _ _ _ k
def D6_more (x : Int32) (A I : HA) (Q : Int32 → HA → HA → Prop) : Prop := if (I 3 7) = 0 then Q (-3) A I else if x < (nI 1) then Q (-2) A I else D96_goOn ((I 20 7) + (if ((nI 100) - (I 20 7)) < x then ((nI 100) - (I 20 7)) else x)) A I (fun v1 A2 I3 => Q v1 A2 I3)
theorem D6_more_mono {x : Int32} {A I : HA} {Q Q' : Int32 → HA → HA → Prop} (k : D6_more x A I Q) (m : ∀ v A I, Q v A I → Q' v A I) : D6_more x A I Q' := by
  unfold D6_more at k ⊢
  refine itm k (fun k => ?_) (fun k => ?_)
  · exact m _ _ _ k
  · refine itm k (fun k => ?_) (fun k => ?_)
    · exact m _ _ _ k
    · refine D96_goOn_mono k (fun _ _ _ k => ?_)
      exact m _ _ _ k
def D7_told (x : Int32) (A I : HA) (Q : Int32 → Prop) : Prop := if (I 3 7) = 0 then Q (-3) else if x = nI 0 then Q (I 39 1) else if x = nI 1 then Q (I 20 10) else if x = nI 2 then Q (I 20 12) else if x = nI 3 then Q (I 20 9) else if x = nI 4 then Q (I 20 7) else Q (-2)
theorem D7_told_mono {x : Int32} {A I : HA} {Q Q' : Int32 → Prop} (k : D7_told x A I Q) (m : ∀ v, Q v → Q' v) : D7_told x A I Q' := by
  unfold D7_told at k ⊢
  refine itm k (fun k => ?_) (fun k => ?_)
  · exact m _ k
  · refine itm k (fun k => ?_) (fun k => ?_)
    · exact m _ k
    · refine itm k (fun k => ?_) (fun k => ?_)
      · exact m _ k
      · refine itm k (fun k => ?_) (fun k => ?_)
        · exact m _ k
        · refine itm k (fun k => ?_) (fun k => ?_)
          · exact m _ k
          · refine itm k (fun k => ?_) (fun k => ?_)
            · exact m _ k
            · exact m _ k
def D100_hasPath (x : Int32) (A I : HA) (Q : Int32 → Prop) : Prop := if x < 0 then Q (nI 0) else if x < (I 20 7) then Q (nI 1) else Q (nI 0)
theorem D100_hasPath_mono {x : Int32} {A I : HA} {Q Q' : Int32 → Prop} (k : D100_hasPath x A I Q) (m : ∀ v, Q v → Q' v) : D100_hasPath x A I Q' := by
  unfold D100_hasPath at k ⊢
  refine itm k (fun k => ?_) (fun k => ?_)
  · exact m _ k
  · refine itm k (fun k => ?_) (fun k => ?_)
    · exact m _ k
    · exact m _ k
def D101_pathAt (x : Int32) (A I : HA) (Q : Nat → Prop) : Prop := vp_in x 100 ∧ (vp_in (A 41 x.toNatClampNeg) 161 ∧ (Q (71 + 10 * (A 41 x.toNatClampNeg).toNatClampNeg)))
theorem D101_pathAt_mono {x : Int32} {A I : HA} {Q Q' : Nat → Prop} (k : D101_pathAt x A I Q) (m : ∀ v, Q v → Q' v) : D101_pathAt x A I Q' := by
  unfold D101_pathAt at k ⊢
  refine ⟨k.1, ?_⟩
  replace k := k.2
  refine ⟨k.1, ?_⟩
  replace k := k.2
  exact m _ k
def D212_bitCount (x : Int32) (Q : Int32 → Prop) : Prop := Q ((((((((x - ((Int32.toUInt32 x >>> (Int32.toUInt32 (nI 1) &&& Int32.toUInt32 31)).toInt32 &&& (nI 1431655765))) &&& (nI 858993459)) + ((Int32.toUInt32 (x - ((Int32.toUInt32 x >>> (Int32.toUInt32 (nI 1) &&& Int32.toUInt32 31)).toInt32 &&& (nI 1431655765))) >>> (Int32.toUInt32 (nI 2) &&& Int32.toUInt32 31)).toInt32 &&& (nI 858993459))) + (Int32.toUInt32 (((x - ((Int32.toUInt32 x >>> (Int32.toUInt32 (nI 1) &&& Int32.toUInt32 31)).toInt32 &&& (nI 1431655765))) &&& (nI 858993459)) + ((Int32.toUInt32 (x - ((Int32.toUInt32 x >>> (Int32.toUInt32 (nI 1) &&& Int32.toUInt32 31)).toInt32 &&& (nI 1431655765))) >>> (Int32.toUInt32 (nI 2) &&& Int32.toUInt32 31)).toInt32 &&& (nI 858993459))) >>> (Int32.toUInt32 (nI 4) &&& Int32.toUInt32 31)).toInt32) &&& (nI 252645135)) + (Int32.toUInt32 (((((x - ((Int32.toUInt32 x >>> (Int32.toUInt32 (nI 1) &&& Int32.toUInt32 31)).toInt32 &&& (nI 1431655765))) &&& (nI 858993459)) + ((Int32.toUInt32 (x - ((Int32.toUInt32 x >>> (Int32.toUInt32 (nI 1) &&& Int32.toUInt32 31)).toInt32 &&& (nI 1431655765))) >>> (Int32.toUInt32 (nI 2) &&& Int32.toUInt32 31)).toInt32 &&& (nI 858993459))) + (Int32.toUInt32 (((x - ((Int32.toUInt32 x >>> (Int32.toUInt32 (nI 1) &&& Int32.toUInt32 31)).toInt32 &&& (nI 1431655765))) &&& (nI 858993459)) + ((Int32.toUInt32 (x - ((Int32.toUInt32 x >>> (Int32.toUInt32 (nI 1) &&& Int32.toUInt32 31)).toInt32 &&& (nI 1431655765))) >>> (Int32.toUInt32 (nI 2) &&& Int32.toUInt32 31)).toInt32 &&& (nI 858993459))) >>> (Int32.toUInt32 (nI 4) &&& Int32.toUInt32 31)).toInt32) &&& (nI 252645135)) >>> (Int32.toUInt32 (nI 8) &&& Int32.toUInt32 31)).toInt32) + (Int32.toUInt32 ((((((x - ((Int32.toUInt32 x >>> (Int32.toUInt32 (nI 1) &&& Int32.toUInt32 31)).toInt32 &&& (nI 1431655765))) &&& (nI 858993459)) + ((Int32.toUInt32 (x - ((Int32.toUInt32 x >>> (Int32.toUInt32 (nI 1) &&& Int32.toUInt32 31)).toInt32 &&& (nI 1431655765))) >>> (Int32.toUInt32 (nI 2) &&& Int32.toUInt32 31)).toInt32 &&& (nI 858993459))) + (Int32.toUInt32 (((x - ((Int32.toUInt32 x >>> (Int32.toUInt32 (nI 1) &&& Int32.toUInt32 31)).toInt32 &&& (nI 1431655765))) &&& (nI 858993459)) + ((Int32.toUInt32 (x - ((Int32.toUInt32 x >>> (Int32.toUInt32 (nI 1) &&& Int32.toUInt32 31)).toInt32 &&& (nI 1431655765))) >>> (Int32.toUInt32 (nI 2) &&& Int32.toUInt32 31)).toInt32 &&& (nI 858993459))) >>> (Int32.toUInt32 (nI 4) &&& Int32.toUInt32 31)).toInt32) &&& (nI 252645135)) + (Int32.toUInt32 (((((x - ((Int32.toUInt32 x >>> (Int32.toUInt32 (nI 1) &&& Int32.toUInt32 31)).toInt32 &&& (nI 1431655765))) &&& (nI 858993459)) + ((Int32.toUInt32 (x - ((Int32.toUInt32 x >>> (Int32.toUInt32 (nI 1) &&& Int32.toUInt32 31)).toInt32 &&& (nI 1431655765))) >>> (Int32.toUInt32 (nI 2) &&& Int32.toUInt32 31)).toInt32 &&& (nI 858993459))) + (Int32.toUInt32 (((x - ((Int32.toUInt32 x >>> (Int32.toUInt32 (nI 1) &&& Int32.toUInt32 31)).toInt32 &&& (nI 1431655765))) &&& (nI 858993459)) + ((Int32.toUInt32 (x - ((Int32.toUInt32 x >>> (Int32.toUInt32 (nI 1) &&& Int32.toUInt32 31)).toInt32 &&& (nI 1431655765))) >>> (Int32.toUInt32 (nI 2) &&& Int32.toUInt32 31)).toInt32 &&& (nI 858993459))) >>> (Int32.toUInt32 (nI 4) &&& Int32.toUInt32 31)).toInt32) &&& (nI 252645135)) >>> (Int32.toUInt32 (nI 8) &&& Int32.toUInt32 31)).toInt32) >>> (Int32.toUInt32 (nI 16) &&& Int32.toUInt32 31)).toInt32) &&& (nI 63))
theorem D212_bitCount_mono {x : Int32} {Q Q' : Int32 → Prop} (k : D212_bitCount x Q) (m : ∀ v, Q v → Q' v) : D212_bitCount x Q' := by
  unfold D212_bitCount at k ⊢
  exact m _ k
def D43_size (n : Nat) (A I : HA) (Q : Int32 → Prop) : Prop := (∀ P1 : Int32 → Int32 → Prop, (∀ (a2 : Int32) (a3 : Int32), (if a3 < (nI 32) then vp_in a3 32 ∧ (D212_bitCount (A (n + 1) a3.toNatClampNeg) (fun v6 => P1 (a2 + v6) (a3 + nI 1))) else Q a2) → P1 a2 a3) → P1 (nI 0) (nI 0))
theorem D43_size_mono {n : Nat} {A I : HA} {Q Q' : Int32 → Prop} (k : D43_size n A I Q) (m : ∀ v, Q v → Q' v) : D43_size n A I Q' := by
  unfold D43_size at k ⊢
  intro P hP
  refine k P (fun a0 a1 k => hP a0 a1 ?_)
  refine itm k (fun k => ?_) (fun k => ?_)
  · refine ⟨k.1, ?_⟩
    replace k := k.2
    refine D212_bitCount_mono k (fun _ k => ?_)
    exact k
  · exact m _ k
def D9_factOf (w : Nat) (x : Int32) (A I : HA) (Q : Int32 → Prop) : Prop := if x = nI 0 then Q (I w 12) else if x = nI 1 then Q (I w 13) else if x = nI 2 then Q (I w 14) else if x = nI 3 then Q (I w 11) else if x = nI 4 then Q (I w 9) else if x = nI 5 then D43_size (w + 8) A I (fun v1 => Q v1) else if (I w 12) = (nI 1) then D28_sizeOf (I w 15) A I (fun v2 => Q v2) else Q (nI 0)
theorem D9_factOf_mono {w : Nat} {x : Int32} {A I : HA} {Q Q' : Int32 → Prop} (k : D9_factOf w x A I Q) (m : ∀ v, Q v → Q' v) : D9_factOf w x A I Q' := by
  unfold D9_factOf at k ⊢
  refine itm k (fun k => ?_) (fun k => ?_)
  · exact m _ k
  · refine itm k (fun k => ?_) (fun k => ?_)
    · exact m _ k
    · refine itm k (fun k => ?_) (fun k => ?_)
      · exact m _ k
      · refine itm k (fun k => ?_) (fun k => ?_)
        · exact m _ k
        · refine itm k (fun k => ?_) (fun k => ?_)
          · exact m _ k
          · refine itm k (fun k => ?_) (fun k => ?_)
            · refine D43_size_mono k (fun _ k => ?_)
              exact m _ k
            · refine itm k (fun k => ?_) (fun k => ?_)
              · refine D28_sizeOf_mono k (fun _ k => ?_)
                exact m _ k
              · exact m _ k
def D8_path (x : Int32) (y : Int32) (A I : HA) (Q : Int32 → Prop) : Prop := if (I 3 7) = 0 then Q (-3) else D2_within y (nI 0) (nI 6) (fun v1 => if v1 = 0 then Q (-2) else D100_hasPath x A I (fun v2 => if v2 = 0 then Q (-1) else D101_pathAt x A I (fun v3 => isW v3 ∧ (D9_factOf v3 y A I (fun v5 => Q v5)))))
theorem D8_path_mono {x : Int32} {y : Int32} {A I : HA} {Q Q' : Int32 → Prop} (k : D8_path x y A I Q) (m : ∀ v, Q v → Q' v) : D8_path x y A I Q' := by
  unfold D8_path at k ⊢
  refine itm k (fun k => ?_) (fun k => ?_)
  · exact m _ k
  · refine D2_within_mono k (fun _ k => ?_)
    refine itm k (fun k => ?_) (fun k => ?_)
    · exact m _ k
    · refine D100_hasPath_mono k (fun _ k => ?_)
      refine itm k (fun k => ?_) (fun k => ?_)
      · exact m _ k
      · refine D101_pathAt_mono k (fun _ k => ?_)
        refine ⟨k.1, ?_⟩
        replace k := k.2
        refine D9_factOf_mono k (fun _ k => ?_)
        exact m _ k
def D143_hasCondition (w : Nat) (x : Int32) (A I : HA) (Q : Int32 → Prop) : Prop := if x < 0 then Q (nI 0) else if x < (I w 9) then Q (nI 1) else Q (nI 0)
theorem D143_hasCondition_mono {w : Nat} {x : Int32} {A I : HA} {Q Q' : Int32 → Prop} (k : D143_hasCondition w x A I Q) (m : ∀ v, Q v → Q' v) : D143_hasCondition w x A I Q' := by
  unfold D143_hasCondition at k ⊢
  refine itm k (fun k => ?_) (fun k => ?_)
  · exact m _ k
  · refine itm k (fun k => ?_) (fun k => ?_)
    · exact m _ k
    · exact m _ k
def D144_conditionPlace (w : Nat) (x : Int32) (A I : HA) (Q : Int32 → Prop) : Prop := vp_in x 200 ∧ (Q ((A (w + 7) x.toNatClampNeg) - (A (w + 7) x.toNatClampNeg) / (nI 1000) * (nI 1000)))
theorem D144_conditionPlace_mono {w : Nat} {x : Int32} {A I : HA} {Q Q' : Int32 → Prop} (k : D144_conditionPlace w x A I Q) (m : ∀ v, Q v → Q' v) : D144_conditionPlace w x A I Q' := by
  unfold D144_conditionPlace at k ⊢
  refine ⟨k.1, ?_⟩
  replace k := k.2
  exact m _ k
def D145_conditionAlternative (w : Nat) (x : Int32) (A I : HA) (Q : Int32 → Prop) : Prop := vp_in x 200 ∧ (Q (((A (w + 7) x.toNatClampNeg) / (nI 1000)) - ((A (w + 7) x.toNatClampNeg) / (nI 1000)) / (nI 8) * (nI 8)))
theorem D145_conditionAlternative_mono {w : Nat} {x : Int32} {A I : HA} {Q Q' : Int32 → Prop} (k : D145_conditionAlternative w x A I Q) (m : ∀ v, Q v → Q' v) : D145_conditionAlternative w x A I Q' := by
  unfold D145_conditionAlternative at k ⊢
  refine ⟨k.1, ?_⟩
  replace k := k.2
  exact m _ k
def D10_condition (x : Int32) (y : Int32) (z : Int32) (A I : HA) (Q : Int32 → Prop) : Prop := if (I 3 7) = 0 then Q (-3) else D2_within z (nI 0) (nI 1) (fun v1 => if v1 = 0 then Q (-2) else D100_hasPath x A I (fun v2 => if v2 = 0 then Q (-1) else D101_pathAt x A I (fun v3 => isW v3 ∧ (D143_hasCondition v3 y A I (fun v5 => if v5 = 0 then Q (-1) else D101_pathAt x A I (fun v6 => isW v6 ∧ (if z = 0 then D144_conditionPlace v6 y A I (fun v9 => Q v9) else D145_conditionAlternative v6 y A I (fun v8 => Q v8))))))))
theorem D10_condition_mono {x : Int32} {y : Int32} {z : Int32} {A I : HA} {Q Q' : Int32 → Prop} (k : D10_condition x y z A I Q) (m : ∀ v, Q v → Q' v) : D10_condition x y z A I Q' := by
  unfold D10_condition at k ⊢
  refine itm k (fun k => ?_) (fun k => ?_)
  · exact m _ k
  · refine D2_within_mono k (fun _ k => ?_)
    refine itm k (fun k => ?_) (fun k => ?_)
    · exact m _ k
    · refine D100_hasPath_mono k (fun _ k => ?_)
      refine itm k (fun k => ?_) (fun k => ?_)
      · exact m _ k
      · refine D101_pathAt_mono k (fun _ k => ?_)
        refine ⟨k.1, ?_⟩
        replace k := k.2
        refine D143_hasCondition_mono k (fun _ k => ?_)
        refine itm k (fun k => ?_) (fun k => ?_)
        · exact m _ k
        · refine D101_pathAt_mono k (fun _ k => ?_)
          refine ⟨k.1, ?_⟩
          replace k := k.2
          refine itm k (fun k => ?_) (fun k => ?_)
          · refine D144_conditionPlace_mono k (fun _ k => ?_)
            exact m _ k
          · refine D145_conditionAlternative_mono k (fun _ k => ?_)
            exact m _ k
def D114_at (t : Nat) (x : Int32) (A I : HA) (Q : Int32 → Prop) : Prop := vp_in x 60 ∧ (Q (A (t + 1) x.toNatClampNeg))
theorem D114_at_mono {t : Nat} {x : Int32} {A I : HA} {Q Q' : Int32 → Prop} (k : D114_at t x A I Q) (m : ∀ v, Q v → Q' v) : D114_at t x A I Q' := by
  unfold D114_at at k ⊢
  refine ⟨k.1, ?_⟩
  replace k := k.2
  exact m _ k
def D11_token (x : Int32) (y : Int32) (A I : HA) (Q : Int32 → HA → HA → Prop) : Prop := if (I 3 7) = 0 then Q (-3) A I else D100_hasPath x A I (fun v1 => if v1 = 0 then Q (-1) A I else D101_pathAt x A I (fun v2 => isW v2 ∧ (if (I v2 12) = (nI 1) then D101_pathAt x A I (fun v4 => isW v4 ∧ (D110_write 14 (I v4 15) A I (fun A6 I7 => D2_within y (nI 0) ((I7 14 3) - (nI 1)) (fun v8 => if v8 = 0 then Q (-1) A6 I7 else D114_at 14 y A6 I7 (fun v9 => Q v9 A6 I7))))) else Q (-1) A I)))
theorem D11_token_mono {x : Int32} {y : Int32} {A I : HA} {Q Q' : Int32 → HA → HA → Prop} (k : D11_token x y A I Q) (m : ∀ v A I, Q v A I → Q' v A I) : D11_token x y A I Q' := by
  unfold D11_token at k ⊢
  refine itm k (fun k => ?_) (fun k => ?_)
  · exact m _ _ _ k
  · refine D100_hasPath_mono k (fun _ k => ?_)
    refine itm k (fun k => ?_) (fun k => ?_)
    · exact m _ _ _ k
    · refine D101_pathAt_mono k (fun _ k => ?_)
      refine ⟨k.1, ?_⟩
      replace k := k.2
      refine itm k (fun k => ?_) (fun k => ?_)
      · refine D101_pathAt_mono k (fun _ k => ?_)
        refine ⟨k.1, ?_⟩
        replace k := k.2
        refine D110_write_mono k (fun _ _ k => ?_)
        refine D2_within_mono k (fun _ k => ?_)
        refine itm k (fun k => ?_) (fun k => ?_)
        · exact m _ _ _ k
        · refine D114_at_mono k (fun _ k => ?_)
          exact m _ _ _ k
      · exact m _ _ _ k
def D13_isInput (x : Int32) (y : Int32) (Q : Int32 → Prop) : Prop := D2_within x (-16) (nI 15) (fun v1 => if v1 = 0 then Q (nI 0) else D2_within y (-16) (nI 15) (fun v2 => if v2 = 0 then Q (nI 0) else Q (nI 1)))
theorem D13_isInput_mono {x : Int32} {y : Int32} {Q Q' : Int32 → Prop} (k : D13_isInput x y Q) (m : ∀ v, Q v → Q' v) : D13_isInput x y Q' := by
  unfold D13_isInput at k ⊢
  refine D2_within_mono k (fun _ k => ?_)
  refine itm k (fun k => ?_) (fun k => ?_)
  · exact m _ k
  · refine D2_within_mono k (fun _ k => ?_)
    refine itm k (fun k => ?_) (fun k => ?_)
    · exact m _ k
    · exact m _ k
def D12_value (x : Int32) (y : Int32) (z : Int32) (A I : HA) (Q : Int32 → HA → HA → Prop) : Prop := if (I 3 7) = 0 then Q (-3) A I else D13_isInput y z (fun v1 => if v1 = 0 then Q (-2) A I else D100_hasPath x A I (fun v2 => if v2 = 0 then Q (-1) A I else D101_pathAt x A I (fun v3 => isW v3 ∧ (if (I v3 12) = (nI 1) then D101_pathAt x A I (fun v5 => isW v5 ∧ (D110_write 14 (I v5 15) A I (fun A7 I8 => D112_wordFor 14 y z A7 I8 (fun v9 A10 I11 => if v9 = (nI 1000) then Q (-4) A10 I11 else Q v9 A10 I11)))) else Q (-1) A I))))
theorem D12_value_mono {x : Int32} {y : Int32} {z : Int32} {A I : HA} {Q Q' : Int32 → HA → HA → Prop} (k : D12_value x y z A I Q) (m : ∀ v A I, Q v A I → Q' v A I) : D12_value x y z A I Q' := by
  unfold D12_value at k ⊢
  refine itm k (fun k => ?_) (fun k => ?_)
  · exact m _ _ _ k
  · refine D13_isInput_mono k (fun _ k => ?_)
    refine itm k (fun k => ?_) (fun k => ?_)
    · exact m _ _ _ k
    · refine D100_hasPath_mono k (fun _ k => ?_)
      refine itm k (fun k => ?_) (fun k => ?_)
      · exact m _ _ _ k
      · refine D101_pathAt_mono k (fun _ k => ?_)
        refine ⟨k.1, ?_⟩
        replace k := k.2
        refine itm k (fun k => ?_) (fun k => ?_)
        · refine D101_pathAt_mono k (fun _ k => ?_)
          refine ⟨k.1, ?_⟩
          replace k := k.2
          refine D110_write_mono k (fun _ _ k => ?_)
          refine D112_wordFor_mono k (fun _ _ _ k => ?_)
          refine itm k (fun k => ?_) (fun k => ?_)
          · exact m _ _ _ k
          · exact m _ _ _ k
        · exact m _ _ _ k
def D44_numberOf (x : Int32) (y : Int32) (Q : Int32 → Prop) : Prop := Q ((((nI 32) * (x - (-16))) + y) - (-16))
theorem D44_numberOf_mono {x : Int32} {y : Int32} {Q Q' : Int32 → Prop} (k : D44_numberOf x y Q) (m : ∀ v, Q v → Q' v) : D44_numberOf x y Q' := by
  unfold D44_numberOf at k ⊢
  exact m _ k
def D14_along (x : Int32) (y : Int32) (A I : HA) (Q : Int32 → Prop) : Prop := if (I 3 7) = 0 then Q (-3) else D13_isInput x y (fun v1 => if v1 = 0 then Q (-2) else D44_numberOf x y (fun v2 => (∀ P3 : Int32 → Prop, (∀ (a4 : Int32), (if a4 < (I 20 7) then D101_pathAt a4 A I (fun v8 => isW v8 ∧ (D38_has (v8 + 8) v2 A I (fun v10 => if v10 = 0 then P3 (a4 + nI 1) else Q a4))) else Q (-1)) → P3 a4) → P3 (nI 0))))
theorem D14_along_mono {x : Int32} {y : Int32} {A I : HA} {Q Q' : Int32 → Prop} (k : D14_along x y A I Q) (m : ∀ v, Q v → Q' v) : D14_along x y A I Q' := by
  unfold D14_along at k ⊢
  refine itm k (fun k => ?_) (fun k => ?_)
  · exact m _ k
  · refine D13_isInput_mono k (fun _ k => ?_)
    refine itm k (fun k => ?_) (fun k => ?_)
    · exact m _ k
    · refine D44_numberOf_mono k (fun _ k => ?_)
      intro P hP
      refine k P (fun a0 k => hP a0 ?_)
      refine itm k (fun k => ?_) (fun k => ?_)
      · refine D101_pathAt_mono k (fun _ k => ?_)
        refine ⟨k.1, ?_⟩
        replace k := k.2
        refine D38_has_mono k (fun _ k => ?_)
        refine itm k (fun k => ?_) (fun k => ?_)
        · exact k
        · exact m _ k
      · exact m _ k
def D45_inOrder (n : Nat) (x : Int32) (A I : HA) (Q : Int32 → Prop) : Prop := (∀ P1 : Int32 → Int32 → Prop, (∀ (a2 : Int32) (a3 : Int32), (if a3 < (nI 1024) then D38_has n a3 A I (fun v5 => if v5 = 0 then P1 a2 (a3 + nI 1) else if a2 = x then Q a3 else P1 (a2 + nI 1) (a3 + nI 1)) else Q (-1)) → P1 a2 a3) → P1 (nI 0) (nI 0))
theorem D45_inOrder_mono {n : Nat} {x : Int32} {A I : HA} {Q Q' : Int32 → Prop} (k : D45_inOrder n x A I Q) (m : ∀ v, Q v → Q' v) : D45_inOrder n x A I Q' := by
  unfold D45_inOrder at k ⊢
  intro P hP
  refine k P (fun a0 a1 k => hP a0 a1 ?_)
  refine itm k (fun k => ?_) (fun k => ?_)
  · refine D38_has_mono k (fun _ k => ?_)
    refine itm k (fun k => ?_) (fun k => ?_)
    · exact k
    · refine itm k (fun k => ?_) (fun k => ?_)
      · exact m _ k
      · exact k
  · exact m _ k
def D15_input (x : Int32) (y : Int32) (A I : HA) (Q : Int32 → Prop) : Prop := if (I 3 7) = 0 then Q (-3) else D100_hasPath x A I (fun v1 => if v1 = 0 then Q (-1) else D101_pathAt x A I (fun v2 => isW v2 ∧ (D45_inOrder (v2 + 8) y A I (fun v4 => Q v4))))
theorem D15_input_mono {x : Int32} {y : Int32} {A I : HA} {Q Q' : Int32 → Prop} (k : D15_input x y A I Q) (m : ∀ v, Q v → Q' v) : D15_input x y A I Q' := by
  unfold D15_input at k ⊢
  refine itm k (fun k => ?_) (fun k => ?_)
  · exact m _ k
  · refine D100_hasPath_mono k (fun _ k => ?_)
    refine itm k (fun k => ?_) (fun k => ?_)
    · exact m _ k
    · refine D101_pathAt_mono k (fun _ k => ?_)
      refine ⟨k.1, ?_⟩
      replace k := k.2
      refine D45_inOrder_mono k (fun _ k => ?_)
      exact m _ k
def D146_conditionFlip (w : Nat) (x : Int32) (A I : HA) (Q : Int32 → Prop) : Prop := vp_in x 200 ∧ (Q ((((A (w + 7) x.toNatClampNeg) / (nI 1000)) / (nI 8)) - (nI 1)))
theorem D146_conditionFlip_mono {w : Nat} {x : Int32} {A I : HA} {Q Q' : Int32 → Prop} (k : D146_conditionFlip w x A I Q) (m : ∀ v, Q v → Q' v) : D146_conditionFlip w x A I Q' := by
  unfold D146_conditionFlip at k ⊢
  refine ⟨k.1, ?_⟩
  replace k := k.2
  exact m _ k
def D16_flip (x : Int32) (y : Int32) (A I : HA) (Q : Int32 → Prop) : Prop := if (I 3 7) = 0 then Q (-3) else D100_hasPath x A I (fun v1 => if v1 = 0 then Q (-1) else D101_pathAt x A I (fun v2 => isW v2 ∧ (D143_hasCondition v2 y A I (fun v4 => if v4 = 0 then Q (-1) else D101_pathAt x A I (fun v5 => isW v5 ∧ (D146_conditionFlip v5 y A I (fun v7 => Q v7)))))))
theorem D16_flip_mono {x : Int32} {y : Int32} {A I : HA} {Q Q' : Int32 → Prop} (k : D16_flip x y A I Q) (m : ∀ v, Q v → Q' v) : D16_flip x y A I Q' := by
  unfold D16_flip at k ⊢
  refine itm k (fun k => ?_) (fun k => ?_)
  · exact m _ k
  · refine D100_hasPath_mono k (fun _ k => ?_)
    refine itm k (fun k => ?_) (fun k => ?_)
    · exact m _ k
    · refine D101_pathAt_mono k (fun _ k => ?_)
      refine ⟨k.1, ?_⟩
      replace k := k.2
      refine D143_hasCondition_mono k (fun _ k => ?_)
      refine itm k (fun k => ?_) (fun k => ?_)
      · exact m _ k
      · refine D101_pathAt_mono k (fun _ k => ?_)
        refine ⟨k.1, ?_⟩
        replace k := k.2
        refine D146_conditionFlip_mono k (fun _ k => ?_)
        exact m _ k
def D102_prunedPlace (x : Int32) (A I : HA) (Q : Int32 → Prop) : Prop := vp_in ((((I 20 12) - (nI 1)) - x) - (((I 20 12) - (nI 1)) - x) / (nI 30) * (nI 30)) 30 ∧ (Q ((A 43 ((((I 20 12) - (nI 1)) - x) - (((I 20 12) - (nI 1)) - x) / (nI 30) * (nI 30)).toNatClampNeg) / (nI 8)))
theorem D102_prunedPlace_mono {x : Int32} {A I : HA} {Q Q' : Int32 → Prop} (k : D102_prunedPlace x A I Q) (m : ∀ v, Q v → Q' v) : D102_prunedPlace x A I Q' := by
  unfold D102_prunedPlace at k ⊢
  refine ⟨k.1, ?_⟩
  replace k := k.2
  exact m _ k
def D103_prunedAlternative (x : Int32) (A I : HA) (Q : Int32 → Prop) : Prop := vp_in ((((I 20 12) - (nI 1)) - x) - (((I 20 12) - (nI 1)) - x) / (nI 30) * (nI 30)) 30 ∧ (Q ((A 43 ((((I 20 12) - (nI 1)) - x) - (((I 20 12) - (nI 1)) - x) / (nI 30) * (nI 30)).toNatClampNeg) - (A 43 ((((I 20 12) - (nI 1)) - x) - (((I 20 12) - (nI 1)) - x) / (nI 30) * (nI 30)).toNatClampNeg) / (nI 8) * (nI 8)))
theorem D103_prunedAlternative_mono {x : Int32} {A I : HA} {Q Q' : Int32 → Prop} (k : D103_prunedAlternative x A I Q) (m : ∀ v, Q v → Q' v) : D103_prunedAlternative x A I Q' := by
  unfold D103_prunedAlternative at k ⊢
  refine ⟨k.1, ?_⟩
  replace k := k.2
  exact m _ k
def D17_pruned (x : Int32) (y : Int32) (A I : HA) (Q : Int32 → Prop) : Prop := if (I 3 7) = 0 then Q (-3) else D2_within y (nI 0) (nI 1) (fun v1 => if v1 = 0 then Q (-2) else if x < 0 then Q (-1) else if x < (if (nI 30) < (I 20 12) then (nI 30) else (I 20 12)) then if y = 0 then D102_prunedPlace x A I (fun v3 => Q v3) else D103_prunedAlternative x A I (fun v2 => Q v2) else Q (-1))
theorem D17_pruned_mono {x : Int32} {y : Int32} {A I : HA} {Q Q' : Int32 → Prop} (k : D17_pruned x y A I Q) (m : ∀ v, Q v → Q' v) : D17_pruned x y A I Q' := by
  unfold D17_pruned at k ⊢
  refine itm k (fun k => ?_) (fun k => ?_)
  · exact m _ k
  · refine D2_within_mono k (fun _ k => ?_)
    refine itm k (fun k => ?_) (fun k => ?_)
    · exact m _ k
    · refine itm k (fun k => ?_) (fun k => ?_)
      · exact m _ k
      · refine itm k (fun k => ?_) (fun k => ?_)
        · refine itm k (fun k => ?_) (fun k => ?_)
          · refine D102_prunedPlace_mono k (fun _ k => ?_)
            exact m _ k
          · refine D103_prunedAlternative_mono k (fun _ k => ?_)
            exact m _ k
        · exact m _ k
def D77_slot (x : Int32) (y : Int32) (Q : Int32 → Prop) : Prop := Q ((x * (nI 40)) + y)
theorem D77_slot_mono {x : Int32} {y : Int32} {Q Q' : Int32 → Prop} (k : D77_slot x y Q) (m : ∀ v, Q v → Q' v) : D77_slot x y Q' := by
  unfold D77_slot at k ⊢
  exact m _ k
def D18_times (x : Int32) (y : Int32) (A I : HA) (Q : Int32 → Prop) : Prop := if (I 3 7) = 0 then Q (-3) else D74_hasMethod x A I (fun v1 => if v1 = 0 then Q (-2) else D83_hasOperation x y A I (fun v2 => if v2 = 0 then Q (-2) else D77_slot x y (fun v3 => vp_in v3 240 ∧ (Q (A 42 v3.toNatClampNeg)))))
theorem D18_times_mono {x : Int32} {y : Int32} {A I : HA} {Q Q' : Int32 → Prop} (k : D18_times x y A I Q) (m : ∀ v, Q v → Q' v) : D18_times x y A I Q' := by
  unfold D18_times at k ⊢
  refine itm k (fun k => ?_) (fun k => ?_)
  · exact m _ k
  · refine D74_hasMethod_mono k (fun _ k => ?_)
    refine itm k (fun k => ?_) (fun k => ?_)
    · exact m _ k
    · refine D83_hasOperation_mono k (fun _ k => ?_)
      refine itm k (fun k => ?_) (fun k => ?_)
      · exact m _ k
      · refine D77_slot_mono k (fun _ k => ?_)
        refine ⟨k.1, ?_⟩
        replace k := k.2
        exact m _ k
def D71_runPlain (w : Nat) (x : Int32) (y : Int32) (z : Int32) (u1 : Int32) (A I : HA) (Q : HA → HA → Prop) : Prop := D27_number y (fun v1 => D27_number z (fun v2 => D116_begin w x v1 v2 A I (fun A3 I4 => (∀ P5 : Int32 → HA → HA → Prop, (∀ (a6 : Int32) (A10 I11 : HA), (if (nI 200) < a6 then Q A10 I11 else D57_comesToOne w u1 A10 I11 (fun v13 A14 I15 => if v13 = 0 then Q A14 I15 else D58_stopsToSplit w A14 I15 (fun v16 A17 I18 => P5 (a6 + nI 1) A17 I18))) → P5 a6 A10 I11) → P5 (nI 0) A3 I4))))
theorem D71_runPlain_mono {w : Nat} {x : Int32} {y : Int32} {z : Int32} {u1 : Int32} {A I : HA} {Q Q' : HA → HA → Prop} (k : D71_runPlain w x y z u1 A I Q) (m : ∀ A I, Q A I → Q' A I) : D71_runPlain w x y z u1 A I Q' := by
  unfold D71_runPlain at k ⊢
  refine D27_number_mono k (fun _ k => ?_)
  refine D27_number_mono k (fun _ k => ?_)
  refine D116_begin_mono k (fun _ _ k => ?_)
  intro P hP
  refine k P (fun a0 a1 a2 k => hP a0 a1 a2 ?_)
  refine itm k (fun k => ?_) (fun k => ?_)
  · exact m _ _ k
  · refine D57_comesToOne_mono k (fun _ _ _ k => ?_)
    refine itm k (fun k => ?_) (fun k => ?_)
    · exact m _ _ k
    · refine D58_stopsToSplit_mono k (fun _ _ _ k => ?_)
      exact k
def D19_plain (x : Int32) (y : Int32) (z : Int32) (u1 : Int32) (u2 : Int32) (A I : HA) (Q : Int32 → HA → HA → Prop) : Prop := D79_canBegin x A I (fun v1 => if v1 = 0 then Q (-2) A I else D2_within y (-128) (nI 127) (fun v2 => if v2 = 0 then Q (-2) A I else D2_within z (-128) (nI 127) (fun v3 => if v3 = 0 then Q (-2) A I else D2_within u1 (nI 1) (nI 200) (fun v4 => if v4 = 0 then Q (-2) A I else D2_within u2 (nI 0) (nI 3) (fun v5 => if v5 = 0 then Q (-2) A I else D71_runPlain 4 x y z u1 A I (fun A6 I7 => if u2 = nI 0 then Q (I7 4 12) A6 I7 else if u2 = nI 1 then Q (I7 4 13) A6 I7 else if u2 = nI 2 then if (I7 4 12) = (nI 1) then D26_numberIn (I7 4 15) (fun v8 => Q v8 A6 I7) else Q (I7 4 14) A6 I7 else Q (I7 4 11) A6 I7))))))
theorem D19_plain_mono {x : Int32} {y : Int32} {z : Int32} {u1 : Int32} {u2 : Int32} {A I : HA} {Q Q' : Int32 → HA → HA → Prop} (k : D19_plain x y z u1 u2 A I Q) (m : ∀ v A I, Q v A I → Q' v A I) : D19_plain x y z u1 u2 A I Q' := by
  unfold D19_plain at k ⊢
  refine D79_canBegin_mono k (fun _ k => ?_)
  refine itm k (fun k => ?_) (fun k => ?_)
  · exact m _ _ _ k
  · refine D2_within_mono k (fun _ k => ?_)
    refine itm k (fun k => ?_) (fun k => ?_)
    · exact m _ _ _ k
    · refine D2_within_mono k (fun _ k => ?_)
      refine itm k (fun k => ?_) (fun k => ?_)
      · exact m _ _ _ k
      · refine D2_within_mono k (fun _ k => ?_)
        refine itm k (fun k => ?_) (fun k => ?_)
        · exact m _ _ _ k
        · refine D2_within_mono k (fun _ k => ?_)
          refine itm k (fun k => ?_) (fun k => ?_)
          · exact m _ _ _ k
          · refine D71_runPlain_mono k (fun _ _ k => ?_)
            refine itm k (fun k => ?_) (fun k => ?_)
            · exact m _ _ _ k
            · refine itm k (fun k => ?_) (fun k => ?_)
              · exact m _ _ _ k
              · refine itm k (fun k => ?_) (fun k => ?_)
                · refine itm k (fun k => ?_) (fun k => ?_)
                  · refine D26_numberIn_mono k (fun _ k => ?_)
                    exact m _ _ _ k
                  · exact m _ _ _ k
                · exact m _ _ _ k
def D21_inputHolds (w : Nat) (x : Int32) (A I : HA) (Q : Int32 → HA → HA → Prop) : Prop := if (I w 12) = (nI 7) then Q (nI 1) A I else D39_xOf x (fun v1 => D40_yOf x (fun v2 => D71_runPlain 4 (I 20 14) v1 v2 (I 20 15) A I (fun A3 I4 => if (I4 4 12) = (I4 w 12) then if (I4 4 13) = (I4 w 13) then if (I4 4 14) = (I4 w 14) then if (I4 4 11) = (I4 w 11) then if (I4 w 12) = (nI 1) then D26_numberIn (I4 4 15) (fun v5 => D112_wordFor 14 v1 v2 A3 I4 (fun v6 A7 I8 => if v5 = v6 then Q (nI 1) A7 I8 else Q (nI 0) A7 I8)) else Q (nI 1) A3 I4 else Q (nI 0) A3 I4 else Q (nI 0) A3 I4 else Q (nI 0) A3 I4 else Q (nI 0) A3 I4)))
theorem D21_inputHolds_mono {w : Nat} {x : Int32} {A I : HA} {Q Q' : Int32 → HA → HA → Prop} (k : D21_inputHolds w x A I Q) (m : ∀ v A I, Q v A I → Q' v A I) : D21_inputHolds w x A I Q' := by
  unfold D21_inputHolds at k ⊢
  refine itm k (fun k => ?_) (fun k => ?_)
  · exact m _ _ _ k
  · refine D39_xOf_mono k (fun _ k => ?_)
    refine D40_yOf_mono k (fun _ k => ?_)
    refine D71_runPlain_mono k (fun _ _ k => ?_)
    refine itm k (fun k => ?_) (fun k => ?_)
    · refine itm k (fun k => ?_) (fun k => ?_)
      · refine itm k (fun k => ?_) (fun k => ?_)
        · refine itm k (fun k => ?_) (fun k => ?_)
          · refine itm k (fun k => ?_) (fun k => ?_)
            · refine D26_numberIn_mono k (fun _ k => ?_)
              refine D112_wordFor_mono k (fun _ _ _ k => ?_)
              refine itm k (fun k => ?_) (fun k => ?_)
              · exact m _ _ _ k
              · exact m _ _ _ k
            · exact m _ _ _ k
          · exact m _ _ _ k
        · exact m _ _ _ k
      · exact m _ _ _ k
    · exact m _ _ _ k
def D20_agrees (A I : HA) (Q : Int32 → HA → HA → Prop) : Prop := if (I 3 7) = 0 then Q (nI 0) A I else D37_clear 18 A I (fun A1 I2 => (∀ P3 : Int32 → HA → HA → Prop, (∀ (a4 : Int32) (A7 I8 : HA), (if a4 < (I8 20 7) then D101_pathAt a4 A7 I8 (fun v10 => isW v10 ∧ (if (I8 v10 12) = (nI 1) then D110_write 14 (I8 v10 15) A7 I8 (fun A24 I25 => (∀ P26 : Int32 → HA → HA → Prop, (∀ (a27 : Int32) (A28 I29 : HA), (if a27 < (nI 1024) then D38_has (v10 + 8) a27 A28 I29 (fun v31 => if v31 = 0 then P26 (a27 + nI 1) A28 I29 else D38_has 18 a27 A28 I29 (fun v32 => if v32 = 0 then D21_inputHolds v10 a27 A28 I29 (fun v33 A34 I35 => if v33 = 0 then Q (nI 0) A34 I35 else D41_add 18 a27 A34 I35 (fun A36 I37 => P26 (a27 + nI 1) A36 I37)) else Q (nI 0) A28 I29)) else P3 (a4 + nI 1) A28 I29) → P26 a27 A28 I29) → P26 (nI 0) A24 I25)) else (∀ P12 : Int32 → HA → HA → Prop, (∀ (a13 : Int32) (A14 I15 : HA), (if a13 < (nI 1024) then D38_has (v10 + 8) a13 A14 I15 (fun v17 => if v17 = 0 then P12 (a13 + nI 1) A14 I15 else D38_has 18 a13 A14 I15 (fun v18 => if v18 = 0 then D21_inputHolds v10 a13 A14 I15 (fun v19 A20 I21 => if v19 = 0 then Q (nI 0) A20 I21 else D41_add 18 a13 A20 I21 (fun A22 I23 => P12 (a13 + nI 1) A22 I23)) else Q (nI 0) A14 I15)) else P3 (a4 + nI 1) A14 I15) → P12 a13 A14 I15) → P12 (nI 0) A7 I8))) else Q (nI 1) A7 I8) → P3 a4 A7 I8) → P3 (nI 0) A1 I2))
theorem D20_agrees_mono {A I : HA} {Q Q' : Int32 → HA → HA → Prop} (k : D20_agrees A I Q) (m : ∀ v A I, Q v A I → Q' v A I) : D20_agrees A I Q' := by
  unfold D20_agrees at k ⊢
  refine itm k (fun k => ?_) (fun k => ?_)
  · exact m _ _ _ k
  · refine D37_clear_mono k (fun _ _ k => ?_)
    intro P hP
    refine k P (fun a0 a1 a2 k => hP a0 a1 a2 ?_)
    refine itm k (fun k => ?_) (fun k => ?_)
    · refine D101_pathAt_mono k (fun _ k => ?_)
      refine ⟨k.1, ?_⟩
      replace k := k.2
      refine itm k (fun k => ?_) (fun k => ?_)
      · refine D110_write_mono k (fun _ _ k => ?_)
        intro P hP
        refine k P (fun a0 a1 a2 k => hP a0 a1 a2 ?_)
        refine itm k (fun k => ?_) (fun k => ?_)
        · refine D38_has_mono k (fun _ k => ?_)
          refine itm k (fun k => ?_) (fun k => ?_)
          · exact k
          · refine D38_has_mono k (fun _ k => ?_)
            refine itm k (fun k => ?_) (fun k => ?_)
            · refine D21_inputHolds_mono k (fun _ _ _ k => ?_)
              refine itm k (fun k => ?_) (fun k => ?_)
              · exact m _ _ _ k
              · refine D41_add_mono k (fun _ _ k => ?_)
                exact k
            · exact m _ _ _ k
        · exact k
      · intro P hP
        refine k P (fun a0 a1 a2 k => hP a0 a1 a2 ?_)
        refine itm k (fun k => ?_) (fun k => ?_)
        · refine D38_has_mono k (fun _ k => ?_)
          refine itm k (fun k => ?_) (fun k => ?_)
          · exact k
          · refine D38_has_mono k (fun _ k => ?_)
            refine itm k (fun k => ?_) (fun k => ?_)
            · refine D21_inputHolds_mono k (fun _ _ _ k => ?_)
              refine itm k (fun k => ?_) (fun k => ?_)
              · exact m _ _ _ k
              · refine D41_add_mono k (fun _ _ k => ?_)
                exact k
            · exact m _ _ _ k
        · exact k
    · exact m _ _ _ k
def D149_isIn (x : Int32) (y : Int32) (z : Int32) (Q : Int32 → Prop) : Prop := if x < y then Q (nI 0) else if z < x then Q (nI 0) else Q (nI 1)
theorem D149_isIn_mono {x : Int32} {y : Int32} {z : Int32} {Q Q' : Int32 → Prop} (k : D149_isIn x y z Q) (m : ∀ v, Q v → Q' v) : D149_isIn x y z Q' := by
  unfold D149_isIn at k ⊢
  refine itm k (fun k => ?_) (fun k => ?_)
  · exact m _ k
  · refine itm k (fun k => ?_) (fun k => ?_)
    · exact m _ k
    · exact m _ k
def D155_slot (A I : HA) (Q : Int32 → HA → HA → Prop) : Prop := (∀ P1 : Int32 → Prop, (∀ (a2 : Int32), (vp_in a2 170 ∧ (if (A 1690 a2.toNatClampNeg) = 0 then vp_in a2 170 ∧ (Q a2 (sA A 1690 a2.toNatClampNeg (vp_nar (bm_ty 2) (nI 1))) I) else P1 (a2 + nI 1))) → P1 a2) → P1 (nI 0))
theorem D155_slot_mono {A I : HA} {Q Q' : Int32 → HA → HA → Prop} (k : D155_slot A I Q) (m : ∀ v A I, Q v A I → Q' v A I) : D155_slot A I Q' := by
  unfold D155_slot at k ⊢
  intro P hP
  refine k P (fun a0 k => hP a0 ?_)
  refine ⟨k.1, ?_⟩
  replace k := k.2
  refine itm k (fun k => ?_) (fun k => ?_)
  · refine ⟨k.1, ?_⟩
    replace k := k.2
    exact m _ _ _ k
  · exact k
def D158_frame (A I : HA) (Q : HA → HA → Prop) : Prop := vp_in ((I 1681 35) + (nI 0)) 88400 ∧ (Q A (sI I 1681 36 (((I 1681 35) + (nI 30)) + ((nI 21) * ((A 1688 ((I 1681 35) + (nI 0)).toNatClampNeg) - (nI 1))))))
theorem D158_frame_mono {A I : HA} {Q Q' : HA → HA → Prop} (k : D158_frame A I Q) (m : ∀ A I, Q A I → Q' A I) : D158_frame A I Q' := by
  unfold D158_frame at k ⊢
  refine ⟨k.1, ?_⟩
  replace k := k.2
  exact m _ _ k
def D157_enter (x : Int32) (A I : HA) (Q : HA → HA → Prop) : Prop := vp_in ((I 1681 35) + (nI 0)) 88400 ∧ (vp_in ((I 1681 35) + (nI 0)) 88400 ∧ (D158_frame (sA A 1688 ((I 1681 35) + (nI 0)).toNatClampNeg ((A 1688 ((I 1681 35) + (nI 0)).toNatClampNeg) + (nI 1))) I (fun A3 I4 => vp_in ((I4 1681 36) + (nI 0)) 88400 ∧ (vp_in ((I4 1681 36) + (nI 1)) 88400 ∧ (vp_in ((I4 1681 36) + (nI 2)) 88400 ∧ ((∀ P8 : Int32 → HA → HA → Prop, (∀ (a9 : Int32) (A11 I12 : HA), (if a9 < (nI 6) then vp_in (((I12 1681 36) + (nI 3)) + a9) 88400 ∧ (P8 (a9 + nI 1) (sA A11 1688 (((I12 1681 36) + (nI 3)) + a9).toNatClampNeg (-100)) I12) else Q A11 I12) → P8 a9 A11 I12) → P8 (nI 0) (sA (sA (sA A3 1688 ((I4 1681 36) + (nI 0)).toNatClampNeg x) 1688 ((I4 1681 36) + (nI 1)).toNatClampNeg (nI 0)) 1688 ((I4 1681 36) + (nI 2)).toNatClampNeg (nI 0)) I4)))))))
theorem D157_enter_mono {x : Int32} {A I : HA} {Q Q' : HA → HA → Prop} (k : D157_enter x A I Q) (m : ∀ A I, Q A I → Q' A I) : D157_enter x A I Q' := by
  unfold D157_enter at k ⊢
  refine ⟨k.1, ?_⟩
  replace k := k.2
  refine ⟨k.1, ?_⟩
  replace k := k.2
  refine D158_frame_mono k (fun _ _ k => ?_)
  refine ⟨k.1, ?_⟩
  replace k := k.2
  refine ⟨k.1, ?_⟩
  replace k := k.2
  refine ⟨k.1, ?_⟩
  replace k := k.2
  intro P hP
  refine k P (fun a0 a1 a2 k => hP a0 a1 a2 ?_)
  refine itm k (fun k => ?_) (fun k => ?_)
  · refine ⟨k.1, ?_⟩
    replace k := k.2
    exact k
  · exact m _ _ k
def D156_begin (x : Int32) (y : Int32) (z : Int32) (A I : HA) (Q : HA → HA → Prop) : Prop := vp_in ((I 1681 35) + (nI 0)) 88400 ∧ (vp_in ((I 1681 35) + (nI 1)) 88400 ∧ (vp_in ((I 1681 35) + (nI 2)) 88400 ∧ (vp_in ((I 1681 35) + (nI 3)) 88400 ∧ (vp_in ((I 1681 35) + (nI 4)) 88400 ∧ (vp_in ((I 1681 35) + (nI 5)) 88400 ∧ (D157_enter x (sA (sA (sA (sA (sA (sA A 1688 ((I 1681 35) + (nI 0)).toNatClampNeg (nI 0)) 1688 ((I 1681 35) + (nI 1)).toNatClampNeg (nI 0)) 1688 ((I 1681 35) + (nI 2)).toNatClampNeg (nI 0)) 1688 ((I 1681 35) + (nI 3)).toNatClampNeg (-1)) 1688 ((I 1681 35) + (nI 4)).toNatClampNeg (nI 0)) 1688 ((I 1681 35) + (nI 5)).toNatClampNeg (nI 0)) I (fun A7 I8 => vp_in ((I8 1681 36) + (nI 3)) 88400 ∧ (vp_in (((I8 1681 36) + (nI 3)) + (nI 1)) 88400 ∧ (Q (sA (sA A7 1688 ((I8 1681 36) + (nI 3)).toNatClampNeg y) 1688 (((I8 1681 36) + (nI 3)) + (nI 1)).toNatClampNeg z) I8)))))))))
theorem D156_begin_mono {x : Int32} {y : Int32} {z : Int32} {A I : HA} {Q Q' : HA → HA → Prop} (k : D156_begin x y z A I Q) (m : ∀ A I, Q A I → Q' A I) : D156_begin x y z A I Q' := by
  unfold D156_begin at k ⊢
  refine ⟨k.1, ?_⟩
  replace k := k.2
  refine ⟨k.1, ?_⟩
  replace k := k.2
  refine ⟨k.1, ?_⟩
  replace k := k.2
  refine ⟨k.1, ?_⟩
  replace k := k.2
  refine ⟨k.1, ?_⟩
  replace k := k.2
  refine ⟨k.1, ?_⟩
  replace k := k.2
  refine D157_enter_mono k (fun _ _ k => ?_)
  refine ⟨k.1, ?_⟩
  replace k := k.2
  refine ⟨k.1, ?_⟩
  replace k := k.2
  exact m _ _ k
def D161_timesAt (x : Int32) (A I : HA) (Q : Int32 → Prop) : Prop := vp_in (x + (nI 0)) 88400 ∧ (vp_in (((x + (nI 30)) + ((nI 21) * ((A 1688 (x + (nI 0)).toNatClampNeg) - (nI 1)))) + (nI 1)) 88400 ∧ (if (A 1688 (((x + (nI 30)) + ((nI 21) * ((A 1688 (x + (nI 0)).toNatClampNeg) - (nI 1)))) + (nI 1)).toNatClampNeg) < (nI 40) then vp_in (((x + (nI 30)) + ((nI 21) * ((A 1688 (x + (nI 0)).toNatClampNeg) - (nI 1)))) + (nI 0)) 88400 ∧ (vp_in (((x + (nI 30)) + ((nI 21) * ((A 1688 (x + (nI 0)).toNatClampNeg) - (nI 1)))) + (nI 1)) 88400 ∧ (vp_in (((nI 40) * (A 1688 (((x + (nI 30)) + ((nI 21) * ((A 1688 (x + (nI 0)).toNatClampNeg) - (nI 1)))) + (nI 0)).toNatClampNeg)) + (A 1688 (((x + (nI 30)) + ((nI 21) * ((A 1688 (x + (nI 0)).toNatClampNeg) - (nI 1)))) + (nI 1)).toNatClampNeg)) 240 ∧ (Q (A 1699 (((nI 40) * (A 1688 (((x + (nI 30)) + ((nI 21) * ((A 1688 (x + (nI 0)).toNatClampNeg) - (nI 1)))) + (nI 0)).toNatClampNeg)) + (A 1688 (((x + (nI 30)) + ((nI 21) * ((A 1688 (x + (nI 0)).toNatClampNeg) - (nI 1)))) + (nI 1)).toNatClampNeg)).toNatClampNeg)))) else Q (nI 0)))
theorem D161_timesAt_mono {x : Int32} {A I : HA} {Q Q' : Int32 → Prop} (k : D161_timesAt x A I Q) (m : ∀ v, Q v → Q' v) : D161_timesAt x A I Q' := by
  unfold D161_timesAt at k ⊢
  refine ⟨k.1, ?_⟩
  replace k := k.2
  refine ⟨k.1, ?_⟩
  replace k := k.2
  refine itm k (fun k => ?_) (fun k => ?_)
  · refine ⟨k.1, ?_⟩
    replace k := k.2
    refine ⟨k.1, ?_⟩
    replace k := k.2
    refine ⟨k.1, ?_⟩
    replace k := k.2
    exact m _ k
  · exact m _ k
def D160_pick (A I : HA) (Q : Int32 → HA → HA → Prop) : Prop := if (I 1681 17) = (nI 1) then Q (nI 0) A I else if (I 1681 17) = (nI 2) then ¬ ((sI I 1681 19 (((I 1681 19) * (nI 1664525)) + (nI 1013904223))) 1681 21) = 0 ∧ (Q ((Int32.toUInt32 ((sI I 1681 19 (((I 1681 19) * (nI 1664525)) + (nI 1013904223))) 1681 19) >>> (Int32.toUInt32 (nI 8) &&& Int32.toUInt32 31)).toInt32 - (Int32.toUInt32 ((sI I 1681 19 (((I 1681 19) * (nI 1664525)) + (nI 1013904223))) 1681 19) >>> (Int32.toUInt32 (nI 8) &&& Int32.toUInt32 31)).toInt32 / ((sI I 1681 19 (((I 1681 19) * (nI 1664525)) + (nI 1013904223))) 1681 21) * ((sI I 1681 19 (((I 1681 19) * (nI 1664525)) + (nI 1013904223))) 1681 21)) A (sI I 1681 19 (((I 1681 19) * (nI 1664525)) + (nI 1013904223)))) else (∀ P1 : Int32 → Int32 → Prop, (∀ (a2 : Int32) (a3 : Int32), (if a3 < (I 1681 21) then vp_in a3 60 ∧ (vp_in a2 60 ∧ (if (I 1681 17) = 0 then vp_in (((nI 520) * (A 1695 a3.toNatClampNeg)) + (nI 4)) 88400 ∧ (vp_in (((nI 520) * (A 1695 a2.toNatClampNeg)) + (nI 4)) 88400 ∧ (if (A 1688 (((nI 520) * (A 1695 a2.toNatClampNeg)) + (nI 4)).toNatClampNeg) < (A 1688 (((nI 520) * (A 1695 a3.toNatClampNeg)) + (nI 4)).toNatClampNeg) then P1 a3 (a3 + nI 1) else P1 a2 (a3 + nI 1))) else D161_timesAt ((nI 520) * (A 1695 a3.toNatClampNeg)) A I (fun v10 => D161_timesAt ((nI 520) * (A 1695 a2.toNatClampNeg)) A I (fun v11 => if v10 < v11 then P1 a3 (a3 + nI 1) else P1 a2 (a3 + nI 1))))) else Q a2 A I) → P1 a2 a3) → P1 (nI 0) (nI 1))
theorem D160_pick_mono {A I : HA} {Q Q' : Int32 → HA → HA → Prop} (k : D160_pick A I Q) (m : ∀ v A I, Q v A I → Q' v A I) : D160_pick A I Q' := by
  unfold D160_pick at k ⊢
  refine itm k (fun k => ?_) (fun k => ?_)
  · exact m _ _ _ k
  · refine itm k (fun k => ?_) (fun k => ?_)
    · refine ⟨k.1, ?_⟩
      replace k := k.2
      exact m _ _ _ k
    · intro P hP
      refine k P (fun a0 a1 k => hP a0 a1 ?_)
      refine itm k (fun k => ?_) (fun k => ?_)
      · refine ⟨k.1, ?_⟩
        replace k := k.2
        refine ⟨k.1, ?_⟩
        replace k := k.2
        refine itm k (fun k => ?_) (fun k => ?_)
        · refine ⟨k.1, ?_⟩
          replace k := k.2
          refine ⟨k.1, ?_⟩
          replace k := k.2
          refine itm k (fun k => ?_) (fun k => ?_)
          · exact k
          · exact k
        · refine D161_timesAt_mono k (fun _ k => ?_)
          refine D161_timesAt_mono k (fun _ k => ?_)
          refine itm k (fun k => ?_) (fun k => ?_)
          · exact k
          · exact k
      · exact m _ _ _ k
def D166_place (A I : HA) (Q : Int32 → Prop) : Prop := vp_in ((I 1681 36) + (nI 0)) 88400 ∧ (vp_in ((I 1681 36) + (nI 1)) 88400 ∧ (Q (((nI 100) * (A 1688 ((I 1681 36) + (nI 0)).toNatClampNeg)) + (A 1688 ((I 1681 36) + (nI 1)).toNatClampNeg))))
theorem D166_place_mono {A I : HA} {Q Q' : Int32 → Prop} (k : D166_place A I Q) (m : ∀ v, Q v → Q' v) : D166_place A I Q' := by
  unfold D166_place at k ⊢
  refine ⟨k.1, ?_⟩
  replace k := k.2
  refine ⟨k.1, ?_⟩
  replace k := k.2
  exact m _ k
def D167_ends (x : Int32) (y : Int32) (z : Int32) (A I : HA) (Q : Int32 → HA → HA → Prop) : Prop := vp_in ((I 1681 35) + (nI 514)) 88400 ∧ (vp_in ((I 1681 35) + (nI 515)) 88400 ∧ (vp_in ((I 1681 35) + (nI 516)) 88400 ∧ (Q (nI 1) (sA (sA (sA A 1688 ((I 1681 35) + (nI 514)).toNatClampNeg x) 1688 ((I 1681 35) + (nI 515)).toNatClampNeg y) 1688 ((I 1681 35) + (nI 516)).toNatClampNeg z) I)))
theorem D167_ends_mono {x : Int32} {y : Int32} {z : Int32} {A I : HA} {Q Q' : Int32 → HA → HA → Prop} (k : D167_ends x y z A I Q) (m : ∀ v A I, Q v A I → Q' v A I) : D167_ends x y z A I Q' := by
  unfold D167_ends at k ⊢
  refine ⟨k.1, ?_⟩
  replace k := k.2
  refine ⟨k.1, ?_⟩
  replace k := k.2
  refine ⟨k.1, ?_⟩
  replace k := k.2
  exact m _ _ _ k
def D165_broken (A I : HA) (Q : Int32 → HA → HA → Prop) : Prop := D166_place A I (fun v1 => D167_ends (nI 5) v1 (nI 0) A I (fun v2 A3 I4 => Q v2 A3 I4))
theorem D165_broken_mono {A I : HA} {Q Q' : Int32 → HA → HA → Prop} (k : D165_broken A I Q) (m : ∀ v A I, Q v A I → Q' v A I) : D165_broken A I Q' := by
  unfold D165_broken at k ⊢
  refine D166_place_mono k (fun _ k => ?_)
  refine D167_ends_mono k (fun _ _ _ k => ?_)
  exact m _ _ _ k
def D169_word (x : Int32) (Q : Int32 → Prop) : Prop := Q ((x <<< ((nI 24) &&& 31)) >>> ((nI 24) &&& 31))
theorem D169_word_mono {x : Int32} {Q Q' : Int32 → Prop} (k : D169_word x Q) (m : ∀ v, Q v → Q' v) : D169_word x Q' := by
  unfold D169_word at k ⊢
  exact m _ k
def D168_node (x : Int32) (Q : Int32 → Prop) : Prop := D169_word x (fun v1 => Q (v1 + (nI 128)))
theorem D168_node_mono {x : Int32} {Q Q' : Int32 → Prop} (k : D168_node x Q) (m : ∀ v, Q v → Q' v) : D168_node x Q' := by
  unfold D168_node at k ⊢
  refine D169_word_mono k (fun _ k => ?_)
  exact m _ k
def D171_push (x : Int32) (A I : HA) (Q : HA → HA → Prop) : Prop := vp_in ((I 1681 36) + (nI 2)) 88400 ∧ (vp_in (((I 1681 36) + (nI 9)) + (A 1688 ((I 1681 36) + (nI 2)).toNatClampNeg)) 88400 ∧ (vp_in ((I 1681 36) + (nI 2)) 88400 ∧ (vp_in ((I 1681 36) + (nI 2)) 88400 ∧ (Q (sA (sA A 1688 (((I 1681 36) + (nI 9)) + (A 1688 ((I 1681 36) + (nI 2)).toNatClampNeg)).toNatClampNeg x) 1688 ((I 1681 36) + (nI 2)).toNatClampNeg (((sA A 1688 (((I 1681 36) + (nI 9)) + (A 1688 ((I 1681 36) + (nI 2)).toNatClampNeg)).toNatClampNeg x) 1688 ((I 1681 36) + (nI 2)).toNatClampNeg) + (nI 1))) I))))
theorem D171_push_mono {x : Int32} {A I : HA} {Q Q' : HA → HA → Prop} (k : D171_push x A I Q) (m : ∀ A I, Q A I → Q' A I) : D171_push x A I Q' := by
  unfold D171_push at k ⊢
  refine ⟨k.1, ?_⟩
  replace k := k.2
  refine ⟨k.1, ?_⟩
  replace k := k.2
  refine ⟨k.1, ?_⟩
  replace k := k.2
  refine ⟨k.1, ?_⟩
  replace k := k.2
  exact m _ _ k
def D170_next (x : Int32) (y : Int32) (A I : HA) (Q : Int32 → HA → HA → Prop) : Prop := vp_in ((I 1681 36) + (nI 2)) 88400 ∧ (vp_in ((I 1681 36) + (nI 2)) 88400 ∧ (if y = (-100) then vp_in ((I 1681 36) + (nI 1)) 88400 ∧ (vp_in ((I 1681 36) + (nI 1)) 88400 ∧ (Q (nI 0) (sA (sA A 1688 ((I 1681 36) + (nI 2)).toNatClampNeg ((A 1688 ((I 1681 36) + (nI 2)).toNatClampNeg) - x)) 1688 ((I 1681 36) + (nI 1)).toNatClampNeg (((sA A 1688 ((I 1681 36) + (nI 2)).toNatClampNeg ((A 1688 ((I 1681 36) + (nI 2)).toNatClampNeg) - x)) 1688 ((I 1681 36) + (nI 1)).toNatClampNeg) + (nI 1))) I)) else D171_push y (sA A 1688 ((I 1681 36) + (nI 2)).toNatClampNeg ((A 1688 ((I 1681 36) + (nI 2)).toNatClampNeg) - x)) I (fun A5 I6 => vp_in ((I6 1681 36) + (nI 1)) 88400 ∧ (vp_in ((I6 1681 36) + (nI 1)) 88400 ∧ (Q (nI 0) (sA A5 1688 ((I6 1681 36) + (nI 1)).toNatClampNeg ((A5 1688 ((I6 1681 36) + (nI 1)).toNatClampNeg) + (nI 1))) I6)))))
theorem D170_next_mono {x : Int32} {y : Int32} {A I : HA} {Q Q' : Int32 → HA → HA → Prop} (k : D170_next x y A I Q) (m : ∀ v A I, Q v A I → Q' v A I) : D170_next x y A I Q' := by
  unfold D170_next at k ⊢
  refine ⟨k.1, ?_⟩
  replace k := k.2
  refine ⟨k.1, ?_⟩
  replace k := k.2
  refine itm k (fun k => ?_) (fun k => ?_)
  · refine ⟨k.1, ?_⟩
    replace k := k.2
    refine ⟨k.1, ?_⟩
    replace k := k.2
    exact m _ _ _ k
  · refine D171_push_mono k (fun _ _ k => ?_)
    refine ⟨k.1, ?_⟩
    replace k := k.2
    refine ⟨k.1, ?_⟩
    replace k := k.2
    exact m _ _ _ k
def D172_top (x : Int32) (A I : HA) (Q : Int32 → Prop) : Prop := vp_in ((I 1681 36) + (nI 2)) 88400 ∧ (vp_in (((((I 1681 36) + (nI 9)) + (A 1688 ((I 1681 36) + (nI 2)).toNatClampNeg)) - (nI 1)) - x) 88400 ∧ (Q (A 1688 (((((I 1681 36) + (nI 9)) + (A 1688 ((I 1681 36) + (nI 2)).toNatClampNeg)) - (nI 1)) - x).toNatClampNeg)))
theorem D172_top_mono {x : Int32} {A I : HA} {Q Q' : Int32 → Prop} (k : D172_top x A I Q) (m : ∀ v, Q v → Q' v) : D172_top x A I Q' := by
  unfold D172_top at k ⊢
  refine ⟨k.1, ?_⟩
  replace k := k.2
  refine ⟨k.1, ?_⟩
  replace k := k.2
  exact m _ k
def D164_moves (x : Int32) (y : Int32) (z : Int32) (A I : HA) (Q : Int32 → HA → HA → Prop) : Prop := if x = nI 0 then if z = (nI 12) then D165_broken A I (fun v5 A6 I7 => Q v5 A6 I7) else D168_node y (fun v1 => D170_next (nI 0) v1 A I (fun v2 A3 I4 => Q v2 A3 I4)) else if x = nI 1 then if z = (nI 12) then D165_broken A I (fun v8 A9 I10 => Q v8 A9 I10) else vp_in (((I 1681 36) + (nI 3)) + y) 88400 ∧ (if (A 1688 (((I 1681 36) + (nI 3)) + y).toNatClampNeg) = (-100) then D165_broken A I (fun v16 A17 I18 => Q v16 A17 I18) else vp_in (((I 1681 36) + (nI 3)) + y) 88400 ∧ (D170_next (nI 0) (A 1688 (((I 1681 36) + (nI 3)) + y).toNatClampNeg) A I (fun v13 A14 I15 => Q v13 A14 I15))) else if x = nI 2 then if z < (nI 1) then D165_broken A I (fun v24 A25 I26 => Q v24 A25 I26) else D172_top (nI 0) A I (fun v19 => vp_in (((I 1681 36) + (nI 3)) + y) 88400 ∧ (D170_next (nI 1) (-100) (sA A 1688 (((I 1681 36) + (nI 3)) + y).toNatClampNeg v19) I (fun v21 A22 I23 => Q v21 A22 I23))) else if x = nI 3 then if z < (nI 1) then D165_broken A I (fun v30 A31 I32 => Q v30 A31 I32) else D170_next (nI 1) (-100) A I (fun v27 A28 I29 => Q v27 A28 I29) else if x = nI 4 then if z < (nI 1) then D165_broken A I (fun v33 A34 I35 => Q v33 A34 I35) else if z = (nI 12) then D165_broken A I (fun v40 A41 I42 => Q v40 A41 I42) else D172_top (nI 0) A I (fun v36 => D170_next (nI 0) v36 A I (fun v37 A38 I39 => Q v37 A38 I39)) else if z < (nI 2) then D165_broken A I (fun v50 A51 I52 => Q v50 A51 I52) else D172_top (nI 0) A I (fun v43 => D172_top (nI 1) A I (fun v44 => vp_in ((((I 1681 36) + (nI 9)) + z) - (nI 2)) 88400 ∧ (vp_in ((((I 1681 36) + (nI 9)) + z) - (nI 1)) 88400 ∧ (D170_next (nI 0) (-100) (sA (sA A 1688 ((((I 1681 36) + (nI 9)) + z) - (nI 2)).toNatClampNeg v43) 1688 ((((I 1681 36) + (nI 9)) + z) - (nI 1)).toNatClampNeg v44) I (fun v47 A48 I49 => Q v47 A48 I49)))))
theorem D164_moves_mono {x : Int32} {y : Int32} {z : Int32} {A I : HA} {Q Q' : Int32 → HA → HA → Prop} (k : D164_moves x y z A I Q) (m : ∀ v A I, Q v A I → Q' v A I) : D164_moves x y z A I Q' := by
  unfold D164_moves at k ⊢
  refine itm k (fun k => ?_) (fun k => ?_)
  · refine itm k (fun k => ?_) (fun k => ?_)
    · refine D165_broken_mono k (fun _ _ _ k => ?_)
      exact m _ _ _ k
    · refine D168_node_mono k (fun _ k => ?_)
      refine D170_next_mono k (fun _ _ _ k => ?_)
      exact m _ _ _ k
  · refine itm k (fun k => ?_) (fun k => ?_)
    · refine itm k (fun k => ?_) (fun k => ?_)
      · refine D165_broken_mono k (fun _ _ _ k => ?_)
        exact m _ _ _ k
      · refine ⟨k.1, ?_⟩
        replace k := k.2
        refine itm k (fun k => ?_) (fun k => ?_)
        · refine D165_broken_mono k (fun _ _ _ k => ?_)
          exact m _ _ _ k
        · refine ⟨k.1, ?_⟩
          replace k := k.2
          refine D170_next_mono k (fun _ _ _ k => ?_)
          exact m _ _ _ k
    · refine itm k (fun k => ?_) (fun k => ?_)
      · refine itm k (fun k => ?_) (fun k => ?_)
        · refine D165_broken_mono k (fun _ _ _ k => ?_)
          exact m _ _ _ k
        · refine D172_top_mono k (fun _ k => ?_)
          refine ⟨k.1, ?_⟩
          replace k := k.2
          refine D170_next_mono k (fun _ _ _ k => ?_)
          exact m _ _ _ k
      · refine itm k (fun k => ?_) (fun k => ?_)
        · refine itm k (fun k => ?_) (fun k => ?_)
          · refine D165_broken_mono k (fun _ _ _ k => ?_)
            exact m _ _ _ k
          · refine D170_next_mono k (fun _ _ _ k => ?_)
            exact m _ _ _ k
        · refine itm k (fun k => ?_) (fun k => ?_)
          · refine itm k (fun k => ?_) (fun k => ?_)
            · refine D165_broken_mono k (fun _ _ _ k => ?_)
              exact m _ _ _ k
            · refine itm k (fun k => ?_) (fun k => ?_)
              · refine D165_broken_mono k (fun _ _ _ k => ?_)
                exact m _ _ _ k
              · refine D172_top_mono k (fun _ k => ?_)
                refine D170_next_mono k (fun _ _ _ k => ?_)
                exact m _ _ _ k
          · refine itm k (fun k => ?_) (fun k => ?_)
            · refine D165_broken_mono k (fun _ _ _ k => ?_)
              exact m _ _ _ k
            · refine D172_top_mono k (fun _ k => ?_)
              refine D172_top_mono k (fun _ k => ?_)
              refine ⟨k.1, ?_⟩
              replace k := k.2
              refine ⟨k.1, ?_⟩
              replace k := k.2
              refine D170_next_mono k (fun _ _ _ k => ?_)
              exact m _ _ _ k
def D174_isWord (x : Int32) (A I : HA) (Q : Int32 → Prop) : Prop := D172_top x A I (fun v1 => if v1 < 0 then Q (nI 0) else Q (nI 1))
theorem D174_isWord_mono {x : Int32} {A I : HA} {Q Q' : Int32 → Prop} (k : D174_isWord x A I Q) (m : ∀ v, Q v → Q' v) : D174_isWord x A I Q' := by
  unfold D174_isWord at k ⊢
  refine D172_top_mono k (fun _ k => ?_)
  refine itm k (fun k => ?_) (fun k => ?_)
  · exact m _ k
  · exact m _ k
def D177_isNumber (x : Int32) (Q : Int32 → Prop) : Prop := if x < 0 then Q (nI 0) else if x < (nI 256) then Q (nI 1) else Q (nI 0)
theorem D177_isNumber_mono {x : Int32} {Q Q' : Int32 → Prop} (k : D177_isNumber x Q) (m : ∀ v, Q v → Q' v) : D177_isNumber x Q' := by
  unfold D177_isNumber at k ⊢
  refine itm k (fun k => ?_) (fun k => ?_)
  · exact m _ k
  · refine itm k (fun k => ?_) (fun k => ?_)
    · exact m _ k
    · exact m _ k
def D178_number (x : Int32) (Q : Int32 → Prop) : Prop := Q (x - (nI 128))
theorem D178_number_mono {x : Int32} {Q Q' : Int32 → Prop} (k : D178_number x Q) (m : ∀ v, Q v → Q' v) : D178_number x Q' := by
  unfold D178_number at k ⊢
  exact m _ k
def D179_reckon (x : Int32) (y : Int32) (z : Int32) (Q : Int32 → Prop) : Prop := if x = nI 6 then D169_word (y + z) (fun v1 => Q v1) else if x = nI 7 then D169_word (y - z) (fun v2 => Q v2) else if x = nI 8 then D169_word (y * z) (fun v3 => Q v3) else if x = nI 9 then ¬ z = 0 ∧ (D169_word (y / z) (fun v5 => Q v5)) else if x = nI 10 then ¬ z = 0 ∧ (D169_word (y - y / z * z) (fun v7 => Q v7)) else if x = nI 11 then D169_word (-y) (fun v8 => Q v8) else if x = nI 12 then Q (y &&& z) else if x = nI 13 then Q (y ||| z) else if x = nI 14 then Q (y ^^^ z) else if x = nI 15 then D169_word (y <<< ((z &&& (nI 7)) &&& 31)) (fun v9 => Q v9) else if x = nI 16 then Q (y >>> ((z &&& (nI 7)) &&& 31)) else if y < 0 then D169_word (-y) (fun v11 => Q v11) else D169_word y (fun v10 => Q v10)
theorem D179_reckon_mono {x : Int32} {y : Int32} {z : Int32} {Q Q' : Int32 → Prop} (k : D179_reckon x y z Q) (m : ∀ v, Q v → Q' v) : D179_reckon x y z Q' := by
  unfold D179_reckon at k ⊢
  refine itm k (fun k => ?_) (fun k => ?_)
  · refine D169_word_mono k (fun _ k => ?_)
    exact m _ k
  · refine itm k (fun k => ?_) (fun k => ?_)
    · refine D169_word_mono k (fun _ k => ?_)
      exact m _ k
    · refine itm k (fun k => ?_) (fun k => ?_)
      · refine D169_word_mono k (fun _ k => ?_)
        exact m _ k
      · refine itm k (fun k => ?_) (fun k => ?_)
        · refine ⟨k.1, ?_⟩
          replace k := k.2
          refine D169_word_mono k (fun _ k => ?_)
          exact m _ k
        · refine itm k (fun k => ?_) (fun k => ?_)
          · refine ⟨k.1, ?_⟩
            replace k := k.2
            refine D169_word_mono k (fun _ k => ?_)
            exact m _ k
          · refine itm k (fun k => ?_) (fun k => ?_)
            · refine D169_word_mono k (fun _ k => ?_)
              exact m _ k
            · refine itm k (fun k => ?_) (fun k => ?_)
              · exact m _ k
              · refine itm k (fun k => ?_) (fun k => ?_)
                · exact m _ k
                · refine itm k (fun k => ?_) (fun k => ?_)
                  · exact m _ k
                  · refine itm k (fun k => ?_) (fun k => ?_)
                    · refine D169_word_mono k (fun _ k => ?_)
                      exact m _ k
                    · refine itm k (fun k => ?_) (fun k => ?_)
                      · exact m _ k
                      · refine itm k (fun k => ?_) (fun k => ?_)
                        · refine D169_word_mono k (fun _ k => ?_)
                          exact m _ k
                        · refine D169_word_mono k (fun _ k => ?_)
                          exact m _ k
def D176_formula (x : Int32) (y : Int32) (z : Int32) (A I : HA) (Q : Int32 → HA → HA → Prop) : Prop := D177_isNumber y (fun v1 => if v1 = 0 then vp_in y 45000 ∧ (if z = (-1) then if (nI 60) < (((nI 1) + (A 1694 y.toNatClampNeg)) + (nI 0)) then Q (-1) A I else vp_in (I 1681 15) 45000 ∧ (vp_in (I 1681 15) 45000 ∧ (vp_in (I 1681 15) 45000 ∧ (vp_in (I 1681 15) 45000 ∧ (Q (((sI I 1681 15 ((I 1681 15) + (nI 1))) 1681 15) - (nI 1)) (sA (sA (sA (sA A 1691 (I 1681 15).toNatClampNeg x) 1692 (I 1681 15).toNatClampNeg y) 1693 (I 1681 15).toNatClampNeg z) 1694 (I 1681 15).toNatClampNeg (((nI 1) + (A 1694 y.toNatClampNeg)) + (nI 0))) (sI I 1681 15 ((I 1681 15) + (nI 1))))))) else vp_in z 45000 ∧ (if (nI 60) < (((nI 1) + (A 1694 y.toNatClampNeg)) + (A 1694 z.toNatClampNeg)) then Q (-1) A I else vp_in (I 1681 15) 45000 ∧ (vp_in (I 1681 15) 45000 ∧ (vp_in (I 1681 15) 45000 ∧ (vp_in (I 1681 15) 45000 ∧ (Q (((sI I 1681 15 ((I 1681 15) + (nI 1))) 1681 15) - (nI 1)) (sA (sA (sA (sA A 1691 (I 1681 15).toNatClampNeg x) 1692 (I 1681 15).toNatClampNeg y) 1693 (I 1681 15).toNatClampNeg z) 1694 (I 1681 15).toNatClampNeg (((nI 1) + (A 1694 y.toNatClampNeg)) + (A 1694 z.toNatClampNeg))) (sI I 1681 15 ((I 1681 15) + (nI 1))))))))) else if z = (-1) then D178_number y (fun v12 => if z = (-1) then D179_reckon x v12 (nI 0) (fun v16 => D168_node v16 (fun v17 => Q v17 A I)) else D178_number z (fun v13 => D179_reckon x v12 v13 (fun v14 => D168_node v14 (fun v15 => Q v15 A I)))) else D177_isNumber z (fun v18 => if v18 = 0 then vp_in y 45000 ∧ (if z = (-1) then if (nI 60) < (((nI 1) + (A 1694 y.toNatClampNeg)) + (nI 0)) then Q (-1) A I else vp_in (I 1681 15) 45000 ∧ (vp_in (I 1681 15) 45000 ∧ (vp_in (I 1681 15) 45000 ∧ (vp_in (I 1681 15) 45000 ∧ (Q (((sI I 1681 15 ((I 1681 15) + (nI 1))) 1681 15) - (nI 1)) (sA (sA (sA (sA A 1691 (I 1681 15).toNatClampNeg x) 1692 (I 1681 15).toNatClampNeg y) 1693 (I 1681 15).toNatClampNeg z) 1694 (I 1681 15).toNatClampNeg (((nI 1) + (A 1694 y.toNatClampNeg)) + (nI 0))) (sI I 1681 15 ((I 1681 15) + (nI 1))))))) else vp_in z 45000 ∧ (if (nI 60) < (((nI 1) + (A 1694 y.toNatClampNeg)) + (A 1694 z.toNatClampNeg)) then Q (-1) A I else vp_in (I 1681 15) 45000 ∧ (vp_in (I 1681 15) 45000 ∧ (vp_in (I 1681 15) 45000 ∧ (vp_in (I 1681 15) 45000 ∧ (Q (((sI I 1681 15 ((I 1681 15) + (nI 1))) 1681 15) - (nI 1)) (sA (sA (sA (sA A 1691 (I 1681 15).toNatClampNeg x) 1692 (I 1681 15).toNatClampNeg y) 1693 (I 1681 15).toNatClampNeg z) 1694 (I 1681 15).toNatClampNeg (((nI 1) + (A 1694 y.toNatClampNeg)) + (A 1694 z.toNatClampNeg))) (sI I 1681 15 ((I 1681 15) + (nI 1))))))))) else D178_number y (fun v29 => if z = (-1) then D179_reckon x v29 (nI 0) (fun v33 => D168_node v33 (fun v34 => Q v34 A I)) else D178_number z (fun v30 => D179_reckon x v29 v30 (fun v31 => D168_node v31 (fun v32 => Q v32 A I))))))
theorem D176_formula_mono {x : Int32} {y : Int32} {z : Int32} {A I : HA} {Q Q' : Int32 → HA → HA → Prop} (k : D176_formula x y z A I Q) (m : ∀ v A I, Q v A I → Q' v A I) : D176_formula x y z A I Q' := by
  unfold D176_formula at k ⊢
  refine D177_isNumber_mono k (fun _ k => ?_)
  refine itm k (fun k => ?_) (fun k => ?_)
  · refine ⟨k.1, ?_⟩
    replace k := k.2
    refine itm k (fun k => ?_) (fun k => ?_)
    · refine itm k (fun k => ?_) (fun k => ?_)
      · exact m _ _ _ k
      · refine ⟨k.1, ?_⟩
        replace k := k.2
        refine ⟨k.1, ?_⟩
        replace k := k.2
        refine ⟨k.1, ?_⟩
        replace k := k.2
        refine ⟨k.1, ?_⟩
        replace k := k.2
        exact m _ _ _ k
    · refine ⟨k.1, ?_⟩
      replace k := k.2
      refine itm k (fun k => ?_) (fun k => ?_)
      · exact m _ _ _ k
      · refine ⟨k.1, ?_⟩
        replace k := k.2
        refine ⟨k.1, ?_⟩
        replace k := k.2
        refine ⟨k.1, ?_⟩
        replace k := k.2
        refine ⟨k.1, ?_⟩
        replace k := k.2
        exact m _ _ _ k
  · refine itm k (fun k => ?_) (fun k => ?_)
    · refine D178_number_mono k (fun _ k => ?_)
      refine itm k (fun k => ?_) (fun k => ?_)
      · refine D179_reckon_mono k (fun _ k => ?_)
        refine D168_node_mono k (fun _ k => ?_)
        exact m _ _ _ k
      · refine D178_number_mono k (fun _ k => ?_)
        refine D179_reckon_mono k (fun _ k => ?_)
        refine D168_node_mono k (fun _ k => ?_)
        exact m _ _ _ k
    · refine D177_isNumber_mono k (fun _ k => ?_)
      refine itm k (fun k => ?_) (fun k => ?_)
      · refine ⟨k.1, ?_⟩
        replace k := k.2
        refine itm k (fun k => ?_) (fun k => ?_)
        · refine itm k (fun k => ?_) (fun k => ?_)
          · exact m _ _ _ k
          · refine ⟨k.1, ?_⟩
            replace k := k.2
            refine ⟨k.1, ?_⟩
            replace k := k.2
            refine ⟨k.1, ?_⟩
            replace k := k.2
            refine ⟨k.1, ?_⟩
            replace k := k.2
            exact m _ _ _ k
        · refine ⟨k.1, ?_⟩
          replace k := k.2
          refine itm k (fun k => ?_) (fun k => ?_)
          · exact m _ _ _ k
          · refine ⟨k.1, ?_⟩
            replace k := k.2
            refine ⟨k.1, ?_⟩
            replace k := k.2
            refine ⟨k.1, ?_⟩
            replace k := k.2
            refine ⟨k.1, ?_⟩
            replace k := k.2
            exact m _ _ _ k
      · refine D178_number_mono k (fun _ k => ?_)
        refine itm k (fun k => ?_) (fun k => ?_)
        · refine D179_reckon_mono k (fun _ k => ?_)
          refine D168_node_mono k (fun _ k => ?_)
          exact m _ _ _ k
        · refine D178_number_mono k (fun _ k => ?_)
          refine D179_reckon_mono k (fun _ k => ?_)
          refine D168_node_mono k (fun _ k => ?_)
          exact m _ _ _ k
def D175_reckons (x : Int32) (y : Int32) (z : Int32) (u1 : Int32) (A I : HA) (Q : Int32 → HA → HA → Prop) : Prop := D176_formula x y z A I (fun v1 A2 I3 => if v1 = (-1) then D166_place A2 I3 (fun v7 => D167_ends (nI 7) v7 (nI 0) A2 I3 (fun v8 A9 I10 => Q v8 A9 I10)) else D170_next u1 v1 A2 I3 (fun v4 A5 I6 => Q v4 A5 I6))
theorem D175_reckons_mono {x : Int32} {y : Int32} {z : Int32} {u1 : Int32} {A I : HA} {Q Q' : Int32 → HA → HA → Prop} (k : D175_reckons x y z u1 A I Q) (m : ∀ v A I, Q v A I → Q' v A I) : D175_reckons x y z u1 A I Q' := by
  unfold D175_reckons at k ⊢
  refine D176_formula_mono k (fun _ _ _ k => ?_)
  refine itm k (fun k => ?_) (fun k => ?_)
  · refine D166_place_mono k (fun _ k => ?_)
    refine D167_ends_mono k (fun _ _ _ k => ?_)
    exact m _ _ _ k
  · refine D170_next_mono k (fun _ _ _ k => ?_)
    exact m _ _ _ k
def D180_splits (x : Int32) (y : Int32) (z : Int32) (A I : HA) (Q : Int32 → HA → HA → Prop) : Prop := Q (nI 2) A (sI (sI (sI I 1681 37 x) 1681 38 y) 1681 39 z)
theorem D180_splits_mono {x : Int32} {y : Int32} {z : Int32} {A I : HA} {Q Q' : Int32 → HA → HA → Prop} (k : D180_splits x y z A I Q) (m : ∀ v A I, Q v A I → Q' v A I) : D180_splits x y z A I Q' := by
  unfold D180_splits at k ⊢
  exact m _ _ _ k
def D181_throwing (x : Int32) (A I : HA) (Q : Int32 → HA → HA → Prop) : Prop := D166_place A I (fun v1 => (∀ P2 : HA → HA → Prop, (∀  (A7 I8 : HA), (vp_in ((I8 1681 35) + (nI 0)) 88400 ∧ (if 0 < (A7 1688 ((I8 1681 35) + (nI 0)).toNatClampNeg) then D158_frame A7 I8 (fun A14 I15 => vp_in ((I15 1681 36) + (nI 0)) 88400 ∧ ((∀ P17 : Int32 → HA → HA → Prop, (∀ (a18 : Int32) (A21 I22 : HA), (vp_in (A14 1688 ((I15 1681 36) + (nI 0)).toNatClampNeg) 6 ∧ (if a18 < (A21 1686 (A14 1688 ((I15 1681 36) + (nI 0)).toNatClampNeg).toNatClampNeg) then vp_in ((I22 1681 36) + (nI 1)) 88400 ∧ (vp_in (((nI 16) * (A14 1688 ((I15 1681 36) + (nI 0)).toNatClampNeg)) + ((nI 4) * a18)) 96 ∧ (if (A21 1688 ((I22 1681 36) + (nI 1)).toNatClampNeg) < (A21 1687 (((nI 16) * (A14 1688 ((I15 1681 36) + (nI 0)).toNatClampNeg)) + ((nI 4) * a18)).toNatClampNeg) then P17 (a18 + nI 1) A21 I22 else vp_in ((I22 1681 36) + (nI 1)) 88400 ∧ (vp_in ((((nI 16) * (A14 1688 ((I15 1681 36) + (nI 0)).toNatClampNeg)) + ((nI 4) * a18)) + (nI 1)) 96 ∧ (if (A21 1688 ((I22 1681 36) + (nI 1)).toNatClampNeg) < (A21 1687 ((((nI 16) * (A14 1688 ((I15 1681 36) + (nI 0)).toNatClampNeg)) + ((nI 4) * a18)) + (nI 1)).toNatClampNeg) then vp_in ((((nI 16) * (A14 1688 ((I15 1681 36) + (nI 0)).toNatClampNeg)) + ((nI 4) * a18)) + (nI 3)) 96 ∧ (if (A21 1687 ((((nI 16) * (A14 1688 ((I15 1681 36) + (nI 0)).toNatClampNeg)) + ((nI 4) * a18)) + (nI 3)).toNatClampNeg) = 0 then vp_in ((I22 1681 36) + (nI 2)) 88400 ∧ (D168_node x (fun v33 => D171_push v33 (sA A21 1688 ((I22 1681 36) + (nI 2)).toNatClampNeg (nI 0)) I22 (fun A34 I35 => vp_in ((((nI 16) * (A14 1688 ((I15 1681 36) + (nI 0)).toNatClampNeg)) + ((nI 4) * a18)) + (nI 2)) 96 ∧ (vp_in ((I35 1681 36) + (nI 1)) 88400 ∧ (Q (nI 0) (sA A34 1688 ((I35 1681 36) + (nI 1)).toNatClampNeg (A34 1687 ((((nI 16) * (A14 1688 ((I15 1681 36) + (nI 0)).toNatClampNeg)) + ((nI 4) * a18)) + (nI 2)).toNatClampNeg)) I35))))) else vp_in ((((nI 16) * (A14 1688 ((I15 1681 36) + (nI 0)).toNatClampNeg)) + ((nI 4) * a18)) + (nI 3)) 96 ∧ (if (A21 1687 ((((nI 16) * (A14 1688 ((I15 1681 36) + (nI 0)).toNatClampNeg)) + ((nI 4) * a18)) + (nI 3)).toNatClampNeg) = x then vp_in ((I22 1681 36) + (nI 2)) 88400 ∧ (D168_node x (fun v40 => D171_push v40 (sA A21 1688 ((I22 1681 36) + (nI 2)).toNatClampNeg (nI 0)) I22 (fun A41 I42 => vp_in ((((nI 16) * (A14 1688 ((I15 1681 36) + (nI 0)).toNatClampNeg)) + ((nI 4) * a18)) + (nI 2)) 96 ∧ (vp_in ((I42 1681 36) + (nI 1)) 88400 ∧ (Q (nI 0) (sA A41 1688 ((I42 1681 36) + (nI 1)).toNatClampNeg (A41 1687 ((((nI 16) * (A14 1688 ((I15 1681 36) + (nI 0)).toNatClampNeg)) + ((nI 4) * a18)) + (nI 2)).toNatClampNeg)) I42))))) else P17 (a18 + nI 1) A21 I22)) else P17 (a18 + nI 1) A21 I22)))) else vp_in ((I22 1681 35) + (nI 0)) 88400 ∧ (vp_in ((I22 1681 35) + (nI 0)) 88400 ∧ (P2  (sA A21 1688 ((I22 1681 35) + (nI 0)).toNatClampNeg ((A21 1688 ((I22 1681 35) + (nI 0)).toNatClampNeg) - (nI 1))) I22)))) → P17 a18 A21 I22) → P17 (nI 0) A14 I15))) else D167_ends (nI 3) v1 x A7 I8 (fun v11 A12 I13 => Q v11 A12 I13))) → P2 A7 I8) → P2  A I))
theorem D181_throwing_mono {x : Int32} {A I : HA} {Q Q' : Int32 → HA → HA → Prop} (k : D181_throwing x A I Q) (m : ∀ v A I, Q v A I → Q' v A I) : D181_throwing x A I Q' := by
  unfold D181_throwing at k ⊢
  refine D166_place_mono k (fun _ k => ?_)
  intro P hP
  refine k P (fun a0 a1 k => hP a0 a1 ?_)
  refine ⟨k.1, ?_⟩
  replace k := k.2
  refine itm k (fun k => ?_) (fun k => ?_)
  · refine D158_frame_mono k (fun _ _ k => ?_)
    refine ⟨k.1, ?_⟩
    replace k := k.2
    intro P hP
    refine k P (fun a0 a1 a2 k => hP a0 a1 a2 ?_)
    refine ⟨k.1, ?_⟩
    replace k := k.2
    refine itm k (fun k => ?_) (fun k => ?_)
    · refine ⟨k.1, ?_⟩
      replace k := k.2
      refine ⟨k.1, ?_⟩
      replace k := k.2
      refine itm k (fun k => ?_) (fun k => ?_)
      · exact k
      · refine ⟨k.1, ?_⟩
        replace k := k.2
        refine ⟨k.1, ?_⟩
        replace k := k.2
        refine itm k (fun k => ?_) (fun k => ?_)
        · refine ⟨k.1, ?_⟩
          replace k := k.2
          refine itm k (fun k => ?_) (fun k => ?_)
          · refine ⟨k.1, ?_⟩
            replace k := k.2
            refine D168_node_mono k (fun _ k => ?_)
            refine D171_push_mono k (fun _ _ k => ?_)
            refine ⟨k.1, ?_⟩
            replace k := k.2
            refine ⟨k.1, ?_⟩
            replace k := k.2
            exact m _ _ _ k
          · refine ⟨k.1, ?_⟩
            replace k := k.2
            refine itm k (fun k => ?_) (fun k => ?_)
            · refine ⟨k.1, ?_⟩
              replace k := k.2
              refine D168_node_mono k (fun _ k => ?_)
              refine D171_push_mono k (fun _ _ k => ?_)
              refine ⟨k.1, ?_⟩
              replace k := k.2
              refine ⟨k.1, ?_⟩
              replace k := k.2
              exact m _ _ _ k
            · exact k
        · exact k
    · refine ⟨k.1, ?_⟩
      replace k := k.2
      refine ⟨k.1, ?_⟩
      replace k := k.2
      exact k
  · refine D167_ends_mono k (fun _ _ _ k => ?_)
    exact m _ _ _ k
def D173_words (x : Int32) (y : Int32) (z : Int32) (A I : HA) (Q : Int32 → HA → HA → Prop) : Prop := if x = (nI 11) then if y < (nI 1) then D165_broken A I (fun v89 A90 I91 => Q v89 A90 I91) else D174_isWord (nI 0) A I (fun v92 => if v92 = 0 then D165_broken A I (fun v97 A98 I99 => Q v97 A98 I99) else D172_top (nI 0) A I (fun v93 => D175_reckons x v93 (-1) (nI 1) A I (fun v94 A95 I96 => Q v94 A95 I96))) else if y < (nI 2) then D165_broken A I (fun v1 A2 I3 => Q v1 A2 I3) else D174_isWord (nI 0) A I (fun v4 => if v4 = 0 then D165_broken A I (fun v5 A6 I7 => Q v5 A6 I7) else D174_isWord (nI 1) A I (fun v8 => if v8 = 0 then D165_broken A I (fun v86 A87 I88 => Q v86 A87 I88) else D172_top (nI 0) A I (fun v9 => if x = (nI 9) then D177_isNumber v9 (fun v10 => if v10 = 0 then if z = (-1) then D180_splits (nI 2) v9 (-1) A I (fun v43 A44 I45 => Q v43 A44 I45) else D177_isNumber v9 (fun v27 => if v27 = 0 then if z = (nI 1) then D181_throwing (nI 1) A I (fun v32 A33 I34 => Q v32 A33 I34) else D172_top (nI 1) A I (fun v28 => D175_reckons x v28 v9 (nI 2) A I (fun v29 A30 I31 => Q v29 A30 I31)) else D178_number v9 (fun v35 => if v35 = 0 then D181_throwing (nI 1) A I (fun v40 A41 I42 => Q v40 A41 I42) else D172_top (nI 1) A I (fun v36 => D175_reckons x v36 v9 (nI 2) A I (fun v37 A38 I39 => Q v37 A38 I39)))) else D177_isNumber v9 (fun v11 => if v11 = 0 then if z = (nI 1) then D181_throwing (nI 1) A I (fun v16 A17 I18 => Q v16 A17 I18) else D172_top (nI 1) A I (fun v12 => D175_reckons x v12 v9 (nI 2) A I (fun v13 A14 I15 => Q v13 A14 I15)) else D178_number v9 (fun v19 => if v19 = 0 then D181_throwing (nI 1) A I (fun v24 A25 I26 => Q v24 A25 I26) else D172_top (nI 1) A I (fun v20 => D175_reckons x v20 v9 (nI 2) A I (fun v21 A22 I23 => Q v21 A22 I23))))) else if x = (nI 10) then D177_isNumber v9 (fun v50 => if v50 = 0 then if z = (-1) then D180_splits (nI 2) v9 (-1) A I (fun v83 A84 I85 => Q v83 A84 I85) else D177_isNumber v9 (fun v67 => if v67 = 0 then if z = (nI 1) then D181_throwing (nI 1) A I (fun v72 A73 I74 => Q v72 A73 I74) else D172_top (nI 1) A I (fun v68 => D175_reckons x v68 v9 (nI 2) A I (fun v69 A70 I71 => Q v69 A70 I71)) else D178_number v9 (fun v75 => if v75 = 0 then D181_throwing (nI 1) A I (fun v80 A81 I82 => Q v80 A81 I82) else D172_top (nI 1) A I (fun v76 => D175_reckons x v76 v9 (nI 2) A I (fun v77 A78 I79 => Q v77 A78 I79)))) else D177_isNumber v9 (fun v51 => if v51 = 0 then if z = (nI 1) then D181_throwing (nI 1) A I (fun v56 A57 I58 => Q v56 A57 I58) else D172_top (nI 1) A I (fun v52 => D175_reckons x v52 v9 (nI 2) A I (fun v53 A54 I55 => Q v53 A54 I55)) else D178_number v9 (fun v59 => if v59 = 0 then D181_throwing (nI 1) A I (fun v64 A65 I66 => Q v64 A65 I66) else D172_top (nI 1) A I (fun v60 => D175_reckons x v60 v9 (nI 2) A I (fun v61 A62 I63 => Q v61 A62 I63))))) else D172_top (nI 1) A I (fun v46 => D175_reckons x v46 v9 (nI 2) A I (fun v47 A48 I49 => Q v47 A48 I49)))))
theorem D173_words_mono {x : Int32} {y : Int32} {z : Int32} {A I : HA} {Q Q' : Int32 → HA → HA → Prop} (k : D173_words x y z A I Q) (m : ∀ v A I, Q v A I → Q' v A I) : D173_words x y z A I Q' := by
  unfold D173_words at k ⊢
  refine itm k (fun k => ?_) (fun k => ?_)
  · refine itm k (fun k => ?_) (fun k => ?_)
    · refine D165_broken_mono k (fun _ _ _ k => ?_)
      exact m _ _ _ k
    · refine D174_isWord_mono k (fun _ k => ?_)
      refine itm k (fun k => ?_) (fun k => ?_)
      · refine D165_broken_mono k (fun _ _ _ k => ?_)
        exact m _ _ _ k
      · refine D172_top_mono k (fun _ k => ?_)
        refine D175_reckons_mono k (fun _ _ _ k => ?_)
        exact m _ _ _ k
  · refine itm k (fun k => ?_) (fun k => ?_)
    · refine D165_broken_mono k (fun _ _ _ k => ?_)
      exact m _ _ _ k
    · refine D174_isWord_mono k (fun _ k => ?_)
      refine itm k (fun k => ?_) (fun k => ?_)
      · refine D165_broken_mono k (fun _ _ _ k => ?_)
        exact m _ _ _ k
      · refine D174_isWord_mono k (fun _ k => ?_)
        refine itm k (fun k => ?_) (fun k => ?_)
        · refine D165_broken_mono k (fun _ _ _ k => ?_)
          exact m _ _ _ k
        · refine D172_top_mono k (fun _ k => ?_)
          refine itm k (fun k => ?_) (fun k => ?_)
          · refine D177_isNumber_mono k (fun _ k => ?_)
            refine itm k (fun k => ?_) (fun k => ?_)
            · refine itm k (fun k => ?_) (fun k => ?_)
              · refine D180_splits_mono k (fun _ _ _ k => ?_)
                exact m _ _ _ k
              · refine D177_isNumber_mono k (fun _ k => ?_)
                refine itm k (fun k => ?_) (fun k => ?_)
                · refine itm k (fun k => ?_) (fun k => ?_)
                  · refine D181_throwing_mono k (fun _ _ _ k => ?_)
                    exact m _ _ _ k
                  · refine D172_top_mono k (fun _ k => ?_)
                    refine D175_reckons_mono k (fun _ _ _ k => ?_)
                    exact m _ _ _ k
                · refine D178_number_mono k (fun _ k => ?_)
                  refine itm k (fun k => ?_) (fun k => ?_)
                  · refine D181_throwing_mono k (fun _ _ _ k => ?_)
                    exact m _ _ _ k
                  · refine D172_top_mono k (fun _ k => ?_)
                    refine D175_reckons_mono k (fun _ _ _ k => ?_)
                    exact m _ _ _ k
            · refine D177_isNumber_mono k (fun _ k => ?_)
              refine itm k (fun k => ?_) (fun k => ?_)
              · refine itm k (fun k => ?_) (fun k => ?_)
                · refine D181_throwing_mono k (fun _ _ _ k => ?_)
                  exact m _ _ _ k
                · refine D172_top_mono k (fun _ k => ?_)
                  refine D175_reckons_mono k (fun _ _ _ k => ?_)
                  exact m _ _ _ k
              · refine D178_number_mono k (fun _ k => ?_)
                refine itm k (fun k => ?_) (fun k => ?_)
                · refine D181_throwing_mono k (fun _ _ _ k => ?_)
                  exact m _ _ _ k
                · refine D172_top_mono k (fun _ k => ?_)
                  refine D175_reckons_mono k (fun _ _ _ k => ?_)
                  exact m _ _ _ k
          · refine itm k (fun k => ?_) (fun k => ?_)
            · refine D177_isNumber_mono k (fun _ k => ?_)
              refine itm k (fun k => ?_) (fun k => ?_)
              · refine itm k (fun k => ?_) (fun k => ?_)
                · refine D180_splits_mono k (fun _ _ _ k => ?_)
                  exact m _ _ _ k
                · refine D177_isNumber_mono k (fun _ k => ?_)
                  refine itm k (fun k => ?_) (fun k => ?_)
                  · refine itm k (fun k => ?_) (fun k => ?_)
                    · refine D181_throwing_mono k (fun _ _ _ k => ?_)
                      exact m _ _ _ k
                    · refine D172_top_mono k (fun _ k => ?_)
                      refine D175_reckons_mono k (fun _ _ _ k => ?_)
                      exact m _ _ _ k
                  · refine D178_number_mono k (fun _ k => ?_)
                    refine itm k (fun k => ?_) (fun k => ?_)
                    · refine D181_throwing_mono k (fun _ _ _ k => ?_)
                      exact m _ _ _ k
                    · refine D172_top_mono k (fun _ k => ?_)
                      refine D175_reckons_mono k (fun _ _ _ k => ?_)
                      exact m _ _ _ k
              · refine D177_isNumber_mono k (fun _ k => ?_)
                refine itm k (fun k => ?_) (fun k => ?_)
                · refine itm k (fun k => ?_) (fun k => ?_)
                  · refine D181_throwing_mono k (fun _ _ _ k => ?_)
                    exact m _ _ _ k
                  · refine D172_top_mono k (fun _ k => ?_)
                    refine D175_reckons_mono k (fun _ _ _ k => ?_)
                    exact m _ _ _ k
                · refine D178_number_mono k (fun _ k => ?_)
                  refine itm k (fun k => ?_) (fun k => ?_)
                  · refine D181_throwing_mono k (fun _ _ _ k => ?_)
                    exact m _ _ _ k
                  · refine D172_top_mono k (fun _ k => ?_)
                    refine D175_reckons_mono k (fun _ _ _ k => ?_)
                    exact m _ _ _ k
            · refine D172_top_mono k (fun _ k => ?_)
              refine D175_reckons_mono k (fun _ _ _ k => ?_)
              exact m _ _ _ k
def D183_isReference (x : Int32) (A I : HA) (Q : Int32 → Prop) : Prop := D172_top x A I (fun v1 => if v1 < 0 then Q (nI 1) else Q (nI 0))
theorem D183_isReference_mono {x : Int32} {A I : HA} {Q Q' : Int32 → Prop} (k : D183_isReference x A I Q) (m : ∀ v, Q v → Q' v) : D183_isReference x A I Q' := by
  unfold D183_isReference at k ⊢
  refine D172_top_mono k (fun _ k => ?_)
  refine itm k (fun k => ?_) (fun k => ?_)
  · exact m _ k
  · exact m _ k
def D182_jumps (x : Int32) (y : Int32) (z : Int32) (u1 : Int32) (A I : HA) (Q : Int32 → HA → HA → Prop) : Prop := if x = (nI 17) then vp_in ((I 1681 36) + (nI 1)) 88400 ∧ (Q (nI 0) (sA A 1688 ((I 1681 36) + (nI 1)).toNatClampNeg y) I) else if x = (nI 20) then if z < (nI 1) then D165_broken A I (fun v52 A53 I54 => Q v52 A53 I54) else D183_isReference (nI 0) A I (fun v55 => if v55 = 0 then D165_broken A I (fun v64 A65 I66 => Q v64 A65 I66) else D172_top (nI 0) A I (fun v56 => if v56 = (-1) then vp_in ((I 1681 36) + (nI 2)) 88400 ∧ (vp_in ((I 1681 36) + (nI 2)) 88400 ∧ (vp_in ((I 1681 36) + (nI 1)) 88400 ∧ (Q (nI 0) (sA (sA A 1688 ((I 1681 36) + (nI 2)).toNatClampNeg ((A 1688 ((I 1681 36) + (nI 2)).toNatClampNeg) - (nI 1))) 1688 ((I 1681 36) + (nI 1)).toNatClampNeg y) I))) else vp_in ((I 1681 36) + (nI 2)) 88400 ∧ (vp_in ((I 1681 36) + (nI 2)) 88400 ∧ (vp_in ((I 1681 36) + (nI 1)) 88400 ∧ (vp_in ((I 1681 36) + (nI 1)) 88400 ∧ (Q (nI 0) (sA (sA A 1688 ((I 1681 36) + (nI 2)).toNatClampNeg ((A 1688 ((I 1681 36) + (nI 2)).toNatClampNeg) - (nI 1))) 1688 ((I 1681 36) + (nI 1)).toNatClampNeg (((sA A 1688 ((I 1681 36) + (nI 2)).toNatClampNeg ((A 1688 ((I 1681 36) + (nI 2)).toNatClampNeg) - (nI 1))) 1688 ((I 1681 36) + (nI 1)).toNatClampNeg) + (nI 1))) I)))))) else if z < (nI 2) then D165_broken A I (fun v1 A2 I3 => Q v1 A2 I3) else D174_isWord (nI 0) A I (fun v4 => if v4 = 0 then D165_broken A I (fun v5 A6 I7 => Q v5 A6 I7) else D174_isWord (nI 1) A I (fun v8 => if v8 = 0 then D165_broken A I (fun v49 A50 I51 => Q v49 A50 I51) else D172_top (nI 1) A I (fun v9 => D172_top (nI 0) A I (fun v10 => D177_isNumber v9 (fun v11 => if v11 = 0 then if u1 = (-1) then D180_splits (nI 2) v9 v10 A I (fun v19 A20 I21 => Q v19 A20 I21) else if u1 = 0 then vp_in ((I 1681 36) + (nI 2)) 88400 ∧ (vp_in ((I 1681 36) + (nI 2)) 88400 ∧ (vp_in ((I 1681 36) + (nI 1)) 88400 ∧ (Q (nI 0) (sA (sA A 1688 ((I 1681 36) + (nI 2)).toNatClampNeg ((A 1688 ((I 1681 36) + (nI 2)).toNatClampNeg) - (nI 2))) 1688 ((I 1681 36) + (nI 1)).toNatClampNeg y) I))) else vp_in ((I 1681 36) + (nI 2)) 88400 ∧ (vp_in ((I 1681 36) + (nI 2)) 88400 ∧ (vp_in ((I 1681 36) + (nI 1)) 88400 ∧ (vp_in ((I 1681 36) + (nI 1)) 88400 ∧ (Q (nI 0) (sA (sA A 1688 ((I 1681 36) + (nI 2)).toNatClampNeg ((A 1688 ((I 1681 36) + (nI 2)).toNatClampNeg) - (nI 2))) 1688 ((I 1681 36) + (nI 1)).toNatClampNeg (((sA A 1688 ((I 1681 36) + (nI 2)).toNatClampNeg ((A 1688 ((I 1681 36) + (nI 2)).toNatClampNeg) - (nI 2))) 1688 ((I 1681 36) + (nI 1)).toNatClampNeg) + (nI 1))) I)))) else D177_isNumber v10 (fun v22 => if v22 = 0 then if u1 = (-1) then D180_splits (nI 2) v9 v10 A I (fun v30 A31 I32 => Q v30 A31 I32) else if u1 = 0 then vp_in ((I 1681 36) + (nI 2)) 88400 ∧ (vp_in ((I 1681 36) + (nI 2)) 88400 ∧ (vp_in ((I 1681 36) + (nI 1)) 88400 ∧ (Q (nI 0) (sA (sA A 1688 ((I 1681 36) + (nI 2)).toNatClampNeg ((A 1688 ((I 1681 36) + (nI 2)).toNatClampNeg) - (nI 2))) 1688 ((I 1681 36) + (nI 1)).toNatClampNeg y) I))) else vp_in ((I 1681 36) + (nI 2)) 88400 ∧ (vp_in ((I 1681 36) + (nI 2)) 88400 ∧ (vp_in ((I 1681 36) + (nI 1)) 88400 ∧ (vp_in ((I 1681 36) + (nI 1)) 88400 ∧ (Q (nI 0) (sA (sA A 1688 ((I 1681 36) + (nI 2)).toNatClampNeg ((A 1688 ((I 1681 36) + (nI 2)).toNatClampNeg) - (nI 2))) 1688 ((I 1681 36) + (nI 1)).toNatClampNeg (((sA A 1688 ((I 1681 36) + (nI 2)).toNatClampNeg ((A 1688 ((I 1681 36) + (nI 2)).toNatClampNeg) - (nI 2))) 1688 ((I 1681 36) + (nI 1)).toNatClampNeg) + (nI 1))) I)))) else if x = (nI 18) then D178_number v9 (fun v40 => D178_number v10 (fun v41 => if v40 < v41 then vp_in ((I 1681 36) + (nI 2)) 88400 ∧ (vp_in ((I 1681 36) + (nI 2)) 88400 ∧ (vp_in ((I 1681 36) + (nI 1)) 88400 ∧ (Q (nI 0) (sA (sA A 1688 ((I 1681 36) + (nI 2)).toNatClampNeg ((A 1688 ((I 1681 36) + (nI 2)).toNatClampNeg) - (nI 2))) 1688 ((I 1681 36) + (nI 1)).toNatClampNeg y) I))) else vp_in ((I 1681 36) + (nI 2)) 88400 ∧ (vp_in ((I 1681 36) + (nI 2)) 88400 ∧ (vp_in ((I 1681 36) + (nI 1)) 88400 ∧ (vp_in ((I 1681 36) + (nI 1)) 88400 ∧ (Q (nI 0) (sA (sA A 1688 ((I 1681 36) + (nI 2)).toNatClampNeg ((A 1688 ((I 1681 36) + (nI 2)).toNatClampNeg) - (nI 2))) 1688 ((I 1681 36) + (nI 1)).toNatClampNeg (((sA A 1688 ((I 1681 36) + (nI 2)).toNatClampNeg ((A 1688 ((I 1681 36) + (nI 2)).toNatClampNeg) - (nI 2))) 1688 ((I 1681 36) + (nI 1)).toNatClampNeg) + (nI 1))) I)))))) else if v9 = v10 then vp_in ((I 1681 36) + (nI 2)) 88400 ∧ (vp_in ((I 1681 36) + (nI 2)) 88400 ∧ (vp_in ((I 1681 36) + (nI 1)) 88400 ∧ (Q (nI 0) (sA (sA A 1688 ((I 1681 36) + (nI 2)).toNatClampNeg ((A 1688 ((I 1681 36) + (nI 2)).toNatClampNeg) - (nI 2))) 1688 ((I 1681 36) + (nI 1)).toNatClampNeg y) I))) else vp_in ((I 1681 36) + (nI 2)) 88400 ∧ (vp_in ((I 1681 36) + (nI 2)) 88400 ∧ (vp_in ((I 1681 36) + (nI 1)) 88400 ∧ (vp_in ((I 1681 36) + (nI 1)) 88400 ∧ (Q (nI 0) (sA (sA A 1688 ((I 1681 36) + (nI 2)).toNatClampNeg ((A 1688 ((I 1681 36) + (nI 2)).toNatClampNeg) - (nI 2))) 1688 ((I 1681 36) + (nI 1)).toNatClampNeg (((sA A 1688 ((I 1681 36) + (nI 2)).toNatClampNeg ((A 1688 ((I 1681 36) + (nI 2)).toNatClampNeg) - (nI 2))) 1688 ((I 1681 36) + (nI 1)).toNatClampNeg) + (nI 1))) I))))))))))
theorem D182_jumps_mono {x : Int32} {y : Int32} {z : Int32} {u1 : Int32} {A I : HA} {Q Q' : Int32 → HA → HA → Prop} (k : D182_jumps x y z u1 A I Q) (m : ∀ v A I, Q v A I → Q' v A I) : D182_jumps x y z u1 A I Q' := by
  unfold D182_jumps at k ⊢
  refine itm k (fun k => ?_) (fun k => ?_)
  · refine ⟨k.1, ?_⟩
    replace k := k.2
    exact m _ _ _ k
  · refine itm k (fun k => ?_) (fun k => ?_)
    · refine itm k (fun k => ?_) (fun k => ?_)
      · refine D165_broken_mono k (fun _ _ _ k => ?_)
        exact m _ _ _ k
      · refine D183_isReference_mono k (fun _ k => ?_)
        refine itm k (fun k => ?_) (fun k => ?_)
        · refine D165_broken_mono k (fun _ _ _ k => ?_)
          exact m _ _ _ k
        · refine D172_top_mono k (fun _ k => ?_)
          refine itm k (fun k => ?_) (fun k => ?_)
          · refine ⟨k.1, ?_⟩
            replace k := k.2
            refine ⟨k.1, ?_⟩
            replace k := k.2
            refine ⟨k.1, ?_⟩
            replace k := k.2
            exact m _ _ _ k
          · refine ⟨k.1, ?_⟩
            replace k := k.2
            refine ⟨k.1, ?_⟩
            replace k := k.2
            refine ⟨k.1, ?_⟩
            replace k := k.2
            refine ⟨k.1, ?_⟩
            replace k := k.2
            exact m _ _ _ k
    · refine itm k (fun k => ?_) (fun k => ?_)
      · refine D165_broken_mono k (fun _ _ _ k => ?_)
        exact m _ _ _ k
      · refine D174_isWord_mono k (fun _ k => ?_)
        refine itm k (fun k => ?_) (fun k => ?_)
        · refine D165_broken_mono k (fun _ _ _ k => ?_)
          exact m _ _ _ k
        · refine D174_isWord_mono k (fun _ k => ?_)
          refine itm k (fun k => ?_) (fun k => ?_)
          · refine D165_broken_mono k (fun _ _ _ k => ?_)
            exact m _ _ _ k
          · refine D172_top_mono k (fun _ k => ?_)
            refine D172_top_mono k (fun _ k => ?_)
            refine D177_isNumber_mono k (fun _ k => ?_)
            refine itm k (fun k => ?_) (fun k => ?_)
            · refine itm k (fun k => ?_) (fun k => ?_)
              · refine D180_splits_mono k (fun _ _ _ k => ?_)
                exact m _ _ _ k
              · refine itm k (fun k => ?_) (fun k => ?_)
                · refine ⟨k.1, ?_⟩
                  replace k := k.2
                  refine ⟨k.1, ?_⟩
                  replace k := k.2
                  refine ⟨k.1, ?_⟩
                  replace k := k.2
                  exact m _ _ _ k
                · refine ⟨k.1, ?_⟩
                  replace k := k.2
                  refine ⟨k.1, ?_⟩
                  replace k := k.2
                  refine ⟨k.1, ?_⟩
                  replace k := k.2
                  refine ⟨k.1, ?_⟩
                  replace k := k.2
                  exact m _ _ _ k
            · refine D177_isNumber_mono k (fun _ k => ?_)
              refine itm k (fun k => ?_) (fun k => ?_)
              · refine itm k (fun k => ?_) (fun k => ?_)
                · refine D180_splits_mono k (fun _ _ _ k => ?_)
                  exact m _ _ _ k
                · refine itm k (fun k => ?_) (fun k => ?_)
                  · refine ⟨k.1, ?_⟩
                    replace k := k.2
                    refine ⟨k.1, ?_⟩
                    replace k := k.2
                    refine ⟨k.1, ?_⟩
                    replace k := k.2
                    exact m _ _ _ k
                  · refine ⟨k.1, ?_⟩
                    replace k := k.2
                    refine ⟨k.1, ?_⟩
                    replace k := k.2
                    refine ⟨k.1, ?_⟩
                    replace k := k.2
                    refine ⟨k.1, ?_⟩
                    replace k := k.2
                    exact m _ _ _ k
              · refine itm k (fun k => ?_) (fun k => ?_)
                · refine D178_number_mono k (fun _ k => ?_)
                  refine D178_number_mono k (fun _ k => ?_)
                  refine itm k (fun k => ?_) (fun k => ?_)
                  · refine ⟨k.1, ?_⟩
                    replace k := k.2
                    refine ⟨k.1, ?_⟩
                    replace k := k.2
                    refine ⟨k.1, ?_⟩
                    replace k := k.2
                    exact m _ _ _ k
                  · refine ⟨k.1, ?_⟩
                    replace k := k.2
                    refine ⟨k.1, ?_⟩
                    replace k := k.2
                    refine ⟨k.1, ?_⟩
                    replace k := k.2
                    refine ⟨k.1, ?_⟩
                    replace k := k.2
                    exact m _ _ _ k
                · refine itm k (fun k => ?_) (fun k => ?_)
                  · refine ⟨k.1, ?_⟩
                    replace k := k.2
                    refine ⟨k.1, ?_⟩
                    replace k := k.2
                    refine ⟨k.1, ?_⟩
                    replace k := k.2
                    exact m _ _ _ k
                  · refine ⟨k.1, ?_⟩
                    replace k := k.2
                    refine ⟨k.1, ?_⟩
                    replace k := k.2
                    refine ⟨k.1, ?_⟩
                    replace k := k.2
                    refine ⟨k.1, ?_⟩
                    replace k := k.2
                    exact m _ _ _ k
def D185_makes (x : Int32) (y : Int32) (A I : HA) (Q : Int32 → HA → HA → Prop) : Prop := if x < (nI 1) then D165_broken A I (fun v1 A2 I3 => Q v1 A2 I3) else D174_isWord (nI 0) A I (fun v4 => if v4 = 0 then D165_broken A I (fun v136 A137 I138 => Q v136 A137 I138) else D172_top (nI 0) A I (fun v5 => D177_isNumber v5 (fun v6 => if v6 = 0 then if y = (-1) then D180_splits (nI 8) v5 (-1) A I (fun v133 A134 I135 => Q v133 A134 I135) else D177_isNumber v5 (fun v70 => if v70 = 0 then if y = (nI 6) then D181_throwing (nI 3) A I (fun v102 A103 I104 => Q v102 A103 I104) else if y = (nI 7) then vp_in ((I 1681 35) + (nI 5)) 88400 ∧ (D181_throwing (nI 4) A I (fun v99 A100 I101 => Q v99 A100 I101)) else if y < 0 then D181_throwing (nI 3) A I (fun v95 A96 I97 => Q v95 A96 I97) else vp_in ((I 1681 35) + (nI 5)) 88400 ∧ (if (nI 5) < y then D181_throwing (nI 4) A I (fun v72 A73 I74 => Q v72 A73 I74) else if (A 1688 ((I 1681 35) + (nI 5)).toNatClampNeg) = (nI 4) then D181_throwing (nI 4) A I (fun v92 A93 I94 => Q v92 A93 I94) else vp_in ((I 1681 35) + (nI 5)) 88400 ∧ (vp_in ((I 1681 35) + (nI 5)) 88400 ∧ (vp_in (((I 1681 35) + (nI 6)) + (A 1688 ((I 1681 35) + (nI 5)).toNatClampNeg)) 88400 ∧ ((∀ P78 : Int32 → HA → HA → Prop, (∀ (a79 : Int32) (A84 I85 : HA), (if a79 < (nI 5) then D168_node (nI 0) (fun v90 => vp_in ((((I85 1681 35) + (nI 10)) + ((nI 5) * (A 1688 ((I 1681 35) + (nI 5)).toNatClampNeg))) + a79) 88400 ∧ (P78 (a79 + nI 1) (sA A84 1688 ((((I85 1681 35) + (nI 10)) + ((nI 5) * (A 1688 ((I 1681 35) + (nI 5)).toNatClampNeg))) + a79).toNatClampNeg v90) I85)) else D170_next (nI 1) ((-2) - (A 1688 ((I 1681 35) + (nI 5)).toNatClampNeg)) A84 I85 (fun v87 A88 I89 => Q v87 A88 I89)) → P78 a79 A84 I85) → P78 (nI 0) (sA (sA A 1688 ((I 1681 35) + (nI 5)).toNatClampNeg ((A 1688 ((I 1681 35) + (nI 5)).toNatClampNeg) + (nI 1))) 1688 (((I 1681 35) + (nI 6)) + (A 1688 ((I 1681 35) + (nI 5)).toNatClampNeg)).toNatClampNeg y) I))))) else D178_number v5 (fun v105 => if v105 < 0 then D181_throwing (nI 3) A I (fun v130 A131 I132 => Q v130 A131 I132) else vp_in ((I 1681 35) + (nI 5)) 88400 ∧ (if (nI 5) < v105 then D181_throwing (nI 4) A I (fun v107 A108 I109 => Q v107 A108 I109) else if (A 1688 ((I 1681 35) + (nI 5)).toNatClampNeg) = (nI 4) then D181_throwing (nI 4) A I (fun v127 A128 I129 => Q v127 A128 I129) else vp_in ((I 1681 35) + (nI 5)) 88400 ∧ (vp_in ((I 1681 35) + (nI 5)) 88400 ∧ (vp_in (((I 1681 35) + (nI 6)) + (A 1688 ((I 1681 35) + (nI 5)).toNatClampNeg)) 88400 ∧ ((∀ P113 : Int32 → HA → HA → Prop, (∀ (a114 : Int32) (A119 I120 : HA), (if a114 < (nI 5) then D168_node (nI 0) (fun v125 => vp_in ((((I120 1681 35) + (nI 10)) + ((nI 5) * (A 1688 ((I 1681 35) + (nI 5)).toNatClampNeg))) + a114) 88400 ∧ (P113 (a114 + nI 1) (sA A119 1688 ((((I120 1681 35) + (nI 10)) + ((nI 5) * (A 1688 ((I 1681 35) + (nI 5)).toNatClampNeg))) + a114).toNatClampNeg v125) I120)) else D170_next (nI 1) ((-2) - (A 1688 ((I 1681 35) + (nI 5)).toNatClampNeg)) A119 I120 (fun v122 A123 I124 => Q v122 A123 I124)) → P113 a114 A119 I120) → P113 (nI 0) (sA (sA A 1688 ((I 1681 35) + (nI 5)).toNatClampNeg ((A 1688 ((I 1681 35) + (nI 5)).toNatClampNeg) + (nI 1))) 1688 (((I 1681 35) + (nI 6)) + (A 1688 ((I 1681 35) + (nI 5)).toNatClampNeg)).toNatClampNeg v105) I))))))) else D177_isNumber v5 (fun v7 => if v7 = 0 then if y = (nI 6) then D181_throwing (nI 3) A I (fun v39 A40 I41 => Q v39 A40 I41) else if y = (nI 7) then vp_in ((I 1681 35) + (nI 5)) 88400 ∧ (D181_throwing (nI 4) A I (fun v36 A37 I38 => Q v36 A37 I38)) else if y < 0 then D181_throwing (nI 3) A I (fun v32 A33 I34 => Q v32 A33 I34) else vp_in ((I 1681 35) + (nI 5)) 88400 ∧ (if (nI 5) < y then D181_throwing (nI 4) A I (fun v9 A10 I11 => Q v9 A10 I11) else if (A 1688 ((I 1681 35) + (nI 5)).toNatClampNeg) = (nI 4) then D181_throwing (nI 4) A I (fun v29 A30 I31 => Q v29 A30 I31) else vp_in ((I 1681 35) + (nI 5)) 88400 ∧ (vp_in ((I 1681 35) + (nI 5)) 88400 ∧ (vp_in (((I 1681 35) + (nI 6)) + (A 1688 ((I 1681 35) + (nI 5)).toNatClampNeg)) 88400 ∧ ((∀ P15 : Int32 → HA → HA → Prop, (∀ (a16 : Int32) (A21 I22 : HA), (if a16 < (nI 5) then D168_node (nI 0) (fun v27 => vp_in ((((I22 1681 35) + (nI 10)) + ((nI 5) * (A 1688 ((I 1681 35) + (nI 5)).toNatClampNeg))) + a16) 88400 ∧ (P15 (a16 + nI 1) (sA A21 1688 ((((I22 1681 35) + (nI 10)) + ((nI 5) * (A 1688 ((I 1681 35) + (nI 5)).toNatClampNeg))) + a16).toNatClampNeg v27) I22)) else D170_next (nI 1) ((-2) - (A 1688 ((I 1681 35) + (nI 5)).toNatClampNeg)) A21 I22 (fun v24 A25 I26 => Q v24 A25 I26)) → P15 a16 A21 I22) → P15 (nI 0) (sA (sA A 1688 ((I 1681 35) + (nI 5)).toNatClampNeg ((A 1688 ((I 1681 35) + (nI 5)).toNatClampNeg) + (nI 1))) 1688 (((I 1681 35) + (nI 6)) + (A 1688 ((I 1681 35) + (nI 5)).toNatClampNeg)).toNatClampNeg y) I))))) else D178_number v5 (fun v42 => if v42 < 0 then D181_throwing (nI 3) A I (fun v67 A68 I69 => Q v67 A68 I69) else vp_in ((I 1681 35) + (nI 5)) 88400 ∧ (if (nI 5) < v42 then D181_throwing (nI 4) A I (fun v44 A45 I46 => Q v44 A45 I46) else if (A 1688 ((I 1681 35) + (nI 5)).toNatClampNeg) = (nI 4) then D181_throwing (nI 4) A I (fun v64 A65 I66 => Q v64 A65 I66) else vp_in ((I 1681 35) + (nI 5)) 88400 ∧ (vp_in ((I 1681 35) + (nI 5)) 88400 ∧ (vp_in (((I 1681 35) + (nI 6)) + (A 1688 ((I 1681 35) + (nI 5)).toNatClampNeg)) 88400 ∧ ((∀ P50 : Int32 → HA → HA → Prop, (∀ (a51 : Int32) (A56 I57 : HA), (if a51 < (nI 5) then D168_node (nI 0) (fun v62 => vp_in ((((I57 1681 35) + (nI 10)) + ((nI 5) * (A 1688 ((I 1681 35) + (nI 5)).toNatClampNeg))) + a51) 88400 ∧ (P50 (a51 + nI 1) (sA A56 1688 ((((I57 1681 35) + (nI 10)) + ((nI 5) * (A 1688 ((I 1681 35) + (nI 5)).toNatClampNeg))) + a51).toNatClampNeg v62) I57)) else D170_next (nI 1) ((-2) - (A 1688 ((I 1681 35) + (nI 5)).toNatClampNeg)) A56 I57 (fun v59 A60 I61 => Q v59 A60 I61)) → P50 a51 A56 I57) → P50 (nI 0) (sA (sA A 1688 ((I 1681 35) + (nI 5)).toNatClampNeg ((A 1688 ((I 1681 35) + (nI 5)).toNatClampNeg) + (nI 1))) 1688 (((I 1681 35) + (nI 6)) + (A 1688 ((I 1681 35) + (nI 5)).toNatClampNeg)).toNatClampNeg v42) I))))))))))
theorem D185_makes_mono {x : Int32} {y : Int32} {A I : HA} {Q Q' : Int32 → HA → HA → Prop} (k : D185_makes x y A I Q) (m : ∀ v A I, Q v A I → Q' v A I) : D185_makes x y A I Q' := by
  unfold D185_makes at k ⊢
  refine itm k (fun k => ?_) (fun k => ?_)
  · refine D165_broken_mono k (fun _ _ _ k => ?_)
    exact m _ _ _ k
  · refine D174_isWord_mono k (fun _ k => ?_)
    refine itm k (fun k => ?_) (fun k => ?_)
    · refine D165_broken_mono k (fun _ _ _ k => ?_)
      exact m _ _ _ k
    · refine D172_top_mono k (fun _ k => ?_)
      refine D177_isNumber_mono k (fun _ k => ?_)
      refine itm k (fun k => ?_) (fun k => ?_)
      · refine itm k (fun k => ?_) (fun k => ?_)
        · refine D180_splits_mono k (fun _ _ _ k => ?_)
          exact m _ _ _ k
        · refine D177_isNumber_mono k (fun _ k => ?_)
          refine itm k (fun k => ?_) (fun k => ?_)
          · refine itm k (fun k => ?_) (fun k => ?_)
            · refine D181_throwing_mono k (fun _ _ _ k => ?_)
              exact m _ _ _ k
            · refine itm k (fun k => ?_) (fun k => ?_)
              · refine ⟨k.1, ?_⟩
                replace k := k.2
                refine D181_throwing_mono k (fun _ _ _ k => ?_)
                exact m _ _ _ k
              · refine itm k (fun k => ?_) (fun k => ?_)
                · refine D181_throwing_mono k (fun _ _ _ k => ?_)
                  exact m _ _ _ k
                · refine ⟨k.1, ?_⟩
                  replace k := k.2
                  refine itm k (fun k => ?_) (fun k => ?_)
                  · refine D181_throwing_mono k (fun _ _ _ k => ?_)
                    exact m _ _ _ k
                  · refine itm k (fun k => ?_) (fun k => ?_)
                    · refine D181_throwing_mono k (fun _ _ _ k => ?_)
                      exact m _ _ _ k
                    · refine ⟨k.1, ?_⟩
                      replace k := k.2
                      refine ⟨k.1, ?_⟩
                      replace k := k.2
                      refine ⟨k.1, ?_⟩
                      replace k := k.2
                      intro P hP
                      refine k P (fun a0 a1 a2 k => hP a0 a1 a2 ?_)
                      refine itm k (fun k => ?_) (fun k => ?_)
                      · refine D168_node_mono k (fun _ k => ?_)
                        refine ⟨k.1, ?_⟩
                        replace k := k.2
                        exact k
                      · refine D170_next_mono k (fun _ _ _ k => ?_)
                        exact m _ _ _ k
          · refine D178_number_mono k (fun _ k => ?_)
            refine itm k (fun k => ?_) (fun k => ?_)
            · refine D181_throwing_mono k (fun _ _ _ k => ?_)
              exact m _ _ _ k
            · refine ⟨k.1, ?_⟩
              replace k := k.2
              refine itm k (fun k => ?_) (fun k => ?_)
              · refine D181_throwing_mono k (fun _ _ _ k => ?_)
                exact m _ _ _ k
              · refine itm k (fun k => ?_) (fun k => ?_)
                · refine D181_throwing_mono k (fun _ _ _ k => ?_)
                  exact m _ _ _ k
                · refine ⟨k.1, ?_⟩
                  replace k := k.2
                  refine ⟨k.1, ?_⟩
                  replace k := k.2
                  refine ⟨k.1, ?_⟩
                  replace k := k.2
                  intro P hP
                  refine k P (fun a0 a1 a2 k => hP a0 a1 a2 ?_)
                  refine itm k (fun k => ?_) (fun k => ?_)
                  · refine D168_node_mono k (fun _ k => ?_)
                    refine ⟨k.1, ?_⟩
                    replace k := k.2
                    exact k
                  · refine D170_next_mono k (fun _ _ _ k => ?_)
                    exact m _ _ _ k
      · refine D177_isNumber_mono k (fun _ k => ?_)
        refine itm k (fun k => ?_) (fun k => ?_)
        · refine itm k (fun k => ?_) (fun k => ?_)
          · refine D181_throwing_mono k (fun _ _ _ k => ?_)
            exact m _ _ _ k
          · refine itm k (fun k => ?_) (fun k => ?_)
            · refine ⟨k.1, ?_⟩
              replace k := k.2
              refine D181_throwing_mono k (fun _ _ _ k => ?_)
              exact m _ _ _ k
            · refine itm k (fun k => ?_) (fun k => ?_)
              · refine D181_throwing_mono k (fun _ _ _ k => ?_)
                exact m _ _ _ k
              · refine ⟨k.1, ?_⟩
                replace k := k.2
                refine itm k (fun k => ?_) (fun k => ?_)
                · refine D181_throwing_mono k (fun _ _ _ k => ?_)
                  exact m _ _ _ k
                · refine itm k (fun k => ?_) (fun k => ?_)
                  · refine D181_throwing_mono k (fun _ _ _ k => ?_)
                    exact m _ _ _ k
                  · refine ⟨k.1, ?_⟩
                    replace k := k.2
                    refine ⟨k.1, ?_⟩
                    replace k := k.2
                    refine ⟨k.1, ?_⟩
                    replace k := k.2
                    intro P hP
                    refine k P (fun a0 a1 a2 k => hP a0 a1 a2 ?_)
                    refine itm k (fun k => ?_) (fun k => ?_)
                    · refine D168_node_mono k (fun _ k => ?_)
                      refine ⟨k.1, ?_⟩
                      replace k := k.2
                      exact k
                    · refine D170_next_mono k (fun _ _ _ k => ?_)
                      exact m _ _ _ k
        · refine D178_number_mono k (fun _ k => ?_)
          refine itm k (fun k => ?_) (fun k => ?_)
          · refine D181_throwing_mono k (fun _ _ _ k => ?_)
            exact m _ _ _ k
          · refine ⟨k.1, ?_⟩
            replace k := k.2
            refine itm k (fun k => ?_) (fun k => ?_)
            · refine D181_throwing_mono k (fun _ _ _ k => ?_)
              exact m _ _ _ k
            · refine itm k (fun k => ?_) (fun k => ?_)
              · refine D181_throwing_mono k (fun _ _ _ k => ?_)
                exact m _ _ _ k
              · refine ⟨k.1, ?_⟩
                replace k := k.2
                refine ⟨k.1, ?_⟩
                replace k := k.2
                refine ⟨k.1, ?_⟩
                replace k := k.2
                intro P hP
                refine k P (fun a0 a1 a2 k => hP a0 a1 a2 ?_)
                refine itm k (fun k => ?_) (fun k => ?_)
                · refine D168_node_mono k (fun _ k => ?_)
                  refine ⟨k.1, ?_⟩
                  replace k := k.2
                  exact k
                · refine D170_next_mono k (fun _ _ _ k => ?_)
                  exact m _ _ _ k
def D184_arrays (x : Int32) (y : Int32) (z : Int32) (A I : HA) (Q : Int32 → HA → HA → Prop) : Prop := if x = (nI 21) then D185_makes y z A I (fun v194 A195 I196 => Q v194 A195 I196) else if x = (nI 24) then if y < (nI 1) then D165_broken A I (fun v177 A178 I179 => Q v177 A178 I179) else D183_isReference (nI 0) A I (fun v180 => if v180 = 0 then D165_broken A I (fun v191 A192 I193 => Q v191 A192 I193) else D172_top (nI 0) A I (fun v181 => if v181 = (-1) then D181_throwing (nI 5) A I (fun v188 A189 I190 => Q v188 A189 I190) else D172_top (nI 0) A I (fun v182 => vp_in ((((I 1681 35) + (nI 6)) - (nI 2)) - v182) 88400 ∧ (D168_node (A 1688 ((((I 1681 35) + (nI 6)) - (nI 2)) - v182).toNatClampNeg) (fun v184 => D170_next (nI 1) v184 A I (fun v185 A186 I187 => Q v185 A186 I187)))))) else if x = (nI 23) then if y < ((nI 2) + (nI 1)) then D165_broken A I (fun v87 A88 I89 => Q v87 A88 I89) else D183_isReference ((nI 1) + (nI 1)) A I (fun v90 => if v90 = 0 then D165_broken A I (fun v91 A92 I93 => Q v91 A92 I93) else D174_isWord (nI 1) A I (fun v94 => if v94 = 0 then D165_broken A I (fun v95 A96 I97 => Q v95 A96 I97) else D174_isWord (nI 0) A I (fun v98 => if v98 = 0 then D165_broken A I (fun v174 A175 I176 => Q v174 A175 I176) else D172_top ((nI 1) + (nI 1)) A I (fun v99 => if v99 = (-1) then D181_throwing (nI 5) A I (fun v171 A172 I173 => Q v171 A172 I173) else D172_top ((nI 1) + (nI 1)) A I (fun v100 => vp_in (((I 1681 35) + (nI 6)) + ((-2) - v100)) 88400 ∧ (D172_top (nI 1) A I (fun v102 => D177_isNumber v102 (fun v103 => if v103 = 0 then if z = (-1) then D180_splits ((A 1688 (((I 1681 35) + (nI 6)) + ((-2) - v100)).toNatClampNeg) + (nI 1)) v102 (A 1688 (((I 1681 35) + (nI 6)) + ((-2) - v100)).toNatClampNeg) A I (fun v168 A169 I170 => Q v168 A169 I170) else D177_isNumber v102 (fun v136 => if v136 = 0 then if z < 0 then D181_throwing (nI 2) A I (fun v137 A138 I139 => Q v137 A138 I139) else if z < (A 1688 (((I 1681 35) + (nI 6)) + ((-2) - v100)).toNatClampNeg) then if x = (nI 22) then vp_in ((((I 1681 35) + (nI 10)) + ((nI 5) * ((-2) - v100))) + z) 88400 ∧ (D170_next (nI 2) (A 1688 ((((I 1681 35) + (nI 10)) + ((nI 5) * ((-2) - v100))) + z).toNatClampNeg) A I (fun v146 A147 I148 => Q v146 A147 I148)) else D172_top (nI 0) A I (fun v140 => vp_in ((((I 1681 35) + (nI 10)) + ((nI 5) * ((-2) - v100))) + z) 88400 ∧ (D170_next (nI 3) (-100) (sA A 1688 ((((I 1681 35) + (nI 10)) + ((nI 5) * ((-2) - v100))) + z).toNatClampNeg v140) I (fun v142 A143 I144 => Q v142 A143 I144))) else D181_throwing (nI 2) A I (fun v149 A150 I151 => Q v149 A150 I151) else D178_number v102 (fun v152 => if v152 < 0 then D181_throwing (nI 2) A I (fun v153 A154 I155 => Q v153 A154 I155) else if v152 < (A 1688 (((I 1681 35) + (nI 6)) + ((-2) - v100)).toNatClampNeg) then if x = (nI 22) then vp_in ((((I 1681 35) + (nI 10)) + ((nI 5) * ((-2) - v100))) + v152) 88400 ∧ (D170_next (nI 2) (A 1688 ((((I 1681 35) + (nI 10)) + ((nI 5) * ((-2) - v100))) + v152).toNatClampNeg) A I (fun v162 A163 I164 => Q v162 A163 I164)) else D172_top (nI 0) A I (fun v156 => vp_in ((((I 1681 35) + (nI 10)) + ((nI 5) * ((-2) - v100))) + v152) 88400 ∧ (D170_next (nI 3) (-100) (sA A 1688 ((((I 1681 35) + (nI 10)) + ((nI 5) * ((-2) - v100))) + v152).toNatClampNeg v156) I (fun v158 A159 I160 => Q v158 A159 I160))) else D181_throwing (nI 2) A I (fun v165 A166 I167 => Q v165 A166 I167))) else D177_isNumber v102 (fun v104 => if v104 = 0 then if z < 0 then D181_throwing (nI 2) A I (fun v105 A106 I107 => Q v105 A106 I107) else if z < (A 1688 (((I 1681 35) + (nI 6)) + ((-2) - v100)).toNatClampNeg) then if x = (nI 22) then vp_in ((((I 1681 35) + (nI 10)) + ((nI 5) * ((-2) - v100))) + z) 88400 ∧ (D170_next (nI 2) (A 1688 ((((I 1681 35) + (nI 10)) + ((nI 5) * ((-2) - v100))) + z).toNatClampNeg) A I (fun v114 A115 I116 => Q v114 A115 I116)) else D172_top (nI 0) A I (fun v108 => vp_in ((((I 1681 35) + (nI 10)) + ((nI 5) * ((-2) - v100))) + z) 88400 ∧ (D170_next (nI 3) (-100) (sA A 1688 ((((I 1681 35) + (nI 10)) + ((nI 5) * ((-2) - v100))) + z).toNatClampNeg v108) I (fun v110 A111 I112 => Q v110 A111 I112))) else D181_throwing (nI 2) A I (fun v117 A118 I119 => Q v117 A118 I119) else D178_number v102 (fun v120 => if v120 < 0 then D181_throwing (nI 2) A I (fun v121 A122 I123 => Q v121 A122 I123) else if v120 < (A 1688 (((I 1681 35) + (nI 6)) + ((-2) - v100)).toNatClampNeg) then if x = (nI 22) then vp_in ((((I 1681 35) + (nI 10)) + ((nI 5) * ((-2) - v100))) + v120) 88400 ∧ (D170_next (nI 2) (A 1688 ((((I 1681 35) + (nI 10)) + ((nI 5) * ((-2) - v100))) + v120).toNatClampNeg) A I (fun v130 A131 I132 => Q v130 A131 I132)) else D172_top (nI 0) A I (fun v124 => vp_in ((((I 1681 35) + (nI 10)) + ((nI 5) * ((-2) - v100))) + v120) 88400 ∧ (D170_next (nI 3) (-100) (sA A 1688 ((((I 1681 35) + (nI 10)) + ((nI 5) * ((-2) - v100))) + v120).toNatClampNeg v124) I (fun v126 A127 I128 => Q v126 A127 I128))) else D181_throwing (nI 2) A I (fun v133 A134 I135 => Q v133 A134 I135))))))))))) else if y < ((nI 2) + (nI 0)) then D165_broken A I (fun v1 A2 I3 => Q v1 A2 I3) else D183_isReference ((nI 1) + (nI 0)) A I (fun v4 => if v4 = 0 then D165_broken A I (fun v5 A6 I7 => Q v5 A6 I7) else D174_isWord (nI 0) A I (fun v8 => if v8 = 0 then D165_broken A I (fun v9 A10 I11 => Q v9 A10 I11) else D172_top ((nI 1) + (nI 0)) A I (fun v12 => if v12 = (-1) then D181_throwing (nI 5) A I (fun v84 A85 I86 => Q v84 A85 I86) else D172_top ((nI 1) + (nI 0)) A I (fun v13 => vp_in (((I 1681 35) + (nI 6)) + ((-2) - v13)) 88400 ∧ (D172_top (nI 0) A I (fun v15 => D177_isNumber v15 (fun v16 => if v16 = 0 then if z = (-1) then D180_splits ((A 1688 (((I 1681 35) + (nI 6)) + ((-2) - v13)).toNatClampNeg) + (nI 1)) v15 (A 1688 (((I 1681 35) + (nI 6)) + ((-2) - v13)).toNatClampNeg) A I (fun v81 A82 I83 => Q v81 A82 I83) else D177_isNumber v15 (fun v49 => if v49 = 0 then if z < 0 then D181_throwing (nI 2) A I (fun v50 A51 I52 => Q v50 A51 I52) else if z < (A 1688 (((I 1681 35) + (nI 6)) + ((-2) - v13)).toNatClampNeg) then if x = (nI 22) then vp_in ((((I 1681 35) + (nI 10)) + ((nI 5) * ((-2) - v13))) + z) 88400 ∧ (D170_next (nI 2) (A 1688 ((((I 1681 35) + (nI 10)) + ((nI 5) * ((-2) - v13))) + z).toNatClampNeg) A I (fun v59 A60 I61 => Q v59 A60 I61)) else D172_top (nI 0) A I (fun v53 => vp_in ((((I 1681 35) + (nI 10)) + ((nI 5) * ((-2) - v13))) + z) 88400 ∧ (D170_next (nI 3) (-100) (sA A 1688 ((((I 1681 35) + (nI 10)) + ((nI 5) * ((-2) - v13))) + z).toNatClampNeg v53) I (fun v55 A56 I57 => Q v55 A56 I57))) else D181_throwing (nI 2) A I (fun v62 A63 I64 => Q v62 A63 I64) else D178_number v15 (fun v65 => if v65 < 0 then D181_throwing (nI 2) A I (fun v66 A67 I68 => Q v66 A67 I68) else if v65 < (A 1688 (((I 1681 35) + (nI 6)) + ((-2) - v13)).toNatClampNeg) then if x = (nI 22) then vp_in ((((I 1681 35) + (nI 10)) + ((nI 5) * ((-2) - v13))) + v65) 88400 ∧ (D170_next (nI 2) (A 1688 ((((I 1681 35) + (nI 10)) + ((nI 5) * ((-2) - v13))) + v65).toNatClampNeg) A I (fun v75 A76 I77 => Q v75 A76 I77)) else D172_top (nI 0) A I (fun v69 => vp_in ((((I 1681 35) + (nI 10)) + ((nI 5) * ((-2) - v13))) + v65) 88400 ∧ (D170_next (nI 3) (-100) (sA A 1688 ((((I 1681 35) + (nI 10)) + ((nI 5) * ((-2) - v13))) + v65).toNatClampNeg v69) I (fun v71 A72 I73 => Q v71 A72 I73))) else D181_throwing (nI 2) A I (fun v78 A79 I80 => Q v78 A79 I80))) else D177_isNumber v15 (fun v17 => if v17 = 0 then if z < 0 then D181_throwing (nI 2) A I (fun v18 A19 I20 => Q v18 A19 I20) else if z < (A 1688 (((I 1681 35) + (nI 6)) + ((-2) - v13)).toNatClampNeg) then if x = (nI 22) then vp_in ((((I 1681 35) + (nI 10)) + ((nI 5) * ((-2) - v13))) + z) 88400 ∧ (D170_next (nI 2) (A 1688 ((((I 1681 35) + (nI 10)) + ((nI 5) * ((-2) - v13))) + z).toNatClampNeg) A I (fun v27 A28 I29 => Q v27 A28 I29)) else D172_top (nI 0) A I (fun v21 => vp_in ((((I 1681 35) + (nI 10)) + ((nI 5) * ((-2) - v13))) + z) 88400 ∧ (D170_next (nI 3) (-100) (sA A 1688 ((((I 1681 35) + (nI 10)) + ((nI 5) * ((-2) - v13))) + z).toNatClampNeg v21) I (fun v23 A24 I25 => Q v23 A24 I25))) else D181_throwing (nI 2) A I (fun v30 A31 I32 => Q v30 A31 I32) else D178_number v15 (fun v33 => if v33 < 0 then D181_throwing (nI 2) A I (fun v34 A35 I36 => Q v34 A35 I36) else if v33 < (A 1688 (((I 1681 35) + (nI 6)) + ((-2) - v13)).toNatClampNeg) then if x = (nI 22) then vp_in ((((I 1681 35) + (nI 10)) + ((nI 5) * ((-2) - v13))) + v33) 88400 ∧ (D170_next (nI 2) (A 1688 ((((I 1681 35) + (nI 10)) + ((nI 5) * ((-2) - v13))) + v33).toNatClampNeg) A I (fun v43 A44 I45 => Q v43 A44 I45)) else D172_top (nI 0) A I (fun v37 => vp_in ((((I 1681 35) + (nI 10)) + ((nI 5) * ((-2) - v13))) + v33) 88400 ∧ (D170_next (nI 3) (-100) (sA A 1688 ((((I 1681 35) + (nI 10)) + ((nI 5) * ((-2) - v13))) + v33).toNatClampNeg v37) I (fun v39 A40 I41 => Q v39 A40 I41))) else D181_throwing (nI 2) A I (fun v46 A47 I48 => Q v46 A47 I48))))))))))
theorem D184_arrays_mono {x : Int32} {y : Int32} {z : Int32} {A I : HA} {Q Q' : Int32 → HA → HA → Prop} (k : D184_arrays x y z A I Q) (m : ∀ v A I, Q v A I → Q' v A I) : D184_arrays x y z A I Q' := by
  unfold D184_arrays at k ⊢
  refine itm k (fun k => ?_) (fun k => ?_)
  · refine D185_makes_mono k (fun _ _ _ k => ?_)
    exact m _ _ _ k
  · refine itm k (fun k => ?_) (fun k => ?_)
    · refine itm k (fun k => ?_) (fun k => ?_)
      · refine D165_broken_mono k (fun _ _ _ k => ?_)
        exact m _ _ _ k
      · refine D183_isReference_mono k (fun _ k => ?_)
        refine itm k (fun k => ?_) (fun k => ?_)
        · refine D165_broken_mono k (fun _ _ _ k => ?_)
          exact m _ _ _ k
        · refine D172_top_mono k (fun _ k => ?_)
          refine itm k (fun k => ?_) (fun k => ?_)
          · refine D181_throwing_mono k (fun _ _ _ k => ?_)
            exact m _ _ _ k
          · refine D172_top_mono k (fun _ k => ?_)
            refine ⟨k.1, ?_⟩
            replace k := k.2
            refine D168_node_mono k (fun _ k => ?_)
            refine D170_next_mono k (fun _ _ _ k => ?_)
            exact m _ _ _ k
    · refine itm k (fun k => ?_) (fun k => ?_)
      · refine itm k (fun k => ?_) (fun k => ?_)
        · refine D165_broken_mono k (fun _ _ _ k => ?_)
          exact m _ _ _ k
        · refine D183_isReference_mono k (fun _ k => ?_)
          refine itm k (fun k => ?_) (fun k => ?_)
          · refine D165_broken_mono k (fun _ _ _ k => ?_)
            exact m _ _ _ k
          · refine D174_isWord_mono k (fun _ k => ?_)
            refine itm k (fun k => ?_) (fun k => ?_)
            · refine D165_broken_mono k (fun _ _ _ k => ?_)
              exact m _ _ _ k
            · refine D174_isWord_mono k (fun _ k => ?_)
              refine itm k (fun k => ?_) (fun k => ?_)
              · refine D165_broken_mono k (fun _ _ _ k => ?_)
                exact m _ _ _ k
              · refine D172_top_mono k (fun _ k => ?_)
                refine itm k (fun k => ?_) (fun k => ?_)
                · refine D181_throwing_mono k (fun _ _ _ k => ?_)
                  exact m _ _ _ k
                · refine D172_top_mono k (fun _ k => ?_)
                  refine ⟨k.1, ?_⟩
                  replace k := k.2
                  refine D172_top_mono k (fun _ k => ?_)
                  refine D177_isNumber_mono k (fun _ k => ?_)
                  refine itm k (fun k => ?_) (fun k => ?_)
                  · refine itm k (fun k => ?_) (fun k => ?_)
                    · refine D180_splits_mono k (fun _ _ _ k => ?_)
                      exact m _ _ _ k
                    · refine D177_isNumber_mono k (fun _ k => ?_)
                      refine itm k (fun k => ?_) (fun k => ?_)
                      · refine itm k (fun k => ?_) (fun k => ?_)
                        · refine D181_throwing_mono k (fun _ _ _ k => ?_)
                          exact m _ _ _ k
                        · refine itm k (fun k => ?_) (fun k => ?_)
                          · refine itm k (fun k => ?_) (fun k => ?_)
                            · refine ⟨k.1, ?_⟩
                              replace k := k.2
                              refine D170_next_mono k (fun _ _ _ k => ?_)
                              exact m _ _ _ k
                            · refine D172_top_mono k (fun _ k => ?_)
                              refine ⟨k.1, ?_⟩
                              replace k := k.2
                              refine D170_next_mono k (fun _ _ _ k => ?_)
                              exact m _ _ _ k
                          · refine D181_throwing_mono k (fun _ _ _ k => ?_)
                            exact m _ _ _ k
                      · refine D178_number_mono k (fun _ k => ?_)
                        refine itm k (fun k => ?_) (fun k => ?_)
                        · refine D181_throwing_mono k (fun _ _ _ k => ?_)
                          exact m _ _ _ k
                        · refine itm k (fun k => ?_) (fun k => ?_)
                          · refine itm k (fun k => ?_) (fun k => ?_)
                            · refine ⟨k.1, ?_⟩
                              replace k := k.2
                              refine D170_next_mono k (fun _ _ _ k => ?_)
                              exact m _ _ _ k
                            · refine D172_top_mono k (fun _ k => ?_)
                              refine ⟨k.1, ?_⟩
                              replace k := k.2
                              refine D170_next_mono k (fun _ _ _ k => ?_)
                              exact m _ _ _ k
                          · refine D181_throwing_mono k (fun _ _ _ k => ?_)
                            exact m _ _ _ k
                  · refine D177_isNumber_mono k (fun _ k => ?_)
                    refine itm k (fun k => ?_) (fun k => ?_)
                    · refine itm k (fun k => ?_) (fun k => ?_)
                      · refine D181_throwing_mono k (fun _ _ _ k => ?_)
                        exact m _ _ _ k
                      · refine itm k (fun k => ?_) (fun k => ?_)
                        · refine itm k (fun k => ?_) (fun k => ?_)
                          · refine ⟨k.1, ?_⟩
                            replace k := k.2
                            refine D170_next_mono k (fun _ _ _ k => ?_)
                            exact m _ _ _ k
                          · refine D172_top_mono k (fun _ k => ?_)
                            refine ⟨k.1, ?_⟩
                            replace k := k.2
                            refine D170_next_mono k (fun _ _ _ k => ?_)
                            exact m _ _ _ k
                        · refine D181_throwing_mono k (fun _ _ _ k => ?_)
                          exact m _ _ _ k
                    · refine D178_number_mono k (fun _ k => ?_)
                      refine itm k (fun k => ?_) (fun k => ?_)
                      · refine D181_throwing_mono k (fun _ _ _ k => ?_)
                        exact m _ _ _ k
                      · refine itm k (fun k => ?_) (fun k => ?_)
                        · refine itm k (fun k => ?_) (fun k => ?_)
                          · refine ⟨k.1, ?_⟩
                            replace k := k.2
                            refine D170_next_mono k (fun _ _ _ k => ?_)
                            exact m _ _ _ k
                          · refine D172_top_mono k (fun _ k => ?_)
                            refine ⟨k.1, ?_⟩
                            replace k := k.2
                            refine D170_next_mono k (fun _ _ _ k => ?_)
                            exact m _ _ _ k
                        · refine D181_throwing_mono k (fun _ _ _ k => ?_)
                          exact m _ _ _ k
      · refine itm k (fun k => ?_) (fun k => ?_)
        · refine D165_broken_mono k (fun _ _ _ k => ?_)
          exact m _ _ _ k
        · refine D183_isReference_mono k (fun _ k => ?_)
          refine itm k (fun k => ?_) (fun k => ?_)
          · refine D165_broken_mono k (fun _ _ _ k => ?_)
            exact m _ _ _ k
          · refine D174_isWord_mono k (fun _ k => ?_)
            refine itm k (fun k => ?_) (fun k => ?_)
            · refine D165_broken_mono k (fun _ _ _ k => ?_)
              exact m _ _ _ k
            · refine D172_top_mono k (fun _ k => ?_)
              refine itm k (fun k => ?_) (fun k => ?_)
              · refine D181_throwing_mono k (fun _ _ _ k => ?_)
                exact m _ _ _ k
              · refine D172_top_mono k (fun _ k => ?_)
                refine ⟨k.1, ?_⟩
                replace k := k.2
                refine D172_top_mono k (fun _ k => ?_)
                refine D177_isNumber_mono k (fun _ k => ?_)
                refine itm k (fun k => ?_) (fun k => ?_)
                · refine itm k (fun k => ?_) (fun k => ?_)
                  · refine D180_splits_mono k (fun _ _ _ k => ?_)
                    exact m _ _ _ k
                  · refine D177_isNumber_mono k (fun _ k => ?_)
                    refine itm k (fun k => ?_) (fun k => ?_)
                    · refine itm k (fun k => ?_) (fun k => ?_)
                      · refine D181_throwing_mono k (fun _ _ _ k => ?_)
                        exact m _ _ _ k
                      · refine itm k (fun k => ?_) (fun k => ?_)
                        · refine itm k (fun k => ?_) (fun k => ?_)
                          · refine ⟨k.1, ?_⟩
                            replace k := k.2
                            refine D170_next_mono k (fun _ _ _ k => ?_)
                            exact m _ _ _ k
                          · refine D172_top_mono k (fun _ k => ?_)
                            refine ⟨k.1, ?_⟩
                            replace k := k.2
                            refine D170_next_mono k (fun _ _ _ k => ?_)
                            exact m _ _ _ k
                        · refine D181_throwing_mono k (fun _ _ _ k => ?_)
                          exact m _ _ _ k
                    · refine D178_number_mono k (fun _ k => ?_)
                      refine itm k (fun k => ?_) (fun k => ?_)
                      · refine D181_throwing_mono k (fun _ _ _ k => ?_)
                        exact m _ _ _ k
                      · refine itm k (fun k => ?_) (fun k => ?_)
                        · refine itm k (fun k => ?_) (fun k => ?_)
                          · refine ⟨k.1, ?_⟩
                            replace k := k.2
                            refine D170_next_mono k (fun _ _ _ k => ?_)
                            exact m _ _ _ k
                          · refine D172_top_mono k (fun _ k => ?_)
                            refine ⟨k.1, ?_⟩
                            replace k := k.2
                            refine D170_next_mono k (fun _ _ _ k => ?_)
                            exact m _ _ _ k
                        · refine D181_throwing_mono k (fun _ _ _ k => ?_)
                          exact m _ _ _ k
                · refine D177_isNumber_mono k (fun _ k => ?_)
                  refine itm k (fun k => ?_) (fun k => ?_)
                  · refine itm k (fun k => ?_) (fun k => ?_)
                    · refine D181_throwing_mono k (fun _ _ _ k => ?_)
                      exact m _ _ _ k
                    · refine itm k (fun k => ?_) (fun k => ?_)
                      · refine itm k (fun k => ?_) (fun k => ?_)
                        · refine ⟨k.1, ?_⟩
                          replace k := k.2
                          refine D170_next_mono k (fun _ _ _ k => ?_)
                          exact m _ _ _ k
                        · refine D172_top_mono k (fun _ k => ?_)
                          refine ⟨k.1, ?_⟩
                          replace k := k.2
                          refine D170_next_mono k (fun _ _ _ k => ?_)
                          exact m _ _ _ k
                      · refine D181_throwing_mono k (fun _ _ _ k => ?_)
                        exact m _ _ _ k
                  · refine D178_number_mono k (fun _ k => ?_)
                    refine itm k (fun k => ?_) (fun k => ?_)
                    · refine D181_throwing_mono k (fun _ _ _ k => ?_)
                      exact m _ _ _ k
                    · refine itm k (fun k => ?_) (fun k => ?_)
                      · refine itm k (fun k => ?_) (fun k => ?_)
                        · refine ⟨k.1, ?_⟩
                          replace k := k.2
                          refine D170_next_mono k (fun _ _ _ k => ?_)
                          exact m _ _ _ k
                        · refine D172_top_mono k (fun _ k => ?_)
                          refine ⟨k.1, ?_⟩
                          replace k := k.2
                          refine D170_next_mono k (fun _ _ _ k => ?_)
                          exact m _ _ _ k
                      · refine D181_throwing_mono k (fun _ _ _ k => ?_)
                        exact m _ _ _ k
def D186_calls (x : Int32) (y : Int32) (z : Int32) (A I : HA) (Q : Int32 → HA → HA → Prop) : Prop := if x = nI 25 then if y < (I 1681 1) then vp_in y 6 ∧ (if (A 1683 y.toNatClampNeg) = 0 then D165_broken A I (fun v5 A6 I7 => Q v5 A6 I7) else vp_in y 6 ∧ (if z < (A 1682 y.toNatClampNeg) then D165_broken A I (fun v9 A10 I11 => Q v9 A10 I11) else vp_in y 6 ∧ (if (z - (A 1682 y.toNatClampNeg)) = (nI 12) then D165_broken A I (fun v33 A34 I35 => Q v33 A34 I35) else vp_in ((I 1681 35) + (nI 0)) 88400 ∧ (if (A 1688 ((I 1681 35) + (nI 0)).toNatClampNeg) = (nI 4) then D181_throwing (nI 6) A I (fun v30 A31 I32 => Q v30 A31 I32) else vp_in y 6 ∧ (vp_in ((I 1681 36) + (nI 2)) 88400 ∧ (vp_in ((I 1681 36) + (nI 2)) 88400 ∧ (D157_enter y (sA A 1688 ((I 1681 36) + (nI 2)).toNatClampNeg ((A 1688 ((I 1681 36) + (nI 2)).toNatClampNeg) - (A 1682 y.toNatClampNeg))) I (fun A17 I18 => (∀ P19 : Int32 → HA → HA → Prop, (∀ (a20 : Int32) (A24 I25 : HA), (if a20 < (A 1682 y.toNatClampNeg) then vp_in ((I 1681 36) + (nI 2)) 88400 ∧ (vp_in ((((I 1681 36) + (nI 9)) + (A24 1688 ((I 1681 36) + (nI 2)).toNatClampNeg)) + a20) 88400 ∧ (vp_in (((I25 1681 36) + (nI 3)) + a20) 88400 ∧ (P19 (a20 + nI 1) (sA A24 1688 (((I25 1681 36) + (nI 3)) + a20).toNatClampNeg (A24 1688 ((((I 1681 36) + (nI 9)) + (A24 1688 ((I 1681 36) + (nI 2)).toNatClampNeg)) + a20).toNatClampNeg)) I25))) else Q (nI 0) A24 I25) → P19 a20 A24 I25) → P19 (nI 0) A17 I18))))))))) else D165_broken A I (fun v1 A2 I3 => Q v1 A2 I3) else if x = nI 26 then if z < (nI 1) then D165_broken A I (fun v54 A55 I56 => Q v54 A55 I56) else D172_top (nI 0) A I (fun v36 => vp_in ((I 1681 35) + (nI 0)) 88400 ∧ (if (A 1688 ((I 1681 35) + (nI 0)).toNatClampNeg) = (nI 1) then vp_in ((I 1681 35) + (nI 517)) 88400 ∧ (if v36 < 0 then D166_place (sA A 1688 ((I 1681 35) + (nI 517)).toNatClampNeg v36) I (fun v50 => D167_ends (nI 2) v50 (nI 0) (sA A 1688 ((I 1681 35) + (nI 517)).toNatClampNeg v36) I (fun v51 A52 I53 => Q v51 A52 I53)) else D166_place (sA A 1688 ((I 1681 35) + (nI 517)).toNatClampNeg v36) I (fun v46 => D167_ends (nI 1) v46 (nI 0) (sA A 1688 ((I 1681 35) + (nI 517)).toNatClampNeg v36) I (fun v47 A48 I49 => Q v47 A48 I49))) else vp_in ((I 1681 35) + (nI 0)) 88400 ∧ (vp_in ((I 1681 35) + (nI 0)) 88400 ∧ (D158_frame (sA A 1688 ((I 1681 35) + (nI 0)).toNatClampNeg ((A 1688 ((I 1681 35) + (nI 0)).toNatClampNeg) - (nI 1))) I (fun A40 I41 => D170_next (nI 0) v36 A40 I41 (fun v42 A43 I44 => Q v42 A43 I44)))))) else if x = nI 27 then D181_throwing y A I (fun v57 A58 I59 => Q v57 A58 I59) else if x = nI 28 then if z = (nI 12) then D165_broken A I (fun v63 A64 I65 => Q v63 A64 I65) else D170_next (nI 0) (-1) A I (fun v60 A61 I62 => Q v60 A61 I62) else if y = 0 then if z < (nI 1) then D165_broken A I (fun v66 A67 I68 => Q v66 A67 I68) else D174_isWord (nI 0) A I (fun v69 => if v69 = 0 then D165_broken A I (fun v74 A75 I76 => Q v74 A75 I76) else D172_top (nI 0) A I (fun v70 => D175_reckons (nI 29) v70 (-1) (nI 1) A I (fun v71 A72 I73 => Q v71 A72 I73))) else D166_place A I (fun v77 => D167_ends (nI 6) v77 (nI 0) A I (fun v78 A79 I80 => Q v78 A79 I80))
theorem D186_calls_mono {x : Int32} {y : Int32} {z : Int32} {A I : HA} {Q Q' : Int32 → HA → HA → Prop} (k : D186_calls x y z A I Q) (m : ∀ v A I, Q v A I → Q' v A I) : D186_calls x y z A I Q' := by
  unfold D186_calls at k ⊢
  refine itm k (fun k => ?_) (fun k => ?_)
  · refine itm k (fun k => ?_) (fun k => ?_)
    · refine ⟨k.1, ?_⟩
      replace k := k.2
      refine itm k (fun k => ?_) (fun k => ?_)
      · refine D165_broken_mono k (fun _ _ _ k => ?_)
        exact m _ _ _ k
      · refine ⟨k.1, ?_⟩
        replace k := k.2
        refine itm k (fun k => ?_) (fun k => ?_)
        · refine D165_broken_mono k (fun _ _ _ k => ?_)
          exact m _ _ _ k
        · refine ⟨k.1, ?_⟩
          replace k := k.2
          refine itm k (fun k => ?_) (fun k => ?_)
          · refine D165_broken_mono k (fun _ _ _ k => ?_)
            exact m _ _ _ k
          · refine ⟨k.1, ?_⟩
            replace k := k.2
            refine itm k (fun k => ?_) (fun k => ?_)
            · refine D181_throwing_mono k (fun _ _ _ k => ?_)
              exact m _ _ _ k
            · refine ⟨k.1, ?_⟩
              replace k := k.2
              refine ⟨k.1, ?_⟩
              replace k := k.2
              refine ⟨k.1, ?_⟩
              replace k := k.2
              refine D157_enter_mono k (fun _ _ k => ?_)
              intro P hP
              refine k P (fun a0 a1 a2 k => hP a0 a1 a2 ?_)
              refine itm k (fun k => ?_) (fun k => ?_)
              · refine ⟨k.1, ?_⟩
                replace k := k.2
                refine ⟨k.1, ?_⟩
                replace k := k.2
                refine ⟨k.1, ?_⟩
                replace k := k.2
                exact k
              · exact m _ _ _ k
    · refine D165_broken_mono k (fun _ _ _ k => ?_)
      exact m _ _ _ k
  · refine itm k (fun k => ?_) (fun k => ?_)
    · refine itm k (fun k => ?_) (fun k => ?_)
      · refine D165_broken_mono k (fun _ _ _ k => ?_)
        exact m _ _ _ k
      · refine D172_top_mono k (fun _ k => ?_)
        refine ⟨k.1, ?_⟩
        replace k := k.2
        refine itm k (fun k => ?_) (fun k => ?_)
        · refine ⟨k.1, ?_⟩
          replace k := k.2
          refine itm k (fun k => ?_) (fun k => ?_)
          · refine D166_place_mono k (fun _ k => ?_)
            refine D167_ends_mono k (fun _ _ _ k => ?_)
            exact m _ _ _ k
          · refine D166_place_mono k (fun _ k => ?_)
            refine D167_ends_mono k (fun _ _ _ k => ?_)
            exact m _ _ _ k
        · refine ⟨k.1, ?_⟩
          replace k := k.2
          refine ⟨k.1, ?_⟩
          replace k := k.2
          refine D158_frame_mono k (fun _ _ k => ?_)
          refine D170_next_mono k (fun _ _ _ k => ?_)
          exact m _ _ _ k
    · refine itm k (fun k => ?_) (fun k => ?_)
      · refine D181_throwing_mono k (fun _ _ _ k => ?_)
        exact m _ _ _ k
      · refine itm k (fun k => ?_) (fun k => ?_)
        · refine itm k (fun k => ?_) (fun k => ?_)
          · refine D165_broken_mono k (fun _ _ _ k => ?_)
            exact m _ _ _ k
          · refine D170_next_mono k (fun _ _ _ k => ?_)
            exact m _ _ _ k
        · refine itm k (fun k => ?_) (fun k => ?_)
          · refine itm k (fun k => ?_) (fun k => ?_)
            · refine D165_broken_mono k (fun _ _ _ k => ?_)
              exact m _ _ _ k
            · refine D174_isWord_mono k (fun _ k => ?_)
              refine itm k (fun k => ?_) (fun k => ?_)
              · refine D165_broken_mono k (fun _ _ _ k => ?_)
                exact m _ _ _ k
              · refine D172_top_mono k (fun _ k => ?_)
                refine D175_reckons_mono k (fun _ _ _ k => ?_)
                exact m _ _ _ k
          · refine D166_place_mono k (fun _ k => ?_)
            refine D167_ends_mono k (fun _ _ _ k => ?_)
            exact m _ _ _ k
def D163_operate (x : Int32) (A I : HA) (Q : Int32 → HA → HA → Prop) : Prop := vp_in ((I 1681 36) + (nI 0)) 88400 ∧ (vp_in ((I 1681 36) + (nI 1)) 88400 ∧ (vp_in (((nI 40) * (A 1688 ((I 1681 36) + (nI 0)).toNatClampNeg)) + (A 1688 ((I 1681 36) + (nI 1)).toNatClampNeg)) 240 ∧ (vp_in ((I 1681 36) + (nI 0)) 88400 ∧ (vp_in ((I 1681 36) + (nI 1)) 88400 ∧ (vp_in (((nI 40) * (A 1688 ((I 1681 36) + (nI 0)).toNatClampNeg)) + (A 1688 ((I 1681 36) + (nI 1)).toNatClampNeg)) 240 ∧ (vp_in ((I 1681 36) + (nI 2)) 88400 ∧ (if (A 1684 (((nI 40) * (A 1688 ((I 1681 36) + (nI 0)).toNatClampNeg)) + (A 1688 ((I 1681 36) + (nI 1)).toNatClampNeg)).toNatClampNeg) < (nI 6) then D164_moves (A 1684 (((nI 40) * (A 1688 ((I 1681 36) + (nI 0)).toNatClampNeg)) + (A 1688 ((I 1681 36) + (nI 1)).toNatClampNeg)).toNatClampNeg) (A 1685 (((nI 40) * (A 1688 ((I 1681 36) + (nI 0)).toNatClampNeg)) + (A 1688 ((I 1681 36) + (nI 1)).toNatClampNeg)).toNatClampNeg) (A 1688 ((I 1681 36) + (nI 2)).toNatClampNeg) A I (fun v20 A21 I22 => Q v20 A21 I22) else if (A 1684 (((nI 40) * (A 1688 ((I 1681 36) + (nI 0)).toNatClampNeg)) + (A 1688 ((I 1681 36) + (nI 1)).toNatClampNeg)).toNatClampNeg) < (nI 17) then D173_words (A 1684 (((nI 40) * (A 1688 ((I 1681 36) + (nI 0)).toNatClampNeg)) + (A 1688 ((I 1681 36) + (nI 1)).toNatClampNeg)).toNatClampNeg) (A 1688 ((I 1681 36) + (nI 2)).toNatClampNeg) x A I (fun v17 A18 I19 => Q v17 A18 I19) else if (A 1684 (((nI 40) * (A 1688 ((I 1681 36) + (nI 0)).toNatClampNeg)) + (A 1688 ((I 1681 36) + (nI 1)).toNatClampNeg)).toNatClampNeg) < (nI 21) then D182_jumps (A 1684 (((nI 40) * (A 1688 ((I 1681 36) + (nI 0)).toNatClampNeg)) + (A 1688 ((I 1681 36) + (nI 1)).toNatClampNeg)).toNatClampNeg) (A 1685 (((nI 40) * (A 1688 ((I 1681 36) + (nI 0)).toNatClampNeg)) + (A 1688 ((I 1681 36) + (nI 1)).toNatClampNeg)).toNatClampNeg) (A 1688 ((I 1681 36) + (nI 2)).toNatClampNeg) x A I (fun v14 A15 I16 => Q v14 A15 I16) else if (A 1684 (((nI 40) * (A 1688 ((I 1681 36) + (nI 0)).toNatClampNeg)) + (A 1688 ((I 1681 36) + (nI 1)).toNatClampNeg)).toNatClampNeg) < (nI 25) then D184_arrays (A 1684 (((nI 40) * (A 1688 ((I 1681 36) + (nI 0)).toNatClampNeg)) + (A 1688 ((I 1681 36) + (nI 1)).toNatClampNeg)).toNatClampNeg) (A 1688 ((I 1681 36) + (nI 2)).toNatClampNeg) x A I (fun v11 A12 I13 => Q v11 A12 I13) else D186_calls (A 1684 (((nI 40) * (A 1688 ((I 1681 36) + (nI 0)).toNatClampNeg)) + (A 1688 ((I 1681 36) + (nI 1)).toNatClampNeg)).toNatClampNeg) (A 1685 (((nI 40) * (A 1688 ((I 1681 36) + (nI 0)).toNatClampNeg)) + (A 1688 ((I 1681 36) + (nI 1)).toNatClampNeg)).toNatClampNeg) (A 1688 ((I 1681 36) + (nI 2)).toNatClampNeg) A I (fun v8 A9 I10 => Q v8 A9 I10))))))))
theorem D163_operate_mono {x : Int32} {A I : HA} {Q Q' : Int32 → HA → HA → Prop} (k : D163_operate x A I Q) (m : ∀ v A I, Q v A I → Q' v A I) : D163_operate x A I Q' := by
  unfold D163_operate at k ⊢
  refine ⟨k.1, ?_⟩
  replace k := k.2
  refine ⟨k.1, ?_⟩
  replace k := k.2
  refine ⟨k.1, ?_⟩
  replace k := k.2
  refine ⟨k.1, ?_⟩
  replace k := k.2
  refine ⟨k.1, ?_⟩
  replace k := k.2
  refine ⟨k.1, ?_⟩
  replace k := k.2
  refine ⟨k.1, ?_⟩
  replace k := k.2
  refine itm k (fun k => ?_) (fun k => ?_)
  · refine D164_moves_mono k (fun _ _ _ k => ?_)
    exact m _ _ _ k
  · refine itm k (fun k => ?_) (fun k => ?_)
    · refine D173_words_mono k (fun _ _ _ k => ?_)
      exact m _ _ _ k
    · refine itm k (fun k => ?_) (fun k => ?_)
      · refine D182_jumps_mono k (fun _ _ _ k => ?_)
        exact m _ _ _ k
      · refine itm k (fun k => ?_) (fun k => ?_)
        · refine D184_arrays_mono k (fun _ _ _ k => ?_)
          exact m _ _ _ k
        · refine D186_calls_mono k (fun _ _ _ k => ?_)
          exact m _ _ _ k
def D162_goOn (A I : HA) (Q : Int32 → HA → HA → Prop) : Prop := D158_frame A I (fun A1 I2 => vp_in ((I2 1681 35) + (nI 3)) 88400 ∧ (if (A1 1688 ((I2 1681 35) + (nI 3)).toNatClampNeg) = (-1) then (∀ P4 : Int32 → HA → HA → Prop, (∀ (a5 : Int32) (A7 I8 : HA), (if a5 = 0 then D158_frame A7 I8 (fun A10 I11 => vp_in ((I11 1681 35) + (nI 1)) 88400 ∧ (if (A10 1688 ((I11 1681 35) + (nI 1)).toNatClampNeg) = (I11 1681 18) then D166_place A10 I11 (fun v31 => D167_ends (nI 4) v31 (nI 0) A10 I11 (fun v32 A33 I34 => P4 v32 A33 I34)) else vp_in ((I11 1681 36) + (nI 1)) 88400 ∧ (vp_in ((I11 1681 36) + (nI 0)) 88400 ∧ (vp_in (A10 1688 ((I11 1681 36) + (nI 0)).toNatClampNeg) 6 ∧ (if (A10 1688 ((I11 1681 36) + (nI 1)).toNatClampNeg) < (A10 1683 (A10 1688 ((I11 1681 36) + (nI 0)).toNatClampNeg).toNatClampNeg) then vp_in ((I11 1681 35) + (nI 1)) 88400 ∧ (vp_in ((I11 1681 35) + (nI 1)) 88400 ∧ (if (I11 1681 31) = 0 then D163_operate (-1) (sA A10 1688 ((I11 1681 35) + (nI 1)).toNatClampNeg ((A10 1688 ((I11 1681 35) + (nI 1)).toNatClampNeg) + (nI 1))) I11 (fun v18 A19 I20 => P4 v18 A19 I20) else vp_in ((I11 1681 36) + (nI 0)) 88400 ∧ (vp_in ((I11 1681 36) + (nI 1)) 88400 ∧ (vp_in (((nI 40) * ((sA A10 1688 ((I11 1681 35) + (nI 1)).toNatClampNeg ((A10 1688 ((I11 1681 35) + (nI 1)).toNatClampNeg) + (nI 1))) 1688 ((I11 1681 36) + (nI 0)).toNatClampNeg)) + ((sA A10 1688 ((I11 1681 35) + (nI 1)).toNatClampNeg ((A10 1688 ((I11 1681 35) + (nI 1)).toNatClampNeg) + (nI 1))) 1688 ((I11 1681 36) + (nI 1)).toNatClampNeg)) 240 ∧ (vp_in (((nI 40) * ((sA A10 1688 ((I11 1681 35) + (nI 1)).toNatClampNeg ((A10 1688 ((I11 1681 35) + (nI 1)).toNatClampNeg) + (nI 1))) 1688 ((I11 1681 36) + (nI 0)).toNatClampNeg)) + ((sA A10 1688 ((I11 1681 35) + (nI 1)).toNatClampNeg ((A10 1688 ((I11 1681 35) + (nI 1)).toNatClampNeg) + (nI 1))) 1688 ((I11 1681 36) + (nI 1)).toNatClampNeg)) 240 ∧ (D163_operate (-1) (sA (sA A10 1688 ((I11 1681 35) + (nI 1)).toNatClampNeg ((A10 1688 ((I11 1681 35) + (nI 1)).toNatClampNeg) + (nI 1))) 1699 (((nI 40) * ((sA A10 1688 ((I11 1681 35) + (nI 1)).toNatClampNeg ((A10 1688 ((I11 1681 35) + (nI 1)).toNatClampNeg) + (nI 1))) 1688 ((I11 1681 36) + (nI 0)).toNatClampNeg)) + ((sA A10 1688 ((I11 1681 35) + (nI 1)).toNatClampNeg ((A10 1688 ((I11 1681 35) + (nI 1)).toNatClampNeg) + (nI 1))) 1688 ((I11 1681 36) + (nI 1)).toNatClampNeg)).toNatClampNeg (((sA A10 1688 ((I11 1681 35) + (nI 1)).toNatClampNeg ((A10 1688 ((I11 1681 35) + (nI 1)).toNatClampNeg) + (nI 1))) 1699 (((nI 40) * ((sA A10 1688 ((I11 1681 35) + (nI 1)).toNatClampNeg ((A10 1688 ((I11 1681 35) + (nI 1)).toNatClampNeg) + (nI 1))) 1688 ((I11 1681 36) + (nI 0)).toNatClampNeg)) + ((sA A10 1688 ((I11 1681 35) + (nI 1)).toNatClampNeg ((A10 1688 ((I11 1681 35) + (nI 1)).toNatClampNeg) + (nI 1))) 1688 ((I11 1681 36) + (nI 1)).toNatClampNeg)).toNatClampNeg) + (nI 1))) (sI I11 1681 30 ((I11 1681 30) + (nI 1))) (fun v25 A26 I27 => P4 v25 A26 I27))))))) else D165_broken A10 I11 (fun v28 A29 I30 => P4 v28 A29 I30)))))) else Q a5 A7 I8) → P4 a5 A7 I8) → P4 (nI 0) A1 I2) else vp_in ((I2 1681 35) + (nI 3)) 88400 ∧ (vp_in ((I2 1681 35) + (nI 3)) 88400 ∧ (D163_operate (A1 1688 ((I2 1681 35) + (nI 3)).toNatClampNeg) (sA A1 1688 ((I2 1681 35) + (nI 3)).toNatClampNeg (-1)) I2 (fun v37 A38 I39 => (∀ P40 : Int32 → HA → HA → Prop, (∀ (a41 : Int32) (A43 I44 : HA), (if a41 = 0 then D158_frame A43 I44 (fun A46 I47 => vp_in ((I47 1681 35) + (nI 1)) 88400 ∧ (if (A46 1688 ((I47 1681 35) + (nI 1)).toNatClampNeg) = (I47 1681 18) then D166_place A46 I47 (fun v67 => D167_ends (nI 4) v67 (nI 0) A46 I47 (fun v68 A69 I70 => P40 v68 A69 I70)) else vp_in ((I47 1681 36) + (nI 1)) 88400 ∧ (vp_in ((I47 1681 36) + (nI 0)) 88400 ∧ (vp_in (A46 1688 ((I47 1681 36) + (nI 0)).toNatClampNeg) 6 ∧ (if (A46 1688 ((I47 1681 36) + (nI 1)).toNatClampNeg) < (A46 1683 (A46 1688 ((I47 1681 36) + (nI 0)).toNatClampNeg).toNatClampNeg) then vp_in ((I47 1681 35) + (nI 1)) 88400 ∧ (vp_in ((I47 1681 35) + (nI 1)) 88400 ∧ (if (I47 1681 31) = 0 then D163_operate (-1) (sA A46 1688 ((I47 1681 35) + (nI 1)).toNatClampNeg ((A46 1688 ((I47 1681 35) + (nI 1)).toNatClampNeg) + (nI 1))) I47 (fun v54 A55 I56 => P40 v54 A55 I56) else vp_in ((I47 1681 36) + (nI 0)) 88400 ∧ (vp_in ((I47 1681 36) + (nI 1)) 88400 ∧ (vp_in (((nI 40) * ((sA A46 1688 ((I47 1681 35) + (nI 1)).toNatClampNeg ((A46 1688 ((I47 1681 35) + (nI 1)).toNatClampNeg) + (nI 1))) 1688 ((I47 1681 36) + (nI 0)).toNatClampNeg)) + ((sA A46 1688 ((I47 1681 35) + (nI 1)).toNatClampNeg ((A46 1688 ((I47 1681 35) + (nI 1)).toNatClampNeg) + (nI 1))) 1688 ((I47 1681 36) + (nI 1)).toNatClampNeg)) 240 ∧ (vp_in (((nI 40) * ((sA A46 1688 ((I47 1681 35) + (nI 1)).toNatClampNeg ((A46 1688 ((I47 1681 35) + (nI 1)).toNatClampNeg) + (nI 1))) 1688 ((I47 1681 36) + (nI 0)).toNatClampNeg)) + ((sA A46 1688 ((I47 1681 35) + (nI 1)).toNatClampNeg ((A46 1688 ((I47 1681 35) + (nI 1)).toNatClampNeg) + (nI 1))) 1688 ((I47 1681 36) + (nI 1)).toNatClampNeg)) 240 ∧ (D163_operate (-1) (sA (sA A46 1688 ((I47 1681 35) + (nI 1)).toNatClampNeg ((A46 1688 ((I47 1681 35) + (nI 1)).toNatClampNeg) + (nI 1))) 1699 (((nI 40) * ((sA A46 1688 ((I47 1681 35) + (nI 1)).toNatClampNeg ((A46 1688 ((I47 1681 35) + (nI 1)).toNatClampNeg) + (nI 1))) 1688 ((I47 1681 36) + (nI 0)).toNatClampNeg)) + ((sA A46 1688 ((I47 1681 35) + (nI 1)).toNatClampNeg ((A46 1688 ((I47 1681 35) + (nI 1)).toNatClampNeg) + (nI 1))) 1688 ((I47 1681 36) + (nI 1)).toNatClampNeg)).toNatClampNeg (((sA A46 1688 ((I47 1681 35) + (nI 1)).toNatClampNeg ((A46 1688 ((I47 1681 35) + (nI 1)).toNatClampNeg) + (nI 1))) 1699 (((nI 40) * ((sA A46 1688 ((I47 1681 35) + (nI 1)).toNatClampNeg ((A46 1688 ((I47 1681 35) + (nI 1)).toNatClampNeg) + (nI 1))) 1688 ((I47 1681 36) + (nI 0)).toNatClampNeg)) + ((sA A46 1688 ((I47 1681 35) + (nI 1)).toNatClampNeg ((A46 1688 ((I47 1681 35) + (nI 1)).toNatClampNeg) + (nI 1))) 1688 ((I47 1681 36) + (nI 1)).toNatClampNeg)).toNatClampNeg) + (nI 1))) (sI I47 1681 30 ((I47 1681 30) + (nI 1))) (fun v61 A62 I63 => P40 v61 A62 I63))))))) else D165_broken A46 I47 (fun v64 A65 I66 => P40 v64 A65 I66)))))) else Q a41 A43 I44) → P40 a41 A43 I44) → P40 v37 A38 I39))))))
theorem D162_goOn_mono {A I : HA} {Q Q' : Int32 → HA → HA → Prop} (k : D162_goOn A I Q) (m : ∀ v A I, Q v A I → Q' v A I) : D162_goOn A I Q' := by
  unfold D162_goOn at k ⊢
  refine D158_frame_mono k (fun _ _ k => ?_)
  refine ⟨k.1, ?_⟩
  replace k := k.2
  refine itm k (fun k => ?_) (fun k => ?_)
  · intro P hP
    refine k P (fun a0 a1 a2 k => hP a0 a1 a2 ?_)
    refine itm k (fun k => ?_) (fun k => ?_)
    · refine D158_frame_mono k (fun _ _ k => ?_)
      refine ⟨k.1, ?_⟩
      replace k := k.2
      refine itm k (fun k => ?_) (fun k => ?_)
      · refine D166_place_mono k (fun _ k => ?_)
        refine D167_ends_mono k (fun _ _ _ k => ?_)
        exact k
      · refine ⟨k.1, ?_⟩
        replace k := k.2
        refine ⟨k.1, ?_⟩
        replace k := k.2
        refine ⟨k.1, ?_⟩
        replace k := k.2
        refine itm k (fun k => ?_) (fun k => ?_)
        · refine ⟨k.1, ?_⟩
          replace k := k.2
          refine ⟨k.1, ?_⟩
          replace k := k.2
          refine itm k (fun k => ?_) (fun k => ?_)
          · refine D163_operate_mono k (fun _ _ _ k => ?_)
            exact k
          · refine ⟨k.1, ?_⟩
            replace k := k.2
            refine ⟨k.1, ?_⟩
            replace k := k.2
            refine ⟨k.1, ?_⟩
            replace k := k.2
            refine ⟨k.1, ?_⟩
            replace k := k.2
            refine D163_operate_mono k (fun _ _ _ k => ?_)
            exact k
        · refine D165_broken_mono k (fun _ _ _ k => ?_)
          exact k
    · exact m _ _ _ k
  · refine ⟨k.1, ?_⟩
    replace k := k.2
    refine ⟨k.1, ?_⟩
    replace k := k.2
    refine D163_operate_mono k (fun _ _ _ k => ?_)
    intro P hP
    refine k P (fun a0 a1 a2 k => hP a0 a1 a2 ?_)
    refine itm k (fun k => ?_) (fun k => ?_)
    · refine D158_frame_mono k (fun _ _ k => ?_)
      refine ⟨k.1, ?_⟩
      replace k := k.2
      refine itm k (fun k => ?_) (fun k => ?_)
      · refine D166_place_mono k (fun _ k => ?_)
        refine D167_ends_mono k (fun _ _ _ k => ?_)
        exact k
      · refine ⟨k.1, ?_⟩
        replace k := k.2
        refine ⟨k.1, ?_⟩
        replace k := k.2
        refine ⟨k.1, ?_⟩
        replace k := k.2
        refine itm k (fun k => ?_) (fun k => ?_)
        · refine ⟨k.1, ?_⟩
          replace k := k.2
          refine ⟨k.1, ?_⟩
          replace k := k.2
          refine itm k (fun k => ?_) (fun k => ?_)
          · refine D163_operate_mono k (fun _ _ _ k => ?_)
            exact k
          · refine ⟨k.1, ?_⟩
            replace k := k.2
            refine ⟨k.1, ?_⟩
            replace k := k.2
            refine ⟨k.1, ?_⟩
            replace k := k.2
            refine ⟨k.1, ?_⟩
            replace k := k.2
            refine D163_operate_mono k (fun _ _ _ k => ?_)
            exact k
        · refine D165_broken_mono k (fun _ _ _ k => ?_)
          exact k
    · exact m _ _ _ k
def D189_spell (x : Int32) (A I : HA) (Q : Int32 → HA → HA → Prop) : Prop := vp_in x 45000 ∧ (vp_in (nI 0) 130 ∧ ((∀ P3 : Int32 → Int32 → HA → HA → Prop, (∀ (a4 : Int32) (a5 : Int32) (A8 I9 : HA), (if 0 < a5 then vp_in (a5 + (-1)) 130 ∧ (if (A8 1700 (a5 + (-1)).toNatClampNeg) < (nI 256) then D178_number (A8 1700 (a5 + (-1)).toNatClampNeg) (fun v20 => vp_in (a4 + (-1)) 61 ∧ (P3 (a4 + (-1)) (a5 + (-1)) (sA A8 1701 (a4 + (-1)).toNatClampNeg ((nI 1000) + v20)) I9)) else if (A8 1700 (a5 + (-1)).toNatClampNeg) < (nI 258) then vp_in (a4 + (-1)) 61 ∧ (P3 (a4 + (-1)) (a5 + (-1)) (sA A8 1701 (a4 + (-1)).toNatClampNeg ((A8 1700 (a5 + (-1)).toNatClampNeg) - (nI 255))) I9) else vp_in (A8 1700 (a5 + (-1)).toNatClampNeg) 45000 ∧ (vp_in (a4 + (-1)) 61 ∧ (vp_in (A8 1700 (a5 + (-1)).toNatClampNeg) 45000 ∧ (vp_in (a5 + (-1)) 130 ∧ (vp_in (A8 1700 (a5 + (-1)).toNatClampNeg) 45000 ∧ (if ((sA (sA A8 1701 (a4 + (-1)).toNatClampNeg (A8 1691 (A8 1700 (a5 + (-1)).toNatClampNeg).toNatClampNeg)) 1700 (a5 + (-1)).toNatClampNeg ((sA A8 1701 (a4 + (-1)).toNatClampNeg (A8 1691 (A8 1700 (a5 + (-1)).toNatClampNeg).toNatClampNeg)) 1692 (A8 1700 (a5 + (-1)).toNatClampNeg).toNatClampNeg)) 1693 (A8 1700 (a5 + (-1)).toNatClampNeg).toNatClampNeg) = (-1) then P3 (a4 + (-1)) ((a5 + (-1)) + nI 1) (sA (sA A8 1701 (a4 + (-1)).toNatClampNeg (A8 1691 (A8 1700 (a5 + (-1)).toNatClampNeg).toNatClampNeg)) 1700 (a5 + (-1)).toNatClampNeg ((sA A8 1701 (a4 + (-1)).toNatClampNeg (A8 1691 (A8 1700 (a5 + (-1)).toNatClampNeg).toNatClampNeg)) 1692 (A8 1700 (a5 + (-1)).toNatClampNeg).toNatClampNeg)) I9 else vp_in (A8 1700 (a5 + (-1)).toNatClampNeg) 45000 ∧ (vp_in ((a5 + (-1)) + nI 1) 130 ∧ (P3 (a4 + (-1)) (((a5 + (-1)) + nI 1) + nI 1) (sA (sA (sA A8 1701 (a4 + (-1)).toNatClampNeg (A8 1691 (A8 1700 (a5 + (-1)).toNatClampNeg).toNatClampNeg)) 1700 (a5 + (-1)).toNatClampNeg ((sA A8 1701 (a4 + (-1)).toNatClampNeg (A8 1691 (A8 1700 (a5 + (-1)).toNatClampNeg).toNatClampNeg)) 1692 (A8 1700 (a5 + (-1)).toNatClampNeg).toNatClampNeg)) 1700 ((a5 + (-1)) + nI 1).toNatClampNeg ((sA (sA A8 1701 (a4 + (-1)).toNatClampNeg (A8 1691 (A8 1700 (a5 + (-1)).toNatClampNeg).toNatClampNeg)) 1700 (a5 + (-1)).toNatClampNeg ((sA A8 1701 (a4 + (-1)).toNatClampNeg (A8 1691 (A8 1700 (a5 + (-1)).toNatClampNeg).toNatClampNeg)) 1692 (A8 1700 (a5 + (-1)).toNatClampNeg).toNatClampNeg)) 1693 (A8 1700 (a5 + (-1)).toNatClampNeg).toNatClampNeg)) I9)))))))) else Q (A 1694 x.toNatClampNeg) A8 I9) → P3 a4 a5 A8 I9) → P3 (A 1694 x.toNatClampNeg) (nI 1) (sA A 1700 (nI 0).toNatClampNeg x) I)))
theorem D189_spell_mono {x : Int32} {A I : HA} {Q Q' : Int32 → HA → HA → Prop} (k : D189_spell x A I Q) (m : ∀ v A I, Q v A I → Q' v A I) : D189_spell x A I Q' := by
  unfold D189_spell at k ⊢
  refine ⟨k.1, ?_⟩
  replace k := k.2
  refine ⟨k.1, ?_⟩
  replace k := k.2
  intro P hP
  refine k P (fun a0 a1 a2 a3 k => hP a0 a1 a2 a3 ?_)
  refine itm k (fun k => ?_) (fun k => ?_)
  · refine ⟨k.1, ?_⟩
    replace k := k.2
    refine itm k (fun k => ?_) (fun k => ?_)
    · refine D178_number_mono k (fun _ k => ?_)
      refine ⟨k.1, ?_⟩
      replace k := k.2
      exact k
    · refine itm k (fun k => ?_) (fun k => ?_)
      · refine ⟨k.1, ?_⟩
        replace k := k.2
        exact k
      · refine ⟨k.1, ?_⟩
        replace k := k.2
        refine ⟨k.1, ?_⟩
        replace k := k.2
        refine ⟨k.1, ?_⟩
        replace k := k.2
        refine ⟨k.1, ?_⟩
        replace k := k.2
        refine ⟨k.1, ?_⟩
        replace k := k.2
        refine itm k (fun k => ?_) (fun k => ?_)
        · exact k
        · refine ⟨k.1, ?_⟩
          replace k := k.2
          refine ⟨k.1, ?_⟩
          replace k := k.2
          exact k
  · exact m _ _ _ k
def D190_worth (x : Int32) (y : Int32) (z : Int32) (A I : HA) (Q : Int32 → HA → HA → Prop) : Prop := (∀ P1 : Int32 → Int32 → HA → HA → Prop, (∀ (a2 : Int32) (a3 : Int32) (A6 I7 : HA), (if a3 < x then vp_in a3 61 ∧ (if (A6 1701 a3.toNatClampNeg) < (nI 800) then if (A6 1701 a3.toNatClampNeg) < (nI 3) then if (A6 1701 a3.toNatClampNeg) = (nI 1) then vp_in a2 130 ∧ (P1 (a2 + nI 1) (a3 + nI 1) (sA A6 1700 a2.toNatClampNeg y) I7) else vp_in a2 130 ∧ (P1 (a2 + nI 1) (a3 + nI 1) (sA A6 1700 a2.toNatClampNeg z) I7) else if (A6 1701 a3.toNatClampNeg) = (nI 11) then vp_in (a2 - (nI 1)) 130 ∧ (D179_reckon (A6 1701 a3.toNatClampNeg) (A6 1700 (a2 - (nI 1)).toNatClampNeg) (nI 0) (fun v12 => vp_in (a2 - (nI 1)) 130 ∧ (P1 a2 (a3 + nI 1) (sA A6 1700 (a2 - (nI 1)).toNatClampNeg v12) I7))) else if (A6 1701 a3.toNatClampNeg) = (nI 29) then vp_in (a2 - (nI 1)) 130 ∧ (D179_reckon (A6 1701 a3.toNatClampNeg) (A6 1700 (a2 - (nI 1)).toNatClampNeg) (nI 0) (fun v45 => vp_in (a2 - (nI 1)) 130 ∧ (P1 a2 (a3 + nI 1) (sA A6 1700 (a2 - (nI 1)).toNatClampNeg v45) I7))) else if (A6 1701 a3.toNatClampNeg) = (nI 9) then vp_in (a2 + (-1)) 130 ∧ (if (A6 1700 (a2 + (-1)).toNatClampNeg) = 0 then if (I7 1681 34) = 0 then vp_in ((a2 + (-1)) - (nI 1)) 130 ∧ (P1 (a2 + (-1)) (a3 + nI 1) (sA A6 1700 ((a2 + (-1)) - (nI 1)).toNatClampNeg (nI 0)) (sI I7 1681 34 (nI 1))) else vp_in ((a2 + (-1)) - (nI 1)) 130 ∧ (P1 (a2 + (-1)) (a3 + nI 1) (sA A6 1700 ((a2 + (-1)) - (nI 1)).toNatClampNeg (nI 0)) (sI I7 1681 34 (nI 1))) else if (I7 1681 34) = 0 then vp_in ((a2 + (-1)) - (nI 1)) 130 ∧ (vp_in (a2 + (-1)) 130 ∧ (D179_reckon (A6 1701 a3.toNatClampNeg) (A6 1700 ((a2 + (-1)) - (nI 1)).toNatClampNeg) (A6 1700 (a2 + (-1)).toNatClampNeg) (fun v21 => vp_in ((a2 + (-1)) - (nI 1)) 130 ∧ (P1 (a2 + (-1)) (a3 + nI 1) (sA A6 1700 ((a2 + (-1)) - (nI 1)).toNatClampNeg v21) (sI I7 1681 34 (nI 0)))))) else vp_in ((a2 + (-1)) - (nI 1)) 130 ∧ (vp_in (a2 + (-1)) 130 ∧ (D179_reckon (A6 1701 a3.toNatClampNeg) (A6 1700 ((a2 + (-1)) - (nI 1)).toNatClampNeg) (A6 1700 (a2 + (-1)).toNatClampNeg) (fun v17 => vp_in ((a2 + (-1)) - (nI 1)) 130 ∧ (P1 (a2 + (-1)) (a3 + nI 1) (sA A6 1700 ((a2 + (-1)) - (nI 1)).toNatClampNeg v17) (sI I7 1681 34 (nI 1))))))) else if (A6 1701 a3.toNatClampNeg) = (nI 10) then vp_in (a2 + (-1)) 130 ∧ (if (A6 1700 (a2 + (-1)).toNatClampNeg) = 0 then if (I7 1681 34) = 0 then vp_in ((a2 + (-1)) - (nI 1)) 130 ∧ (P1 (a2 + (-1)) (a3 + nI 1) (sA A6 1700 ((a2 + (-1)) - (nI 1)).toNatClampNeg (nI 0)) (sI I7 1681 34 (nI 1))) else vp_in ((a2 + (-1)) - (nI 1)) 130 ∧ (P1 (a2 + (-1)) (a3 + nI 1) (sA A6 1700 ((a2 + (-1)) - (nI 1)).toNatClampNeg (nI 0)) (sI I7 1681 34 (nI 1))) else if (I7 1681 34) = 0 then vp_in ((a2 + (-1)) - (nI 1)) 130 ∧ (vp_in (a2 + (-1)) 130 ∧ (D179_reckon (A6 1701 a3.toNatClampNeg) (A6 1700 ((a2 + (-1)) - (nI 1)).toNatClampNeg) (A6 1700 (a2 + (-1)).toNatClampNeg) (fun v40 => vp_in ((a2 + (-1)) - (nI 1)) 130 ∧ (P1 (a2 + (-1)) (a3 + nI 1) (sA A6 1700 ((a2 + (-1)) - (nI 1)).toNatClampNeg v40) (sI I7 1681 34 (nI 0)))))) else vp_in ((a2 + (-1)) - (nI 1)) 130 ∧ (vp_in (a2 + (-1)) 130 ∧ (D179_reckon (A6 1701 a3.toNatClampNeg) (A6 1700 ((a2 + (-1)) - (nI 1)).toNatClampNeg) (A6 1700 (a2 + (-1)).toNatClampNeg) (fun v36 => vp_in ((a2 + (-1)) - (nI 1)) 130 ∧ (P1 (a2 + (-1)) (a3 + nI 1) (sA A6 1700 ((a2 + (-1)) - (nI 1)).toNatClampNeg v36) (sI I7 1681 34 (nI 1))))))) else if (I7 1681 34) = 0 then vp_in ((a2 + (-1)) - (nI 1)) 130 ∧ (vp_in (a2 + (-1)) 130 ∧ (D179_reckon (A6 1701 a3.toNatClampNeg) (A6 1700 ((a2 + (-1)) - (nI 1)).toNatClampNeg) (A6 1700 (a2 + (-1)).toNatClampNeg) (fun v31 => vp_in ((a2 + (-1)) - (nI 1)) 130 ∧ (P1 (a2 + (-1)) (a3 + nI 1) (sA A6 1700 ((a2 + (-1)) - (nI 1)).toNatClampNeg v31) (sI I7 1681 34 (nI 0)))))) else vp_in ((a2 + (-1)) - (nI 1)) 130 ∧ (vp_in (a2 + (-1)) 130 ∧ (D179_reckon (A6 1701 a3.toNatClampNeg) (A6 1700 ((a2 + (-1)) - (nI 1)).toNatClampNeg) (A6 1700 (a2 + (-1)).toNatClampNeg) (fun v27 => vp_in ((a2 + (-1)) - (nI 1)) 130 ∧ (P1 (a2 + (-1)) (a3 + nI 1) (sA A6 1700 ((a2 + (-1)) - (nI 1)).toNatClampNeg v27) (sI I7 1681 34 (nI 1)))))) else vp_in a2 130 ∧ (P1 (a2 + nI 1) (a3 + nI 1) (sA A6 1700 a2.toNatClampNeg ((A6 1701 a3.toNatClampNeg) - (nI 1000))) I7)) else vp_in (nI 0) 130 ∧ (Q (A6 1700 (nI 0).toNatClampNeg) A6 I7)) → P1 a2 a3 A6 I7) → P1 (nI 0) (nI 0) A (sI I 1681 34 (nI 0)))
theorem D190_worth_mono {x : Int32} {y : Int32} {z : Int32} {A I : HA} {Q Q' : Int32 → HA → HA → Prop} (k : D190_worth x y z A I Q) (m : ∀ v A I, Q v A I → Q' v A I) : D190_worth x y z A I Q' := by
  unfold D190_worth at k ⊢
  intro P hP
  refine k P (fun a0 a1 a2 a3 k => hP a0 a1 a2 a3 ?_)
  refine itm k (fun k => ?_) (fun k => ?_)
  · refine ⟨k.1, ?_⟩
    replace k := k.2
    refine itm k (fun k => ?_) (fun k => ?_)
    · refine itm k (fun k => ?_) (fun k => ?_)
      · refine itm k (fun k => ?_) (fun k => ?_)
        · refine ⟨k.1, ?_⟩
          replace k := k.2
          exact k
        · refine ⟨k.1, ?_⟩
          replace k := k.2
          exact k
      · refine itm k (fun k => ?_) (fun k => ?_)
        · refine ⟨k.1, ?_⟩
          replace k := k.2
          refine D179_reckon_mono k (fun _ k => ?_)
          refine ⟨k.1, ?_⟩
          replace k := k.2
          exact k
        · refine itm k (fun k => ?_) (fun k => ?_)
          · refine ⟨k.1, ?_⟩
            replace k := k.2
            refine D179_reckon_mono k (fun _ k => ?_)
            refine ⟨k.1, ?_⟩
            replace k := k.2
            exact k
          · refine itm k (fun k => ?_) (fun k => ?_)
            · refine ⟨k.1, ?_⟩
              replace k := k.2
              refine itm k (fun k => ?_) (fun k => ?_)
              · refine itm k (fun k => ?_) (fun k => ?_)
                · refine ⟨k.1, ?_⟩
                  replace k := k.2
                  exact k
                · refine ⟨k.1, ?_⟩
                  replace k := k.2
                  exact k
              · refine itm k (fun k => ?_) (fun k => ?_)
                · refine ⟨k.1, ?_⟩
                  replace k := k.2
                  refine ⟨k.1, ?_⟩
                  replace k := k.2
                  refine D179_reckon_mono k (fun _ k => ?_)
                  refine ⟨k.1, ?_⟩
                  replace k := k.2
                  exact k
                · refine ⟨k.1, ?_⟩
                  replace k := k.2
                  refine ⟨k.1, ?_⟩
                  replace k := k.2
                  refine D179_reckon_mono k (fun _ k => ?_)
                  refine ⟨k.1, ?_⟩
                  replace k := k.2
                  exact k
            · refine itm k (fun k => ?_) (fun k => ?_)
              · refine ⟨k.1, ?_⟩
                replace k := k.2
                refine itm k (fun k => ?_) (fun k => ?_)
                · refine itm k (fun k => ?_) (fun k => ?_)
                  · refine ⟨k.1, ?_⟩
                    replace k := k.2
                    exact k
                  · refine ⟨k.1, ?_⟩
                    replace k := k.2
                    exact k
                · refine itm k (fun k => ?_) (fun k => ?_)
                  · refine ⟨k.1, ?_⟩
                    replace k := k.2
                    refine ⟨k.1, ?_⟩
                    replace k := k.2
                    refine D179_reckon_mono k (fun _ k => ?_)
                    refine ⟨k.1, ?_⟩
                    replace k := k.2
                    exact k
                  · refine ⟨k.1, ?_⟩
                    replace k := k.2
                    refine ⟨k.1, ?_⟩
                    replace k := k.2
                    refine D179_reckon_mono k (fun _ k => ?_)
                    refine ⟨k.1, ?_⟩
                    replace k := k.2
                    exact k
              · refine itm k (fun k => ?_) (fun k => ?_)
                · refine ⟨k.1, ?_⟩
                  replace k := k.2
                  refine ⟨k.1, ?_⟩
                  replace k := k.2
                  refine D179_reckon_mono k (fun _ k => ?_)
                  refine ⟨k.1, ?_⟩
                  replace k := k.2
                  exact k
                · refine ⟨k.1, ?_⟩
                  replace k := k.2
                  refine ⟨k.1, ?_⟩
                  replace k := k.2
                  refine D179_reckon_mono k (fun _ k => ?_)
                  refine ⟨k.1, ?_⟩
                  replace k := k.2
                  exact k
    · refine ⟨k.1, ?_⟩
      replace k := k.2
      exact k
  · refine ⟨k.1, ?_⟩
    replace k := k.2
    exact m _ _ _ k
def D188_choose (x : Int32) (y : Int32) (A I : HA) (Q : HA → HA → Prop) : Prop := D189_spell (I 1681 38) A I (fun v1 A2 I3 => (∀ P4 : Int32 → HA → HA → Prop, (∀ (a5 : Int32) (A9 I10 : HA), (if a5 < (nI 1024) then vp_in (((nI 1024) * x) + a5) 174080 ∧ (if (A9 1689 (((nI 1024) * x) + a5).toNatClampNeg) = (-1) then D190_worth v1 ((a5 / (nI 32)) - (nI 16)) ((a5 - a5 / (nI 32) * (nI 32)) - (nI 16)) A9 I10 (fun v125 A126 I127 => vp_in a5 1024 ∧ (P4 (a5 + nI 1) (sA A126 1703 a5.toNatClampNeg v125) I127)) else P4 (a5 + nI 1) A9 I10) else if y = (nI 18) then D189_spell (I10 1681 39) A9 I10 (fun v12 A13 I14 => (∀ P15 : Int32 → HA → HA → Prop, (∀ (a16 : Int32) (A20 I21 : HA), (if a16 < (nI 1024) then vp_in (((nI 1024) * x) + a16) 174080 ∧ (if (A20 1689 (((nI 1024) * x) + a16).toNatClampNeg) = (-1) then vp_in a16 1024 ∧ (if v12 = 0 then if y = (nI 18) then if (A20 1703 a16.toNatClampNeg) < (nI 0) then vp_in a16 1024 ∧ (P15 (a16 + nI 1) (sA A20 1702 a16.toNatClampNeg (nI 0)) I21) else vp_in a16 1024 ∧ (P15 (a16 + nI 1) (sA A20 1702 a16.toNatClampNeg (nI 1)) I21) else if y = (nI 19) then if (A20 1703 a16.toNatClampNeg) = (nI 0) then vp_in a16 1024 ∧ (P15 (a16 + nI 1) (sA A20 1702 a16.toNatClampNeg (nI 0)) I21) else vp_in a16 1024 ∧ (P15 (a16 + nI 1) (sA A20 1702 a16.toNatClampNeg (nI 1)) I21) else if y = (nI 9) then if (A20 1703 a16.toNatClampNeg) = 0 then vp_in a16 1024 ∧ (P15 (a16 + nI 1) (sA A20 1702 a16.toNatClampNeg (nI 1)) I21) else vp_in a16 1024 ∧ (P15 (a16 + nI 1) (sA A20 1702 a16.toNatClampNeg (nI 0)) I21) else if y = (nI 10) then if (A20 1703 a16.toNatClampNeg) = 0 then vp_in a16 1024 ∧ (P15 (a16 + nI 1) (sA A20 1702 a16.toNatClampNeg (nI 1)) I21) else vp_in a16 1024 ∧ (P15 (a16 + nI 1) (sA A20 1702 a16.toNatClampNeg (nI 0)) I21) else if y = (nI 21) then if (A20 1703 a16.toNatClampNeg) < 0 then vp_in a16 1024 ∧ (P15 (a16 + nI 1) (sA A20 1702 a16.toNatClampNeg (nI 6)) I21) else if (nI 5) < (A20 1703 a16.toNatClampNeg) then vp_in a16 1024 ∧ (P15 (a16 + nI 1) (sA A20 1702 a16.toNatClampNeg (nI 7)) I21) else vp_in a16 1024 ∧ (P15 (a16 + nI 1) (sA A20 1702 a16.toNatClampNeg (A20 1703 a16.toNatClampNeg)) I21) else if (A20 1703 a16.toNatClampNeg) < 0 then vp_in a16 1024 ∧ (P15 (a16 + nI 1) (sA A20 1702 a16.toNatClampNeg (I21 1681 39)) I21) else if (A20 1703 a16.toNatClampNeg) < (I21 1681 39) then vp_in a16 1024 ∧ (P15 (a16 + nI 1) (sA A20 1702 a16.toNatClampNeg (A20 1703 a16.toNatClampNeg)) I21) else vp_in a16 1024 ∧ (P15 (a16 + nI 1) (sA A20 1702 a16.toNatClampNeg (I21 1681 39)) I21) else D190_worth v12 ((a16 / (nI 32)) - (nI 16)) ((a16 - a16 / (nI 32) * (nI 32)) - (nI 16)) A20 I21 (fun v25 A26 I27 => if y = (nI 18) then if (A20 1703 a16.toNatClampNeg) < v25 then vp_in a16 1024 ∧ (P15 (a16 + nI 1) (sA A26 1702 a16.toNatClampNeg (nI 0)) I27) else vp_in a16 1024 ∧ (P15 (a16 + nI 1) (sA A26 1702 a16.toNatClampNeg (nI 1)) I27) else if y = (nI 19) then if (A20 1703 a16.toNatClampNeg) = v25 then vp_in a16 1024 ∧ (P15 (a16 + nI 1) (sA A26 1702 a16.toNatClampNeg (nI 0)) I27) else vp_in a16 1024 ∧ (P15 (a16 + nI 1) (sA A26 1702 a16.toNatClampNeg (nI 1)) I27) else if y = (nI 9) then if (A20 1703 a16.toNatClampNeg) = 0 then vp_in a16 1024 ∧ (P15 (a16 + nI 1) (sA A26 1702 a16.toNatClampNeg (nI 1)) I27) else vp_in a16 1024 ∧ (P15 (a16 + nI 1) (sA A26 1702 a16.toNatClampNeg (nI 0)) I27) else if y = (nI 10) then if (A20 1703 a16.toNatClampNeg) = 0 then vp_in a16 1024 ∧ (P15 (a16 + nI 1) (sA A26 1702 a16.toNatClampNeg (nI 1)) I27) else vp_in a16 1024 ∧ (P15 (a16 + nI 1) (sA A26 1702 a16.toNatClampNeg (nI 0)) I27) else if y = (nI 21) then if (A20 1703 a16.toNatClampNeg) < 0 then vp_in a16 1024 ∧ (P15 (a16 + nI 1) (sA A26 1702 a16.toNatClampNeg (nI 6)) I27) else if (nI 5) < (A20 1703 a16.toNatClampNeg) then vp_in a16 1024 ∧ (P15 (a16 + nI 1) (sA A26 1702 a16.toNatClampNeg (nI 7)) I27) else vp_in a16 1024 ∧ (P15 (a16 + nI 1) (sA A26 1702 a16.toNatClampNeg (A20 1703 a16.toNatClampNeg)) I27) else if (A20 1703 a16.toNatClampNeg) < 0 then vp_in a16 1024 ∧ (P15 (a16 + nI 1) (sA A26 1702 a16.toNatClampNeg (I27 1681 39)) I27) else if (A20 1703 a16.toNatClampNeg) < (I27 1681 39) then vp_in a16 1024 ∧ (P15 (a16 + nI 1) (sA A26 1702 a16.toNatClampNeg (A20 1703 a16.toNatClampNeg)) I27) else vp_in a16 1024 ∧ (P15 (a16 + nI 1) (sA A26 1702 a16.toNatClampNeg (I27 1681 39)) I27))) else P15 (a16 + nI 1) A20 I21) else Q A20 I21) → P15 a16 A20 I21) → P15 (nI 0) A13 I14)) else if y = (nI 19) then D189_spell (I10 1681 39) A9 I10 (fun v80 A81 I82 => (∀ P83 : Int32 → HA → HA → Prop, (∀ (a84 : Int32) (A88 I89 : HA), (if a84 < (nI 1024) then vp_in (((nI 1024) * x) + a84) 174080 ∧ (if (A88 1689 (((nI 1024) * x) + a84).toNatClampNeg) = (-1) then vp_in a84 1024 ∧ (if v80 = 0 then if y = (nI 18) then if (A88 1703 a84.toNatClampNeg) < (nI 0) then vp_in a84 1024 ∧ (P83 (a84 + nI 1) (sA A88 1702 a84.toNatClampNeg (nI 0)) I89) else vp_in a84 1024 ∧ (P83 (a84 + nI 1) (sA A88 1702 a84.toNatClampNeg (nI 1)) I89) else if y = (nI 19) then if (A88 1703 a84.toNatClampNeg) = (nI 0) then vp_in a84 1024 ∧ (P83 (a84 + nI 1) (sA A88 1702 a84.toNatClampNeg (nI 0)) I89) else vp_in a84 1024 ∧ (P83 (a84 + nI 1) (sA A88 1702 a84.toNatClampNeg (nI 1)) I89) else if y = (nI 9) then if (A88 1703 a84.toNatClampNeg) = 0 then vp_in a84 1024 ∧ (P83 (a84 + nI 1) (sA A88 1702 a84.toNatClampNeg (nI 1)) I89) else vp_in a84 1024 ∧ (P83 (a84 + nI 1) (sA A88 1702 a84.toNatClampNeg (nI 0)) I89) else if y = (nI 10) then if (A88 1703 a84.toNatClampNeg) = 0 then vp_in a84 1024 ∧ (P83 (a84 + nI 1) (sA A88 1702 a84.toNatClampNeg (nI 1)) I89) else vp_in a84 1024 ∧ (P83 (a84 + nI 1) (sA A88 1702 a84.toNatClampNeg (nI 0)) I89) else if y = (nI 21) then if (A88 1703 a84.toNatClampNeg) < 0 then vp_in a84 1024 ∧ (P83 (a84 + nI 1) (sA A88 1702 a84.toNatClampNeg (nI 6)) I89) else if (nI 5) < (A88 1703 a84.toNatClampNeg) then vp_in a84 1024 ∧ (P83 (a84 + nI 1) (sA A88 1702 a84.toNatClampNeg (nI 7)) I89) else vp_in a84 1024 ∧ (P83 (a84 + nI 1) (sA A88 1702 a84.toNatClampNeg (A88 1703 a84.toNatClampNeg)) I89) else if (A88 1703 a84.toNatClampNeg) < 0 then vp_in a84 1024 ∧ (P83 (a84 + nI 1) (sA A88 1702 a84.toNatClampNeg (I89 1681 39)) I89) else if (A88 1703 a84.toNatClampNeg) < (I89 1681 39) then vp_in a84 1024 ∧ (P83 (a84 + nI 1) (sA A88 1702 a84.toNatClampNeg (A88 1703 a84.toNatClampNeg)) I89) else vp_in a84 1024 ∧ (P83 (a84 + nI 1) (sA A88 1702 a84.toNatClampNeg (I89 1681 39)) I89) else D190_worth v80 ((a84 / (nI 32)) - (nI 16)) ((a84 - a84 / (nI 32) * (nI 32)) - (nI 16)) A88 I89 (fun v93 A94 I95 => if y = (nI 18) then if (A88 1703 a84.toNatClampNeg) < v93 then vp_in a84 1024 ∧ (P83 (a84 + nI 1) (sA A94 1702 a84.toNatClampNeg (nI 0)) I95) else vp_in a84 1024 ∧ (P83 (a84 + nI 1) (sA A94 1702 a84.toNatClampNeg (nI 1)) I95) else if y = (nI 19) then if (A88 1703 a84.toNatClampNeg) = v93 then vp_in a84 1024 ∧ (P83 (a84 + nI 1) (sA A94 1702 a84.toNatClampNeg (nI 0)) I95) else vp_in a84 1024 ∧ (P83 (a84 + nI 1) (sA A94 1702 a84.toNatClampNeg (nI 1)) I95) else if y = (nI 9) then if (A88 1703 a84.toNatClampNeg) = 0 then vp_in a84 1024 ∧ (P83 (a84 + nI 1) (sA A94 1702 a84.toNatClampNeg (nI 1)) I95) else vp_in a84 1024 ∧ (P83 (a84 + nI 1) (sA A94 1702 a84.toNatClampNeg (nI 0)) I95) else if y = (nI 10) then if (A88 1703 a84.toNatClampNeg) = 0 then vp_in a84 1024 ∧ (P83 (a84 + nI 1) (sA A94 1702 a84.toNatClampNeg (nI 1)) I95) else vp_in a84 1024 ∧ (P83 (a84 + nI 1) (sA A94 1702 a84.toNatClampNeg (nI 0)) I95) else if y = (nI 21) then if (A88 1703 a84.toNatClampNeg) < 0 then vp_in a84 1024 ∧ (P83 (a84 + nI 1) (sA A94 1702 a84.toNatClampNeg (nI 6)) I95) else if (nI 5) < (A88 1703 a84.toNatClampNeg) then vp_in a84 1024 ∧ (P83 (a84 + nI 1) (sA A94 1702 a84.toNatClampNeg (nI 7)) I95) else vp_in a84 1024 ∧ (P83 (a84 + nI 1) (sA A94 1702 a84.toNatClampNeg (A88 1703 a84.toNatClampNeg)) I95) else if (A88 1703 a84.toNatClampNeg) < 0 then vp_in a84 1024 ∧ (P83 (a84 + nI 1) (sA A94 1702 a84.toNatClampNeg (I95 1681 39)) I95) else if (A88 1703 a84.toNatClampNeg) < (I95 1681 39) then vp_in a84 1024 ∧ (P83 (a84 + nI 1) (sA A94 1702 a84.toNatClampNeg (A88 1703 a84.toNatClampNeg)) I95) else vp_in a84 1024 ∧ (P83 (a84 + nI 1) (sA A94 1702 a84.toNatClampNeg (I95 1681 39)) I95))) else P83 (a84 + nI 1) A88 I89) else Q A88 I89) → P83 a84 A88 I89) → P83 (nI 0) A81 I82)) else (∀ P56 : Int32 → HA → HA → Prop, (∀ (a57 : Int32) (A61 I62 : HA), (if a57 < (nI 1024) then vp_in (((nI 1024) * x) + a57) 174080 ∧ (if (A61 1689 (((nI 1024) * x) + a57).toNatClampNeg) = (-1) then vp_in a57 1024 ∧ (if y = (nI 18) then if (A61 1703 a57.toNatClampNeg) < (nI 0) then vp_in a57 1024 ∧ (P56 (a57 + nI 1) (sA A61 1702 a57.toNatClampNeg (nI 0)) I62) else vp_in a57 1024 ∧ (P56 (a57 + nI 1) (sA A61 1702 a57.toNatClampNeg (nI 1)) I62) else if y = (nI 19) then if (A61 1703 a57.toNatClampNeg) = (nI 0) then vp_in a57 1024 ∧ (P56 (a57 + nI 1) (sA A61 1702 a57.toNatClampNeg (nI 0)) I62) else vp_in a57 1024 ∧ (P56 (a57 + nI 1) (sA A61 1702 a57.toNatClampNeg (nI 1)) I62) else if y = (nI 9) then if (A61 1703 a57.toNatClampNeg) = 0 then vp_in a57 1024 ∧ (P56 (a57 + nI 1) (sA A61 1702 a57.toNatClampNeg (nI 1)) I62) else vp_in a57 1024 ∧ (P56 (a57 + nI 1) (sA A61 1702 a57.toNatClampNeg (nI 0)) I62) else if y = (nI 10) then if (A61 1703 a57.toNatClampNeg) = 0 then vp_in a57 1024 ∧ (P56 (a57 + nI 1) (sA A61 1702 a57.toNatClampNeg (nI 1)) I62) else vp_in a57 1024 ∧ (P56 (a57 + nI 1) (sA A61 1702 a57.toNatClampNeg (nI 0)) I62) else if y = (nI 21) then if (A61 1703 a57.toNatClampNeg) < 0 then vp_in a57 1024 ∧ (P56 (a57 + nI 1) (sA A61 1702 a57.toNatClampNeg (nI 6)) I62) else if (nI 5) < (A61 1703 a57.toNatClampNeg) then vp_in a57 1024 ∧ (P56 (a57 + nI 1) (sA A61 1702 a57.toNatClampNeg (nI 7)) I62) else vp_in a57 1024 ∧ (P56 (a57 + nI 1) (sA A61 1702 a57.toNatClampNeg (A61 1703 a57.toNatClampNeg)) I62) else if (A61 1703 a57.toNatClampNeg) < 0 then vp_in a57 1024 ∧ (P56 (a57 + nI 1) (sA A61 1702 a57.toNatClampNeg (I62 1681 39)) I62) else if (A61 1703 a57.toNatClampNeg) < (I62 1681 39) then vp_in a57 1024 ∧ (P56 (a57 + nI 1) (sA A61 1702 a57.toNatClampNeg (A61 1703 a57.toNatClampNeg)) I62) else vp_in a57 1024 ∧ (P56 (a57 + nI 1) (sA A61 1702 a57.toNatClampNeg (I62 1681 39)) I62)) else P56 (a57 + nI 1) A61 I62) else Q A61 I62) → P56 a57 A61 I62) → P56 (nI 0) A9 I10)) → P4 a5 A9 I10) → P4 (nI 0) A2 I3))
theorem D188_choose_mono {x : Int32} {y : Int32} {A I : HA} {Q Q' : HA → HA → Prop} (k : D188_choose x y A I Q) (m : ∀ A I, Q A I → Q' A I) : D188_choose x y A I Q' := by
  unfold D188_choose at k ⊢
  refine D189_spell_mono k (fun _ _ _ k => ?_)
  intro P hP
  refine k P (fun a0 a1 a2 k => hP a0 a1 a2 ?_)
  refine itm k (fun k => ?_) (fun k => ?_)
  · refine ⟨k.1, ?_⟩
    replace k := k.2
    refine itm k (fun k => ?_) (fun k => ?_)
    · refine D190_worth_mono k (fun _ _ _ k => ?_)
      refine ⟨k.1, ?_⟩
      replace k := k.2
      exact k
    · exact k
  · refine itm k (fun k => ?_) (fun k => ?_)
    · refine D189_spell_mono k (fun _ _ _ k => ?_)
      intro P hP
      refine k P (fun a0 a1 a2 k => hP a0 a1 a2 ?_)
      refine itm k (fun k => ?_) (fun k => ?_)
      · refine ⟨k.1, ?_⟩
        replace k := k.2
        refine itm k (fun k => ?_) (fun k => ?_)
        · refine ⟨k.1, ?_⟩
          replace k := k.2
          refine itm k (fun k => ?_) (fun k => ?_)
          · refine itm k (fun k => ?_) (fun k => ?_)
            · refine itm k (fun k => ?_) (fun k => ?_)
              · refine ⟨k.1, ?_⟩
                replace k := k.2
                exact k
              · refine ⟨k.1, ?_⟩
                replace k := k.2
                exact k
            · refine itm k (fun k => ?_) (fun k => ?_)
              · refine itm k (fun k => ?_) (fun k => ?_)
                · refine ⟨k.1, ?_⟩
                  replace k := k.2
                  exact k
                · refine ⟨k.1, ?_⟩
                  replace k := k.2
                  exact k
              · refine itm k (fun k => ?_) (fun k => ?_)
                · refine itm k (fun k => ?_) (fun k => ?_)
                  · refine ⟨k.1, ?_⟩
                    replace k := k.2
                    exact k
                  · refine ⟨k.1, ?_⟩
                    replace k := k.2
                    exact k
                · refine itm k (fun k => ?_) (fun k => ?_)
                  · refine itm k (fun k => ?_) (fun k => ?_)
                    · refine ⟨k.1, ?_⟩
                      replace k := k.2
                      exact k
                    · refine ⟨k.1, ?_⟩
                      replace k := k.2
                      exact k
                  · refine itm k (fun k => ?_) (fun k => ?_)
                    · refine itm k (fun k => ?_) (fun k => ?_)
                      · refine ⟨k.1, ?_⟩
                        replace k := k.2
                        exact k
                      · refine itm k (fun k => ?_) (fun k => ?_)
                        · refine ⟨k.1, ?_⟩
                          replace k := k.2
                          exact k
                        · refine ⟨k.1, ?_⟩
                          replace k := k.2
                          exact k
                    · refine itm k (fun k => ?_) (fun k => ?_)
                      · refine ⟨k.1, ?_⟩
                        replace k := k.2
                        exact k
                      · refine itm k (fun k => ?_) (fun k => ?_)
                        · refine ⟨k.1, ?_⟩
                          replace k := k.2
                          exact k
                        · refine ⟨k.1, ?_⟩
                          replace k := k.2
                          exact k
          · refine D190_worth_mono k (fun _ _ _ k => ?_)
            refine itm k (fun k => ?_) (fun k => ?_)
            · refine itm k (fun k => ?_) (fun k => ?_)
              · refine ⟨k.1, ?_⟩
                replace k := k.2
                exact k
              · refine ⟨k.1, ?_⟩
                replace k := k.2
                exact k
            · refine itm k (fun k => ?_) (fun k => ?_)
              · refine itm k (fun k => ?_) (fun k => ?_)
                · refine ⟨k.1, ?_⟩
                  replace k := k.2
                  exact k
                · refine ⟨k.1, ?_⟩
                  replace k := k.2
                  exact k
              · refine itm k (fun k => ?_) (fun k => ?_)
                · refine itm k (fun k => ?_) (fun k => ?_)
                  · refine ⟨k.1, ?_⟩
                    replace k := k.2
                    exact k
                  · refine ⟨k.1, ?_⟩
                    replace k := k.2
                    exact k
                · refine itm k (fun k => ?_) (fun k => ?_)
                  · refine itm k (fun k => ?_) (fun k => ?_)
                    · refine ⟨k.1, ?_⟩
                      replace k := k.2
                      exact k
                    · refine ⟨k.1, ?_⟩
                      replace k := k.2
                      exact k
                  · refine itm k (fun k => ?_) (fun k => ?_)
                    · refine itm k (fun k => ?_) (fun k => ?_)
                      · refine ⟨k.1, ?_⟩
                        replace k := k.2
                        exact k
                      · refine itm k (fun k => ?_) (fun k => ?_)
                        · refine ⟨k.1, ?_⟩
                          replace k := k.2
                          exact k
                        · refine ⟨k.1, ?_⟩
                          replace k := k.2
                          exact k
                    · refine itm k (fun k => ?_) (fun k => ?_)
                      · refine ⟨k.1, ?_⟩
                        replace k := k.2
                        exact k
                      · refine itm k (fun k => ?_) (fun k => ?_)
                        · refine ⟨k.1, ?_⟩
                          replace k := k.2
                          exact k
                        · refine ⟨k.1, ?_⟩
                          replace k := k.2
                          exact k
        · exact k
      · exact m _ _ k
    · refine itm k (fun k => ?_) (fun k => ?_)
      · refine D189_spell_mono k (fun _ _ _ k => ?_)
        intro P hP
        refine k P (fun a0 a1 a2 k => hP a0 a1 a2 ?_)
        refine itm k (fun k => ?_) (fun k => ?_)
        · refine ⟨k.1, ?_⟩
          replace k := k.2
          refine itm k (fun k => ?_) (fun k => ?_)
          · refine ⟨k.1, ?_⟩
            replace k := k.2
            refine itm k (fun k => ?_) (fun k => ?_)
            · refine itm k (fun k => ?_) (fun k => ?_)
              · refine itm k (fun k => ?_) (fun k => ?_)
                · refine ⟨k.1, ?_⟩
                  replace k := k.2
                  exact k
                · refine ⟨k.1, ?_⟩
                  replace k := k.2
                  exact k
              · refine itm k (fun k => ?_) (fun k => ?_)
                · refine itm k (fun k => ?_) (fun k => ?_)
                  · refine ⟨k.1, ?_⟩
                    replace k := k.2
                    exact k
                  · refine ⟨k.1, ?_⟩
                    replace k := k.2
                    exact k
                · refine itm k (fun k => ?_) (fun k => ?_)
                  · refine itm k (fun k => ?_) (fun k => ?_)
                    · refine ⟨k.1, ?_⟩
                      replace k := k.2
                      exact k
                    · refine ⟨k.1, ?_⟩
                      replace k := k.2
                      exact k
                  · refine itm k (fun k => ?_) (fun k => ?_)
                    · refine itm k (fun k => ?_) (fun k => ?_)
                      · refine ⟨k.1, ?_⟩
                        replace k := k.2
                        exact k
                      · refine ⟨k.1, ?_⟩
                        replace k := k.2
                        exact k
                    · refine itm k (fun k => ?_) (fun k => ?_)
                      · refine itm k (fun k => ?_) (fun k => ?_)
                        · refine ⟨k.1, ?_⟩
                          replace k := k.2
                          exact k
                        · refine itm k (fun k => ?_) (fun k => ?_)
                          · refine ⟨k.1, ?_⟩
                            replace k := k.2
                            exact k
                          · refine ⟨k.1, ?_⟩
                            replace k := k.2
                            exact k
                      · refine itm k (fun k => ?_) (fun k => ?_)
                        · refine ⟨k.1, ?_⟩
                          replace k := k.2
                          exact k
                        · refine itm k (fun k => ?_) (fun k => ?_)
                          · refine ⟨k.1, ?_⟩
                            replace k := k.2
                            exact k
                          · refine ⟨k.1, ?_⟩
                            replace k := k.2
                            exact k
            · refine D190_worth_mono k (fun _ _ _ k => ?_)
              refine itm k (fun k => ?_) (fun k => ?_)
              · refine itm k (fun k => ?_) (fun k => ?_)
                · refine ⟨k.1, ?_⟩
                  replace k := k.2
                  exact k
                · refine ⟨k.1, ?_⟩
                  replace k := k.2
                  exact k
              · refine itm k (fun k => ?_) (fun k => ?_)
                · refine itm k (fun k => ?_) (fun k => ?_)
                  · refine ⟨k.1, ?_⟩
                    replace k := k.2
                    exact k
                  · refine ⟨k.1, ?_⟩
                    replace k := k.2
                    exact k
                · refine itm k (fun k => ?_) (fun k => ?_)
                  · refine itm k (fun k => ?_) (fun k => ?_)
                    · refine ⟨k.1, ?_⟩
                      replace k := k.2
                      exact k
                    · refine ⟨k.1, ?_⟩
                      replace k := k.2
                      exact k
                  · refine itm k (fun k => ?_) (fun k => ?_)
                    · refine itm k (fun k => ?_) (fun k => ?_)
                      · refine ⟨k.1, ?_⟩
                        replace k := k.2
                        exact k
                      · refine ⟨k.1, ?_⟩
                        replace k := k.2
                        exact k
                    · refine itm k (fun k => ?_) (fun k => ?_)
                      · refine itm k (fun k => ?_) (fun k => ?_)
                        · refine ⟨k.1, ?_⟩
                          replace k := k.2
                          exact k
                        · refine itm k (fun k => ?_) (fun k => ?_)
                          · refine ⟨k.1, ?_⟩
                            replace k := k.2
                            exact k
                          · refine ⟨k.1, ?_⟩
                            replace k := k.2
                            exact k
                      · refine itm k (fun k => ?_) (fun k => ?_)
                        · refine ⟨k.1, ?_⟩
                          replace k := k.2
                          exact k
                        · refine itm k (fun k => ?_) (fun k => ?_)
                          · refine ⟨k.1, ?_⟩
                            replace k := k.2
                            exact k
                          · refine ⟨k.1, ?_⟩
                            replace k := k.2
                            exact k
          · exact k
        · exact m _ _ k
      · intro P hP
        refine k P (fun a0 a1 a2 k => hP a0 a1 a2 ?_)
        refine itm k (fun k => ?_) (fun k => ?_)
        · refine ⟨k.1, ?_⟩
          replace k := k.2
          refine itm k (fun k => ?_) (fun k => ?_)
          · refine ⟨k.1, ?_⟩
            replace k := k.2
            refine itm k (fun k => ?_) (fun k => ?_)
            · refine itm k (fun k => ?_) (fun k => ?_)
              · refine ⟨k.1, ?_⟩
                replace k := k.2
                exact k
              · refine ⟨k.1, ?_⟩
                replace k := k.2
                exact k
            · refine itm k (fun k => ?_) (fun k => ?_)
              · refine itm k (fun k => ?_) (fun k => ?_)
                · refine ⟨k.1, ?_⟩
                  replace k := k.2
                  exact k
                · refine ⟨k.1, ?_⟩
                  replace k := k.2
                  exact k
              · refine itm k (fun k => ?_) (fun k => ?_)
                · refine itm k (fun k => ?_) (fun k => ?_)
                  · refine ⟨k.1, ?_⟩
                    replace k := k.2
                    exact k
                  · refine ⟨k.1, ?_⟩
                    replace k := k.2
                    exact k
                · refine itm k (fun k => ?_) (fun k => ?_)
                  · refine itm k (fun k => ?_) (fun k => ?_)
                    · refine ⟨k.1, ?_⟩
                      replace k := k.2
                      exact k
                    · refine ⟨k.1, ?_⟩
                      replace k := k.2
                      exact k
                  · refine itm k (fun k => ?_) (fun k => ?_)
                    · refine itm k (fun k => ?_) (fun k => ?_)
                      · refine ⟨k.1, ?_⟩
                        replace k := k.2
                        exact k
                      · refine itm k (fun k => ?_) (fun k => ?_)
                        · refine ⟨k.1, ?_⟩
                          replace k := k.2
                          exact k
                        · refine ⟨k.1, ?_⟩
                          replace k := k.2
                          exact k
                    · refine itm k (fun k => ?_) (fun k => ?_)
                      · refine ⟨k.1, ?_⟩
                        replace k := k.2
                        exact k
                      · refine itm k (fun k => ?_) (fun k => ?_)
                        · refine ⟨k.1, ?_⟩
                          replace k := k.2
                          exact k
                        · refine ⟨k.1, ?_⟩
                          replace k := k.2
                          exact k
          · exact k
        · exact m _ _ k
def D191_prune (x : Int32) (y : Int32) (A I : HA) (Q : HA → HA → Prop) : Prop := vp_in ((I 1681 26) - (I 1681 26) / (nI 30) * (nI 30)) 30 ∧ (vp_in ((I 1681 26) - (I 1681 26) / (nI 30) * (nI 30)) 30 ∧ (Q (sA (sA A 1697 ((I 1681 26) - (I 1681 26) / (nI 30) * (nI 30)).toNatClampNeg x) 1698 ((I 1681 26) - (I 1681 26) / (nI 30) * (nI 30)).toNatClampNeg y) (sI I 1681 26 ((I 1681 26) + (nI 1)))))
theorem D191_prune_mono {x : Int32} {y : Int32} {A I : HA} {Q Q' : HA → HA → Prop} (k : D191_prune x y A I Q) (m : ∀ A I, Q A I → Q' A I) : D191_prune x y A I Q' := by
  unfold D191_prune at k ⊢
  refine ⟨k.1, ?_⟩
  replace k := k.2
  refine ⟨k.1, ?_⟩
  replace k := k.2
  exact m _ _ k
def D192_copyWay (x : Int32) (y : Int32) (A I : HA) (Q : HA → HA → Prop) : Prop := (∀ P1 : Int32 → HA → HA → Prop, (∀ (a2 : Int32) (A3 I4 : HA), (if a2 < (nI 520) then vp_in (((nI 520) * x) + a2) 88400 ∧ (vp_in (((nI 520) * y) + a2) 88400 ∧ (P1 (a2 + nI 1) (sA A3 1688 (((nI 520) * y) + a2).toNatClampNeg (A3 1688 (((nI 520) * x) + a2).toNatClampNeg)) I4)) else (∀ P6 : Int32 → HA → HA → Prop, (∀ (a7 : Int32) (A8 I9 : HA), (if a7 < (nI 1024) then vp_in (((nI 1024) * x) + a7) 174080 ∧ (vp_in (((nI 1024) * y) + a7) 174080 ∧ (P6 (a7 + nI 1) (sA A8 1689 (((nI 1024) * y) + a7).toNatClampNeg (vp_nar (bm_ty 1) (A8 1689 (((nI 1024) * x) + a7).toNatClampNeg))) I9)) else Q A8 I9) → P6 a7 A8 I9) → P6 (nI 0) A3 I4)) → P1 a2 A3 I4) → P1 (nI 0) A I)
theorem D192_copyWay_mono {x : Int32} {y : Int32} {A I : HA} {Q Q' : HA → HA → Prop} (k : D192_copyWay x y A I Q) (m : ∀ A I, Q A I → Q' A I) : D192_copyWay x y A I Q' := by
  unfold D192_copyWay at k ⊢
  intro P hP
  refine k P (fun a0 a1 a2 k => hP a0 a1 a2 ?_)
  refine itm k (fun k => ?_) (fun k => ?_)
  · refine ⟨k.1, ?_⟩
    replace k := k.2
    refine ⟨k.1, ?_⟩
    replace k := k.2
    exact k
  · intro P hP
    refine k P (fun a0 a1 a2 k => hP a0 a1 a2 ?_)
    refine itm k (fun k => ?_) (fun k => ?_)
    · refine ⟨k.1, ?_⟩
      replace k := k.2
      refine ⟨k.1, ?_⟩
      replace k := k.2
      exact k
    · exact m _ _ k
def D187_divide (x : Int32) (A I : HA) (Q : HA → HA → Prop) : Prop := D158_frame A (sI I 1681 35 ((nI 520) * x)) (fun A1 I2 => D166_place A1 I2 (fun v3 => vp_in ((I2 1681 36) + (nI 0)) 88400 ∧ (vp_in ((I2 1681 36) + (nI 1)) 88400 ∧ (vp_in (((nI 40) * (A1 1688 ((I2 1681 36) + (nI 0)).toNatClampNeg)) + (A1 1688 ((I2 1681 36) + (nI 1)).toNatClampNeg)) 240 ∧ (D188_choose x (A1 1684 (((nI 40) * (A1 1688 ((I2 1681 36) + (nI 0)).toNatClampNeg)) + (A1 1688 ((I2 1681 36) + (nI 1)).toNatClampNeg)).toNatClampNeg) A1 I2 (fun A7 I8 => vp_in (((sI I8 1681 22 ((I8 1681 22) + (nI 1))) 1681 35) + (nI 2)) 88400 ∧ ((∀ P10 : Int32 → HA → HA → Prop, (∀ (a11 : Int32) (A16 I17 : HA), (if a11 < (I2 1681 37) then (∀ P20 : Int32 → Int32 → Prop, (∀ (a21 : Int32) (a22 : Int32), (if a22 < (nI 1024) then if a21 = 0 then vp_in (((nI 1024) * x) + a22) 174080 ∧ (if (A16 1689 (((nI 1024) * x) + a22).toNatClampNeg) = (-1) then vp_in a22 1024 ∧ (if (A16 1702 a22.toNatClampNeg) = a11 then P20 (nI 1) (a22 + nI 1) else P20 (nI 0) (a22 + nI 1)) else P20 (nI 0) (a22 + nI 1)) else P20 (nI 1) (a22 + nI 1) else if a21 = 0 then D191_prune v3 a11 A16 I17 (fun A47 I48 => P10 (a11 + nI 1) A47 I48) else if (I17 1681 21) = (nI 60) then P10 (a11 + nI 1) A16 (sI I17 1681 25 ((I17 1681 25) + (nI 1))) else D155_slot A16 I17 (fun v26 A27 I28 => D192_copyWay x v26 A27 I28 (fun A29 I30 => vp_in ((((nI 520) * v26) + (nI 114)) + ((nI 2) * (A7 1688 (((sI I8 1681 22 ((I8 1681 22) + (nI 1))) 1681 35) + (nI 2)).toNatClampNeg))) 88400 ∧ (vp_in (((((nI 520) * v26) + (nI 114)) + ((nI 2) * (A7 1688 (((sI I8 1681 22 ((I8 1681 22) + (nI 1))) 1681 35) + (nI 2)).toNatClampNeg))) + (nI 1)) 88400 ∧ (vp_in (((nI 520) * v26) + (nI 2)) 88400 ∧ (vp_in (((nI 520) * v26) + (nI 3)) 88400 ∧ (vp_in (((nI 520) * v26) + (nI 4)) 88400 ∧ ((∀ P36 : Int32 → HA → HA → Prop, (∀ (a37 : Int32) (A40 I41 : HA), (if a37 < (nI 1024) then vp_in (((nI 1024) * x) + a37) 174080 ∧ (if (A40 1689 (((nI 1024) * x) + a37).toNatClampNeg) = (-1) then vp_in a37 1024 ∧ (if (A40 1702 a37.toNatClampNeg) = a11 then P36 (a37 + nI 1) A40 I41 else vp_in (((nI 1024) * v26) + a37) 174080 ∧ (P36 (a37 + nI 1) (sA A40 1689 (((nI 1024) * v26) + a37).toNatClampNeg (vp_nar (bm_ty 1) (Int8.toInt32 (Int32.toInt8 (A7 1688 (((sI I8 1681 22 ((I8 1681 22) + (nI 1))) 1681 35) + (nI 2)).toNatClampNeg))))) I41)) else P36 (a37 + nI 1) A40 I41) else vp_in (I41 1681 21) 60 ∧ (P10 (a11 + nI 1) (sA A40 1695 (I41 1681 21).toNatClampNeg v26) (sI I41 1681 21 ((I41 1681 21) + (nI 1))))) → P36 a37 A40 I41) → P36 (nI 0) (sA (sA (sA (sA (sA A29 1688 ((((nI 520) * v26) + (nI 114)) + ((nI 2) * (A7 1688 (((sI I8 1681 22 ((I8 1681 22) + (nI 1))) 1681 35) + (nI 2)).toNatClampNeg))).toNatClampNeg v3) 1688 (((((nI 520) * v26) + (nI 114)) + ((nI 2) * (A7 1688 (((sI I8 1681 22 ((I8 1681 22) + (nI 1))) 1681 35) + (nI 2)).toNatClampNeg))) + (nI 1)).toNatClampNeg a11) 1688 (((nI 520) * v26) + (nI 2)).toNatClampNeg ((A7 1688 (((sI I8 1681 22 ((I8 1681 22) + (nI 1))) 1681 35) + (nI 2)).toNatClampNeg) + (nI 1))) 1688 (((nI 520) * v26) + (nI 3)).toNatClampNeg a11) 1688 (((nI 520) * v26) + (nI 4)).toNatClampNeg (I30 1681 22)) I30))))))))) → P20 a21 a22) → P20 (nI 0) (nI 0)) else vp_in x 170 ∧ (Q (sA A16 1690 x.toNatClampNeg (vp_nar (bm_ty 2) (nI 0))) I17)) → P10 a11 A16 I17) → P10 (nI 0) A7 (sI I8 1681 22 ((I8 1681 22) + (nI 1)))))))))))
theorem D187_divide_mono {x : Int32} {A I : HA} {Q Q' : HA → HA → Prop} (k : D187_divide x A I Q) (m : ∀ A I, Q A I → Q' A I) : D187_divide x A I Q' := by
  unfold D187_divide at k ⊢
  refine D158_frame_mono k (fun _ _ k => ?_)
  refine D166_place_mono k (fun _ k => ?_)
  refine ⟨k.1, ?_⟩
  replace k := k.2
  refine ⟨k.1, ?_⟩
  replace k := k.2
  refine ⟨k.1, ?_⟩
  replace k := k.2
  refine D188_choose_mono k (fun _ _ k => ?_)
  refine ⟨k.1, ?_⟩
  replace k := k.2
  intro P hP
  refine k P (fun a0 a1 a2 k => hP a0 a1 a2 ?_)
  refine itm k (fun k => ?_) (fun k => ?_)
  · intro P hP
    refine k P (fun a0 a1 k => hP a0 a1 ?_)
    refine itm k (fun k => ?_) (fun k => ?_)
    · refine itm k (fun k => ?_) (fun k => ?_)
      · refine ⟨k.1, ?_⟩
        replace k := k.2
        refine itm k (fun k => ?_) (fun k => ?_)
        · refine ⟨k.1, ?_⟩
          replace k := k.2
          refine itm k (fun k => ?_) (fun k => ?_)
          · exact k
          · exact k
        · exact k
      · exact k
    · refine itm k (fun k => ?_) (fun k => ?_)
      · refine D191_prune_mono k (fun _ _ k => ?_)
        exact k
      · refine itm k (fun k => ?_) (fun k => ?_)
        · exact k
        · refine D155_slot_mono k (fun _ _ _ k => ?_)
          refine D192_copyWay_mono k (fun _ _ k => ?_)
          refine ⟨k.1, ?_⟩
          replace k := k.2
          refine ⟨k.1, ?_⟩
          replace k := k.2
          refine ⟨k.1, ?_⟩
          replace k := k.2
          refine ⟨k.1, ?_⟩
          replace k := k.2
          refine ⟨k.1, ?_⟩
          replace k := k.2
          intro P hP
          refine k P (fun a0 a1 a2 k => hP a0 a1 a2 ?_)
          refine itm k (fun k => ?_) (fun k => ?_)
          · refine ⟨k.1, ?_⟩
            replace k := k.2
            refine itm k (fun k => ?_) (fun k => ?_)
            · refine ⟨k.1, ?_⟩
              replace k := k.2
              refine itm k (fun k => ?_) (fun k => ?_)
              · exact k
              · refine ⟨k.1, ?_⟩
                replace k := k.2
                exact k
            · exact k
          · refine ⟨k.1, ?_⟩
            replace k := k.2
            exact k
  · refine ⟨k.1, ?_⟩
    replace k := k.2
    exact m _ _ k
def D159_goTill (x : Int32) (A I : HA) (Q : HA → HA → Prop) : Prop := (∀ P1 : HA → HA → Prop, (∀  (A5 I6 : HA), (if 0 < (I6 1681 21) then if (I6 1681 24) < x then D160_pick A5 I6 (fun v8 A9 I10 => vp_in v8 60 ∧ ((∀ P12 : Int32 → HA → HA → Prop, (∀ (a13 : Int32) (A15 I16 : HA), (if a13 < (I16 1681 21) then vp_in (a13 + (nI 1)) 60 ∧ (vp_in a13 60 ∧ (P12 (a13 + nI 1) (sA A15 1695 a13.toNatClampNeg (A15 1695 (a13 + (nI 1)).toNatClampNeg)) I16)) else D162_goOn A15 (sI I16 1681 35 ((nI 520) * (A9 1695 v8.toNatClampNeg))) (fun v18 A19 I20 => if v18 = (nI 2) then D187_divide (A9 1695 v8.toNatClampNeg) A19 I20 (fun A22 I23 => P1  A22 I23) else vp_in (I20 1681 24) 100 ∧ (P1  (sA A19 1696 (I20 1681 24).toNatClampNeg (A9 1695 v8.toNatClampNeg)) (sI I20 1681 24 ((I20 1681 24) + (nI 1)))))) → P12 a13 A15 I16) → P12 v8 A9 (sI I10 1681 21 ((I10 1681 21) - (nI 1)))))) else Q A5 (sI I6 1681 31 (nI 0)) else Q A5 (sI I6 1681 31 (nI 0))) → P1 A5 I6) → P1  A (sI I 1681 31 (nI 1)))
theorem D159_goTill_mono {x : Int32} {A I : HA} {Q Q' : HA → HA → Prop} (k : D159_goTill x A I Q) (m : ∀ A I, Q A I → Q' A I) : D159_goTill x A I Q' := by
  unfold D159_goTill at k ⊢
  intro P hP
  refine k P (fun a0 a1 k => hP a0 a1 ?_)
  refine itm k (fun k => ?_) (fun k => ?_)
  · refine itm k (fun k => ?_) (fun k => ?_)
    · refine D160_pick_mono k (fun _ _ _ k => ?_)
      refine ⟨k.1, ?_⟩
      replace k := k.2
      intro P hP
      refine k P (fun a0 a1 a2 k => hP a0 a1 a2 ?_)
      refine itm k (fun k => ?_) (fun k => ?_)
      · refine ⟨k.1, ?_⟩
        replace k := k.2
        refine ⟨k.1, ?_⟩
        replace k := k.2
        exact k
      · refine D162_goOn_mono k (fun _ _ _ k => ?_)
        refine itm k (fun k => ?_) (fun k => ?_)
        · refine D187_divide_mono k (fun _ _ k => ?_)
          exact k
        · refine ⟨k.1, ?_⟩
          replace k := k.2
          exact k
    · exact m _ _ k
  · exact m _ _ k
def D154_search (x : Int32) (y : Int32) (z : Int32) (u1 : Int32) (A I : HA) (Q : Int32 → HA → HA → Prop) : Prop := D149_isIn x (nI 0) ((I 1681 1) - (nI 1)) (fun v1 => if v1 = 0 then Q (-2) A I else vp_in x 6 ∧ (if (A 1682 x.toNatClampNeg) = (nI 2) then D149_isIn y (nI 1) (nI 200) (fun v3 => if v3 = 0 then Q (-2) A I else D149_isIn z (nI 0) (nI 3) (fun v4 => if v4 = 0 then Q (-2) A I else D149_isIn u1 (nI 1) (nI 100) (fun v5 => if v5 = 0 then Q (-2) A I else (∀ P6 : Int32 → HA → HA → Prop, (∀ (a7 : Int32) (A11 I12 : HA), (if a7 < (nI 170) then vp_in a7 170 ∧ (P6 (a7 + nI 1) (sA A11 1690 a7.toNatClampNeg (vp_nar (bm_ty 2) (nI 0))) I12) else (∀ P14 : Int32 → HA → HA → Prop, (∀ (a15 : Int32) (A19 I20 : HA), (if a15 < (nI 240) then vp_in a15 240 ∧ (P14 (a15 + nI 1) (sA A19 1699 a15.toNatClampNeg (nI 0)) I20) else D155_slot A19 (sI (sI (sI (sI (sI I20 1681 30 (nI 0)) 1681 24 (nI 0)) 1681 25 (nI 0)) 1681 26 (nI 0)) 1681 22 (nI 0)) (fun v22 A23 I24 => D156_begin x (nI 256) (nI 257) A23 (sI I24 1681 35 ((nI 520) * v22)) (fun A25 I26 => (∀ P27 : Int32 → HA → HA → Prop, (∀ (a28 : Int32) (A32 I33 : HA), (if a28 < (nI 1024) then vp_in (((nI 1024) * v22) + a28) 174080 ∧ (P27 (a28 + nI 1) (sA A32 1689 (((nI 1024) * v22) + a28).toNatClampNeg (vp_nar (bm_ty 1) (-1))) I33) else vp_in (nI 0) 60 ∧ (D159_goTill u1 (sA A32 1695 (nI 0).toNatClampNeg v22) (sI I33 1681 21 (nI 1)) (fun A36 I37 => Q (I37 1681 24) A36 I37))) → P27 a28 A32 I33) → P27 (nI 0) A25 I26)))) → P14 a15 A19 I20) → P14 (nI 0) A11 I12)) → P6 a7 A11 I12) → P6 (nI 0) A (sI (sI (sI (sI (sI I 1681 16 (nI 1)) 1681 18 y) 1681 17 z) 1681 19 ((sI (sI (sI I 1681 16 (nI 1)) 1681 18 y) 1681 17 z) 1681 0)) 1681 15 (nI 258)))))) else Q (-2) A I))
theorem D154_search_mono {x : Int32} {y : Int32} {z : Int32} {u1 : Int32} {A I : HA} {Q Q' : Int32 → HA → HA → Prop} (k : D154_search x y z u1 A I Q) (m : ∀ v A I, Q v A I → Q' v A I) : D154_search x y z u1 A I Q' := by
  unfold D154_search at k ⊢
  refine D149_isIn_mono k (fun _ k => ?_)
  refine itm k (fun k => ?_) (fun k => ?_)
  · exact m _ _ _ k
  · refine ⟨k.1, ?_⟩
    replace k := k.2
    refine itm k (fun k => ?_) (fun k => ?_)
    · refine D149_isIn_mono k (fun _ k => ?_)
      refine itm k (fun k => ?_) (fun k => ?_)
      · exact m _ _ _ k
      · refine D149_isIn_mono k (fun _ k => ?_)
        refine itm k (fun k => ?_) (fun k => ?_)
        · exact m _ _ _ k
        · refine D149_isIn_mono k (fun _ k => ?_)
          refine itm k (fun k => ?_) (fun k => ?_)
          · exact m _ _ _ k
          · intro P hP
            refine k P (fun a0 a1 a2 k => hP a0 a1 a2 ?_)
            refine itm k (fun k => ?_) (fun k => ?_)
            · refine ⟨k.1, ?_⟩
              replace k := k.2
              exact k
            · intro P hP
              refine k P (fun a0 a1 a2 k => hP a0 a1 a2 ?_)
              refine itm k (fun k => ?_) (fun k => ?_)
              · refine ⟨k.1, ?_⟩
                replace k := k.2
                exact k
              · refine D155_slot_mono k (fun _ _ _ k => ?_)
                refine D156_begin_mono k (fun _ _ k => ?_)
                intro P hP
                refine k P (fun a0 a1 a2 k => hP a0 a1 a2 ?_)
                refine itm k (fun k => ?_) (fun k => ?_)
                · refine ⟨k.1, ?_⟩
                  replace k := k.2
                  exact k
                · refine ⟨k.1, ?_⟩
                  replace k := k.2
                  refine D159_goTill_mono k (fun _ _ k => ?_)
                  exact m _ _ _ k
    · exact m _ _ _ k
def D193_more (x : Int32) (A I : HA) (Q : Int32 → HA → HA → Prop) : Prop := if (I 1681 16) = 0 then Q (-3) A I else if x < (nI 1) then Q (-2) A I else if ((nI 100) - (I 1681 24)) < x then D159_goTill (nI 100) A I (fun A3 I4 => Q (I4 1681 24) A3 I4) else D159_goTill ((I 1681 24) + x) A I (fun A1 I2 => Q (I2 1681 24) A1 I2)
theorem D193_more_mono {x : Int32} {A I : HA} {Q Q' : Int32 → HA → HA → Prop} (k : D193_more x A I Q) (m : ∀ v A I, Q v A I → Q' v A I) : D193_more x A I Q' := by
  unfold D193_more at k ⊢
  refine itm k (fun k => ?_) (fun k => ?_)
  · exact m _ _ _ k
  · refine itm k (fun k => ?_) (fun k => ?_)
    · exact m _ _ _ k
    · refine itm k (fun k => ?_) (fun k => ?_)
      · refine D159_goTill_mono k (fun _ _ k => ?_)
        exact m _ _ _ k
      · refine D159_goTill_mono k (fun _ _ k => ?_)
        exact m _ _ _ k
def D194_told (x : Int32) (A I : HA) (Q : Int32 → Prop) : Prop := if (I 1681 16) = 0 then Q (-3) else if x = nI 0 then Q (I 1681 21) else if x = nI 1 then Q (I 1681 25) else if x = nI 2 then Q (I 1681 26) else if x = nI 3 then Q (I 1681 30) else if x = nI 4 then Q (I 1681 24) else Q (-2)
theorem D194_told_mono {x : Int32} {A I : HA} {Q Q' : Int32 → Prop} (k : D194_told x A I Q) (m : ∀ v, Q v → Q' v) : D194_told x A I Q' := by
  unfold D194_told at k ⊢
  refine itm k (fun k => ?_) (fun k => ?_)
  · exact m _ k
  · refine itm k (fun k => ?_) (fun k => ?_)
    · exact m _ k
    · refine itm k (fun k => ?_) (fun k => ?_)
      · exact m _ k
      · refine itm k (fun k => ?_) (fun k => ?_)
        · exact m _ k
        · refine itm k (fun k => ?_) (fun k => ?_)
          · exact m _ k
          · refine itm k (fun k => ?_) (fun k => ?_)
            · exact m _ k
            · exact m _ k
def D196_isPath (x : Int32) (A I : HA) (Q : Int32 → Prop) : Prop := D149_isIn x (nI 0) ((I 1681 24) - (nI 1)) (fun v1 => narrow .boolean (.int v1) = .int v1 ∧ Q v1)
theorem D196_isPath_mono {x : Int32} {A I : HA} {Q Q' : Int32 → Prop} (k : D196_isPath x A I Q) (m : ∀ v, Q v → Q' v) : D196_isPath x A I Q' := by
  unfold D196_isPath at k ⊢
  refine D149_isIn_mono k (fun _ k => ?_)
  refine ⟨k.1, ?_⟩
  replace k := k.2
  exact m _ k
def D197_countInputs (x : Int32) (A I : HA) (Q : Int32 → Prop) : Prop := (∀ P1 : Int32 → Int32 → Prop, (∀ (a2 : Int32) (a3 : Int32), (if a3 < (nI 1024) then vp_in (((nI 1024) * x) + a3) 174080 ∧ (if (A 1689 (((nI 1024) * x) + a3).toNatClampNeg) = (-1) then P1 (a2 + (nI 1)) (a3 + nI 1) else P1 (a2 + (nI 0)) (a3 + nI 1)) else Q a2) → P1 a2 a3) → P1 (nI 0) (nI 0))
theorem D197_countInputs_mono {x : Int32} {A I : HA} {Q Q' : Int32 → Prop} (k : D197_countInputs x A I Q) (m : ∀ v, Q v → Q' v) : D197_countInputs x A I Q' := by
  unfold D197_countInputs at k ⊢
  intro P hP
  refine k P (fun a0 a1 k => hP a0 a1 ?_)
  refine itm k (fun k => ?_) (fun k => ?_)
  · refine ⟨k.1, ?_⟩
    replace k := k.2
    refine itm k (fun k => ?_) (fun k => ?_)
    · exact k
    · exact k
  · exact m _ k
def D195_path (x : Int32) (y : Int32) (A I : HA) (Q : Int32 → Prop) : Prop := if (I 1681 16) = 0 then Q (-3) else D149_isIn y (nI 0) (nI 6) (fun v1 => if v1 = 0 then Q (-2) else D196_isPath x A I (fun v2 => if v2 = 0 then Q (-1) else vp_in x 100 ∧ (if y = nI 0 then vp_in (((nI 520) * (A 1696 x.toNatClampNeg)) + (nI 514)) 88400 ∧ (Q (A 1688 (((nI 520) * (A 1696 x.toNatClampNeg)) + (nI 514)).toNatClampNeg)) else if y = nI 1 then vp_in (((nI 520) * (A 1696 x.toNatClampNeg)) + (nI 515)) 88400 ∧ (Q (A 1688 (((nI 520) * (A 1696 x.toNatClampNeg)) + (nI 515)).toNatClampNeg)) else if y = nI 2 then vp_in (((nI 520) * (A 1696 x.toNatClampNeg)) + (nI 516)) 88400 ∧ (Q (A 1688 (((nI 520) * (A 1696 x.toNatClampNeg)) + (nI 516)).toNatClampNeg)) else if y = nI 3 then vp_in (((nI 520) * (A 1696 x.toNatClampNeg)) + (nI 1)) 88400 ∧ (Q (A 1688 (((nI 520) * (A 1696 x.toNatClampNeg)) + (nI 1)).toNatClampNeg)) else if y = nI 4 then vp_in (((nI 520) * (A 1696 x.toNatClampNeg)) + (nI 2)) 88400 ∧ (Q (A 1688 (((nI 520) * (A 1696 x.toNatClampNeg)) + (nI 2)).toNatClampNeg)) else if y = nI 5 then vp_in x 100 ∧ (D197_countInputs (A 1696 x.toNatClampNeg) A I (fun v10 => Q v10)) else vp_in (((nI 520) * (A 1696 x.toNatClampNeg)) + (nI 514)) 88400 ∧ (if (A 1688 (((nI 520) * (A 1696 x.toNatClampNeg)) + (nI 514)).toNatClampNeg) = (nI 1) then vp_in (((nI 520) * (A 1696 x.toNatClampNeg)) + (nI 517)) 88400 ∧ (vp_in (A 1688 (((nI 520) * (A 1696 x.toNatClampNeg)) + (nI 517)).toNatClampNeg) 45000 ∧ (Q (A 1694 (A 1688 (((nI 520) * (A 1696 x.toNatClampNeg)) + (nI 517)).toNatClampNeg).toNatClampNeg))) else Q (nI 0)))))
theorem D195_path_mono {x : Int32} {y : Int32} {A I : HA} {Q Q' : Int32 → Prop} (k : D195_path x y A I Q) (m : ∀ v, Q v → Q' v) : D195_path x y A I Q' := by
  unfold D195_path at k ⊢
  refine itm k (fun k => ?_) (fun k => ?_)
  · exact m _ k
  · refine D149_isIn_mono k (fun _ k => ?_)
    refine itm k (fun k => ?_) (fun k => ?_)
    · exact m _ k
    · refine D196_isPath_mono k (fun _ k => ?_)
      refine itm k (fun k => ?_) (fun k => ?_)
      · exact m _ k
      · refine ⟨k.1, ?_⟩
        replace k := k.2
        refine itm k (fun k => ?_) (fun k => ?_)
        · refine ⟨k.1, ?_⟩
          replace k := k.2
          exact m _ k
        · refine itm k (fun k => ?_) (fun k => ?_)
          · refine ⟨k.1, ?_⟩
            replace k := k.2
            exact m _ k
          · refine itm k (fun k => ?_) (fun k => ?_)
            · refine ⟨k.1, ?_⟩
              replace k := k.2
              exact m _ k
            · refine itm k (fun k => ?_) (fun k => ?_)
              · refine ⟨k.1, ?_⟩
                replace k := k.2
                exact m _ k
              · refine itm k (fun k => ?_) (fun k => ?_)
                · refine ⟨k.1, ?_⟩
                  replace k := k.2
                  exact m _ k
                · refine itm k (fun k => ?_) (fun k => ?_)
                  · refine ⟨k.1, ?_⟩
                    replace k := k.2
                    refine D197_countInputs_mono k (fun _ k => ?_)
                    exact m _ k
                  · refine ⟨k.1, ?_⟩
                    replace k := k.2
                    refine itm k (fun k => ?_) (fun k => ?_)
                    · refine ⟨k.1, ?_⟩
                      replace k := k.2
                      refine ⟨k.1, ?_⟩
                      replace k := k.2
                      exact m _ k
                    · exact m _ k
def D198_condition (x : Int32) (y : Int32) (z : Int32) (A I : HA) (Q : Int32 → Prop) : Prop := if (I 1681 16) = 0 then Q (-3) else D149_isIn z (nI 0) (nI 1) (fun v1 => if v1 = 0 then Q (-2) else D196_isPath x A I (fun v2 => if v2 = 0 then Q (-1) else vp_in x 100 ∧ (vp_in (((nI 520) * (A 1696 x.toNatClampNeg)) + (nI 2)) 88400 ∧ (D149_isIn y (nI 0) ((A 1688 (((nI 520) * (A 1696 x.toNatClampNeg)) + (nI 2)).toNatClampNeg) - (nI 1)) (fun v5 => if v5 = 0 then Q (-1) else vp_in x 100 ∧ (vp_in (((((nI 520) * (A 1696 x.toNatClampNeg)) + (nI 114)) + ((nI 2) * y)) + z) 88400 ∧ (Q (A 1688 (((((nI 520) * (A 1696 x.toNatClampNeg)) + (nI 114)) + ((nI 2) * y)) + z).toNatClampNeg))))))))
theorem D198_condition_mono {x : Int32} {y : Int32} {z : Int32} {A I : HA} {Q Q' : Int32 → Prop} (k : D198_condition x y z A I Q) (m : ∀ v, Q v → Q' v) : D198_condition x y z A I Q' := by
  unfold D198_condition at k ⊢
  refine itm k (fun k => ?_) (fun k => ?_)
  · exact m _ k
  · refine D149_isIn_mono k (fun _ k => ?_)
    refine itm k (fun k => ?_) (fun k => ?_)
    · exact m _ k
    · refine D196_isPath_mono k (fun _ k => ?_)
      refine itm k (fun k => ?_) (fun k => ?_)
      · exact m _ k
      · refine ⟨k.1, ?_⟩
        replace k := k.2
        refine ⟨k.1, ?_⟩
        replace k := k.2
        refine D149_isIn_mono k (fun _ k => ?_)
        refine itm k (fun k => ?_) (fun k => ?_)
        · exact m _ k
        · refine ⟨k.1, ?_⟩
          replace k := k.2
          refine ⟨k.1, ?_⟩
          replace k := k.2
          exact m _ k
def D199_token (x : Int32) (y : Int32) (A I : HA) (Q : Int32 → HA → HA → Prop) : Prop := if (I 1681 16) = 0 then Q (-3) A I else D196_isPath x A I (fun v1 => if v1 = 0 then Q (-1) A I else vp_in x 100 ∧ (vp_in (((nI 520) * (A 1696 x.toNatClampNeg)) + (nI 514)) 88400 ∧ (if (A 1688 (((nI 520) * (A 1696 x.toNatClampNeg)) + (nI 514)).toNatClampNeg) = (nI 1) then vp_in x 100 ∧ (vp_in (((nI 520) * (A 1696 x.toNatClampNeg)) + (nI 517)) 88400 ∧ (D189_spell (A 1688 (((nI 520) * (A 1696 x.toNatClampNeg)) + (nI 517)).toNatClampNeg) A I (fun v6 A7 I8 => D149_isIn y (nI 0) (v6 - (nI 1)) (fun v9 => if v9 = 0 then Q (-1) A7 I8 else vp_in y 61 ∧ (Q (A7 1701 y.toNatClampNeg) A7 I8))))) else Q (-1) A I)))
theorem D199_token_mono {x : Int32} {y : Int32} {A I : HA} {Q Q' : Int32 → HA → HA → Prop} (k : D199_token x y A I Q) (m : ∀ v A I, Q v A I → Q' v A I) : D199_token x y A I Q' := by
  unfold D199_token at k ⊢
  refine itm k (fun k => ?_) (fun k => ?_)
  · exact m _ _ _ k
  · refine D196_isPath_mono k (fun _ k => ?_)
    refine itm k (fun k => ?_) (fun k => ?_)
    · exact m _ _ _ k
    · refine ⟨k.1, ?_⟩
      replace k := k.2
      refine ⟨k.1, ?_⟩
      replace k := k.2
      refine itm k (fun k => ?_) (fun k => ?_)
      · refine ⟨k.1, ?_⟩
        replace k := k.2
        refine ⟨k.1, ?_⟩
        replace k := k.2
        refine D189_spell_mono k (fun _ _ _ k => ?_)
        refine D149_isIn_mono k (fun _ k => ?_)
        refine itm k (fun k => ?_) (fun k => ?_)
        · exact m _ _ _ k
        · refine ⟨k.1, ?_⟩
          replace k := k.2
          exact m _ _ _ k
      · exact m _ _ _ k
def D201_isInput (x : Int32) (y : Int32) (Q : Int32 → Prop) : Prop := D149_isIn x (-16) (nI 15) (fun v1 => if v1 = 0 then Q (nI 0) else D149_isIn y (-16) (nI 15) (fun v2 => if v2 = 0 then Q (nI 0) else Q (nI 1)))
theorem D201_isInput_mono {x : Int32} {y : Int32} {Q Q' : Int32 → Prop} (k : D201_isInput x y Q) (m : ∀ v, Q v → Q' v) : D201_isInput x y Q' := by
  unfold D201_isInput at k ⊢
  refine D149_isIn_mono k (fun _ k => ?_)
  refine itm k (fun k => ?_) (fun k => ?_)
  · exact m _ k
  · refine D149_isIn_mono k (fun _ k => ?_)
    refine itm k (fun k => ?_) (fun k => ?_)
    · exact m _ k
    · exact m _ k
def D200_value (x : Int32) (y : Int32) (z : Int32) (A I : HA) (Q : Int32 → HA → HA → Prop) : Prop := if (I 1681 16) = 0 then Q (-3) A I else D201_isInput y z (fun v1 => if v1 = 0 then Q (-2) A I else D196_isPath x A I (fun v2 => if v2 = 0 then Q (-1) A I else vp_in x 100 ∧ (vp_in (((nI 520) * (A 1696 x.toNatClampNeg)) + (nI 514)) 88400 ∧ (if (A 1688 (((nI 520) * (A 1696 x.toNatClampNeg)) + (nI 514)).toNatClampNeg) = (nI 1) then vp_in x 100 ∧ (vp_in (((nI 520) * (A 1696 x.toNatClampNeg)) + (nI 517)) 88400 ∧ (D189_spell (A 1688 (((nI 520) * (A 1696 x.toNatClampNeg)) + (nI 517)).toNatClampNeg) A I (fun v7 A8 I9 => D190_worth v7 y z A8 I9 (fun v10 A11 I12 => if (I12 1681 34) = 0 then Q v10 A11 I12 else Q (-4) A11 I12)))) else Q (-1) A I))))
theorem D200_value_mono {x : Int32} {y : Int32} {z : Int32} {A I : HA} {Q Q' : Int32 → HA → HA → Prop} (k : D200_value x y z A I Q) (m : ∀ v A I, Q v A I → Q' v A I) : D200_value x y z A I Q' := by
  unfold D200_value at k ⊢
  refine itm k (fun k => ?_) (fun k => ?_)
  · exact m _ _ _ k
  · refine D201_isInput_mono k (fun _ k => ?_)
    refine itm k (fun k => ?_) (fun k => ?_)
    · exact m _ _ _ k
    · refine D196_isPath_mono k (fun _ k => ?_)
      refine itm k (fun k => ?_) (fun k => ?_)
      · exact m _ _ _ k
      · refine ⟨k.1, ?_⟩
        replace k := k.2
        refine ⟨k.1, ?_⟩
        replace k := k.2
        refine itm k (fun k => ?_) (fun k => ?_)
        · refine ⟨k.1, ?_⟩
          replace k := k.2
          refine ⟨k.1, ?_⟩
          replace k := k.2
          refine D189_spell_mono k (fun _ _ _ k => ?_)
          refine D190_worth_mono k (fun _ _ _ k => ?_)
          refine itm k (fun k => ?_) (fun k => ?_)
          · exact m _ _ _ k
          · exact m _ _ _ k
        · exact m _ _ _ k
def D202_along (x : Int32) (y : Int32) (A I : HA) (Q : Int32 → Prop) : Prop := if (I 1681 16) = 0 then Q (-3) else D201_isInput x y (fun v1 => if v1 = 0 then Q (-2) else (∀ P2 : Int32 → Prop, (∀ (a3 : Int32), (if a3 < (I 1681 24) then vp_in a3 100 ∧ (vp_in (((((nI 1024) * (A 1696 a3.toNatClampNeg)) + ((nI 32) * (x + (nI 16)))) + y) + (nI 16)) 174080 ∧ (if (A 1689 (((((nI 1024) * (A 1696 a3.toNatClampNeg)) + ((nI 32) * (x + (nI 16)))) + y) + (nI 16)).toNatClampNeg) = (-1) then Q a3 else P2 (a3 + nI 1))) else Q (-1)) → P2 a3) → P2 (nI 0)))
theorem D202_along_mono {x : Int32} {y : Int32} {A I : HA} {Q Q' : Int32 → Prop} (k : D202_along x y A I Q) (m : ∀ v, Q v → Q' v) : D202_along x y A I Q' := by
  unfold D202_along at k ⊢
  refine itm k (fun k => ?_) (fun k => ?_)
  · exact m _ k
  · refine D201_isInput_mono k (fun _ k => ?_)
    refine itm k (fun k => ?_) (fun k => ?_)
    · exact m _ k
    · intro P hP
      refine k P (fun a0 k => hP a0 ?_)
      refine itm k (fun k => ?_) (fun k => ?_)
      · refine ⟨k.1, ?_⟩
        replace k := k.2
        refine ⟨k.1, ?_⟩
        replace k := k.2
        refine itm k (fun k => ?_) (fun k => ?_)
        · exact m _ k
        · exact k
      · exact m _ k
def D203_input (x : Int32) (y : Int32) (A I : HA) (Q : Int32 → Prop) : Prop := if (I 1681 16) = 0 then Q (-3) else D196_isPath x A I (fun v1 => if v1 = 0 then Q (-1) else (∀ P2 : Int32 → Int32 → Prop, (∀ (a3 : Int32) (a4 : Int32), (if a4 < (nI 1024) then vp_in x 100 ∧ (vp_in (((nI 1024) * (A 1696 x.toNatClampNeg)) + a4) 174080 ∧ (if (A 1689 (((nI 1024) * (A 1696 x.toNatClampNeg)) + a4).toNatClampNeg) = (-1) then if a3 = y then Q a4 else P2 (a3 + nI 1) (a4 + nI 1) else P2 a3 (a4 + nI 1))) else Q (-1)) → P2 a3 a4) → P2 (nI 0) (nI 0)))
theorem D203_input_mono {x : Int32} {y : Int32} {A I : HA} {Q Q' : Int32 → Prop} (k : D203_input x y A I Q) (m : ∀ v, Q v → Q' v) : D203_input x y A I Q' := by
  unfold D203_input at k ⊢
  refine itm k (fun k => ?_) (fun k => ?_)
  · exact m _ k
  · refine D196_isPath_mono k (fun _ k => ?_)
    refine itm k (fun k => ?_) (fun k => ?_)
    · exact m _ k
    · intro P hP
      refine k P (fun a0 a1 k => hP a0 a1 ?_)
      refine itm k (fun k => ?_) (fun k => ?_)
      · refine ⟨k.1, ?_⟩
        replace k := k.2
        refine ⟨k.1, ?_⟩
        replace k := k.2
        refine itm k (fun k => ?_) (fun k => ?_)
        · refine itm k (fun k => ?_) (fun k => ?_)
          · exact m _ k
          · exact k
        · exact k
      · exact m _ k
def D204_flip (x : Int32) (y : Int32) (A I : HA) (Q : Int32 → Prop) : Prop := if (I 1681 16) = 0 then Q (-3) else D196_isPath x A I (fun v1 => if v1 = 0 then Q (-1) else vp_in x 100 ∧ (vp_in (((nI 520) * (A 1696 x.toNatClampNeg)) + (nI 2)) 88400 ∧ (D149_isIn y (nI 0) ((A 1688 (((nI 520) * (A 1696 x.toNatClampNeg)) + (nI 2)).toNatClampNeg) - (nI 1)) (fun v4 => if v4 = 0 then Q (-1) else (∀ P5 : Int32 → Prop, (∀ (a6 : Int32), (if a6 < (nI 1024) then vp_in x 100 ∧ (vp_in (((nI 1024) * (A 1696 x.toNatClampNeg)) + a6) 174080 ∧ (if (A 1689 (((nI 1024) * (A 1696 x.toNatClampNeg)) + a6).toNatClampNeg) = (-1) then P5 (a6 + nI 1) else if ((A 1689 (((nI 1024) * (A 1696 x.toNatClampNeg)) + a6).toNatClampNeg) &&& (nI 255)) = y then Q a6 else P5 (a6 + nI 1))) else Q (-1)) → P5 a6) → P5 (nI 0))))))
theorem D204_flip_mono {x : Int32} {y : Int32} {A I : HA} {Q Q' : Int32 → Prop} (k : D204_flip x y A I Q) (m : ∀ v, Q v → Q' v) : D204_flip x y A I Q' := by
  unfold D204_flip at k ⊢
  refine itm k (fun k => ?_) (fun k => ?_)
  · exact m _ k
  · refine D196_isPath_mono k (fun _ k => ?_)
    refine itm k (fun k => ?_) (fun k => ?_)
    · exact m _ k
    · refine ⟨k.1, ?_⟩
      replace k := k.2
      refine ⟨k.1, ?_⟩
      replace k := k.2
      refine D149_isIn_mono k (fun _ k => ?_)
      refine itm k (fun k => ?_) (fun k => ?_)
      · exact m _ k
      · intro P hP
        refine k P (fun a0 k => hP a0 ?_)
        refine itm k (fun k => ?_) (fun k => ?_)
        · refine ⟨k.1, ?_⟩
          replace k := k.2
          refine ⟨k.1, ?_⟩
          replace k := k.2
          refine itm k (fun k => ?_) (fun k => ?_)
          · exact k
          · refine itm k (fun k => ?_) (fun k => ?_)
            · exact m _ k
            · exact k
        · exact m _ k
def D205_pruned (x : Int32) (y : Int32) (A I : HA) (Q : Int32 → Prop) : Prop := if (I 1681 16) = 0 then Q (-3) else D149_isIn y (nI 0) (nI 1) (fun v1 => if v1 = 0 then Q (-2) else D149_isIn x (nI 0) (nI 29) (fun v2 => if v2 = 0 then Q (-1) else if x < (I 1681 26) then if y = 0 then vp_in ((((I 1681 26) - (nI 1)) - x) - (((I 1681 26) - (nI 1)) - x) / (nI 30) * (nI 30)) 30 ∧ (Q (A 1697 ((((I 1681 26) - (nI 1)) - x) - (((I 1681 26) - (nI 1)) - x) / (nI 30) * (nI 30)).toNatClampNeg)) else vp_in ((((I 1681 26) - (nI 1)) - x) - (((I 1681 26) - (nI 1)) - x) / (nI 30) * (nI 30)) 30 ∧ (Q (A 1698 ((((I 1681 26) - (nI 1)) - x) - (((I 1681 26) - (nI 1)) - x) / (nI 30) * (nI 30)).toNatClampNeg)) else Q (-1)))
theorem D205_pruned_mono {x : Int32} {y : Int32} {A I : HA} {Q Q' : Int32 → Prop} (k : D205_pruned x y A I Q) (m : ∀ v, Q v → Q' v) : D205_pruned x y A I Q' := by
  unfold D205_pruned at k ⊢
  refine itm k (fun k => ?_) (fun k => ?_)
  · exact m _ k
  · refine D149_isIn_mono k (fun _ k => ?_)
    refine itm k (fun k => ?_) (fun k => ?_)
    · exact m _ k
    · refine D149_isIn_mono k (fun _ k => ?_)
      refine itm k (fun k => ?_) (fun k => ?_)
      · exact m _ k
      · refine itm k (fun k => ?_) (fun k => ?_)
        · refine itm k (fun k => ?_) (fun k => ?_)
          · refine ⟨k.1, ?_⟩
            replace k := k.2
            exact m _ k
          · refine ⟨k.1, ?_⟩
            replace k := k.2
            exact m _ k
        · exact m _ k
def D206_times (x : Int32) (y : Int32) (A I : HA) (Q : Int32 → Prop) : Prop := if (I 1681 16) = 0 then Q (-3) else D149_isIn x (nI 0) ((I 1681 1) - (nI 1)) (fun v1 => if v1 = 0 then Q (-2) else vp_in x 6 ∧ (D149_isIn y (nI 0) ((A 1683 x.toNatClampNeg) - (nI 1)) (fun v3 => if v3 = 0 then Q (-2) else vp_in (((nI 40) * x) + y) 240 ∧ (Q (A 1699 (((nI 40) * x) + y).toNatClampNeg)))))
theorem D206_times_mono {x : Int32} {y : Int32} {A I : HA} {Q Q' : Int32 → Prop} (k : D206_times x y A I Q) (m : ∀ v, Q v → Q' v) : D206_times x y A I Q' := by
  unfold D206_times at k ⊢
  refine itm k (fun k => ?_) (fun k => ?_)
  · exact m _ k
  · refine D149_isIn_mono k (fun _ k => ?_)
    refine itm k (fun k => ?_) (fun k => ?_)
    · exact m _ k
    · refine ⟨k.1, ?_⟩
      replace k := k.2
      refine D149_isIn_mono k (fun _ k => ?_)
      refine itm k (fun k => ?_) (fun k => ?_)
      · exact m _ k
      · refine ⟨k.1, ?_⟩
        replace k := k.2
        exact m _ k
def D207_plain (x : Int32) (y : Int32) (z : Int32) (u1 : Int32) (u2 : Int32) (A I : HA) (Q : Int32 → HA → HA → Prop) : Prop := D149_isIn x (nI 0) ((I 1681 1) - (nI 1)) (fun v1 => if v1 = 0 then Q (-2) A I else vp_in x 6 ∧ (if (A 1682 x.toNatClampNeg) = (nI 2) then D149_isIn y (-128) (nI 127) (fun v3 => if v3 = 0 then Q (-2) A I else D149_isIn z (-128) (nI 127) (fun v4 => if v4 = 0 then Q (-2) A I else D149_isIn u1 (nI 1) (nI 200) (fun v5 => if v5 = 0 then Q (-2) A I else D149_isIn u2 (nI 0) (nI 3) (fun v6 => if v6 = 0 then Q (-2) A I else D155_slot A I (fun v7 A8 I9 => D168_node y (fun v10 => D168_node z (fun v11 => D156_begin x v10 v11 A8 (sI (sI I9 1681 18 u1) 1681 35 ((nI 520) * v7)) (fun A12 I13 => D162_goOn A12 I13 (fun v14 A15 I16 => vp_in v7 170 ∧ (if u2 = nI 0 then vp_in (((sI I16 1681 18 (I9 1681 18)) 1681 35) + (nI 514)) 88400 ∧ (Q ((sA A15 1690 v7.toNatClampNeg (vp_nar (bm_ty 2) (nI 0))) 1688 (((sI I16 1681 18 (I9 1681 18)) 1681 35) + (nI 514)).toNatClampNeg) (sA A15 1690 v7.toNatClampNeg (vp_nar (bm_ty 2) (nI 0))) (sI I16 1681 18 (I9 1681 18))) else if u2 = nI 1 then vp_in (((sI I16 1681 18 (I9 1681 18)) 1681 35) + (nI 515)) 88400 ∧ (Q ((sA A15 1690 v7.toNatClampNeg (vp_nar (bm_ty 2) (nI 0))) 1688 (((sI I16 1681 18 (I9 1681 18)) 1681 35) + (nI 515)).toNatClampNeg) (sA A15 1690 v7.toNatClampNeg (vp_nar (bm_ty 2) (nI 0))) (sI I16 1681 18 (I9 1681 18))) else if u2 = nI 2 then vp_in (((sI I16 1681 18 (I9 1681 18)) 1681 35) + (nI 514)) 88400 ∧ (if ((sA A15 1690 v7.toNatClampNeg (vp_nar (bm_ty 2) (nI 0))) 1688 (((sI I16 1681 18 (I9 1681 18)) 1681 35) + (nI 514)).toNatClampNeg) = (nI 1) then vp_in (((sI I16 1681 18 (I9 1681 18)) 1681 35) + (nI 517)) 88400 ∧ (D178_number ((sA A15 1690 v7.toNatClampNeg (vp_nar (bm_ty 2) (nI 0))) 1688 (((sI I16 1681 18 (I9 1681 18)) 1681 35) + (nI 517)).toNatClampNeg) (fun v23 => Q v23 (sA A15 1690 v7.toNatClampNeg (vp_nar (bm_ty 2) (nI 0))) (sI I16 1681 18 (I9 1681 18)))) else vp_in (((sI I16 1681 18 (I9 1681 18)) 1681 35) + (nI 516)) 88400 ∧ (Q ((sA A15 1690 v7.toNatClampNeg (vp_nar (bm_ty 2) (nI 0))) 1688 (((sI I16 1681 18 (I9 1681 18)) 1681 35) + (nI 516)).toNatClampNeg) (sA A15 1690 v7.toNatClampNeg (vp_nar (bm_ty 2) (nI 0))) (sI I16 1681 18 (I9 1681 18)))) else vp_in (((sI I16 1681 18 (I9 1681 18)) 1681 35) + (nI 1)) 88400 ∧ (Q ((sA A15 1690 v7.toNatClampNeg (vp_nar (bm_ty 2) (nI 0))) 1688 (((sI I16 1681 18 (I9 1681 18)) 1681 35) + (nI 1)).toNatClampNeg) (sA A15 1690 v7.toNatClampNeg (vp_nar (bm_ty 2) (nI 0))) (sI I16 1681 18 (I9 1681 18))))))))))))) else Q (-2) A I))
theorem D207_plain_mono {x : Int32} {y : Int32} {z : Int32} {u1 : Int32} {u2 : Int32} {A I : HA} {Q Q' : Int32 → HA → HA → Prop} (k : D207_plain x y z u1 u2 A I Q) (m : ∀ v A I, Q v A I → Q' v A I) : D207_plain x y z u1 u2 A I Q' := by
  unfold D207_plain at k ⊢
  refine D149_isIn_mono k (fun _ k => ?_)
  refine itm k (fun k => ?_) (fun k => ?_)
  · exact m _ _ _ k
  · refine ⟨k.1, ?_⟩
    replace k := k.2
    refine itm k (fun k => ?_) (fun k => ?_)
    · refine D149_isIn_mono k (fun _ k => ?_)
      refine itm k (fun k => ?_) (fun k => ?_)
      · exact m _ _ _ k
      · refine D149_isIn_mono k (fun _ k => ?_)
        refine itm k (fun k => ?_) (fun k => ?_)
        · exact m _ _ _ k
        · refine D149_isIn_mono k (fun _ k => ?_)
          refine itm k (fun k => ?_) (fun k => ?_)
          · exact m _ _ _ k
          · refine D149_isIn_mono k (fun _ k => ?_)
            refine itm k (fun k => ?_) (fun k => ?_)
            · exact m _ _ _ k
            · refine D155_slot_mono k (fun _ _ _ k => ?_)
              refine D168_node_mono k (fun _ k => ?_)
              refine D168_node_mono k (fun _ k => ?_)
              refine D156_begin_mono k (fun _ _ k => ?_)
              refine D162_goOn_mono k (fun _ _ _ k => ?_)
              refine ⟨k.1, ?_⟩
              replace k := k.2
              refine itm k (fun k => ?_) (fun k => ?_)
              · refine ⟨k.1, ?_⟩
                replace k := k.2
                exact m _ _ _ k
              · refine itm k (fun k => ?_) (fun k => ?_)
                · refine ⟨k.1, ?_⟩
                  replace k := k.2
                  exact m _ _ _ k
                · refine itm k (fun k => ?_) (fun k => ?_)
                  · refine ⟨k.1, ?_⟩
                    replace k := k.2
                    refine itm k (fun k => ?_) (fun k => ?_)
                    · refine ⟨k.1, ?_⟩
                      replace k := k.2
                      refine D178_number_mono k (fun _ k => ?_)
                      exact m _ _ _ k
                    · refine ⟨k.1, ?_⟩
                      replace k := k.2
                      exact m _ _ _ k
                  · refine ⟨k.1, ?_⟩
                    replace k := k.2
                    exact m _ _ _ k
    · exact m _ _ _ k
def D208_agrees (A I : HA) (Q : Int32 → Prop) : Prop := narrow .boolean (.int (I 1681 16)) = .int (I 1681 16) ∧ Q (I 1681 16)
theorem D208_agrees_mono {A I : HA} {Q Q' : Int32 → Prop} (k : D208_agrees A I Q) (m : ∀ v, Q v → Q' v) : D208_agrees A I Q' := by
  unfold D208_agrees at k ⊢
  refine ⟨k.1, ?_⟩
  replace k := k.2
  exact m _ k
