/-! THE REFERENCE: formulas, throws, calls -/
section RF
variable {b : Nat} {A0 I0 A I : HA} {S : zW} {F : zF} {G : zG}
theorem zRepM.off (h : zRepM b A I S) {A' I' : HA} (ha : A' 1688 = A 1688) (h1 : I' 1681 35 = I 1681 35) (h2 : I' 1681 36 = I 1681 36) : zRepM b A' I' S := by
  unfold zRepM
  rw [ha, h1, h2]
  exact h
theorem GA.mk {op a c : Int32} {s : Nat} (h : GA b A0 I0 A I S F) (hN : F.1 < 32258) (hs : ¬ 60 < s) : GA b A0 I0 (sA (sA (sA (sA A 1691 F.1 op) 1692 F.1 a) 1693 F.1 c) 1694 F.1 (nI s)) (sI I 1681 15 (nI (F.1 + 1))) S (zmk F op a c s).2 := by
  obtain ⟨h1, h2, h3, h4, h5, h6⟩ := h
  refine ⟨h1, h2, h3, h4.off (by rw [sA_na (by decide), sA_na (by decide), sA_na (by decide), sA_na (by decide)]) (sI_n (by decide)) (sI_n (by decide)), h5.mk hN hs, ?_⟩
  obtain ⟨o1, o2, o3⟩ := h6
  exact ⟨fun x n1 n2 => by rw [sA_na (by omega), sA_na (by omega), sA_na (by omega), sA_na (by omega)]; exact o1 x n1 n2, fun i n1 => by rw [sA_na (by decide), sA_na (by decide), sA_na (by decide), sA_na (by decide)]; exact o2 i n1, fun x j n1 => by rw [sI_n (by omega)]; exact o3 x j n1⟩
theorem zFM.sz (h : zFM A I F) {j : Nat} (hj : j < F.1) : A 1694 j = nI (zsz F (nI j)) := by
  obtain ⟨h1, h2, h3, h5, h4⟩ := h
  rw [zsz_nI (by omega)]
  by_cases e : j < 258
  · rw [if_pos e]; exact h5 j e
  · rw [if_neg e]; exact (h4 j (by omega) hj).2.2.2
/-- what formula does once the size is known -/
theorem M_mk {Q : Int32 → HA → HA → Prop} {op a c : Int32} {s : Nat} (h : GA b A0 I0 A I S F) (hN : F.1 < 32258) (hs : s < 1000) (k : ∀ A' I', GA b A0 I0 A' I' S (zmk F op a c s).2 → Q (zmk F op a c s).1 A' I') : if nI 60 < nI s then Q (-1) A I else vp_in (I 1681 15) 45000 ∧ (vp_in (I 1681 15) 45000 ∧ (vp_in (I 1681 15) 45000 ∧ (vp_in (I 1681 15) 45000 ∧ (Q (((sI I 1681 15 ((I 1681 15) + (nI 1))) 1681 15) - (nI 1)) (sA (sA (sA (sA A 1691 (I 1681 15).toNatClampNeg op) 1692 (I 1681 15).toNatClampNeg a) 1693 (I 1681 15).toNatClampNeg c) 1694 (I 1681 15).toNatClampNeg (nI s)) (sI I 1681 15 ((I 1681 15) + (nI 1))))))) := by
  rw [h.2.2.2.2.1.1, iLt (by decide) (by omega)]
  by_cases e : 60 < s
  · rw [if_pos e]
    have k := k A I
    unfold zmk at k
    rw [if_pos e] at k
    exact k h
  · rw [if_neg e, vpT (by omega) (by decide), sI_e, nI_add, pk_sub (by omega), nI_clamp (by omega)]
    have k := k _ _ (h.mk (op := op) (a := a) (c := c) hN e)
    refine ⟨trivial, trivial, trivial, trivial, ?_⟩
    have e1 : (zmk F op a c s).1 = nI (F.1 + 1 - 1) := by unfold zmk; rw [if_neg e]; rfl
    rw [e1] at k
    exact k
theorem M_one {Q : Int32 → HA → HA → Prop} {n : Nat} {v : Int32} (hn : n = 11 ∨ n = 29) (h : GA b A0 I0 A I S F) (hf : zfok F) (hN : F.1 < 32258) (hv : wdv F v) (k : ∀ A' I', GA b A0 I0 A' I' S (z1 F (nI n) v).2 → Q (z1 F (nI n) v).1 A' I') : D176_formula (nI n) v (-1) A I Q := by
  have sz := zsz_le hf (Nat.le_of_lt hN) hv
  obtain ⟨j, hj, rfl⟩ := hv
  unfold z1 at k
  unfold D176_formula
  refine M_isNumber (fun e => ?_) (fun e => ?_)
  · rw [i1, if_pos rfl]
    rw [if_pos e] at k
    have j6 := (isn_nI (by omega)).mp e
    unfold D178_number
    show if (-1 : Int32) = -1 then _ else _
    rw [if_pos rfl]
    exact M_reckon1 hn (bR_num j6) (M_node (bR_w1 (bR_num j6)) (k A I h))
  · rw [i0, if_pos rfl, vpT (by omega) (by decide), nI_clamp (n := j) (by omega), h.2.2.2.2.1.sz hj, nI_add, nI_add]
    rw [if_neg e] at k
    refine ⟨trivial, ?_⟩
    rw [show 1 + zsz F (nI j) + 0 = zsz F (nI j) + 1 by omega]
    exact M_mk h hN (by omega) k
theorem M_two {Q : Int32 → HA → HA → Prop} {n : Nat} {v u : Int32} (hn : op2 n) (h : GA b A0 I0 A I S F) (hf : zfok F) (hN : F.1 < 32258) (hv : wdv F v) (hu : wdv F u) (h0 : n = 9 ∨ n = 10 → ¬ u = nI 128) (k : ∀ A' I', GA b A0 I0 A' I' S (z2 F n v u).2 → Q (z2 F n v u).1 A' I') : D176_formula (nI n) v u A I Q := by
  have s1 := zsz_le hf (Nat.le_of_lt hN) hv
  have s2 := zsz_le hf (Nat.le_of_lt hN) hu
  obtain ⟨j, hj, rfl⟩ := hv
  obtain ⟨i, hi, rfl⟩ := hu
  unfold z2 at k
  unfold D176_formula
  have mk : ¬ (isn (nI j) ∧ isn (nI i)) → vp_in (nI j) 45000 ∧ (if nI i = (-1) then if (nI 60) < (((nI 1) + (A 1694 (nI j).toNatClampNeg)) + (nI 0)) then Q (-1) A I else vp_in (I 1681 15) 45000 ∧ (vp_in (I 1681 15) 45000 ∧ (vp_in (I 1681 15) 45000 ∧ (vp_in (I 1681 15) 45000 ∧ (Q (((sI I 1681 15 ((I 1681 15) + (nI 1))) 1681 15) - (nI 1)) (sA (sA (sA (sA A 1691 (I 1681 15).toNatClampNeg (nI n)) 1692 (I 1681 15).toNatClampNeg (nI j)) 1693 (I 1681 15).toNatClampNeg (nI i)) 1694 (I 1681 15).toNatClampNeg (((nI 1) + (A 1694 (nI j).toNatClampNeg)) + (nI 0))) (sI I 1681 15 ((I 1681 15) + (nI 1))))))) else vp_in (nI i) 45000 ∧ (if (nI 60) < (((nI 1) + (A 1694 (nI j).toNatClampNeg)) + (A 1694 (nI i).toNatClampNeg)) then Q (-1) A I else vp_in (I 1681 15) 45000 ∧ (vp_in (I 1681 15) 45000 ∧ (vp_in (I 1681 15) 45000 ∧ (vp_in (I 1681 15) 45000 ∧ (Q (((sI I 1681 15 ((I 1681 15) + (nI 1))) 1681 15) - (nI 1)) (sA (sA (sA (sA A 1691 (I 1681 15).toNatClampNeg (nI n)) 1692 (I 1681 15).toNatClampNeg (nI j)) 1693 (I 1681 15).toNatClampNeg (nI i)) 1694 (I 1681 15).toNatClampNeg (((nI 1) + (A 1694 (nI j).toNatClampNeg)) + (A 1694 (nI i).toNatClampNeg))) (sI I 1681 15 ((I 1681 15) + (nI 1))))))))) := by
    intro e
    rw [if_neg e] at k
    rw [iNg (by omega) (by decide), vpT (by omega) (by decide), vpT (by omega) (by decide), nI_clamp (n := j) (by omega), nI_clamp (n := i) (by omega), h.2.2.2.2.1.sz hj, h.2.2.2.2.1.sz hi, nI_add, nI_add]
    refine ⟨trivial, trivial, ?_⟩
    rw [show 1 + zsz F (nI j) + zsz F (nI i) = zsz F (nI j) + zsz F (nI i) + 1 by omega]
    exact M_mk h hN (by omega) k
  refine M_isNumber (fun e => ?_) (fun e => ?_)
  · rw [i1, iNg (by omega) (by decide)]
    refine M_isNumber (fun e2 => ?_) (fun e2 => ?_)
    · rw [i1]
      rw [if_pos ⟨e, e2⟩] at k
      have j6 := (isn_nI (by omega)).mp e
      have i6 := (isn_nI (by omega)).mp e2
      unfold D178_number
      show if nI i = -1 then _ else _
      rw [iNg (by omega) (by decide)]
      refine M_reckon2 hn (fun z => ?_) (M_node (bR_w2 (bR_num j6) (bR_num i6)) (k A I h))
      rw [← addE]
      exact fun y => h0 z (nb0.mp y)
    · rw [i0]; exact mk fun z => e2 z.2
  · rw [i0]; exact mk fun z => e z.1
theorem M_frame {Q : HA → HA → Prop} (hb : b + 520 ≤ 88400) (hw : I 1681 35 = nI b) {t : Nat} (ht : t ≤ 3) (e : A 1688 b = nI (t + 1)) (k : Q A (sI I 1681 36 (nI (b + 30 + 21 * t)))) : D158_frame A I Q := by
  unfold D158_frame
  rw [hw, nI_add, nI_add, Nat.add_zero, vpT (by omega) (by decide), nI_clamp (by omega), e, pk_sub (by omega), pk_mul, nI_add]
  exact ⟨trivial, k⟩
/-- an alive way's results -/
abbrev rM (b : Nat) (A0 I0 : HA) (r : Nat × zW × zF) (Q : Int32 → HA → HA → Prop) : Prop := (r.1 = 0 → ∀ A' I', GA b A0 I0 A' I' r.2.1 r.2.2 → Q (nI 0) A' I') ∧ (r.1 = 1 → ∀ A' I', GE b A0 I0 A' I' r.2.1 r.2.2 → Q (nI 1) A' I')
theorem GA.loM (h : GA b A0 I0 A I S F) (hg : gRM A0 I0 G) : gRM A I G := by
  obtain ⟨o1, o2, o3⟩ := h.2.2.2.2.2
  have ei : I 1681 1 = I0 1681 1 := o3 1681 1 (by omega)
  unfold gRM at hg ⊢
  rw [o1 1682 (by omega) (by omega), o1 1683 (by omega) (by omega), o1 1684 (by omega) (by omega), o1 1685 (by omega) (by omega), o1 1686 (by omega) (by omega), o1 1687 (by omega) (by omega), ei]
  exact hg
theorem GA.leave (h : GA b A0 I0 A I S F) (ht : 0 < zt S) : GA b A0 I0 (sA A 1688 b (nI (zt S))) (sI I 1681 36 (nI (b + 30 + 21 * (zt S - 1)))) (zleave S) F := by
  obtain ⟨h1, h2, h3, h4, h5, h6⟩ := h
  have hw := h2.hi
  refine ⟨h1, h2.T (by omega), h3, ?_, h5.sa.si (by decide), (h6.sa (by unfold zMI; omega)).si (by decide)⟩
  obtain ⟨r1, r2, r3, r4, r5, r6, r7⟩ := h4
  refine ⟨by rw [sI_n (by decide)]; exact r1, sI_e, by rw [sA_e]; show nI (zt S) = nI (zt S - 1 + 1); congr 1; omega, by rw [sA_n (by omega)]; exact r4, by rw [sA_n (by omega)]; exact r5, fun f hf => ?_, fun k hk => ?_⟩
  · have hf : f ≤ zt S - 1 := hf
    obtain ⟨f1, f2, f3, f4⟩ := r6 f (by omega)
    exact ⟨by rw [sA_n (by omega)]; exact f1, by rw [sA_n (by omega)]; exact f2, by rw [sA_n (by omega)]; exact f3, fun j hj => by rw [sA_n (by omega)]; exact f4 j hj⟩
  · obtain ⟨k1, k2⟩ := r7 k hk
    exact ⟨by rw [sA_n (by omega)]; exact k1, fun i hi => by rw [sA_n (by omega)]; exact k2 i hi⟩
end RF
