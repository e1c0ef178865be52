/-! THE REFERENCE RUNS A WAY as the pure run goes -/
/-- the loop of goOn -/
def R162 (a : Int32) (A I : HA) (Q : Int32 → HA → HA → Prop) : Prop := (∀ P4 : Int32 → HA → HA → Prop, (∀ (a5 : Int32) (A7 I8 : HA), (if a5 = 0 then D158_frame A7 I8 (fun A10 I11 => vp_in ((I11 1681 35) + (nI 1)) 88400 ∧ (if (A10 1688 ((I11 1681 35) + (nI 1)).toNatClampNeg) = (I11 1681 18) then D166_place A10 I11 (fun v31 => D167_ends (nI 4) v31 (nI 0) A10 I11 (fun v32 A33 I34 => P4 v32 A33 I34)) else vp_in ((I11 1681 36) + (nI 1)) 88400 ∧ (vp_in ((I11 1681 36) + (nI 0)) 88400 ∧ (vp_in (A10 1688 ((I11 1681 36) + (nI 0)).toNatClampNeg) 6 ∧ (if (A10 1688 ((I11 1681 36) + (nI 1)).toNatClampNeg) < (A10 1683 (A10 1688 ((I11 1681 36) + (nI 0)).toNatClampNeg).toNatClampNeg) then vp_in ((I11 1681 35) + (nI 1)) 88400 ∧ (vp_in ((I11 1681 35) + (nI 1)) 88400 ∧ (if (I11 1681 31) = 0 then D163_operate (-1) (sA A10 1688 ((I11 1681 35) + (nI 1)).toNatClampNeg ((A10 1688 ((I11 1681 35) + (nI 1)).toNatClampNeg) + (nI 1))) I11 (fun v18 A19 I20 => P4 v18 A19 I20) else vp_in ((I11 1681 36) + (nI 0)) 88400 ∧ (vp_in ((I11 1681 36) + (nI 1)) 88400 ∧ (vp_in (((nI 40) * ((sA A10 1688 ((I11 1681 35) + (nI 1)).toNatClampNeg ((A10 1688 ((I11 1681 35) + (nI 1)).toNatClampNeg) + (nI 1))) 1688 ((I11 1681 36) + (nI 0)).toNatClampNeg)) + ((sA A10 1688 ((I11 1681 35) + (nI 1)).toNatClampNeg ((A10 1688 ((I11 1681 35) + (nI 1)).toNatClampNeg) + (nI 1))) 1688 ((I11 1681 36) + (nI 1)).toNatClampNeg)) 240 ∧ (vp_in (((nI 40) * ((sA A10 1688 ((I11 1681 35) + (nI 1)).toNatClampNeg ((A10 1688 ((I11 1681 35) + (nI 1)).toNatClampNeg) + (nI 1))) 1688 ((I11 1681 36) + (nI 0)).toNatClampNeg)) + ((sA A10 1688 ((I11 1681 35) + (nI 1)).toNatClampNeg ((A10 1688 ((I11 1681 35) + (nI 1)).toNatClampNeg) + (nI 1))) 1688 ((I11 1681 36) + (nI 1)).toNatClampNeg)) 240 ∧ (D163_operate (-1) (sA (sA A10 1688 ((I11 1681 35) + (nI 1)).toNatClampNeg ((A10 1688 ((I11 1681 35) + (nI 1)).toNatClampNeg) + (nI 1))) 1699 (((nI 40) * ((sA A10 1688 ((I11 1681 35) + (nI 1)).toNatClampNeg ((A10 1688 ((I11 1681 35) + (nI 1)).toNatClampNeg) + (nI 1))) 1688 ((I11 1681 36) + (nI 0)).toNatClampNeg)) + ((sA A10 1688 ((I11 1681 35) + (nI 1)).toNatClampNeg ((A10 1688 ((I11 1681 35) + (nI 1)).toNatClampNeg) + (nI 1))) 1688 ((I11 1681 36) + (nI 1)).toNatClampNeg)).toNatClampNeg (((sA A10 1688 ((I11 1681 35) + (nI 1)).toNatClampNeg ((A10 1688 ((I11 1681 35) + (nI 1)).toNatClampNeg) + (nI 1))) 1699 (((nI 40) * ((sA A10 1688 ((I11 1681 35) + (nI 1)).toNatClampNeg ((A10 1688 ((I11 1681 35) + (nI 1)).toNatClampNeg) + (nI 1))) 1688 ((I11 1681 36) + (nI 0)).toNatClampNeg)) + ((sA A10 1688 ((I11 1681 35) + (nI 1)).toNatClampNeg ((A10 1688 ((I11 1681 35) + (nI 1)).toNatClampNeg) + (nI 1))) 1688 ((I11 1681 36) + (nI 1)).toNatClampNeg)).toNatClampNeg) + (nI 1))) (sI I11 1681 30 ((I11 1681 30) + (nI 1))) (fun v25 A26 I27 => P4 v25 A26 I27))))))) else D165_broken A10 I11 (fun v28 A29 I30 => P4 v28 A29 I30)))))) else Q a5 A7 I8) → P4 a5 A7 I8) → P4 a A I)
section RR
variable {b : Nat} {A0 I0 A I : HA} {S : zW} {F : zF} {G : zG}
theorem GA.done (h : GA b A0 I0 A I S F) (hd : zd S < 200) : GA b A0 I0 (sA A 1688 (b + 1) (nI (zd S + 1))) I (zdone S) F := by
  refine h.set (by unfold zMI; omega) (h.wf.done hd) h.2.2.1 ?_
  obtain ⟨r1, r2, r3, r4, r5, r6, r7⟩ := h.2.2.2.1
  refine ⟨r1, r2, by rw [sA_n (by omega)]; exact r3, by rw [sA_n (by omega)]; exact r4, sA_e, fun f hf => ?_, fun k hk => ?_⟩
  · obtain ⟨f1, f2, f3, f4⟩ := r6 f hf
    exact ⟨by rw [sA_n (by omega)]; exact f1, by rw [sA_n (by omega)]; exact f2, by rw [sA_n (by omega)]; exact f3, fun j hj => by rw [sA_n (by omega)]; exact f4 j hj⟩
  · obtain ⟨k1, k2⟩ := r7 k hk
    exact ⟨by rw [sA_n (by omega)]; exact k1, fun i hi => by rw [sA_n (by omega)]; exact k2 i hi⟩
theorem gRM.cnt {T : Nat → Int32} {C : Int32} (h : gRM A0 I0 G) : gRM (va_up A0 1699 T) (sI I0 1681 30 C) G := by
  unfold gRM at h ⊢
  rw [va_up_ne _ _ (by decide), va_up_ne _ _ (by decide), va_up_ne _ _ (by decide), va_up_ne _ _ (by decide), va_up_ne _ _ (by decide), va_up_ne _ _ (by decide), sI_n (by decide)]
  exact h
theorem GA.count {T : Nat → Int32} {C : Int32} (h : GA b (va_up A0 1699 T) (sI I0 1681 30 C) A I S F) (i : Nat) (x y : Int32) : GA b (va_up A0 1699 (upd T i x)) (sI I0 1681 30 y) (sA A 1699 i x) (sI I 1681 30 y) S F := by
  obtain ⟨h1, h2, h3, h4, h5, o1, o2, o3⟩ := h
  have e99 : A 1699 = T := by rw [o1 1699 (by omega) (by omega), va_up_self]
  refine ⟨h1, h2, h3, h4.off (sA_na (by decide)) (sI_n (by decide)) (sI_n (by decide)), ?_, fun a n1 n2 => ?_, fun j n1 => ?_, fun a j n1 => ?_⟩
  · unfold zFM at h5 ⊢
    rw [sA_na (by decide), sA_na (by decide), sA_na (by decide), sA_na (by decide), sI_n (by decide)]
    exact h5
  · by_cases e : a = 1699
    · subst e
      show sA A 1699 i x 1699 = _
      unfold sA
      rw [va_up_self, va_up_self, e99]
    · rw [sA_na e, va_up_ne _ _ e, o1 a n1 n2, va_up_ne _ _ e]
  · rw [sA_na (by decide), va_up_ne _ _ (by decide), o2 j n1, va_up_ne _ _ (by decide)]
  · by_cases e : a = 1681 ∧ j = 30
    · rw [e.1, e.2, sI_e, sI_e]
    · rw [sI_n (by omega), sI_n (by omega), o3 a j n1, sI_n (by omega)]
theorem M_go {Q : Int32 → HA → HA → Prop} {bd : Nat} {T : Nat → Int32} {C : Int32} {n : Nat} (hg : gRM A0 I0 G) (hbd : bd ≤ 200) (hb18 : I0 1681 18 = nI bd) (hcn : I0 1681 31 = nI 1) (h : GA b (va_up A0 1699 T) (sI I0 1681 30 C) A I S F) (hok : zok S F) (ho : zo S = 0) (hd : zd S ≤ bd) (hn : bd < zd S + n) (hN : F.1 + (bd - zd S) ≤ 32258)
    (k2 : ((zgo G bd n S F T C).1 = 2 → ∀ A' I', GA b (va_up A0 1699 (zgo G bd n S F T C).2.2.2.1) (sI I0 1681 30 (zgo G bd n S F T C).2.2.2.2) A' I' (zgo G bd n S F T C).2.1 (zgo G bd n S F T C).2.2.1 → (∀ K, K = gO G (zq (zgo G bd n S F T C).2.1) (zpc (zgo G bd n S F T C).2.1) → I' 1681 37 = nI (zsi K (zgo G bd n S F T C).2.1).1 ∧ I' 1681 38 = (zsi K (zgo G bd n S F T C).2.1).2.1 ∧ I' 1681 39 = (zsi K (zgo G bd n S F T C).2.1).2.2) → Q (nI 2) A' I')) (k1 : ((zgo G bd n S F T C).1 = 1 → ∀ A' I', GE b (va_up A0 1699 (zgo G bd n S F T C).2.2.2.1) (sI I0 1681 30 (zgo G bd n S F T C).2.2.2.2) A' I' (zgo G bd n S F T C).2.1 (zgo G bd n S F T C).2.2.1 → Q (nI 1) A' I')) : R162 (nI 0) A I Q := by
  unfold R162
  intro P hP
  have key : ∀ (n : Nat) (A I : HA) (S : zW) (F : zF) (T : Nat → Int32) (C : Int32), GA b (va_up A0 1699 T) (sI I0 1681 30 C) A I S F → zok S F → zo S = 0 → zd S ≤ bd → bd < zd S + n → F.1 + (bd - zd S) ≤ 32258 → ((zgo G bd n S F T C).1 = 2 → ∀ A' I', GA b (va_up A0 1699 (zgo G bd n S F T C).2.2.2.1) (sI I0 1681 30 (zgo G bd n S F T C).2.2.2.2) A' I' (zgo G bd n S F T C).2.1 (zgo G bd n S F T C).2.2.1 → (∀ K, K = gO G (zq (zgo G bd n S F T C).2.1) (zpc (zgo G bd n S F T C).2.1) → I' 1681 37 = nI (zsi K (zgo G bd n S F T C).2.1).1 ∧ I' 1681 38 = (zsi K (zgo G bd n S F T C).2.1).2.1 ∧ I' 1681 39 = (zsi K (zgo G bd n S F T C).2.1).2.2) → Q (nI 2) A' I') → ((zgo G bd n S F T C).1 = 1 → ∀ A' I', GE b (va_up A0 1699 (zgo G bd n S F T C).2.2.2.1) (sI I0 1681 30 (zgo G bd n S F T C).2.2.2.2) A' I' (zgo G bd n S F T C).2.1 (zgo G bd n S F T C).2.2.1 → Q (nI 1) A' I') → P (nI 0) A I := by
    intro n
    induction n with
    | zero => intro A I S F T C _ _ _ h1 h2; exact absurd h2 (by omega)
    | succ n ih =>
      intro A I S F T C h hok ho hd hn hN k2 k1
      have hz := h.wf.hi
      have hb := h.hb
      have g := h.loM hg.cnt
      have hl := (g.1.2.2 (zq S) hz.2.1).1
      have e18 : I 1681 18 = nI bd := by rw [h.2.2.2.2.2.2.2 1681 18 (by omega)]; rw [sI_n (by decide)]; exact hb18
      have e31 : I 1681 31 = nI 1 := by rw [h.2.2.2.2.2.2.2 1681 31 (by omega)]; rw [sI_n (by decide)]; exact hcn
      refine hP _ _ _ ?_
      rw [i0]
      refine M_frame hb h.w hz.1 h.t ?_
      rw [h.ff, h.w, nI_add, vpT (n := b + 1) (by omega) (by decide), nI_clamp (n := b + 1) (by omega), h.2.2.2.1.2.2.2.2.1, e18, iEq (by omega) (by omega)]
      refine ⟨trivial, ?_⟩
      unfold zgo at k1 k2
      by_cases c1 : zd S = bd
      · rw [if_pos c1] at k1
        rw [if_pos c1]
        refine M_place h (M_ends (S' := S) h (fun A' I' f => ?_))
        refine hP _ _ _ ?_
        rw [i1]
        exact k1 rfl _ _ (f _ rfl rfl rfl (h.2.2.1.trans nI_0.symm) (fun y => absurd y (by decide)))
      · rw [if_neg c1] at k1 k2 ⊢
        rw [h.f, nI_add, nI_add, Nat.add_zero (b + 30 + 21 * zt S), vpT (n := b + 30 + 21 * zt S + 1) (by omega) (by decide), vpT (n := b + 30 + 21 * zt S) (by omega) (by decide), nI_clamp (n := b + 30 + 21 * zt S + 1) (by omega), nI_clamp (n := b + 30 + 21 * zt S) (by omega), h.fr.1, h.fr.2.1, vpT (n := zq S) (by omega) (by decide), nI_clamp (n := zq S) (by omega), (g.2.2.2 (zq S) hz.2.1).1, iLt (by omega) (by omega)]
        refine ⟨trivial, trivial, trivial, ?_⟩
        by_cases c2 : zpc S < gL G (zq S)
        · rw [if_neg (fun y => y c2)] at k1 k2
          rw [if_pos c2, e31]
          refine ⟨trivial, trivial, ?_⟩
          have okd : zok (zdone S) F := hok
          have pcd : zpc (zdone S) < gL G (zq (zdone S)) := c2
          have hd1 := h.done (by omega)
          rw [nI_add]
          rw [i1, sA_n (b := 1688) (j := b + 30 + 21 * zt S) (by omega), sA_n (b := 1688) (j := b + 30 + 21 * zt S + 1) (by omega), h.fr.1, h.fr.2.1, pk_mul, nI_add, vpT (by omega) (by decide), nI_clamp (n := 40 * zq S + zpc S) (by omega), sA_na (by decide), show 40 * zq S + zpc S = zslot S by unfold zslot; omega]
          have e99 : A 1699 = T := by rw [h.2.2.2.2.2.1 1699 (by omega) (by omega), va_up_self]
          have e30 : I 1681 30 = C := by rw [h.2.2.2.2.2.2.2 1681 30 (by omega), sI_e]
          refine ⟨trivial, trivial, trivial, trivial, ?_⟩
          rw [e99, e30]
          have h3 := hd1.count (zslot S) (T (zslot S) + nI 1) (C + nI 1)
          have ok := zoper_ok (alt := none) hg.1 hd1.wf okd h.2.2.2.2.1.2.1 (by omega) pcd
          obtain ⟨o1, o2, o3, o4, o5, o6, o7, o8⟩ := ok
          show D163_operate (altv none) _ _ _
          refine M_step h3 hg.cnt okd (by omega) pcd (fun c e => by cases e) ⟨⟨fun r0 A2 I2 h2 => ?_, fun r1 A2 I2 h2 => ?_⟩, fun r2 I2 h2 s1 s2 s3 => ?_⟩
          · rw [if_pos r0] at k1 k2
            have d1 : zd (zoper G none F (zdone S)).2.1 = zd S + 1 := o3.1
            have f1 := o1.2.1
            exact ih _ _ _ _ _ _ h2 (o4 r0) ((o3.2 r0).trans ho) (by omega) (by omega) (by omega) k2 k1
          · rw [if_neg (by omega)] at k1
            refine hP _ _ _ ?_
            rw [i1]
            exact k1 r1 _ _ h2
          · rw [if_neg (by omega)] at k2
            refine hP _ _ _ ?_
            rw [if_neg (by decide)]
            have e6 := o6 r2
            have e7 : (zoper G none F (zdone S)).2.1 = zdone S := by rw [e6]
            have e8 : (zoper G none F (zdone S)).2.2 = F := by rw [e6]
            refine k2 r2 _ _ ?_ ?_
            · show GA b _ _ _ _ (zoper G none F (zdone S)).2.1 (zoper G none F (zdone S)).2.2
              rw [e7, e8]
              exact h2
            · intro K eK
              show I2 1681 37 = nI (zsi K (zoper G none F (zdone S)).2.1).1 ∧ I2 1681 38 = (zsi K (zoper G none F (zdone S)).2.1).2.1 ∧ I2 1681 39 = (zsi K (zoper G none F (zdone S)).2.1).2.2
              have eK : K = gO G (zq (zoper G none F (zdone S)).2.1) (zpc (zoper G none F (zdone S)).2.1) := eK
              rw [e7] at eK ⊢
              rw [eK]
              exact ⟨s1, s2, s3⟩
        · rw [if_pos c2] at k1
          rw [if_neg c2]
          refine M_broken h (fun A' I' h' => ?_)
          refine hP _ _ _ ?_
          rw [i1]
          exact k1 rfl _ _ h'
  exact key n A I S F T C h hok ho hd hn hN k2 k1
theorem M_goP {Q : Int32 → HA → HA → Prop} {bd : Nat} {T : Nat → Int32} {C : Int32} {n : Nat} (hg : gRM A0 I0 G) (hbd : bd ≤ 200) (hb18 : I0 1681 18 = nI bd) (hcn : I0 1681 31 = nI 0) (h : GA b A0 I0 A I S F) (hok : zok S F) (ho : zo S = 0) (hd : zd S ≤ bd) (hn : bd < zd S + n) (hN : F.1 + (bd - zd S) ≤ 32258)
    (k2 : ((zgo G bd n S F T C).1 = 2 → ∀ A' I', GA b A0 I0 A' I' (zgo G bd n S F T C).2.1 (zgo G bd n S F T C).2.2.1 → (∀ K, K = gO G (zq (zgo G bd n S F T C).2.1) (zpc (zgo G bd n S F T C).2.1) → I' 1681 37 = nI (zsi K (zgo G bd n S F T C).2.1).1 ∧ I' 1681 38 = (zsi K (zgo G bd n S F T C).2.1).2.1 ∧ I' 1681 39 = (zsi K (zgo G bd n S F T C).2.1).2.2) → Q (nI 2) A' I')) (k1 : ((zgo G bd n S F T C).1 = 1 → ∀ A' I', GE b A0 I0 A' I' (zgo G bd n S F T C).2.1 (zgo G bd n S F T C).2.2.1 → Q (nI 1) A' I')) : R162 (nI 0) A I Q := by
  unfold R162
  intro P hP
  have key : ∀ (n : Nat) (A I : HA) (S : zW) (F : zF) (T : Nat → Int32) (C : Int32), GA b A0 I0 A I S F → zok S F → zo S = 0 → zd S ≤ bd → bd < zd S + n → F.1 + (bd - zd S) ≤ 32258 → ((zgo G bd n S F T C).1 = 2 → ∀ A' I', GA b A0 I0 A' I' (zgo G bd n S F T C).2.1 (zgo G bd n S F T C).2.2.1 → (∀ K, K = gO G (zq (zgo G bd n S F T C).2.1) (zpc (zgo G bd n S F T C).2.1) → I' 1681 37 = nI (zsi K (zgo G bd n S F T C).2.1).1 ∧ I' 1681 38 = (zsi K (zgo G bd n S F T C).2.1).2.1 ∧ I' 1681 39 = (zsi K (zgo G bd n S F T C).2.1).2.2) → Q (nI 2) A' I') → ((zgo G bd n S F T C).1 = 1 → ∀ A' I', GE b A0 I0 A' I' (zgo G bd n S F T C).2.1 (zgo G bd n S F T C).2.2.1 → Q (nI 1) A' I') → P (nI 0) A I := by
    intro n
    induction n with
    | zero => intro A I S F T C _ _ _ h1 h2; exact absurd h2 (by omega)
    | succ n ih =>
      intro A I S F T C h hok ho hd hn hN k2 k1
      have hz := h.wf.hi
      have hb := h.hb
      have g := h.loM hg
      have hl := (g.1.2.2 (zq S) hz.2.1).1
      have e18 : I 1681 18 = nI bd := by rw [h.2.2.2.2.2.2.2 1681 18 (by omega)]; exact hb18
      have e31 : I 1681 31 = nI 0 := by rw [h.2.2.2.2.2.2.2 1681 31 (by omega)]; exact hcn
      refine hP _ _ _ ?_
      rw [i0]
      refine M_frame hb h.w hz.1 h.t ?_
      rw [h.ff, h.w, nI_add, vpT (n := b + 1) (by omega) (by decide), nI_clamp (n := b + 1) (by omega), h.2.2.2.1.2.2.2.2.1, e18, iEq (by omega) (by omega)]
      refine ⟨trivial, ?_⟩
      unfold zgo at k1 k2
      by_cases c1 : zd S = bd
      · rw [if_pos c1] at k1
        rw [if_pos c1]
        refine M_place h (M_ends (S' := S) h (fun A' I' f => ?_))
        refine hP _ _ _ ?_
        rw [i1]
        exact k1 rfl _ _ (f _ rfl rfl rfl (h.2.2.1.trans nI_0.symm) (fun y => absurd y (by decide)))
      · rw [if_neg c1] at k1 k2 ⊢
        rw [h.f, nI_add, nI_add, Nat.add_zero (b + 30 + 21 * zt S), vpT (n := b + 30 + 21 * zt S + 1) (by omega) (by decide), vpT (n := b + 30 + 21 * zt S) (by omega) (by decide), nI_clamp (n := b + 30 + 21 * zt S + 1) (by omega), nI_clamp (n := b + 30 + 21 * zt S) (by omega), h.fr.1, h.fr.2.1, vpT (n := zq S) (by omega) (by decide), nI_clamp (n := zq S) (by omega), (g.2.2.2 (zq S) hz.2.1).1, iLt (by omega) (by omega)]
        refine ⟨trivial, trivial, trivial, ?_⟩
        by_cases c2 : zpc S < gL G (zq S)
        · rw [if_neg (fun y => y c2)] at k1 k2
          rw [if_pos c2, e31]
          refine ⟨trivial, trivial, ?_⟩
          have okd : zok (zdone S) F := hok
          have pcd : zpc (zdone S) < gL G (zq (zdone S)) := c2
          have hd1 := h.done (by omega)
          rw [nI_add]
          rw [i0]
          have ok := zoper_ok (alt := none) hg.1 hd1.wf okd h.2.2.2.2.1.2.1 (by omega) pcd
          obtain ⟨o1, o2, o3, o4, o5, o6, o7, o8⟩ := ok
          show D163_operate (altv none) _ _ _
          refine M_step hd1 hg okd (by omega) pcd (fun c e => by cases e) ⟨⟨fun r0 A2 I2 h2 => ?_, fun r1 A2 I2 h2 => ?_⟩, fun r2 I2 h2 s1 s2 s3 => ?_⟩
          · rw [if_pos r0] at k1 k2
            have d1 : zd (zoper G none F (zdone S)).2.1 = zd S + 1 := o3.1
            have f1 := o1.2.1
            exact ih _ _ _ _ _ _ h2 (o4 r0) ((o3.2 r0).trans ho) (by omega) (by omega) (by omega) k2 k1
          · rw [if_neg (by omega)] at k1
            refine hP _ _ _ ?_
            rw [i1]
            exact k1 r1 _ _ h2
          · rw [if_neg (by omega)] at k2
            refine hP _ _ _ ?_
            rw [if_neg (by decide)]
            have e6 := o6 r2
            have e7 : (zoper G none F (zdone S)).2.1 = zdone S := by rw [e6]
            have e8 : (zoper G none F (zdone S)).2.2 = F := by rw [e6]
            refine k2 r2 _ _ ?_ ?_
            · show GA b _ _ _ _ (zoper G none F (zdone S)).2.1 (zoper G none F (zdone S)).2.2
              rw [e7, e8]
              exact h2
            · intro K eK
              show I2 1681 37 = nI (zsi K (zoper G none F (zdone S)).2.1).1 ∧ I2 1681 38 = (zsi K (zoper G none F (zdone S)).2.1).2.1 ∧ I2 1681 39 = (zsi K (zoper G none F (zdone S)).2.1).2.2
              have eK : K = gO G (zq (zoper G none F (zdone S)).2.1) (zpc (zoper G none F (zdone S)).2.1) := eK
              rw [e7] at eK ⊢
              rw [eK]
              exact ⟨s1, s2, s3⟩
        · rw [if_pos c2] at k1
          rw [if_neg c2]
          refine M_broken h (fun A' I' h' => ?_)
          refine hP _ _ _ ?_
          rw [i1]
          exact k1 rfl _ _ h'
  exact key n A I S F T C h hok ho hd hn hN k2 k1
end RR
