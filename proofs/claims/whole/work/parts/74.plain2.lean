/-! PLAIN (promise 17): the same answer on both sides -/
theorem D_in {Q : Int32 → Prop} {x lo hi : Int32} (k1 : ¬ x < lo → ¬ hi < x → Q (nI 1)) (k0 : x < lo ∨ hi < x → Q (nI 0)) : if x < lo then Q (nI 0) else if hi < x then Q (nI 0) else Q (nI 1) := by
  by_cases h : x < lo
  · rw [if_pos h]; exact k0 (Or.inl h)
  · rw [if_neg h]
    by_cases h2 : hi < x
    · rw [if_pos h2]; exact k0 (Or.inr h2)
    · rw [if_neg h2]; exact k1 h h2
theorem D_within {Q : Int32 → Prop} {x lo hi : Int32} (k1 : ¬ x < lo → ¬ hi < x → Q (nI 1)) (k0 : x < lo ∨ hi < x → Q (nI 0)) : D2_within x lo hi Q := D_in k1 k0
theorem D_isIn {Q : Int32 → Prop} {x lo hi : Int32} (k1 : ¬ x < lo → ¬ hi < x → Q (nI 1)) (k0 : x < lo ∨ hi < x → Q (nI 0)) : D149_isIn x lo hi Q := D_in k1 k0
theorem D_inM {Q : Int32 → Prop} {x : Int32} {M : Nat} (hM : M < 2 ^ 30) (k1 : ∀ j, j < M → x = nI j → Q (nI 1)) (k0 : (∀ j, j < M → ¬ x = nI j) → Q (nI 0)) : D149_isIn x (nI 0) (nI M - nI 1) Q := by
  unfold D149_isIn
  refine D_in (fun h1 h2 => ?_) (fun h => ?_)
  · obtain ⟨j, hj, rfl⟩ := nI_of (x := x) (by rw [← nI_0]; exact h1)
    refine k1 j (Nat.not_le.mp fun z => h2 ?_) rfl
    rw [Int32.lt_iff_toInt_lt, pk_sub_toInt (by omega) (by decide), nI_toInt hj]
    omega
  · refine k0 fun j hj e => ?_
    subst e
    rcases h with h | h
    · exact nI_pos (n := j) (by omega) h
    · rw [Int32.lt_iff_toInt_lt, pk_sub_toInt (by omega) (by decide), nI_toInt (by omega)] at h
      omega
theorem D_hasM {Q : Int32 → Prop} {x : Int32} {A I : HA} {M : Nat} (hM : M < 2 ^ 30) (e : I 22 0 = nI M) (k1 : ∀ j, j < M → x = nI j → Q (nI 1)) (k0 : (∀ j, j < M → ¬ x = nI j) → Q (nI 0)) : D74_hasMethod x A I Q := by
  unfold D74_hasMethod
  rw [e]
  by_cases h : x < 0
  · rw [if_pos h]; exact k0 fun j hj y => nI_pos (n := j) (by omega) (y ▸ h)
  · rw [if_neg h]
    obtain ⟨j, hj, rfl⟩ := nI_of h
    rw [iLt hj (by omega)]
    by_cases h2 : j < M
    · rw [if_pos h2]; exact k1 j h2 rfl
    · rw [if_neg h2]; exact k0 fun i hi y => h2 (by have := (nI_eq hj (by omega)).mp y; omega)
/-- what a plain run may change -/
def plF (A I A2 I2 : HA) (s : Nat) (F : zF) : Prop := (∀ a, ¬ (5 ≤ a ∧ a ≤ 13) → ¬ (33 ≤ a ∧ a ≤ 36) → a ≠ 1688 → ¬ (1691 ≤ a ∧ a ≤ 1694) → A2 a = A a) ∧ (∀ i, ¬ (520 * s ≤ i ∧ i < 520 * s + 520) → A2 1688 i = A 1688 i) ∧ (∀ a j, a ≠ 4 → ¬ (a = 32 ∧ j = 4) → ¬ (a = 1681 ∧ (j = 15 ∨ 35 ≤ j ∧ j ≤ 39)) → I2 a j = I a j) ∧ zFC A2 I2 F ∧ zFM A2 I2 F
theorem sF_n {A : HA} {a b n : Nat} {v : Int32} (h : b ≠ a) : sF A a v n b = A b := by unfold sF; rw [va_up_ne _ _ h]
theorem bR_lim {x : Int32} (h1 : ¬ x < -128) (h2 : ¬ nI 127 < x) : bR x := by
  have a : (-128 : Int32).toInt ≤ x.toInt := Int32.le_iff_toInt_le.mp (Int32.not_lt.mp h1)
  have c := Int32.le_iff_toInt_le.mp (Int32.not_lt.mp h2)
  rw [nI_toInt (by decide)] at c
  exact ⟨a, c⟩
theorem rg2 {a : Int32} {lo m : Nat} (h1 : ¬ a < nI lo) (h2 : ¬ nI m < a) (hm : m < 1000) (hl : lo ≤ m) : ∃ j, lo ≤ j ∧ j ≤ m ∧ a = nI j := rg_nat ⟨Int32.not_lt.mp h1, Int32.not_lt.mp h2⟩ hm hl
theorem zbeg_nm {F : zF} {q i j : Nat} (hi : i < 256) (hj : j < 256) : znm (zbeg q (nI i) (nI j)) F := by
  refine ⟨fun k h1 h2 => absurd h2 (by show ¬ k < 256; omega), fun f _ k hk => ?_, fun k hk => absurd hk (Nat.not_lt_zero k)⟩
  have hk : k < 6 + 0 := hk
  show okv 256 0 (if k = 0 then nI i else if k = 1 then nI j else -100) ∨ k < 6 ∧ (if k = 0 then nI i else if k = 1 then nI j else -100) = -100
  by_cases e0 : k = 0
  · rw [if_pos e0]; exact Or.inl (Or.inl ⟨i, hi, rfl⟩)
  · rw [if_neg e0]
    by_cases e1 : k = 1
    · rw [if_pos e1]; exact Or.inl (Or.inl ⟨j, hj, rfl⟩)
    · rw [if_neg e1]; exact Or.inr ⟨by omega, rfl⟩
section PQ
variable {A I : HA} {F : zF} {G : zG}
/-- the reference refuses -/
theorem M_plainNo {x y z u1 u2 : Int32} {Q : Int32 → HA → HA → Prop} (hM : gRM A I G) (hno : ¬ ((∃ q, q < G.1 ∧ x = nI q ∧ gA G q = 2) ∧ ¬ y < -128 ∧ ¬ nI 127 < y ∧ ¬ z < -128 ∧ ¬ nI 127 < z ∧ ¬ u1 < nI 1 ∧ ¬ nI 200 < u1 ∧ ¬ u2 < nI 0 ∧ ¬ nI 3 < u2)) (k : Q (-2) A I) : D207_plain x y z u1 u2 A I Q := by
  have hG := hM.1.1
  unfold D207_plain
  rw [hM.2.1]
  refine D_inM (by omega) (fun q hq e => ?_) (fun n0 => by rw [i0]; exact k)
  subst e
  have ha := hM.1.2.1 q hq
  rw [i1, vpT (by omega) (by decide), nI_clamp (n := q) (by omega), hM.2.2.1 q hq]
  refine ⟨trivial, ?_⟩
  rw [iEq (by omega) (by decide)]
  by_cases a2 : gA G q = 2
  · rw [if_pos a2]
    refine D_isIn (fun y1 y2 => ?_) (fun _ => by rw [i0]; exact k)
    rw [i1]
    refine D_isIn (fun z1 z2 => ?_) (fun _ => by rw [i0]; exact k)
    rw [i1]
    refine D_isIn (fun u1a u1b => ?_) (fun _ => by rw [i0]; exact k)
    rw [i1]
    refine D_isIn (fun w1 w2 => ?_) (fun _ => by rw [i0]; exact k)
    exact absurd ⟨⟨q, hq, rfl, a2⟩, y1, y2, z1, z2, u1a, u1b, w1, w2⟩ hno
  · rw [if_neg a2]; exact k
theorem plain_both {s : Nat} {x y z u1 u2 : Int32} (hC : gRC A I G) (hM : gRM A I G) (hF : zFC A I F) (hFM : zFM A I F) (hf : zfok F) (hN : F.1 < 32258) (hcn : I 1681 31 = nI 0) (hs : s < 170) (h0 : A 1690 s = 0) (hsb : ∀ i, i < s → ¬ A 1690 i = 0) (hr : plF A I A I s F) :
    D19_plain x y z u1 u2 A I (fun r A1 I1 => A1 0 = A 0 ∧ D207_plain x y z u1 u2 A1 I1 (fun r2 A2 I2 => r2 = r ∧ plF A I A2 I2 s F)) := by
  have hG := hC.1.1
  unfold D19_plain D79_canBegin
  refine D_hasM (by omega) hC.2.2.2.1 (fun q hq e => ?_) (fun n0 => ?_)
  · subst e
    rw [i1, vpT (by omega) (by decide), nI_clamp (n := q) (by omega), hC.2.2.2.2.1 q hq]
    have ha := hC.1.2.1 q hq
    refine ⟨trivial, ?_⟩
    rw [iEq (by omega) (by decide)]
    by_cases a2 : gA G q = 2
    · rw [if_pos a2]
      show if nI 1 = 0 then _ else _
      rw [i1]
      refine D_within (fun y1 y2 => ?_) (fun yb => ?_)
      · rw [i1]
        refine D_within (fun z1 z2 => ?_) (fun zb => ?_)
        · rw [i1]
          refine D_within (fun u1a u1b => ?_) (fun ub => ?_)
          · rw [i1]
            refine D_within (fun w1 w2 => ?_) (fun wb => ?_)
            · rw [i1]
              obtain ⟨bd, bd1, bd2, rfl⟩ := rg2 u1a u1b (by decide) (by decide)
              obtain ⟨wt, -, wt2, rfl⟩ := rg2 (lo := 0) w1 w2 (by decide) (by decide)
              have by_ := bR_lim y1 y2
              have bz_ := bR_lim z1 z2
              obtain ⟨yi, hyi, eyi⟩ := nbA by_.1 by_.2
              obtain ⟨zi, hzi, ezi⟩ := nbA bz_.1 bz_.2
              unfold D71_runPlain D27_number
              rw [subE, subE, eyi, ezi]
              refine C_begin isW4 (by omega) hF (fun A1 I1 h1 => ?_)
              have g4 : gRC (sF A (4 + 9) (-1) 32) (sI (sI (sI I 4 9 (nI 0)) 4 16 (-1)) 4 17 (nI 0)) G := by
                unfold gRC at hC ⊢
                rw [sF_n (by decide), sF_n (by decide), sF_n (by decide), sF_n (by decide), sF_n (by decide), sF_n (by decide), sF_n (by decide), sF_n (by decide), sF_n (by decide), sF_n (by decide), sF_n (by decide), sI_na (by decide), sI_na (by decide), sI_na (by decide)]
                exact hC
              refine C_runP g4 bd2 h1 hf (zbeg_nm hyi hzi) rfl (Nat.zero_le _) (n := bd + 1) (by show bd < 0 + (bd + 1); omega) hN (fun A2 I2 h2 => ?_)
              obtain ⟨S, hS⟩ : ∃ S, S = zrp G bd (bd + 1) (zbeg q (nI yi) (nI zi)) F := ⟨_, rfl⟩
              rw [← hS] at h2
              have o2 : ∀ a, ¬ (5 ≤ a ∧ a ≤ 13) → ¬ (33 ≤ a ∧ a ≤ 36) → A2 a = A a := fun a n1 n2 => by rw [h2.2.2.2.2.1 a (by omega) n2, sF_n (by omega)]
              have oi : ∀ a j, a ≠ 4 → ¬ (a = 32 ∧ j = 4) → I2 a j = I a j := fun a j n1 n2 => by rw [h2.2.2.2.2.2 a j (by omega) n2, sI_na n1, sI_na n1, sI_na n1]
              obtain ⟨-, -, c11, c12, c13, c14, c15, -, -⟩ := h2.2.2.1
              have ref : ∀ r, (if wt = 0 then r = zo S else if wt = 1 then r = zpl S else if wt = 2 then (if zo S = nI 1 then r = zr S - nI 128 else r = zk S) else r = nI (zd S)) → A2 0 = A 0 ∧ D207_plain (nI q) y z (nI bd) (nI wt) A2 I2 (fun r2 A3 I3 => r2 = r ∧ plF A I A3 I3 s F) := by
                intro r hr
                refine ⟨o2 0 (by omega) (by omega), ?_⟩
                have hM2 : gRM A2 I2 G := by
                  unfold gRM at hM ⊢
                  rw [o2 1682 (by omega) (by omega), o2 1683 (by omega) (by omega), o2 1684 (by omega) (by omega), o2 1685 (by omega) (by omega), o2 1686 (by omega) (by omega), o2 1687 (by omega) (by omega), oi 1681 1 (by omega) (by omega)]
                  exact hM
                unfold D207_plain
                rw [hM2.2.1]
                refine D_inM (by omega) (fun q' hq' e => ?_) (fun n0 => absurd rfl (n0 q hq))
                obtain rfl := (nI_eq (by omega) (by omega)).mp e
                rw [i1, vpT (n := q) (by omega) (by decide), nI_clamp (n := q) (by omega), hM2.2.2.1 q hq]
                refine ⟨trivial, ?_⟩
                rw [iEq (by omega) (by decide), if_pos a2]
                refine D_isIn (fun _ _ => ?_) (fun z => absurd z (fun z => z.elim y1 y2))
                rw [i1]
                refine D_isIn (fun _ _ => ?_) (fun z => absurd z (fun z => z.elim z1 z2))
                rw [i1]
                refine D_isIn (fun _ _ => ?_) (fun z => absurd z (fun z => z.elim u1a u1b))
                rw [i1]
                refine D_isIn (fun _ _ => ?_) (fun z => absurd z (fun z => z.elim w1 w2))
                rw [i1]
                have e90 : A2 1690 = A 1690 := o2 1690 (by omega) (by omega)
                refine M_slot hs (by rw [e90]; exact h0) (fun i hi => by rw [e90]; exact hsb i hi) (M_node by_ (M_node bz_ ?_))
                rw [eyi, ezi, pk_mul]
                have hb : 520 * s + 520 ≤ 88400 := by omega
                have hFM2 : zFM (sA A2 1690 s (nI 1)) (sI (sI I2 1681 18 (nI bd)) 1681 35 (nI (520 * s))) F := by
                  unfold zFM at hFM ⊢
                  rw [sA_na (by decide), sA_na (by decide), sA_na (by decide), sA_na (by decide), o2 1691 (by omega) (by omega), o2 1692 (by omega) (by omega), o2 1693 (by omega) (by omega), o2 1694 (by omega) (by omega), sI_n (by decide), sI_n (by decide), oi 1681 15 (by omega) (by omega)]
                  exact hFM
                refine M_begin hb sI_e (by omega) hFM2 (fun A4 I4 h4 => ?_)
                have m3 : A4 1688 (520 * s + 3) = -1 := by
                  rw [h4.2.2.2.2.2.2.1 _ (by unfold zMI; omega)]
                  unfold mB
                  rw [sA_n (by omega), sA_e]
                have hM4 : gRM (mB (sA A2 1690 s (nI 1)) (520 * s)) (sI (sI I2 1681 18 (nI bd)) 1681 35 (nI (520 * s))) G := by
                  unfold gRM at hM2 ⊢
                  unfold mB
                  rw [sI_n (by decide), sI_n (by decide)]
                  repeat rw [sA_na (by decide)]
                  exact hM2
                refine M_goOn0 h4 m3 (M_runP hM4 bd2 (by rw [sI_n (by decide), sI_e]) (by rw [sI_n (by decide), sI_n (by decide), oi 1681 31 (by omega) (by omega)]; exact hcn) h4 hf (zbeg_nm hyi hzi) rfl (Nat.zero_le _) (n := bd + 1) (by show bd < 0 + (bd + 1); omega) hN (fun A5 I5 h5 => ?_))
                rw [← hS] at h5
                obtain ⟨-, ⟨p1, p2, p3, p4, p5, p6⟩, p7, p8, p9, p10⟩ := h5
                have fin : plF A I (sA A5 1690 s (vp_nar (bm_ty 2) (nI 0))) (sI I5 1681 18 (I2 1681 18)) s F := by
                  have a5 : ∀ a, ¬ (5 ≤ a ∧ a ≤ 13) → ¬ (33 ≤ a ∧ a ≤ 36) → a ≠ 1688 → ¬ (1691 ≤ a ∧ a ≤ 1694) → a ≠ 1690 → A5 a = A a := fun a n1 n2 n3 n4 n5 => by
                    rw [p8 a n3 n4]
                    unfold mB
                    rw [sA_na n3, sA_na n3, sA_na n3, sA_na n5, o2 a n1 n2]
                  have lo5 : ∀ a, 33 ≤ a → a ≤ 36 → A5 a = A2 a := fun a n1 n2 => by
                    rw [p8 a (by omega) (by omega)]
                    unfold mB
                    rw [sA_na (by omega), sA_na (by omega), sA_na (by omega), sA_na (by omega)]
                  refine ⟨fun a n1 n2 n3 n4 => ?_, fun i n1 => ?_, fun a j n1 n2 n3 => ?_, ?_, ?_⟩
                  · by_cases e : a = 1690
                    · subst e
                      funext i
                      by_cases e2 : i = s
                      · subst e2; rw [sA_e, h0]; rfl
                      · rw [sA_n (Or.inr e2), p8 1690 (by omega) (by omega)]
                        unfold mB
                        rw [sA_na (by omega), sA_na (by omega), sA_na (by omega), sA_n (Or.inr e2), e90]
                    · rw [sA_na e]; exact a5 a n1 n2 n3 n4 e
                  · rw [sA_na (by omega), p9 i (by unfold zMI; omega)]
                    unfold mB
                    rw [sA_n (by omega), sA_n (by omega), sA_n (by omega), sA_na (by omega), o2 1688 (by omega) (by omega)]
                  · by_cases e : a = 1681 ∧ j = 18
                    · rw [e.1, e.2, sI_e, oi 1681 18 (by omega) (by omega)]
                    · rw [sI_n (by omega), p10 a j (by omega), sI_n (by omega), sI_n (by omega), oi a j n1 n2]
                  · have z := h2.2.2.2.1
                    unfold zFC at z ⊢
                    rw [sA_na (by decide), sA_na (by decide), sA_na (by decide), sA_na (by decide), lo5 33 (by omega) (by omega), lo5 34 (by omega) (by omega), lo5 35 (by omega) (by omega), lo5 36 (by omega) (by omega), sI_n (by decide), p10 32 4 (by omega), sI_n (by decide), sI_n (by decide)]
                    exact z
                  · unfold zFM at p7 ⊢
                    rw [sA_na (by decide), sA_na (by decide), sA_na (by decide), sA_na (by decide), sI_n (by decide)]
                    exact p7
                rw [vpT (n := s) (by omega) (by decide), sI_n (by decide), p1, nI_add, nI_add, nI_add, nI_add, nI_add, vpT (n := 520 * s + 514) (by omega) (by decide), vpT (n := 520 * s + 515) (by omega) (by decide), vpT (n := 520 * s + 516) (by omega) (by decide), vpT (n := 520 * s + 517) (by omega) (by decide), vpT (n := 520 * s + 1) (by omega) (by decide), nI_clamp (n := 520 * s + 514) (by omega), nI_clamp (n := 520 * s + 515) (by omega), nI_clamp (n := 520 * s + 516) (by omega), nI_clamp (n := 520 * s + 517) (by omega), nI_clamp (n := 520 * s + 1) (by omega), nI_clamp (n := s) (by omega), sA_na (b := 1688) (by decide), p2, p3, p4, p5, iEq (by omega) (by decide), iEq (by omega) (by decide), iEq (by omega) (by decide)]
                refine ⟨trivial, ?_⟩
                by_cases t0 : wt = 0
                · rw [if_pos t0] at hr ⊢; exact ⟨trivial, hr.symm, fin⟩
                · rw [if_neg t0] at hr ⊢
                  by_cases t1 : wt = 1
                  · rw [if_pos t1] at hr ⊢; exact ⟨trivial, hr.symm, fin⟩
                  · rw [if_neg t1] at hr ⊢
                    by_cases t2 : wt = 2
                    · rw [if_pos t2] at hr ⊢
                      by_cases t3 : zo S = nI 1
                      · rw [if_pos t3] at hr
                        rw [p6 t3]
                        unfold D178_number
                        rw [if_pos t3]
                        exact ⟨trivial, trivial, hr.symm, fin⟩
                      · rw [if_neg t3] at hr
                        rw [if_neg t3]
                        exact ⟨trivial, trivial, hr.symm, fin⟩
                    · rw [if_neg t2] at hr ⊢
                      exact ⟨trivial, hr.symm, fin⟩
              show if nI wt = nI 0 then _ else if nI wt = nI 1 then _ else if nI wt = nI 2 then (if I2 4 12 = nI 1 then _ else _) else _
              rw [iEq (by omega) (by decide), iEq (by omega) (by decide), iEq (by omega) (by decide), c11, c12, c13, c14, c15]
              by_cases t0 : wt = 0
              · rw [if_pos t0]; exact ref _ (by rw [if_pos t0])
              · rw [if_neg t0]
                by_cases t1 : wt = 1
                · rw [if_pos t1]; exact ref _ (by rw [if_neg t0, if_pos t1])
                · rw [if_neg t1]
                  by_cases t2 : wt = 2
                  · rw [if_pos t2]
                    by_cases t3 : zo S = nI 1
                    · rw [if_pos t3]
                      unfold D26_numberIn
                      rw [addE]
                      exact ref _ (by rw [if_neg t0, if_neg t1, if_pos t2, if_pos t3])
                    · rw [if_neg t3]; exact ref _ (by rw [if_neg t0, if_neg t1, if_pos t2, if_neg t3])
                  · rw [if_neg t2]; exact ref _ (by rw [if_neg t0, if_neg t1, if_neg t2])
            · rw [i0]
              exact ⟨rfl, M_plainNo hM (fun n => wb.elim n.2.2.2.2.2.2.2.1 n.2.2.2.2.2.2.2.2) ⟨rfl, hr⟩⟩
          · rw [i0]
            exact ⟨rfl, M_plainNo hM (fun n => ub.elim n.2.2.2.2.2.1 n.2.2.2.2.2.2.1) ⟨rfl, hr⟩⟩
        · rw [i0]
          exact ⟨rfl, M_plainNo hM (fun n => zb.elim n.2.2.2.1 n.2.2.2.2.1) ⟨rfl, hr⟩⟩
      · rw [i0]
        exact ⟨rfl, M_plainNo hM (fun n => yb.elim n.2.1 n.2.2.1) ⟨rfl, hr⟩⟩
    · rw [if_neg a2]
      show if nI 0 = 0 then _ else _
      rw [i0]
      exact ⟨rfl, M_plainNo hM (fun ⟨⟨p, hp, ep, e2⟩, _⟩ => a2 (by have := (nI_eq (by omega) (by omega)).mp ep; rw [this]; exact e2)) ⟨rfl, hr⟩⟩
  · rw [i0]
    exact ⟨rfl, M_plainNo hM (fun ⟨⟨p, hp, ep, e2⟩, _⟩ => n0 p hp ep) ⟨rfl, hr⟩⟩
end PQ
