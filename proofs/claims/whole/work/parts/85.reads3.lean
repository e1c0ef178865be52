/-! along, token, value: the same answers -/
theorem xy_in {x : Int32} (h1 : ¬ x < -16) (h2 : ¬ nI 15 < x) : ∃ j, j < 32 ∧ x = nI j + (-16) := by
  have a : (-16 : Int32).toInt ≤ x.toInt := Int32.le_iff_toInt_le.mp (Int32.not_lt.mp h1)
  have c := Int32.le_iff_toInt_le.mp (Int32.not_lt.mp h2)
  rw [nI_toInt (by decide)] at c
  have a : (-16 : Int) ≤ x.toInt := a
  refine ⟨(x.toInt + 16).toNat, by omega, ?_⟩
  apply Int32.toInt_inj.mp
  rw [← s16, pk_sub_toInt (by omega) (by decide)]
  omega
theorem ad16 (j : Int32) : j + (-16) - (-16) = j := Int32.add_sub_cancel j (-16)
theorem ad16' (j : Int32) : j + (-16) + nI 16 = j := by
  rw [← s16]; exact Int32.sub_add_cancel j (nI 16)
section RD3
variable {A I : HA} {F : zF} {n : Nat}
/-- PROMISE 12: along -/
theorem along_both {x y : Int32} (h : srch I) (hS : SP A I F n) : D14_along x y A I (fun r => D202_along x y A I (fun r2 => r2 = r)) := by
  have hn := hS.1
  have no : ¬ (¬ x < -16 ∧ ¬ nI 15 < x ∧ ¬ y < -16 ∧ ¬ nI 15 < y) → D202_along x y A I (fun r2 => r2 = -2) := by
    intro nn
    unfold D202_along D201_isInput
    refine srch_m h (D_isIn (fun x1 x2 => ?_) (fun _ => by rw [i0]; show if nI 0 = 0 then _ else _; rw [i0]))
    rw [i1]
    refine D_isIn (fun y1 y2 => absurd ⟨x1, x2, y1, y2⟩ nn) (fun _ => by rw [i0]; show if nI 0 = 0 then _ else _; rw [i0])
  unfold D14_along D13_isInput
  refine srch_c h (D_within (fun x1 x2 => ?_) (fun xb => ?_))
  · rw [i1]
    refine D_within (fun y1 y2 => ?_) (fun yb => ?_)
    · rw [i1]
      show if nI 1 = 0 then _ else _
      rw [i1]
      obtain ⟨xi, hxi, ex⟩ := xy_in x1 x2
      obtain ⟨yi, hyi, ey⟩ := xy_in y1 y2
      unfold D44_numberOf
      have num : nI 32 * (x - (-16)) + y - (-16) = nI (32 * xi + yi) := by
        rw [ex, ad16, pk_mul, ey, ← Int32.add_assoc, ad16, nI_add]
      rw [num]
      have m : ∀ v, (∀ P2 : Int32 → Prop, (∀ a3 : Int32, (if a3 < nI n then vp_in a3 100 ∧ (vp_in (((((nI 1024) * (A 1696 a3.toNatClampNeg)) + ((nI 32) * (x + (nI 16)))) + y) + (nI 16)) 174080 ∧ (if (A 1689 (((((nI 1024) * (A 1696 a3.toNatClampNeg)) + ((nI 32) * (x + (nI 16)))) + y) + (nI 16)).toNatClampNeg) = (-1) then a3 = v else P2 (a3 + nI 1))) else -1 = v) → P2 a3) → P2 (nI 0)) → D202_along x y A I (fun r2 => r2 = v) := by
        intro v hv
        unfold D202_along D201_isInput
        refine srch_m h (D_isIn (fun _ _ => ?_) (fun z => absurd z (fun z => z.elim x1 x2)))
        rw [i1]
        refine D_isIn (fun _ _ => ?_) (fun z => absurd z (fun z => z.elim y1 y2))
        rw [i1]
        show if nI 1 = 0 then _ else _
        rw [i1, hS.2.2.1]
        exact hv
      intro P hP
      have key : ∀ m k, m + k = n → (∀ v, (∀ P2 : Int32 → Prop, (∀ a3 : Int32, (if a3 < nI n then vp_in a3 100 ∧ (vp_in (((((nI 1024) * (A 1696 a3.toNatClampNeg)) + ((nI 32) * (x + (nI 16)))) + y) + (nI 16)) 174080 ∧ (if (A 1689 (((((nI 1024) * (A 1696 a3.toNatClampNeg)) + ((nI 32) * (x + (nI 16)))) + y) + (nI 16)).toNatClampNeg) = (-1) then a3 = v else P2 (a3 + nI 1))) else -1 = v) → P2 a3) → P2 (nI k)) → D202_along x y A I (fun r2 => r2 = v)) → P (nI k) := by
        intro m
        induction m with
        | zero =>
          intro k hk hv
          refine hP _ ?_
          rw [hS.2.1, iLt (by omega) (by omega), if_neg (by omega)]
          refine hv _ (fun P2 hP2 => hP2 _ ?_)
          rw [iLt (by omega) (by omega), if_neg (by omega)]
        | succ m ih =>
          intro k hk hv
          obtain ⟨i, s, r, e41, e96, hi, hs, hW, hC, hM, hE, hEm, hd, hr⟩ := hS.2.2.2 k (by omega)
          have iff := in_none (k := 32 * xi + yi) (by omega) hW hC hM
          have st : ∀ v (P2 : Int32 → Prop), (if A 1689 (1024 * s + (32 * xi + yi)) = -1 then nI k = v else P2 (nI (k + 1))) → (∀ a3 : Int32, (if a3 < nI n then vp_in a3 100 ∧ (vp_in (((((nI 1024) * (A 1696 a3.toNatClampNeg)) + ((nI 32) * (x + (nI 16)))) + y) + (nI 16)) 174080 ∧ (if (A 1689 (((((nI 1024) * (A 1696 a3.toNatClampNeg)) + ((nI 32) * (x + (nI 16)))) + y) + (nI 16)).toNatClampNeg) = (-1) then a3 = v else P2 (a3 + nI 1))) else -1 = v) → P2 a3) → P2 (nI k) := by
            intro v P2 h2 hP2
            refine hP2 _ ?_
            have idx : nI 1024 * nI s + nI 32 * (x + nI 16) + y + nI 16 = nI (1024 * s + (32 * xi + yi)) := by
              rw [ex, ad16', pk_mul, pk_mul, nI_add, ey, ← Int32.add_assoc, ad16', nI_add, Nat.add_assoc]
            rw [iLt (by omega) (by omega), if_pos (by omega), vpT (n := k) (by omega) (by decide), nI_clamp (n := k) (by omega), e96, idx, vpT (n := 1024 * s + (32 * xi + yi)) (by omega) (by decide), nI_clamp (n := 1024 * s + (32 * xi + yi)) (by omega), nI_add]
            exact ⟨trivial, trivial, h2⟩
          refine hP _ ?_
          rw [hS.2.1, iLt (by omega) (by omega), if_pos (by omega)]
          refine D_pathAt (by omega) hi e41 ⟨isW_mk hi, C_has (by omega) (fun z => ?_) (fun z => ?_)⟩
          · have z := iff.mp z
            rw [i1]
            exact hv _ (fun P2 hP2 => st _ P2 (by rw [if_pos z]) hP2)
          · have z : ¬ A 1689 (1024 * s + (32 * xi + yi)) = -1 := fun y => by rw [iff.mpr y] at z; cases z
            rw [i0, nI_add]
            exact ih (k + 1) (by omega) (fun v hv2 => hv v (fun P2 hP2 => st v P2 (by rw [if_neg z]; exact hv2 P2 hP2) hP2))
      exact key n 0 (by omega) m
    · rw [i0]
      show if nI 0 = 0 then _ else _
      rw [i0]
      exact no fun z => yb.elim z.2.2.1 z.2.2.2
  · rw [i0]
    show if nI 0 = 0 then _ else _
    rw [i0]
    exact no fun z => xb.elim z.1 z.2.1
theorem along_no {x y : Int32} (h : nsrch I) : D14_along x y A I (fun r => D202_along x y A I (fun r2 => r2 = r)) := by
  unfold D14_along
  refine nsrch_c h ?_
  unfold D202_along
  exact nsrch_m h rfl
/-- what token and value may change -/
def tkF (A I A2 I2 : HA) : Prop := (∀ a, ¬ (15 ≤ a ∧ a ≤ 17) → a ≠ 1700 → a ≠ 1701 → A2 a = A a) ∧ (∀ a j, ¬ (a = 14 ∧ j = 3) → ¬ (a = 1681 ∧ j = 34) → I2 a j = I a j)
theorem tkF.rf : tkF A I A I := ⟨fun _ _ _ _ => rfl, fun _ _ _ _ => rfl⟩
/-- PROMISE 10: token -/
theorem token_both {x y : Int32} (h : srch I) (hS : SP A I F n) (hF : zFC A I F) (hFM : zFM A I F) (hw : zfw F) : D11_token x y A I (fun r A1 I1 => A1 0 = A 0 ∧ D199_token x y A1 I1 (fun r2 A2 I2 => r2 = r ∧ tkF A I A2 I2)) := by
  have hn := hS.1
  have hN := hF.2.2.1
  unfold D11_token
  refine srch_c h (D_hasPath hS (fun k hk e => ?_) (fun n0 => ?_))
  · subst e
    rw [i1]
    obtain ⟨i, s, r, e41, e96, hi, hs, hW, hC, hM, hE, hEm, hd, hr⟩ := hS.2.2.2 k hk
    refine D_pathAt (by omega) hi e41 ⟨isW_mk hi, ?_⟩
    rw [hE.2.1]
    by_cases c : zo r.1 = nI 1
    · rw [if_pos c]
      obtain ⟨j, hj, ej⟩ := hr c
      refine D_pathAt (by omega) hi e41 ⟨isW_mk hi, ?_⟩
      rw [hE.2.2.2.2, ej]
      have hlen := tks_len hw (by omega) hj
      have hle := zsz_le hw.fok hN ⟨j, hj, rfl⟩
      refine C_write isT14 hF hw hj (fun A1 a1 t1 => ?_)
      have ref : ∀ v, (∀ u, u < (tks F j).length → y = nI u → v = (tks F j).getD u 0) → ((∀ u, u < (tks F j).length → ¬ y = nI u) → v = -1) → D199_token (nI k) y A1 (sI I 14 3 (nI (tks F j).length)) (fun r2 A2 I2 => r2 = v ∧ tkF A I A2 I2) := by
        intro v k1 k0
        have h' : srch (sI I 14 3 (nI (tks F j).length)) := by unfold srch; rw [sI_na (by decide), sI_na (by decide)]; exact h
        have e24 : (sI I 14 3 (nI (tks F j).length)) 1681 24 = nI n := by rw [sI_na (by decide)]; exact hS.2.2.1
        have hFM1 : zFM A1 (sI I 14 3 (nI (tks F j).length)) F := by
          unfold zFM at hFM ⊢
          rw [sI_na (by decide), a1 1691 (by decide) (by decide), a1 1692 (by decide) (by decide), a1 1693 (by decide) (by decide), a1 1694 (by decide) (by decide)]
          exact hFM
        unfold D199_token D196_isPath
        refine srch_m h' ?_
        rw [e24]
        refine D_inM (by omega) (fun k' hk' e => ⟨rfl, ?_⟩) (fun n0 => absurd rfl (n0 k hk))
        show if nI 1 = 0 then _ else _
        rw [i1, vpT (n := k) (by omega) (by decide), nI_clamp (n := k) (by omega), a1 1696 (by decide) (by decide), e96, pk_mul, nI_add, nI_add, vpT (n := 520 * s + 514) (by omega) (by decide), vpT (n := 520 * s + 517) (by omega) (by decide), nI_clamp (n := 520 * s + 514) (by omega), nI_clamp (n := 520 * s + 517) (by omega), a1 1688 (by decide) (by decide), hEm.2.1, hEm.2.2.2.2 c, ej, if_pos c]
        refine ⟨trivial, trivial, trivial, trivial, M_spell hFM1 hw hj (fun A2 a2 t2 => ?_)⟩
        have fr : tkF A I A2 (sI I 14 3 (nI (tks F j).length)) := ⟨fun a n1 n2 n3 => by rw [a2 a n2 n3]; exact a1 a (by omega) (by omega), fun a j n1 n2 => sI_n (by omega)⟩
        refine D_inM (by omega) (fun u hu e => ?_) (fun n1 => ?_)
        · subst e
          rw [i1, vpT (n := u) (by omega) (by decide), nI_clamp (n := u) (by omega), t2 u hu]
          exact ⟨trivial, (k1 u hu rfl).symm, fr⟩
        · rw [i0]
          exact ⟨(k0 n1).symm, fr⟩
      have a0 : A1 0 = A 0 := a1 0 (by decide) (by decide)
      unfold D2_within
      rw [sI_e]
      refine D_inM (Q := fun v8 => if v8 = 0 then A1 0 = A 0 ∧ D199_token (nI k) y A1 (sI I 14 3 (nI (tks F j).length)) (fun r2 A2 I2 => r2 = -1 ∧ tkF A I A2 I2) else D114_at 14 y A1 (sI I 14 3 (nI (tks F j).length)) (fun v9 => A1 0 = A 0 ∧ D199_token (nI k) y A1 (sI I 14 3 (nI (tks F j).length)) (fun r2 A2 I2 => r2 = v9 ∧ tkF A I A2 I2))) (by omega) (fun u hu e => ?_) (fun n1 => ?_)
      · subst e
        rw [i1]
        unfold D114_at
        rw [vpT (n := u) (by omega) (by decide), nI_clamp (n := u) (by omega), t1 u hu]
        exact ⟨trivial, a0, ref _ (fun u' hu' e => by have := (nI_eq (by omega) (by omega)).mp e; subst this; rfl) (fun z => absurd rfl (z u hu))⟩
      · rw [i0]
        exact ⟨a0, ref _ (fun u hu e => absurd e (n1 u hu)) (fun _ => rfl)⟩
    · rw [if_neg c]
      refine ⟨rfl, ?_⟩
      unfold D199_token
      refine srch_m h (D_isPath hS (fun k' hk' e => ?_) (fun n0 => absurd rfl (n0 k hk)))
      rw [i1, vpT (n := k) (by omega) (by decide), nI_clamp (n := k) (by omega), e96, pk_mul, nI_add, vpT (n := 520 * s + 514) (by omega) (by decide), nI_clamp (n := 520 * s + 514) (by omega), hEm.2.1, if_neg c]
      exact ⟨trivial, trivial, rfl, tkF.rf⟩
  · rw [i0]
    refine ⟨rfl, ?_⟩
    unfold D199_token
    exact srch_m h (D_isPath hS (fun k hk e => absurd e (n0 k hk)) (fun _ => by rw [i0]; exact ⟨rfl, tkF.rf⟩))
theorem token_no {x y : Int32} (h : nsrch I) : D11_token x y A I (fun r A1 I1 => A1 0 = A 0 ∧ D199_token x y A1 I1 (fun r2 A2 I2 => r2 = r ∧ tkF A I A2 I2)) := by
  unfold D11_token
  refine nsrch_c h ⟨rfl, ?_⟩
  unfold D199_token
  exact nsrch_m h ⟨rfl, tkF.rf⟩
/-- PROMISE 11: value -/
theorem value_both {x y z : Int32} (h : srch I) (hS : SP A I F n) (hF : zFC A I F) (hFM : zFM A I F) (hw : zfw F) : D12_value x y z A I (fun r A1 I1 => A1 0 = A 0 ∧ D200_value x y z A1 I1 (fun r2 A2 I2 => r2 = r ∧ tkF A I A2 I2)) := by
  have hn := hS.1
  have hN := hF.2.2.1
  have no : ∀ (v : Int32), (¬ (¬ y < -16 ∧ ¬ nI 15 < y ∧ ¬ z < -16 ∧ ¬ nI 15 < z)) → D200_value x y z A I (fun r2 A2 I2 => r2 = -2 ∧ tkF A I A2 I2) := by
    intro v nn
    unfold D200_value D201_isInput
    refine srch_m h (D_isIn (fun x1 x2 => ?_) (fun _ => by rw [i0]; show if nI 0 = 0 then _ else _; rw [i0]; exact ⟨rfl, tkF.rf⟩))
    rw [i1]
    refine D_isIn (fun y1 y2 => absurd ⟨x1, x2, y1, y2⟩ nn) (fun _ => by rw [i0]; show if nI 0 = 0 then _ else _; rw [i0]; exact ⟨rfl, tkF.rf⟩)
  unfold D12_value D13_isInput
  refine srch_c h (D_within (fun x1 x2 => ?_) (fun xb => ?_))
  · rw [i1]
    refine D_within (fun y1 y2 => ?_) (fun yb => ?_)
    · rw [i1]
      show if nI 1 = 0 then _ else _
      rw [i1]
      obtain ⟨xi, hxi, ex⟩ := xy_in x1 x2
      obtain ⟨yi, hyi, ey⟩ := xy_in y1 y2
      have b16 : ∀ j, j < 32 → bR (nI j + (-16)) := fun j hj => by
        unfold bR
        rw [← s16, pk_sub_toInt (by omega) (by decide)]
        omega
      have bx : bR y := by rw [ex]; exact b16 xi hxi
      have by_ : bR z := by rw [ey]; exact b16 yi hyi
      have okin : ∀ (A1 I1 : HA) (Q : Int32 → HA → HA → Prop) (R : Prop), srch I1 → (R) → (R → D196_isPath x A1 I1 (fun v2 => if v2 = 0 then Q (-1) A1 I1 else vp_in x 100 ∧ (vp_in (((nI 520) * (A1 1696 x.toNatClampNeg)) + (nI 514)) 88400 ∧ (if (A1 1688 (((nI 520) * (A1 1696 x.toNatClampNeg)) + (nI 514)).toNatClampNeg) = (nI 1) then vp_in x 100 ∧ (vp_in (((nI 520) * (A1 1696 x.toNatClampNeg)) + (nI 517)) 88400 ∧ (D189_spell (A1 1688 (((nI 520) * (A1 1696 x.toNatClampNeg)) + (nI 517)).toNatClampNeg) A1 I1 (fun v7 A8 I9 => D190_worth v7 y z A8 I9 (fun v10 A11 I12 => if (I12 1681 34) = 0 then Q v10 A11 I12 else Q (-4) A11 I12)))) else Q (-1) A1 I1)))) → D200_value x y z A1 I1 Q := by
        intro A1 I1 Q R h1 hR hk
        unfold D200_value D201_isInput
        refine srch_m h1 (D_isIn (fun _ _ => ?_) (fun z => absurd z (fun z => z.elim x1 x2)))
        rw [i1]
        refine D_isIn (fun _ _ => ?_) (fun z => absurd z (fun z => z.elim y1 y2))
        rw [i1]
        show if nI 1 = 0 then _ else _
        rw [i1]
        exact hk hR
      refine D_hasPath hS (fun k hk e => ?_) (fun n0 => ?_)
      · subst e
        rw [i1]
        obtain ⟨i, s, r, e41, e96, hi, hs, hW, hC, hM, hE, hEm, hd, hr⟩ := hS.2.2.2 k hk
        refine D_pathAt (by omega) hi e41 ⟨isW_mk hi, ?_⟩
        rw [hE.2.1]
        by_cases c : zo r.1 = nI 1
        · rw [if_pos c]
          obtain ⟨j, hj, ej⟩ := hr c
          refine D_pathAt (by omega) hi e41 ⟨isW_mk hi, ?_⟩
          rw [hE.2.2.2.2, ej]
          have hlen := tks_len hw (by omega) hj
          refine C_write isT14 hF hw hj (fun A1 a1 t1 => ?_)
          have ref : ∀ (A3 : HA) v, (∀ a, a ≠ 17 → A3 a = A1 a) → (evs F y z j = none → v = -4) → (∀ u, evs F y z j = some u → v = u) → A3 0 = A 0 ∧ D200_value (nI k) y z A3 (sI I 14 3 (nI (tks F j).length)) (fun r2 A2 I2 => r2 = v ∧ tkF A I A2 I2) := by
            intro A3 v a3 k0 k1
            refine ⟨by rw [a3 0 (by decide)]; exact a1 0 (by decide) (by decide), ?_⟩
            have o3 : ∀ a, ¬ (15 ≤ a ∧ a ≤ 17) → A3 a = A a := fun a n1 => by rw [a3 a (by omega)]; exact a1 a (by omega) (by omega)
            have h' : srch (sI I 14 3 (nI (tks F j).length)) := by unfold srch; rw [sI_na (by decide), sI_na (by decide)]; exact h
            have e24 : (sI I 14 3 (nI (tks F j).length)) 1681 24 = nI n := by rw [sI_na (by decide)]; exact hS.2.2.1
            have hFM1 : zFM A3 (sI I 14 3 (nI (tks F j).length)) F := by
              unfold zFM at hFM ⊢
              rw [sI_na (by decide), o3 1691 (by decide), o3 1692 (by decide), o3 1693 (by decide), o3 1694 (by decide)]
              exact hFM
            refine okin A3 _ _ True h' trivial (fun _ => ?_)
            unfold D196_isPath
            rw [e24]
            refine D_inM (by omega) (fun k' hk' e => ⟨rfl, ?_⟩) (fun n0 => absurd rfl (n0 k hk))
            show if nI 1 = 0 then _ else _
            rw [i1, vpT (n := k) (by omega) (by decide), nI_clamp (n := k) (by omega), o3 1696 (by decide), e96, pk_mul, nI_add, nI_add, vpT (n := 520 * s + 514) (by omega) (by decide), vpT (n := 520 * s + 517) (by omega) (by decide), nI_clamp (n := 520 * s + 514) (by omega), nI_clamp (n := 520 * s + 517) (by omega), o3 1688 (by decide), hEm.2.1, hEm.2.2.2.2 c, ej, if_pos c]
            refine ⟨trivial, trivial, trivial, trivial, M_spell hFM1 hw hj (fun A4 a4 t4 => ?_)⟩
            refine M_worth (x := y) (y := z) hw hN bx by_ hj t4 (fun u zf A5 I5 es en z1 b1 b2 b3 => ?_)
            have fr : tkF A I A5 I5 := ⟨fun a n1 n2 n3 => by rw [b1 a n2, a4 a n2 n3]; exact o3 a n1, fun a j n1 n2 => by rw [b2 a j n2]; exact sI_n (by omega)⟩
            rw [b3, iEq0 (by omega)]
            cases ev : evs F y z j with
            | none =>
              have := en ev
              rw [if_neg (by omega)]
              exact ⟨(k0 ev).symm, fr⟩
            | some u2 =>
              obtain ⟨q1, q2⟩ := es u2 ev
              rw [if_pos q2]
              exact ⟨q1.trans (k1 u2 ev).symm, fr⟩
          refine C_wordFor (t := 14) (x := y) (y := z) hw hN hj sI_e t1 (fun v ev A3 a3 => ?_) (fun en A3 a3 => ?_)
          · have bv := ev_bR hw (by omega) bx by_ _ _ _ hj ev
            rw [if_neg (fun y => by rw [y] at bv; exact absurd bv.2 (by decide))]
            exact ref A3 v a3 (fun en => by rw [ev] at en; cases en) (fun u eu => by rw [ev] at eu; cases eu; rfl)
          · rw [if_pos rfl]
            exact ref A3 (-4) a3 (fun _ => rfl) (fun u eu => by rw [en] at eu; cases eu)
        · rw [if_neg c]
          refine ⟨rfl, okin A I _ True h trivial (fun _ => D_isPath hS (fun k' hk' e => ?_) (fun n0 => absurd rfl (n0 k hk)))⟩
          rw [i1, vpT (n := k) (by omega) (by decide), nI_clamp (n := k) (by omega), e96, pk_mul, nI_add, vpT (n := 520 * s + 514) (by omega) (by decide), nI_clamp (n := 520 * s + 514) (by omega), hEm.2.1, if_neg c]
          exact ⟨trivial, trivial, rfl, tkF.rf⟩
      · rw [i0]
        refine ⟨rfl, okin A I _ True h trivial (fun _ => D_isPath hS (fun k hk e => absurd e (n0 k hk)) (fun _ => by rw [i0]; exact ⟨rfl, tkF.rf⟩))⟩
    · rw [i0]
      show if nI 0 = 0 then _ else _
      rw [i0]
      exact ⟨rfl, no 0 fun z => yb.elim z.2.2.1 z.2.2.2⟩
  · rw [i0]
    show if nI 0 = 0 then _ else _
    rw [i0]
    exact ⟨rfl, no 0 fun z => xb.elim z.1 z.2.1⟩
theorem value_no {x y z : Int32} (h : nsrch I) : D12_value x y z A I (fun r A1 I1 => A1 0 = A 0 ∧ D200_value x y z A1 I1 (fun r2 A2 I2 => r2 = r ∧ tkF A I A2 I2)) := by
  unfold D12_value
  refine nsrch_c h ⟨rfl, ?_⟩
  unfold D200_value
  exact nsrch_m h ⟨rfl, tkF.rf⟩
end RD3
