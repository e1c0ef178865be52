/-! THE REFERENCE's worth -/
section WM
variable {F : zF} {x y : Int32}
/-- one turn of worth -/
def B190 (x y z : Int32) (P1 : Int32 → Int32 → HA → HA → Prop) (Q : Int32 → HA → HA → Prop) (a2 a3 : Int32) (A6 I7 : HA) : Prop := if a3 < x then vp_in a3 61 ∧ (if (A6 1701 a3.toNatClampNeg) < (nI 800) then if (A6 1701 a3.toNatClampNeg) < (nI 3) then if (A6 1701 a3.toNatClampNeg) = (nI 1) then vp_in a2 130 ∧ (P1 (a2 + nI 1) (a3 + nI 1) (sA A6 1700 a2.toNatClampNeg y) I7) else vp_in a2 130 ∧ (P1 (a2 + nI 1) (a3 + nI 1) (sA A6 1700 a2.toNatClampNeg z) I7) else if (A6 1701 a3.toNatClampNeg) = (nI 11) then vp_in (a2 - (nI 1)) 130 ∧ (D179_reckon (A6 1701 a3.toNatClampNeg) (A6 1700 (a2 - (nI 1)).toNatClampNeg) (nI 0) (fun v12 => vp_in (a2 - (nI 1)) 130 ∧ (P1 a2 (a3 + nI 1) (sA A6 1700 (a2 - (nI 1)).toNatClampNeg v12) I7))) else if (A6 1701 a3.toNatClampNeg) = (nI 29) then vp_in (a2 - (nI 1)) 130 ∧ (D179_reckon (A6 1701 a3.toNatClampNeg) (A6 1700 (a2 - (nI 1)).toNatClampNeg) (nI 0) (fun v45 => vp_in (a2 - (nI 1)) 130 ∧ (P1 a2 (a3 + nI 1) (sA A6 1700 (a2 - (nI 1)).toNatClampNeg v45) I7))) else if (A6 1701 a3.toNatClampNeg) = (nI 9) then vp_in (a2 + (-1)) 130 ∧ (if (A6 1700 (a2 + (-1)).toNatClampNeg) = 0 then if (I7 1681 34) = 0 then vp_in ((a2 + (-1)) - (nI 1)) 130 ∧ (P1 (a2 + (-1)) (a3 + nI 1) (sA A6 1700 ((a2 + (-1)) - (nI 1)).toNatClampNeg (nI 0)) (sI I7 1681 34 (nI 1))) else vp_in ((a2 + (-1)) - (nI 1)) 130 ∧ (P1 (a2 + (-1)) (a3 + nI 1) (sA A6 1700 ((a2 + (-1)) - (nI 1)).toNatClampNeg (nI 0)) (sI I7 1681 34 (nI 1))) else if (I7 1681 34) = 0 then vp_in ((a2 + (-1)) - (nI 1)) 130 ∧ (vp_in (a2 + (-1)) 130 ∧ (D179_reckon (A6 1701 a3.toNatClampNeg) (A6 1700 ((a2 + (-1)) - (nI 1)).toNatClampNeg) (A6 1700 (a2 + (-1)).toNatClampNeg) (fun v21 => vp_in ((a2 + (-1)) - (nI 1)) 130 ∧ (P1 (a2 + (-1)) (a3 + nI 1) (sA A6 1700 ((a2 + (-1)) - (nI 1)).toNatClampNeg v21) (sI I7 1681 34 (nI 0)))))) else vp_in ((a2 + (-1)) - (nI 1)) 130 ∧ (vp_in (a2 + (-1)) 130 ∧ (D179_reckon (A6 1701 a3.toNatClampNeg) (A6 1700 ((a2 + (-1)) - (nI 1)).toNatClampNeg) (A6 1700 (a2 + (-1)).toNatClampNeg) (fun v17 => vp_in ((a2 + (-1)) - (nI 1)) 130 ∧ (P1 (a2 + (-1)) (a3 + nI 1) (sA A6 1700 ((a2 + (-1)) - (nI 1)).toNatClampNeg v17) (sI I7 1681 34 (nI 1))))))) else if (A6 1701 a3.toNatClampNeg) = (nI 10) then vp_in (a2 + (-1)) 130 ∧ (if (A6 1700 (a2 + (-1)).toNatClampNeg) = 0 then if (I7 1681 34) = 0 then vp_in ((a2 + (-1)) - (nI 1)) 130 ∧ (P1 (a2 + (-1)) (a3 + nI 1) (sA A6 1700 ((a2 + (-1)) - (nI 1)).toNatClampNeg (nI 0)) (sI I7 1681 34 (nI 1))) else vp_in ((a2 + (-1)) - (nI 1)) 130 ∧ (P1 (a2 + (-1)) (a3 + nI 1) (sA A6 1700 ((a2 + (-1)) - (nI 1)).toNatClampNeg (nI 0)) (sI I7 1681 34 (nI 1))) else if (I7 1681 34) = 0 then vp_in ((a2 + (-1)) - (nI 1)) 130 ∧ (vp_in (a2 + (-1)) 130 ∧ (D179_reckon (A6 1701 a3.toNatClampNeg) (A6 1700 ((a2 + (-1)) - (nI 1)).toNatClampNeg) (A6 1700 (a2 + (-1)).toNatClampNeg) (fun v40 => vp_in ((a2 + (-1)) - (nI 1)) 130 ∧ (P1 (a2 + (-1)) (a3 + nI 1) (sA A6 1700 ((a2 + (-1)) - (nI 1)).toNatClampNeg v40) (sI I7 1681 34 (nI 0)))))) else vp_in ((a2 + (-1)) - (nI 1)) 130 ∧ (vp_in (a2 + (-1)) 130 ∧ (D179_reckon (A6 1701 a3.toNatClampNeg) (A6 1700 ((a2 + (-1)) - (nI 1)).toNatClampNeg) (A6 1700 (a2 + (-1)).toNatClampNeg) (fun v36 => vp_in ((a2 + (-1)) - (nI 1)) 130 ∧ (P1 (a2 + (-1)) (a3 + nI 1) (sA A6 1700 ((a2 + (-1)) - (nI 1)).toNatClampNeg v36) (sI I7 1681 34 (nI 1))))))) else if (I7 1681 34) = 0 then vp_in ((a2 + (-1)) - (nI 1)) 130 ∧ (vp_in (a2 + (-1)) 130 ∧ (D179_reckon (A6 1701 a3.toNatClampNeg) (A6 1700 ((a2 + (-1)) - (nI 1)).toNatClampNeg) (A6 1700 (a2 + (-1)).toNatClampNeg) (fun v31 => vp_in ((a2 + (-1)) - (nI 1)) 130 ∧ (P1 (a2 + (-1)) (a3 + nI 1) (sA A6 1700 ((a2 + (-1)) - (nI 1)).toNatClampNeg v31) (sI I7 1681 34 (nI 0)))))) else vp_in ((a2 + (-1)) - (nI 1)) 130 ∧ (vp_in (a2 + (-1)) 130 ∧ (D179_reckon (A6 1701 a3.toNatClampNeg) (A6 1700 ((a2 + (-1)) - (nI 1)).toNatClampNeg) (A6 1700 (a2 + (-1)).toNatClampNeg) (fun v27 => vp_in ((a2 + (-1)) - (nI 1)) 130 ∧ (P1 (a2 + (-1)) (a3 + nI 1) (sA A6 1700 ((a2 + (-1)) - (nI 1)).toNatClampNeg v27) (sI I7 1681 34 (nI 1)))))) else vp_in a2 130 ∧ (P1 (a2 + nI 1) (a3 + nI 1) (sA A6 1700 a2.toNatClampNeg ((A6 1701 a3.toNatClampNeg) - (nI 1000))) I7)) else vp_in (nI 0) 130 ∧ (Q (A6 1700 (nI 0).toNatClampNeg) A6 I7)
/-- all but the flag is as in I0 -/
def oI (I0 I : HA) : Prop := ∀ a j, ¬ (a = 1681 ∧ j = 34) → I a j = I0 a j
theorem oI.set {I0 I : HA} (h : oI I0 I) {v : Int32} : oI I0 (sI I 1681 34 v) := fun a j n => by rw [sI_n (by omega)]; exact h a j n
theorem M_wf {Q : Int32 → HA → HA → Prop} {P : Int32 → Int32 → HA → HA → Prop} {I0 : HA} {A0 : HA} {T : List Int32} (hw : zfw F) (hN : F.1 ≤ 32258) (hx : bR x) (hy : bR y) (hT : T.length ≤ 60) (htok : ∀ i, i < T.length → A0 1701 i = T.getD i 0) (hP : ∀ a2 a3 A6 I7, B190 (nI T.length) x y P Q a2 a3 A6 I7 → P a2 a3 A6 I7) :
    ∀ (n j h a : Nat) (A I : HA) (U V : List Int32) (z : Nat), j < n → j < F.1 → T = U ++ (tks F j ++ V) → U.length = a → (∀ b, b ≠ 1700 → A b = A0 b) → h ≤ a → z ≤ 1 → oI I0 I → I 1681 34 = nI z →
      (∀ u z' A' I', bR u → (∀ v, ev F x y n j = some v → u = v ∧ z' = z) → (ev F x y n j = none → z' = 1) → z' ≤ 1 → (∀ b, b ≠ 1700 → A' b = A0 b) → oI I0 I' → I' 1681 34 = nI z' → (∀ i, i < h → A' 1700 i = A 1700 i) → A' 1700 h = u → P (nI (h + 1)) (nI (a + (tks F j).length)) A' I') → P (nI h) (nI a) A I
  | 0, j, _, _, _, _, _, _, _, h1, _, _, _, _, _, _, _, _, _ => absurd h1 (Nat.not_lt_zero j)
  | n + 1, j, h, a, A, I, U, V, z, h1, h2, h3, h4, h5, h6, hz1, hoI, hzI, ks => by
    have hTl : U.length + ((tks F j).length + V.length) = T.length := by rw [h3, List.length_append, List.length_append]
    have hz := zsz_pos hw h2 (by omega)
    have hlen := tks_len hw (by omega) h2
    unfold ev at ks
    by_cases c1 : j < 256
    · rw [if_pos c1] at ks
      have tj := tks_num (F := F) c1
      rw [tj] at h3 ks hTl
      have hTl : U.length + (1 + V.length) = T.length := hTl
      have tg : A 1701 a = nI (872 + j) := by
        rw [h5 _ (by omega), htok a (by omega), h3, get_pre h4.symm]; exact tok_num c1
      refine hP _ _ _ _ ?_
      unfold B190
      rw [iLt (by omega) (by omega), if_pos (by omega), vpT (n := a) (by omega) (by decide), nI_clamp (n := a) (by omega), tg, iLt (by omega) (by decide), if_neg (by omega), vpT (n := h) (by omega) (by decide), nI_clamp (n := h) (by omega), nI_add, nI_add]
      have e1 : nI (872 + j) - nI 1000 = nI j - nI 128 := by
        apply Int32.toInt_inj.mp
        rw [pk_sub_toInt (by omega) (by decide), nbR c1]
        omega
      exact ⟨trivial, trivial, ks _ z _ _ (bR_num c1) (fun v e => ⟨Option.some.inj e, rfl⟩) (fun e => by cases e) hz1 (fun b hb => by rw [sA_na hb]; exact h5 b hb) hoI hzI (fun i hi => sA_n (by omega)) (by rw [sA_e, e1])⟩
    · rw [if_neg c1] at ks
      by_cases c8 : j < 258
      · have go : ∀ (u : Nat) (w : Int32), tks F j = [nI (u + 1)] → u < 2 → w = (if u = 0 then x else y) → (∀ A', (∀ b, b ≠ 1700 → A' b = A0 b) → (∀ i, i < h → A' 1700 i = A 1700 i) → A' 1700 h = w → P (nI (h + 1)) (nI (a + (tks F j).length)) A' I) → P (nI h) (nI a) A I := by
          intro u w tj hu ew ks
          rw [tj] at h3 ks hTl
          have hTl : U.length + (1 + V.length) = T.length := hTl
          have tg : A 1701 a = nI (u + 1) := by
            rw [h5 _ (by omega), htok a (by omega), h3, get_pre h4.symm]
          refine hP _ _ _ _ ?_
          unfold B190
          rw [iLt (by omega) (by omega), if_pos (by omega), vpT (n := a) (by omega) (by decide), nI_clamp (n := a) (by omega), tg, iLt (by omega) (by decide), if_pos (by omega), iLt (by omega) (by decide), if_pos (by omega), vpT (n := h) (by omega) (by decide), nI_clamp (n := h) (by omega), nI_add, nI_add]
          simp only [eqT (show u + 1 < 2 ^ 31 by omega) (show 1 < 2 ^ 31 by decide)]
          refine ⟨trivial, ?_⟩
          by_cases c2 : u = 0
          · rw [if_pos (by omega)]
            exact ⟨trivial, ks _ (fun b hb => by rw [sA_na hb]; exact h5 b hb) (fun i hi => sA_n (by omega)) (by rw [sA_e, ew, if_pos c2])⟩
          · rw [if_neg (by omega)]
            exact ⟨trivial, ks _ (fun b hb => by rw [sA_na hb]; exact h5 b hb) (fun i hi => sA_n (by omega)) (by rw [sA_e, ew, if_neg c2])⟩
        by_cases c2 : j = 256
        · rw [if_pos c2] at ks
          exact go 0 x (by rw [tks_xy c1 c8, c2]) (by decide) (by rw [if_pos rfl]) (fun A' a1 a2 a3 => ks x z _ _ hx (fun v e => ⟨Option.some.inj e, rfl⟩) (fun e => by cases e) hz1 a1 hoI hzI a2 a3)
        · rw [if_neg c2, if_pos (show j = 257 by omega)] at ks
          exact go 1 y (by rw [tks_xy c1 c8, show j = 257 by omega]) (by decide) (by rw [if_neg (by decide)]) (fun A' a1 a2 a3 => ks y z _ _ hy (fun v e => ⟨Option.some.inj e, rfl⟩) (fun e => by cases e) hz1 a1 hoI hzI a2 a3)
      · rw [if_neg (by omega), if_neg (by omega)] at ks
        obtain ⟨-, l, hl', el, ⟨eo, er, es⟩ | ⟨k, r, hk, hr, eo, er, es⟩⟩ := hw j (by omega) h2
        · have tj := tks_one hw (by omega) (by omega) h2 hl' el er
          rw [er, if_pos rfl, el, nI_clamp (by omega)] at ks
          rw [tj] at h3 ks hTl
          rw [List.length_append] at hTl ks
          have hTl : U.length + ((tks F l).length + 1 + V.length) = T.length := hTl
          refine M_wf hw hN hx hy hT htok hP n l h a A I U ([F.2.1 j] ++ V) z (by omega) (by omega) (by rw [h3, List.append_assoc]) h4 h5 h6 hz1 hoI hzI (fun u z' A' I' bu es1 en1 z1 a1 a2 a3 a4 a5 => ?_)
          have tg : A' 1701 (a + (tks F l).length) = F.2.1 j := by
            rw [a1 _ (by omega), htok _ (by omega), h3, show U ++ (tks F l ++ [F.2.1 j] ++ V) = (U ++ tks F l) ++ ([F.2.1 j] ++ V) by simp, get_pre (by rw [List.length_append]; omega)]
          obtain ⟨q, hq, eq⟩ : ∃ q, (q = 11 ∨ q = 29) ∧ F.2.1 j = nI q := eo.elim (fun e => ⟨11, Or.inl rfl, e⟩) (fun e => ⟨29, Or.inr rfl, e⟩)
          refine hP _ _ _ _ ?_
          unfold B190
          rw [iLt (by omega) (by omega), if_pos (by omega), vpT (n := a + (tks F l).length) (by omega) (by decide), nI_clamp (n := a + (tks F l).length) (by omega), tg, eq, iLt (by omega) (by decide), if_pos (by omega), iLt (by omega) (by decide), if_neg (by omega), iEq (a := q) (b := 11) (by omega) (by decide), iEq (a := q) (b := 29) (by omega) (by decide)]
          refine ⟨trivial, ?_⟩
          have two : vp_in (nI (h + 1) - (nI 1)) 130 ∧ (D179_reckon (nI q) (A' 1700 (nI (h + 1) - (nI 1)).toNatClampNeg) (nI 0) (fun v12 => vp_in (nI (h + 1) - (nI 1)) 130 ∧ (P (nI (h + 1)) (nI (a + (tks F l).length) + nI 1) (sA A' 1700 (nI (h + 1) - (nI 1)).toNatClampNeg v12) I'))) := by
            rw [pk_sub (by omega), show h + 1 - 1 = h by omega, vpT (n := h) (by omega) (by decide), nI_clamp (n := h) (by omega), a5, nI_add]
            refine ⟨trivial, M_reckon1 hq bu ⟨trivial, ?_⟩⟩
            refine ks _ z' _ _ (bR_w1 bu) (fun v e => ?_) (fun e => ?_) z1 (fun b hb => by rw [sA_na hb]; exact a1 b hb) a2 a3 (fun i hi => by rw [sA_n (by omega)]; exact a4 i hi) sA_e
            · cases e1 : ev F x y n l with
              | none => rw [e1] at e; cases e
              | some c =>
                rw [e1] at e
                obtain ⟨s1, s2⟩ := es1 c e1
                have e := Option.some.inj e
                rw [← eq, s1]
                exact ⟨e, s2⟩
            · cases e1 : ev F x y n l with
              | none => exact en1 e1
              | some c => rw [e1] at e; cases e
          by_cases q1 : q = 11
          · rw [if_pos q1]; exact two
          · rw [if_neg q1, if_pos (by omega)]; exact two
        · have tj := tks_two hw (by omega) (by omega) h2 hl' hr el er
          rw [er, if_neg (fun y => nI_pos (n := r) (by omega) (by rw [y]; decide)), el, nI_clamp (by omega), nI_clamp (by omega)] at ks
          rw [tj] at h3 ks hTl
          rw [List.length_append, List.length_append] at hTl ks
          have hTl : U.length + ((tks F l).length + ((tks F r).length + 1) + V.length) = T.length := hTl
          have pl : 1 ≤ (tks F l).length := by rw [tks_len hw (by omega) (show l < F.1 by omega)]; exact zsz_pos hw (by omega) (by omega)
          have pr : 1 ≤ (tks F r).length := by rw [tks_len hw (by omega) (show r < F.1 by omega)]; exact zsz_pos hw (by omega) (by omega)
          refine M_wf hw hN hx hy hT htok hP n l h a A I U (tks F r ++ ([F.2.1 j] ++ V)) z (by omega) (by omega) (by rw [h3, List.append_assoc, List.append_assoc]) h4 h5 h6 hz1 hoI hzI (fun u z' A' I' bu es1 en1 z1 a1 a2 a3 a4 a5 => ?_)
          refine M_wf hw hN hx hy hT htok hP n r (h + 1) (a + (tks F l).length) A' I' (U ++ tks F l) ([F.2.1 j] ++ V) z' (by omega) (by omega) (by rw [h3]; simp) (by rw [List.length_append]; omega) a1 (by omega) z1 a2 a3 (fun u2 z2 A2 I2 bu2 es2 en2 z21 b1 b2 b3 b4 b5 => ?_)
          have tg : A2 1701 (a + (tks F l).length + (tks F r).length) = nI k := by
            rw [b1 _ (by omega), htok _ (by omega), h3, show U ++ (tks F l ++ (tks F r ++ [F.2.1 j]) ++ V) = (U ++ tks F l ++ tks F r) ++ ([F.2.1 j] ++ V) by simp, get_pre (by rw [List.length_append, List.length_append]; omega), eo]
          obtain ⟨k1, k2, k3⟩ := hk
          rw [eo, nI_clamp (by omega)] at ks
          have s0 : A2 1700 h = u := (b4 h (by omega)).trans a5
          have fin : ∀ (u3 : Int32) (z3 : Nat) (I3 : HA), bR u3 → ((k = 9 ∨ k = 10) ∧ u2 = 0 → z3 = 1) → (¬ ((k = 9 ∨ k = 10) ∧ u2 = 0) → u3 = w2F k u u2 ∧ z3 = z2) → z3 ≤ 1 → oI I0 I3 → I3 1681 34 = nI z3 → P (nI (h + 1)) (nI (a + (tks F l).length + (tks F r).length) + nI 1) (sA A2 1700 h u3) I3 := by
            intro u3 z3 I3 bu3 hb1 hb2 z31 o3 e3
            rw [nI_add, Nat.add_assoc, Nat.add_assoc]
            have kq : (nI k = nI 9 ∨ nI k = nI 10) ↔ (k = 9 ∨ k = 10) := by rw [nI_eq (by omega) (by decide), nI_eq (by omega) (by decide)]
            refine ks u3 z3 _ _ bu3 (fun v e => ?_) (fun e => ?_) z31 (fun b hb => by rw [sA_na hb]; exact b1 b hb) o3 e3 (fun i hi => by rw [sA_n (by omega), b4 i (by omega)]; exact a4 i hi) sA_e
            · cases e1 : ev F x y n l with
              | none => rw [e1] at e; cases e
              | some c =>
                cases e2 : ev F x y n r with
                | none => rw [e1, e2] at e; cases e
                | some c2 =>
                  rw [e1, e2] at e
                  have e : (if (nI k = nI 9 ∨ nI k = nI 10) ∧ c2 = 0 then none else some (w2F k c c2)) = some v := e
                  obtain ⟨s1, s2⟩ := es1 c e1
                  obtain ⟨s3, s4⟩ := es2 c2 e2
                  subst s1
                  subst s3
                  split at e
                  · cases e
                  · rename_i nz
                    obtain ⟨q1, q2⟩ := hb2 (fun y => nz ⟨kq.mpr y.1, y.2⟩)
                    exact ⟨q1.trans (Option.some.inj e), by omega⟩
            · cases e1 : ev F x y n l with
              | none =>
                have zz := en1 e1
                cases e2 : ev F x y n r with
                | none => have := en2 e2; by_cases bb : (k = 9 ∨ k = 10) ∧ u2 = 0
                          · exact hb1 bb
                          · have := (hb2 bb).2; omega
                | some c2 => have := (es2 c2 e2).2; by_cases bb : (k = 9 ∨ k = 10) ∧ u2 = 0
                             · exact hb1 bb
                             · have := (hb2 bb).2; omega
              | some c =>
                cases e2 : ev F x y n r with
                | none => have := en2 e2; by_cases bb : (k = 9 ∨ k = 10) ∧ u2 = 0
                          · exact hb1 bb
                          · have := (hb2 bb).2; omega
                | some c2 =>
                  rw [e1, e2] at e
                  have e : (if (nI k = nI 9 ∨ nI k = nI 10) ∧ c2 = 0 then none else some (w2F k c c2)) = none := e
                  obtain ⟨s3, s4⟩ := es2 c2 e2
                  subst s3
                  split at e
                  · rename_i bz; exact hb1 ⟨kq.mp bz.1, bz.2⟩
                  · cases e
          have good : ¬ ((k = 9 ∨ k = 10) ∧ u2 = 0) → if (I2 1681 34) = 0 then vp_in ((nI (h + 1)) - (nI 1)) 130 ∧ (vp_in (nI (h + 1)) 130 ∧ (D179_reckon (nI k) (A2 1700 ((nI (h + 1)) - (nI 1)).toNatClampNeg) (A2 1700 (nI (h + 1)).toNatClampNeg) (fun v21 => vp_in ((nI (h + 1)) - (nI 1)) 130 ∧ (P (nI (h + 1)) (nI (a + (tks F l).length + (tks F r).length) + nI 1) (sA A2 1700 ((nI (h + 1)) - (nI 1)).toNatClampNeg v21) (sI I2 1681 34 (nI 0)))))) else vp_in ((nI (h + 1)) - (nI 1)) 130 ∧ (vp_in (nI (h + 1)) 130 ∧ (D179_reckon (nI k) (A2 1700 ((nI (h + 1)) - (nI 1)).toNatClampNeg) (A2 1700 (nI (h + 1)).toNatClampNeg) (fun v17 => vp_in ((nI (h + 1)) - (nI 1)) 130 ∧ (P (nI (h + 1)) (nI (a + (tks F l).length + (tks F r).length) + nI 1) (sA A2 1700 ((nI (h + 1)) - (nI 1)).toNatClampNeg v17) (sI I2 1681 34 (nI 1)))))) := by
            intro nb
            rw [pk_sub (by omega), show h + 1 - 1 = h by omega, vpT (n := h + 1) (by omega) (by decide), nI_clamp (n := h + 1) (by omega), vpT (n := h) (by omega) (by decide), nI_clamp (n := h) (by omega), s0, b5, b3, iEq0 (by omega)]
            have rk : ∀ I3, oI I0 I3 → I3 1681 34 = nI z2 → D179_reckon (nI k) u u2 (fun v21 => True ∧ (P (nI (h + 1)) (nI (a + (tks F l).length + (tks F r).length) + nI 1) (sA A2 1700 h v21) I3)) := fun I3 o3 e3 => M_reckon2 ⟨k1, k2, k3⟩ (fun y z0 => nb ⟨y, z0⟩) ⟨trivial, fin _ z2 I3 (bR_w2 bu bu2) (fun y => absurd y nb) (fun _ => ⟨rfl, rfl⟩) z21 o3 e3⟩
            by_cases zz : z2 = 0
            · rw [if_pos zz]; exact ⟨trivial, trivial, rk _ b2.set (by rw [sI_e, zz])⟩
            · rw [if_neg zz]; exact ⟨trivial, trivial, rk _ b2.set (by rw [sI_e, show z2 = 1 by omega])⟩
          have div : (k = 9 ∨ k = 10) → if (A2 1700 (nI (h + 1)).toNatClampNeg) = 0 then if (I2 1681 34) = 0 then vp_in ((nI (h + 1)) - (nI 1)) 130 ∧ (P (nI (h + 1)) (nI (a + (tks F l).length + (tks F r).length) + nI 1) (sA A2 1700 ((nI (h + 1)) - (nI 1)).toNatClampNeg (nI 0)) (sI I2 1681 34 (nI 1))) else vp_in ((nI (h + 1)) - (nI 1)) 130 ∧ (P (nI (h + 1)) (nI (a + (tks F l).length + (tks F r).length) + nI 1) (sA A2 1700 ((nI (h + 1)) - (nI 1)).toNatClampNeg (nI 0)) (sI I2 1681 34 (nI 1))) else if (I2 1681 34) = 0 then vp_in ((nI (h + 1)) - (nI 1)) 130 ∧ (vp_in (nI (h + 1)) 130 ∧ (D179_reckon (nI k) (A2 1700 ((nI (h + 1)) - (nI 1)).toNatClampNeg) (A2 1700 (nI (h + 1)).toNatClampNeg) (fun v21 => vp_in ((nI (h + 1)) - (nI 1)) 130 ∧ (P (nI (h + 1)) (nI (a + (tks F l).length + (tks F r).length) + nI 1) (sA A2 1700 ((nI (h + 1)) - (nI 1)).toNatClampNeg v21) (sI I2 1681 34 (nI 0)))))) else vp_in ((nI (h + 1)) - (nI 1)) 130 ∧ (vp_in (nI (h + 1)) 130 ∧ (D179_reckon (nI k) (A2 1700 ((nI (h + 1)) - (nI 1)).toNatClampNeg) (A2 1700 (nI (h + 1)).toNatClampNeg) (fun v17 => vp_in ((nI (h + 1)) - (nI 1)) 130 ∧ (P (nI (h + 1)) (nI (a + (tks F l).length + (tks F r).length) + nI 1) (sA A2 1700 ((nI (h + 1)) - (nI 1)).toNatClampNeg v17) (sI I2 1681 34 (nI 1)))))) := by
            intro kd
            have cnd : A2 1700 (nI (h + 1)).toNatClampNeg = u2 := by rw [nI_clamp (n := h + 1) (by omega), b5]
            by_cases u0 : u2 = 0
            · rw [if_pos (cnd.trans u0)]
              have bz : vp_in ((nI (h + 1)) - (nI 1)) 130 ∧ (P (nI (h + 1)) (nI (a + (tks F l).length + (tks F r).length) + nI 1) (sA A2 1700 ((nI (h + 1)) - (nI 1)).toNatClampNeg (nI 0)) (sI I2 1681 34 (nI 1))) := by
                rw [pk_sub (by omega), show h + 1 - 1 = h by omega, vpT (n := h) (by omega) (by decide), nI_clamp (n := h) (by omega)]
                exact ⟨trivial, fin _ 1 _ bR0 (fun _ => rfl) (fun y => absurd ⟨kd, u0⟩ y) (Nat.le_refl _) b2.set sI_e⟩
              split <;> exact bz
            · rw [if_neg (fun y => u0 (cnd.symm.trans y))]
              exact good (fun y => u0 y.2)
          refine hP _ _ _ _ ?_
          unfold B190
          rw [iLt (by omega) (by omega), if_pos (by omega), vpT (n := a + (tks F l).length + (tks F r).length) (by omega) (by decide), nI_clamp (n := a + (tks F l).length + (tks F r).length) (by omega), tg, iLt (a := k) (b := 800) (by omega) (by decide), if_pos (by omega), iLt (a := k) (b := 3) (by omega) (by decide), if_neg (by omega), iEq (a := k) (b := 11) (by omega) (by decide), if_neg k3, iEq (a := k) (b := 29) (by omega) (by decide), if_neg (by omega), iEq (a := k) (b := 9) (by omega) (by decide), iEq (a := k) (b := 10) (by omega) (by decide), show nI (h + 1 + 1) + (-1 : Int32) = nI (h + 1) from nI_pred']
          have v1 : vp_in (nI (h + 1)) 130 := vp_in_nI (by omega) (by decide)
          refine ⟨trivial, ?_⟩
          by_cases k9 : k = 9
          · rw [if_pos k9]; exact ⟨v1, div (Or.inl k9)⟩
          · rw [if_neg k9]
            by_cases k10 : k = 10
            · rw [if_pos k10]; exact ⟨v1, div (Or.inr k10)⟩
            · rw [if_neg k10]; exact good (fun y => y.1.elim k9 k10)
theorem M_worth {Q : Int32 → HA → HA → Prop} {A I : HA} {j : Nat} (hw : zfw F) (hN : F.1 ≤ 32258) (hx : bR x) (hy : bR y) (hj : j < F.1) (htok : ∀ i, i < (tks F j).length → A 1701 i = (tks F j).getD i 0) (k : ∀ u z A' I', (∀ v, evs F x y j = some v → u = v ∧ z = 0) → (evs F x y j = none → z = 1) → z ≤ 1 → (∀ b, b ≠ 1700 → A' b = A b) → oI I I' → I' 1681 34 = nI z → Q u A' I') : D190_worth (nI (tks F j).length) x y A I Q := by
  have hlen := tks_len hw (by omega) hj
  have hs := zsz_le hw.fok hN ⟨j, hj, rfl⟩
  intro P hP
  refine M_wf (Q := Q) (I0 := I) hw hN hx hy (by omega) htok hP (j + 1) j 0 0 A (sI I 1681 34 (nI 0)) [] [] 0 (Nat.lt_succ_self _) hj (by simp) rfl (fun _ _ => rfl) (Nat.le_refl _) (Nat.zero_le _) (fun a i n => sI_n (by omega)) sI_e (fun u z' A' I' bu es en z1 a1 a2 a3 a4 a5 => ?_)
  refine hP _ _ _ _ ?_
  rw [Nat.zero_add, iLt (by omega) (by omega), if_neg (by omega), vpT (n := 0) (by omega) (by decide), nI_clamp (n := 0) (by omega), a5]
  exact ⟨trivial, k u z' A' I' es en z1 a1 a2 a3⟩
end WM
