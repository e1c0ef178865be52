/-! WHAT A FORMULA IS WORTH, pure; reckoned on both sides from its tokens -/
/-- formula j at (x, y); nothing, if it divides by 0 -/
def ev (F : zF) (x y : Int32) : Nat → Nat → Option Int32
  | 0, _ => none
  | n + 1, j => if j < 256 then some (nI j - nI 128) else if j = 256 then some x else if j = 257 then some y
    else if F.2.2.2.1 j = -1 then (match ev F x y n (F.2.2.1 j).toNatClampNeg with | none => none | some a => some (w1F (F.2.1 j) a))
    else (match ev F x y n (F.2.2.1 j).toNatClampNeg with | none => none | some a => match ev F x y n (F.2.2.2.1 j).toNatClampNeg with | none => none | some c => if (F.2.1 j = nI 9 ∨ F.2.1 j = nI 10) ∧ c = 0 then none else some (w2F (F.2.1 j).toNatClampNeg a c))
theorem ev_bR {F : zF} {x y : Int32} (hw : zfw F) (hN : F.1 < 2 ^ 31) (hx : bR x) (hy : bR y) : ∀ n j v, j < F.1 → ev F x y n j = some v → bR v
  | 0, _, _, _, e => by cases e
  | n + 1, j, v, hj, e => by
    unfold ev at e
    by_cases c1 : j < 256
    · rw [if_pos c1] at e; cases e; exact bR_num c1
    · rw [if_neg c1] at e
      by_cases c2 : j = 256
      · rw [if_pos c2] at e; cases e; exact hx
      · rw [if_neg c2] at e
        by_cases c3 : j = 257
        · rw [if_pos c3] at e; cases e; exact hy
        · rw [if_neg c3] at e
          obtain ⟨-, l, hl, el, ⟨eo, er, es⟩ | ⟨k, r, -, hr, eo, er, es⟩⟩ := hw j (by omega) hj
          · rw [er, if_pos rfl, el, nI_clamp (by omega)] at e
            cases e1 : ev F x y n l with
            | none => rw [e1] at e; cases e
            | some a => rw [e1] at e; cases e; exact bR_w1 (ev_bR hw hN hx hy n l a (by omega) e1)
          · rw [er, if_neg (fun y => nI_pos (n := r) (by omega) (by rw [y]; decide)), el, nI_clamp (by omega), nI_clamp (by omega)] at e
            cases e1 : ev F x y n l with
            | none => rw [e1] at e; cases e
            | some a =>
              cases e2 : ev F x y n r with
              | none => rw [e1, e2] at e; cases e
              | some c =>
                rw [e1, e2] at e
                have e : (if (F.2.1 j = nI 9 ∨ F.2.1 j = nI 10) ∧ c = 0 then none else some (w2F (F.2.1 j).toNatClampNeg a c)) = some v := e
                split at e
                · cases e
                · cases e; exact bR_w2 (ev_bR hw hN hx hy n l a (by omega) e1) (ev_bR hw hN hx hy n r c (by omega) e2)
/-- the class reckons: a part of the tokens, from place a, onto height h -/
theorem tok_num {j : Nat} (h : j < 256) : nI 1000 + (nI j - nI 128) = nI (872 + j) := by
  apply Int32.toInt_inj.mp
  rw [Int32.toInt_add, nbR h, nI_toInt (by decide), nI_toInt (by omega)]
  unfold Int.bmod
  simp only [Nat.reducePow]
  split <;> omega
section WE
variable {t : Nat} {F : zF} {x y : Int32}
/-- one turn of wordFor -/
def B112 (t : Nat) (x y : Int32) (P1 : Int32 → Int32 → HA → HA → Prop) (Q : Int32 → HA → HA → Prop) (a2 a3 : Int32) (A6 I7 : HA) : Prop := if a3 < (I7 t 3) then vp_in a3 60 ∧ (if (A6 (t + 1) a3.toNatClampNeg) < (nI 872) then if (A6 (t + 1) a3.toNatClampNeg) = (nI 1) then if (A6 (t + 1) a3.toNatClampNeg) = (nI 1) then vp_in a2 60 ∧ (P1 (a2 + nI 1) (a3 + nI 1) (sA A6 (t + 3) a2.toNatClampNeg x) I7) else vp_in a2 60 ∧ (P1 (a2 + nI 1) (a3 + nI 1) (sA A6 (t + 3) a2.toNatClampNeg y) I7) else if (A6 (t + 1) a3.toNatClampNeg) = (nI 2) then if (A6 (t + 1) a3.toNatClampNeg) = (nI 1) then vp_in a2 60 ∧ (P1 (a2 + nI 1) (a3 + nI 1) (sA A6 (t + 3) a2.toNatClampNeg x) I7) else vp_in a2 60 ∧ (P1 (a2 + nI 1) (a3 + nI 1) (sA A6 (t + 3) a2.toNatClampNeg y) I7) else D113_isOfOne (A6 (t + 1) a3.toNatClampNeg) (fun v13 => if v13 = 0 then if a2 < (nI 2) then P1 a2 (a3 + nI 1) A6 I7 else vp_in (a2 + (-1)) 60 ∧ (if (A6 (t + 3) (a2 + (-1)).toNatClampNeg) = 0 then if (A6 (t + 1) a3.toNatClampNeg) = (nI 9) then Q (nI 1000) A6 I7 else if (A6 (t + 1) a3.toNatClampNeg) = (nI 10) then Q (nI 1000) A6 I7 else vp_in ((a2 + (-1)) - (nI 1)) 60 ∧ (D210_ofTwo (A6 (t + 1) a3.toNatClampNeg) (A6 (t + 3) ((a2 + (-1)) - (nI 1)).toNatClampNeg) (A6 (t + 3) (a2 + (-1)).toNatClampNeg) (fun v19 => vp_in ((a2 + (-1)) - (nI 1)) 60 ∧ (P1 (a2 + (-1)) (a3 + nI 1) (sA A6 (t + 3) ((a2 + (-1)) - (nI 1)).toNatClampNeg v19) I7))) else vp_in ((a2 + (-1)) - (nI 1)) 60 ∧ (D210_ofTwo (A6 (t + 1) a3.toNatClampNeg) (A6 (t + 3) ((a2 + (-1)) - (nI 1)).toNatClampNeg) (A6 (t + 3) (a2 + (-1)).toNatClampNeg) (fun v16 => vp_in ((a2 + (-1)) - (nI 1)) 60 ∧ (P1 (a2 + (-1)) (a3 + nI 1) (sA A6 (t + 3) ((a2 + (-1)) - (nI 1)).toNatClampNeg v16) I7)))) else if a2 < (nI 1) then if a2 < (nI 2) then P1 a2 (a3 + nI 1) A6 I7 else vp_in (a2 + (-1)) 60 ∧ (if (A6 (t + 3) (a2 + (-1)).toNatClampNeg) = 0 then if (A6 (t + 1) a3.toNatClampNeg) = (nI 9) then Q (nI 1000) A6 I7 else if (A6 (t + 1) a3.toNatClampNeg) = (nI 10) then Q (nI 1000) A6 I7 else vp_in ((a2 + (-1)) - (nI 1)) 60 ∧ (D210_ofTwo (A6 (t + 1) a3.toNatClampNeg) (A6 (t + 3) ((a2 + (-1)) - (nI 1)).toNatClampNeg) (A6 (t + 3) (a2 + (-1)).toNatClampNeg) (fun v26 => vp_in ((a2 + (-1)) - (nI 1)) 60 ∧ (P1 (a2 + (-1)) (a3 + nI 1) (sA A6 (t + 3) ((a2 + (-1)) - (nI 1)).toNatClampNeg v26) I7))) else vp_in ((a2 + (-1)) - (nI 1)) 60 ∧ (D210_ofTwo (A6 (t + 1) a3.toNatClampNeg) (A6 (t + 3) ((a2 + (-1)) - (nI 1)).toNatClampNeg) (A6 (t + 3) (a2 + (-1)).toNatClampNeg) (fun v23 => vp_in ((a2 + (-1)) - (nI 1)) 60 ∧ (P1 (a2 + (-1)) (a3 + nI 1) (sA A6 (t + 3) ((a2 + (-1)) - (nI 1)).toNatClampNeg v23) I7)))) else vp_in (a2 - (nI 1)) 60 ∧ (D209_ofOne (A6 (t + 1) a3.toNatClampNeg) (A6 (t + 3) (a2 - (nI 1)).toNatClampNeg) (fun v29 => vp_in (a2 - (nI 1)) 60 ∧ (P1 a2 (a3 + nI 1) (sA A6 (t + 3) (a2 - (nI 1)).toNatClampNeg v29) I7)))) else vp_in a2 60 ∧ (P1 (a2 + nI 1) (a3 + nI 1) (sA A6 (t + 3) a2.toNatClampNeg ((A6 (t + 1) a3.toNatClampNeg) - (nI 1000))) I7)) else vp_in (nI 0) 60 ∧ (Q (A6 (t + 3) (nI 0).toNatClampNeg) A6 I7)
theorem C_wf {Q : Int32 → HA → HA → Prop} {P : Int32 → Int32 → HA → HA → Prop} {I : HA} {A0 : HA} {T : List Int32} (hw : zfw F) (hN : F.1 ≤ 32258) (hT : T.length ≤ 60) (hl : I t 3 = nI T.length) (htok : ∀ i, i < T.length → A0 (t + 1) i = T.getD i 0) (hP : ∀ a2 a3 A6 I7, B112 t x y P Q a2 a3 A6 I7 → P a2 a3 A6 I7) :
    ∀ (n j h a : Nat) (A : HA) (U V : List Int32), j < n → j < F.1 → T = U ++ (tks F j ++ V) → U.length = a → (∀ b, b ≠ t + 3 → A b = A0 b) → h ≤ a →
      (∀ v, ev F x y n j = some v → ∀ A', (∀ b, b ≠ t + 3 → A' b = A0 b) → (∀ i, i < h → A' (t + 3) i = A (t + 3) i) → A' (t + 3) h = v → P (nI (h + 1)) (nI (a + (tks F j).length)) A' I) → (ev F x y n j = none → ∀ A', (∀ b, b ≠ t + 3 → A' b = A0 b) → Q (nI 1000) A' I) → P (nI h) (nI a) A I
  | 0, j, _, _, _, _, _, h1, _, _, _, _, _, _, _ => absurd h1 (Nat.not_lt_zero j)
  | n + 1, j, h, a, A, U, V, h1, h2, h3, h4, h5, h6, ks, kn => by
    have hTl : U.length + ((tks F j).length + V.length) = T.length := by rw [h3, List.length_append, List.length_append]
    have hz := zsz_pos hw h2 (by omega)
    have hlen := tks_len hw (by omega) h2
    unfold ev at ks kn
    by_cases c1 : j < 256
    · rw [if_pos c1] at ks
      have tj := tks_num (F := F) c1
      rw [tj] at h3 ks hTl
      have tg : A (t + 1) a = nI (872 + j) := by
        rw [h5 _ (by omega), htok a (by simp at hTl; omega), h3, get_pre h4.symm]; exact tok_num c1
      refine hP _ _ _ _ ?_
      unfold B112
      rw [hl, iLt (by simp at hTl; omega) (by omega), if_pos (by simp at hTl; omega), vpT (n := a) (by simp at hTl; omega) (by decide), nI_clamp (n := a) (by simp at hTl; omega), tg, iLt (by omega) (by decide), if_neg (by omega), vpT (n := h) (by simp at hTl; omega) (by decide), nI_clamp (n := h) (by simp at hTl; omega), nI_add, nI_add]
      refine ⟨trivial, trivial, ks _ rfl _ (fun b hb => by rw [sA_na hb]; exact h5 b hb) (fun i hi => sA_n (by omega)) ?_⟩
      rw [sA_e]
      apply Int32.toInt_inj.mp
      rw [pk_sub_toInt (by omega) (by decide), nbR c1]
      omega
    · rw [if_neg c1] at ks kn
      by_cases c8 : j < 258
      · have go : ∀ (u : Nat) (w : Int32), tks F j = [nI (u + 1)] → u < 2 → w = (if u = 0 then x else y) → (∀ A', (∀ b, b ≠ t + 3 → A' b = A0 b) → (∀ i, i < h → A' (t + 3) i = A (t + 3) i) → A' (t + 3) h = w → P (nI (h + 1)) (nI (a + (tks F j).length)) A' I) → P (nI h) (nI a) A I := by
          intro u w tj hu ew ks
          rw [tj] at h3 ks hTl
          have hTl : U.length + (1 + V.length) = T.length := hTl
          have tg : A (t + 1) a = nI (u + 1) := by
            rw [h5 _ (by omega), htok a (by omega), h3, get_pre h4.symm]
          refine hP _ _ _ _ ?_
          unfold B112
          rw [hl, iLt (by omega) (by omega), if_pos (by omega), vpT (n := a) (by omega) (by decide), nI_clamp (n := a) (by omega), tg, iLt (by omega) (by decide), if_pos (by omega), vpT (n := h) (by omega) (by decide), nI_clamp (n := h) (by omega), nI_add, nI_add]
          simp only [eqT (show u + 1 < 2 ^ 31 by omega) (show 1 < 2 ^ 31 by decide), eqT (show u + 1 < 2 ^ 31 by omega) (show 2 < 2 ^ 31 by decide)]
          refine ⟨trivial, ?_⟩
          by_cases c2 : u = 0
          · rw [if_pos (by omega), if_pos (by omega)]
            exact ⟨trivial, ks _ (fun b hb => by rw [sA_na hb]; exact h5 b hb) (fun i hi => sA_n (by omega)) (by rw [sA_e, ew, if_pos c2])⟩
          · rw [if_neg (by omega), if_pos (by omega), if_neg (by omega)]
            exact ⟨trivial, ks _ (fun b hb => by rw [sA_na hb]; exact h5 b hb) (fun i hi => sA_n (by omega)) (by rw [sA_e, ew, if_neg c2])⟩
        by_cases c2 : j = 256
        · rw [if_pos c2] at ks
          exact go 0 x (by rw [tks_xy c1 c8, c2]) (by decide) (by rw [if_pos rfl]) (ks x rfl)
        · rw [if_neg c2, if_pos (show j = 257 by omega)] at ks
          exact go 1 y (by rw [tks_xy c1 c8, show j = 257 by omega]) (by decide) (by rw [if_neg (by decide)]) (ks y rfl)
      · rw [if_neg (by omega), if_neg (by omega)] at ks kn
        obtain ⟨-, l, hl', el, ⟨eo, er, es⟩ | ⟨k, r, hk, hr, eo, er, es⟩⟩ := hw j (by omega) h2
        · have tj := tks_one hw (by omega) (by omega) h2 hl' el er
          rw [er, if_pos rfl, el, nI_clamp (by omega)] at ks kn
          rw [tj] at h3 ks hTl
          rw [List.length_append] at hTl ks
          have hTl : U.length + ((tks F l).length + 1 + V.length) = T.length := hTl
          refine C_wf hw hN hT hl htok hP n l h a A U ([F.2.1 j] ++ V) (by omega) (by omega) (by rw [h3, List.append_assoc]) h4 h5 h6 (fun v ev1 A' a1 a2 a3 => ?_) (fun ev1 => kn (by rw [ev1]))
          rw [ev1] at ks
          have tg : A' (t + 1) (a + (tks F l).length) = F.2.1 j := by
            rw [a1 _ (by omega), htok _ (by omega), h3, show U ++ (tks F l ++ [F.2.1 j] ++ V) = (U ++ tks F l) ++ ([F.2.1 j] ++ V) by simp, get_pre (by rw [List.length_append]; omega)]
          obtain ⟨q, hq, eq⟩ : ∃ q, (q = 11 ∨ q = 29) ∧ F.2.1 j = nI q := eo.elim (fun e => ⟨11, Or.inl rfl, e⟩) (fun e => ⟨29, Or.inr rfl, e⟩)
          refine hP _ _ _ _ ?_
          unfold B112
          rw [hl, iLt (by omega) (by omega), if_pos (by omega), vpT (n := a + (tks F l).length) (by omega) (by decide), nI_clamp (n := a + (tks F l).length) (by omega), tg, eq, iLt (by omega) (by decide), if_pos (by omega), iEq (by omega) (by decide), if_neg (by omega), iEq (by omega) (by decide), if_neg (by omega)]
          refine ⟨trivial, ?_⟩
          unfold D113_isOfOne
          rw [iEq (a := q) (b := 11) (by omega) (by decide), iEq (a := q) (b := 29) (by omega) (by decide)]
          have two : vp_in (nI (h + 1) - nI 1) 60 ∧ (D209_ofOne (nI q) (A' (t + 3) (nI (h + 1) - nI 1).toNatClampNeg) (fun v29 => vp_in (nI (h + 1) - nI 1) 60 ∧ (P (nI (h + 1)) (nI (a + (tks F l).length) + nI 1) (sA A' (t + 3) (nI (h + 1) - nI 1).toNatClampNeg v29) I))) := by
            rw [pk_sub (by omega), show h + 1 - 1 = h by omega, vpT (n := h) (by omega) (by decide), nI_clamp (n := h) (by omega), a3, nI_add]
            refine ⟨trivial, C_ofOneW ⟨trivial, ?_⟩⟩
            rw [eq] at ks
            exact ks _ rfl _ (fun b hb => by rw [sA_na hb]; exact a1 b hb) (fun i hi => by rw [sA_n (by omega)]; exact a2 i hi) sA_e
          have fin : if nI (h + 1) < nI 1 then (if (nI (h + 1)) < (nI 2) then P (nI (h + 1)) ((nI (a + (tks F l).length)) + nI 1) A' I else vp_in ((nI (h + 1)) + (-1)) 60 ∧ (if (A' (t + 3) ((nI (h + 1)) + (-1)).toNatClampNeg) = 0 then if (nI q) = (nI 9) then Q (nI 1000) A' I else if (nI q) = (nI 10) then Q (nI 1000) A' I else vp_in (((nI (h + 1)) + (-1)) - (nI 1)) 60 ∧ (D210_ofTwo (nI q) (A' (t + 3) (((nI (h + 1)) + (-1)) - (nI 1)).toNatClampNeg) (A' (t + 3) ((nI (h + 1)) + (-1)).toNatClampNeg) (fun v26 => vp_in (((nI (h + 1)) + (-1)) - (nI 1)) 60 ∧ (P ((nI (h + 1)) + (-1)) ((nI (a + (tks F l).length)) + nI 1) (sA A' (t + 3) (((nI (h + 1)) + (-1)) - (nI 1)).toNatClampNeg v26) I))) else vp_in (((nI (h + 1)) + (-1)) - (nI 1)) 60 ∧ (D210_ofTwo (nI q) (A' (t + 3) (((nI (h + 1)) + (-1)) - (nI 1)).toNatClampNeg) (A' (t + 3) ((nI (h + 1)) + (-1)).toNatClampNeg) (fun v23 => vp_in (((nI (h + 1)) + (-1)) - (nI 1)) 60 ∧ (P ((nI (h + 1)) + (-1)) ((nI (a + (tks F l).length)) + nI 1) (sA A' (t + 3) (((nI (h + 1)) + (-1)) - (nI 1)).toNatClampNeg v23) I))))) else vp_in (nI (h + 1) - nI 1) 60 ∧ (D209_ofOne (nI q) (A' (t + 3) (nI (h + 1) - nI 1).toNatClampNeg) (fun v29 => vp_in (nI (h + 1) - nI 1) 60 ∧ (P (nI (h + 1)) (nI (a + (tks F l).length) + nI 1) (sA A' (t + 3) (nI (h + 1) - nI 1).toNatClampNeg v29) I))) := by
            rw [iLt (by omega) (by decide), if_neg (by omega)]
            exact two
          by_cases q1 : q = 11
          · rw [if_pos q1]
            show if nI 1 = 0 then _ else _
            rw [i1]
            exact fin
          · rw [if_neg q1, if_pos (by omega)]
            show if nI 1 = 0 then _ else _
            rw [i1]
            exact fin
        · have tj := tks_two hw (by omega) (by omega) h2 hl' hr el er
          rw [er, if_neg (fun y => nI_pos (n := r) (by omega) (by rw [y]; decide)), el, nI_clamp (by omega), nI_clamp (by omega)] at ks kn
          rw [tj] at h3 ks hTl
          rw [List.length_append, List.length_append] at hTl ks
          have hTl : U.length + ((tks F l).length + ((tks F r).length + 1) + V.length) = T.length := hTl
          have pl : 1 ≤ (tks F l).length := by rw [tks_len hw (by omega) (show l < F.1 by omega)]; exact zsz_pos hw (by omega) (by omega)
          have pr : 1 ≤ (tks F r).length := by rw [tks_len hw (by omega) (show r < F.1 by omega)]; exact zsz_pos hw (by omega) (by omega)
          refine C_wf hw hN hT hl htok hP n l h a A U (tks F r ++ ([F.2.1 j] ++ V)) (by omega) (by omega) (by rw [h3, List.append_assoc, List.append_assoc]) h4 h5 h6 (fun v ev1 A' a1 a2 a3 => ?_) (fun ev1 => kn (by rw [ev1]))
          rw [ev1] at ks kn
          refine C_wf hw hN hT hl htok hP n r (h + 1) (a + (tks F l).length) A' (U ++ tks F l) ([F.2.1 j] ++ V) (by omega) (by omega) (by rw [h3]; simp) (by rw [List.length_append]; omega) a1 (by have := zsz_pos hw (show l < F.1 by omega) (by omega); have := tks_len hw (by omega) (show l < F.1 by omega); omega) (fun u ev2 A2 b1 b2 b3 => ?_) (fun ev2 => kn (by rw [ev2]))
          rw [ev2] at ks kn
          have tg : A2 (t + 1) (a + (tks F l).length + (tks F r).length) = nI k := by
            rw [b1 _ (by omega), htok _ (by omega), h3, show U ++ (tks F l ++ (tks F r ++ [F.2.1 j]) ++ V) = (U ++ tks F l ++ tks F r) ++ ([F.2.1 j] ++ V) by simp, get_pre (by rw [List.length_append, List.length_append]; omega), eo]
          obtain ⟨k1, k2, k3⟩ := hk
          rw [eo, nI_clamp (by omega)] at ks
          rw [eo] at kn
          have s0 : A2 (t + 3) h = v := (b2 h (by omega)).trans a3
          refine hP _ _ _ _ ?_
          unfold B112
          rw [hl, iLt (by omega) (by omega), if_pos (by omega), vpT (n := a + (tks F l).length + (tks F r).length) (by omega) (by decide), nI_clamp (n := a + (tks F l).length + (tks F r).length) (by omega), tg, iLt (by omega) (by decide), if_pos (by omega), iEq (by omega) (by decide), if_neg (by omega), iEq (by omega) (by decide), if_neg (by omega)]
          refine ⟨trivial, ?_⟩
          unfold D113_isOfOne
          rw [iEq (a := k) (b := 11) (by omega) (by decide), if_neg k3, iEq (a := k) (b := 29) (by omega) (by decide), if_neg (by omega)]
          show if nI 0 = 0 then (if nI (h + 1 + 1) < nI 2 then _ else _) else _
          rw [i0, iLt (by omega) (by decide), if_neg (by omega), show nI (h + 1 + 1) + (-1 : Int32) = nI (h + 1) from nI_pred', pk_sub (by omega), show h + 1 - 1 = h by omega, vpT (n := h + 1) (by omega) (by decide), nI_clamp (n := h + 1) (by omega), vpT (n := h) (by omega) (by decide), nI_clamp (n := h) (by omega), s0, b3]
          refine ⟨trivial, ?_⟩
          have ks2 : ¬ ((nI k = nI 9 ∨ nI k = nI 10) ∧ u = 0) → True ∧ D210_ofTwo (nI k) v u (fun v19 => True ∧ P (nI (h + 1)) (nI (a + (tks F l).length + (tks F r).length) + nI 1) (sA A2 (t + 3) h v19) I) := by
            intro nz
            have ks := ks (w2F k v u) (by show (if (nI k = nI 9 ∨ nI k = nI 10) ∧ u = 0 then none else some (w2F k v u)) = _; rw [if_neg nz])
            refine ⟨trivial, C_ofTwoW ⟨k1, k2, k3⟩ ⟨trivial, ?_⟩⟩
            rw [nI_add, Nat.add_assoc, Nat.add_assoc]
            exact ks _ (fun b hb => by rw [sA_na hb]; exact b1 b hb) (fun i hi => by rw [sA_n (by omega), b2 i (by omega)]; exact a2 i hi) sA_e
          by_cases u0 : u = 0
          · rw [if_pos u0, iEq (by omega) (by decide), iEq (by omega) (by decide)]
            by_cases k9 : k = 9
            · rw [if_pos k9]
              exact kn (by show (if (nI k = nI 9 ∨ nI k = nI 10) ∧ u = 0 then none else some _) = none; rw [if_pos ⟨Or.inl (by rw [k9]), u0⟩]) _ b1
            · rw [if_neg k9]
              by_cases k10 : k = 10
              · rw [if_pos k10]
                exact kn (by show (if (nI k = nI 9 ∨ nI k = nI 10) ∧ u = 0 then none else some _) = none; rw [if_pos ⟨Or.inr (by rw [k10]), u0⟩]) _ b1
              · rw [if_neg k10]
                exact ks2 (fun z => z.1.elim (fun e => k9 ((nI_eq (by omega) (by decide)).mp e)) (fun e => k10 ((nI_eq (by omega) (by decide)).mp e)))
          · rw [if_neg u0]
            exact ks2 (fun z => u0 z.2)
/-- the worth of formula j -/
def evs (F : zF) (x y : Int32) (j : Nat) : Option Int32 := ev F x y (j + 1) j
theorem C_wordFor {Q : Int32 → HA → HA → Prop} {A I : HA} {j : Nat} (hw : zfw F) (hN : F.1 ≤ 32258) (hj : j < F.1) (hl : I t 3 = nI (tks F j).length) (htok : ∀ i, i < (tks F j).length → A (t + 1) i = (tks F j).getD i 0) (ks : ∀ v, evs F x y j = some v → ∀ A', (∀ b, b ≠ t + 3 → A' b = A b) → Q v A' I) (kn : evs F x y j = none → ∀ A', (∀ b, b ≠ t + 3 → A' b = A b) → Q (nI 1000) A' I) : D112_wordFor t x y A I Q := by
  have hlen := tks_len hw (by omega) hj
  have hs := zsz_le hw.fok hN ⟨j, hj, rfl⟩
  intro P hP
  refine C_wf (x := x) (y := y) (Q := Q) hw hN (by omega) hl htok hP (j + 1) j 0 0 A [] [] (Nat.lt_succ_self _) hj (by simp) rfl (fun _ _ => rfl) (Nat.le_refl _) (fun v e A' a1 a2 a3 => ?_) kn
  refine hP _ _ _ _ ?_
  rw [hl, iLt (by omega) (by omega), if_neg (by omega), vpT (n := 0) (by omega) (by decide), nI_clamp (n := 0) (by omega), a3]
  exact ⟨trivial, ks v e A' a1⟩
end WE
