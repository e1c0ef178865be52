/-! condition, flip, along, input: the same answers -/
theorem lv_n : lv none = -1 := rfl
set_option maxRecDepth 100000 in
theorem lv_s {c : Nat} (h : c < 200) : ¬ lv (some c) = -1 ∧ lv (some c) &&& nI 255 = nI c := by
  have : ∀ c, c < 200 → ¬ (nI c).toInt8.toInt32 = -1 ∧ (nI c).toInt8.toInt32 &&& nI 255 = nI c := by decide
  exact this c h
section RD2
variable {A I : HA} {F : zF} {n : Nat}
theorem D_hasPath {Q : Int32 → Prop} {x : Int32} (h : SP A I F n) (k1 : ∀ k, k < n → x = nI k → Q (nI 1)) (k0 : (∀ k, k < n → ¬ x = nI k) → Q (nI 0)) : D100_hasPath x A I Q := by
  have hn := h.1
  unfold D100_hasPath
  rw [h.2.1]
  by_cases c : x < 0
  · rw [if_pos c]; exact k0 fun j hj y => nI_pos (n := j) (by omega) (y ▸ c)
  · rw [if_neg c]
    obtain ⟨j, hj, rfl⟩ := nI_of c
    rw [iLt hj (by omega)]
    by_cases c2 : j < n
    · rw [if_pos c2]; exact k1 j c2 rfl
    · rw [if_neg c2]; exact k0 fun i hi y => c2 (by have := (nI_eq hj (by omega)).mp y; omega)
theorem D_isPath {Q : Int32 → Prop} {x : Int32} (h : SP A I F n) (k1 : ∀ k, k < n → x = nI k → Q (nI 1)) (k0 : (∀ k, k < n → ¬ x = nI k) → Q (nI 0)) : D196_isPath x A I Q := by
  have hn := h.1
  unfold D196_isPath
  rw [h.2.2.1]
  exact D_inM (by omega) (fun k hk e => ⟨rfl, k1 k hk e⟩) (fun e => ⟨rfl, k0 e⟩)
theorem D_pathAt {Q : Nat → Prop} {k i : Nat} (hk : k < 100) (hi : i < 161) (e : A 41 k = nI i) (q : Q (71 + 10 * i)) : D101_pathAt (nI k) A I Q := by
  unfold D101_pathAt
  rw [vpT (n := k) (by omega) (by decide), nI_clamp (n := k) (by omega), e, vpT (n := i) hi (by decide), nI_clamp (n := i) (by omega)]
  exact ⟨trivial, trivial, q⟩
/-- a condition that there is, or not -/
theorem D_hasCond {Q : Int32 → Prop} {y : Int32} {w m : Nat} (hm : m ≤ 200) (e : I w 9 = nI m) (k1 : ∀ c, c < m → y = nI c → Q (nI 1)) (k0 : (∀ c, c < m → ¬ y = nI c) → Q (nI 0)) : D143_hasCondition w y A I Q := by
  unfold D143_hasCondition
  rw [e]
  by_cases c : y < 0
  · rw [if_pos c]; exact k0 fun j hj z => nI_pos (n := j) (by omega) (z ▸ c)
  · rw [if_neg c]
    obtain ⟨j, hj, rfl⟩ := nI_of c
    rw [iLt hj (by omega)]
    by_cases c2 : j < m
    · rw [if_pos c2]; exact k1 j c2 rfl
    · rw [if_neg c2]; exact k0 fun i hi y => c2 (by have := (nI_eq hj (by omega)).mp y; omega)
theorem flp_le {f : Nat → Option Nat} {c : Nat} : ∀ m k, flp f c m k ≤ k + m
  | 0, k => Nat.zero_le _
  | m + 1, k => by
    unfold flp
    split
    · omega
    · have := flp_le (f := f) (c := c) m (k + 1); omega
/-- PROMISE 9: condition -/
theorem condition_both {x y z : Int32} (h : srch I) (hS : SP A I F n) : D10_condition x y z A I (fun r => D198_condition x y z A I (fun r2 => r2 = r)) := by
  have hn := hS.1
  unfold D10_condition
  refine srch_c h (D_within (fun z1 z2 => ?_) (fun zb => ?_))
  · rw [i1]
    obtain ⟨wt, -, wt2, rfl⟩ := rg2 (lo := 0) z1 z2 (by decide) (by decide)
    refine D_hasPath hS (fun k hk e => ?_) (fun n0 => ?_)
    · subst e
      rw [i1]
      obtain ⟨i, s, r, e41, e96, hi, hs, hW, hC, hM, hE, hEm, hd, hr⟩ := hS.2.2.2 k hk
      have m : ∀ v, (∀ c p, r.2.1[c]? = some p → y = nI c → v = if wt = 0 then nI p.1 else nI p.2) → ((∀ c, c < r.2.1.length → ¬ y = nI c) → v = -1) → D198_condition (nI k) y (nI wt) A I (fun r2 => r2 = v) := by
        intro v k1 k0
        unfold D198_condition
        refine srch_m h (D_isIn (fun _ _ => ?_) (fun z => absurd z (fun z => z.elim z1 z2)))
        rw [i1]
        refine D_isPath hS (fun k' hk' e => ?_) (fun n0 => absurd rfl (n0 k hk))
        rw [i1, vpT (n := k) (by omega) (by decide), nI_clamp (n := k) (by omega), e96, pk_mul, nI_add, vpT (n := 520 * s + 2) (by omega) (by decide), nI_clamp (n := 520 * s + 2) (by omega), hM.1]
        refine ⟨trivial, trivial, D_inM (by have := hW.1; omega) (fun c hc e => ?_) (fun n1 => ?_)⟩
        · subst e
          have h200 := hW.1
          rw [i1, nI_add, pk_mul, nI_add, nI_add, vpT (by omega) (by decide), nI_clamp (by omega)]
          obtain ⟨p, hp⟩ : ∃ p, r.2.1[c]? = some p := ⟨_, List.getElem?_eq_getElem hc⟩
          obtain ⟨m1, m2⟩ := hM.2.1 c p hp
          refine ⟨trivial, trivial, ?_⟩
          rw [k1 c p hp rfl]
          by_cases w0 : wt = 0
          · subst w0; rw [if_pos rfl]; exact m1
          · obtain rfl : wt = 1 := by omega
            rw [if_neg (by decide)]; exact m2
        · rw [i0, k0 n1]
      refine D_pathAt (by omega) hi e41 ⟨isW_mk hi, D_hasCond hW.1 hC.1 (fun c hc e => ?_) (fun n1 => ?_)⟩
      · subst e
        rw [i1]
        have h200 := hW.1
        obtain ⟨p, hp⟩ : ∃ p, r.2.1[c]? = some p := ⟨_, List.getElem?_eq_getElem hc⟩
        obtain ⟨p1, p2⟩ := hW.2.1 p (List.mem_of_getElem? hp)
        have fl := flp_le (f := r.2.2.1) (c := c) 1024 0
        have pk := hC.2.1 c p hp
        refine D_pathAt (by omega) hi e41 ⟨isW_mk hi, ?_⟩
        have fin : ∀ v, (v = if wt = 0 then nI p.1 else nI p.2) → D198_condition (nI k) (nI c) (nI wt) A I (fun r2 => r2 = v) := fun v hv => m v (fun c' p' hp' e => by
          have := (nI_eq (by omega) (by have := (List.getElem?_eq_some_iff.mp hp').1; omega)).mp e
          subst this
          rw [hp] at hp'
          cases hp'
          exact hv) (fun z => absurd rfl (z c hc))
        rw [iEq0 (by omega)]
        by_cases w0 : wt = 0
        · rw [if_pos w0]
          unfold D144_conditionPlace
          rw [vpT (n := c) (by omega) (by decide), nI_clamp (n := c) (by omega), pk, nI_rem (by omega) (by decide) (by decide), show ((flp r.2.2.1 c 1024 0 * 8 + p.2) * 1000 + p.1) % 1000 = p.1 by omega]
          exact ⟨trivial, fin _ (by rw [if_pos w0])⟩
        · rw [if_neg w0]
          unfold D145_conditionAlternative
          rw [vpT (n := c) (by omega) (by decide), nI_clamp (n := c) (by omega), pk, nI_div (by omega) (by decide) (by decide), nI_rem (by omega) (by decide) (by decide), show ((flp r.2.2.1 c 1024 0 * 8 + p.2) * 1000 + p.1) / 1000 % 8 = p.2 by omega]
          exact ⟨trivial, fin _ (by rw [if_neg w0])⟩
      · rw [i0]
        exact m _ (fun c p hp e => absurd e (n1 c (List.getElem?_eq_some_iff.mp hp).1)) (fun _ => rfl)
    · rw [i0]
      unfold D198_condition
      refine srch_m h (D_isIn (fun _ _ => ?_) (fun z => absurd z (fun z => z.elim z1 z2)))
      rw [i1]
      exact D_isPath hS (fun k hk e => absurd e (n0 k hk)) (fun _ => by rw [i0])
  · rw [i0]
    unfold D198_condition
    exact srch_m h (D_isIn (fun a b => absurd zb (fun z => z.elim a b)) (fun _ => by rw [i0]))
theorem condition_no {x y z : Int32} (h : nsrch I) : D10_condition x y z A I (fun r => D198_condition x y z A I (fun r2 => r2 = r)) := by
  unfold D10_condition
  refine nsrch_c h ?_
  unfold D198_condition
  exact nsrch_m h rfl
/-- PROMISE 14: flip -/
theorem flip_both {x y : Int32} (h : srch I) (hS : SP A I F n) : D16_flip x y A I (fun r => D204_flip x y A I (fun r2 => r2 = r)) := by
  have hn := hS.1
  unfold D16_flip
  refine srch_c h (D_hasPath hS (fun k hk e => ?_) (fun n0 => ?_))
  · subst e
    rw [i1]
    obtain ⟨i, s, r, e41, e96, hi, hs, hW, hC, hM, hE, hEm, hd, hr⟩ := hS.2.2.2 k hk
    have h200 := hW.1
    have m : ∀ v, (∀ c, c < r.2.1.length → y = nI c → v = nI (flp r.2.2.1 c 1024 0) - nI 1) → ((∀ c, c < r.2.1.length → ¬ y = nI c) → v = -1) → D204_flip (nI k) y A I (fun r2 => r2 = v) := by
      intro v k1 k0
      unfold D204_flip
      refine srch_m h (D_isPath hS (fun k' hk' e => ?_) (fun n0 => absurd rfl (n0 k hk)))
      rw [i1, vpT (n := k) (by omega) (by decide), nI_clamp (n := k) (by omega), e96, pk_mul, nI_add, vpT (n := 520 * s + 2) (by omega) (by decide), nI_clamp (n := 520 * s + 2) (by omega), hM.1]
      refine ⟨trivial, trivial, D_inM (by omega) (fun c hc e => ?_) (fun n1 => ?_)⟩
      · subst e
        rw [i1]
        have k1 := k1 c hc rfl
        intro P hP
        have key : ∀ m j, m + j = 1024 → v = nI (flp r.2.2.1 c m j) - nI 1 → P (nI j) := by
          intro m
          induction m with
          | zero =>
            intro j hj hv
            refine hP _ ?_
            rw [iLt (by omega) (by decide), if_neg (by omega), hv]
            show (-1 : Int32) = nI 0 - nI 1
            decide
          | succ m ih =>
            intro j hj hv
            refine hP _ ?_
            rw [iLt (by omega) (by decide), if_pos (by omega), pk_mul, nI_add, vpT (n := 1024 * s + j) (by omega) (by decide), nI_clamp (n := 1024 * s + j) (by omega), hM.2.2.1 j (by omega), nI_add]
            refine ⟨trivial, trivial, ?_⟩
            unfold flp at hv
            cases ei : r.2.2.1 j with
            | none =>
              rw [ei, if_neg (by intro y; cases y)] at hv
              rw [lv_n, if_pos rfl]
              exact ih (j + 1) (by omega) hv
            | some c2 =>
              have hc2 := hW.2.2 j c2 ei
              obtain ⟨l1, l2⟩ := lv_s (c := c2) (by omega)
              rw [if_neg l1, l2, iEq (by omega) (by omega)]
              rw [ei] at hv
              by_cases ec : c2 = c
              · subst ec
                rw [if_pos rfl] at hv
                rw [if_pos rfl, hv, pk_sub (by omega), show j + 1 - 1 = j by omega]
              · rw [if_neg (by intro y; exact ec (Option.some.inj y))] at hv
                rw [if_neg ec]
                exact ih (j + 1) (by omega) hv
        exact key 1024 0 (by omega) k1
      · rw [i0, k0 n1]
    refine D_pathAt (by omega) hi e41 ⟨isW_mk hi, D_hasCond hW.1 hC.1 (fun c hc e => ?_) (fun n1 => ?_)⟩
    · subst e
      rw [i1]
      obtain ⟨p, hp⟩ : ∃ p, r.2.1[c]? = some p := ⟨_, List.getElem?_eq_getElem hc⟩
      obtain ⟨p1, p2⟩ := hW.2.1 p (List.mem_of_getElem? hp)
      have fl := flp_le (f := r.2.2.1) (c := c) 1024 0
      have pk := hC.2.1 c p hp
      refine D_pathAt (by omega) hi e41 ⟨isW_mk hi, ?_⟩
      unfold D146_conditionFlip
      rw [vpT (n := c) (by omega) (by decide), nI_clamp (n := c) (by omega), pk, nI_div (by omega) (by decide) (by decide), nI_div (by omega) (by decide) (by decide), show ((flp r.2.2.1 c 1024 0 * 8 + p.2) * 1000 + p.1) / 1000 / 8 = flp r.2.2.1 c 1024 0 by omega]
      exact ⟨trivial, m _ (fun c' hc' e => by have := (nI_eq (by omega) (by omega)).mp e; subst this; rfl) (fun z => absurd rfl (z c hc))⟩
    · rw [i0]
      exact m _ (fun c hc e => absurd e (n1 c hc)) (fun _ => rfl)
  · rw [i0]
    unfold D204_flip
    exact srch_m h (D_isPath hS (fun k hk e => absurd e (n0 k hk)) (fun _ => by rw [i0]))
theorem flip_no {x y : Int32} (h : nsrch I) : D16_flip x y A I (fun r => D204_flip x y A I (fun r2 => r2 = r)) := by
  unfold D16_flip
  refine nsrch_c h ?_
  unfold D204_flip
  exact nsrch_m h rfl
theorem in_none {s w k : Nat} {r : zR} (hk : k < 1024) (hW : recW r) (hC : recC A I w r) (hM : recM A s r) : (inA A (w + 9) k = true ↔ A 1689 (1024 * s + k) = -1) := by
  rw [hC.2.2.1 k hk, hM.2.2.1 k hk]
  cases e : r.2.2.1 k with
  | none => simp [lv]
  | some c =>
    have := (lv_s (c := c) (by have := hW.2.2 k c e; have := hW.1; omega)).1
    simp [this]
/-- PROMISE 13: input -/
theorem input_both {x y : Int32} (h : srch I) (hS : SP A I F n) : D15_input x y A I (fun r => D203_input x y A I (fun r2 => r2 = r)) := by
  have hn := hS.1
  unfold D15_input
  refine srch_c h (D_hasPath hS (fun k hk e => ?_) (fun n0 => ?_))
  · subst e
    rw [i1]
    obtain ⟨i, s, r, e41, e96, hi, hs, hW, hC, hM, hE, hEm, hd, hr⟩ := hS.2.2.2 k hk
    refine D_pathAt (by omega) hi e41 ⟨isW_mk hi, ?_⟩
    intro P hP
    -- what the reference answers from place j on, with b before
    have m : ∀ v, (∀ P2 : Int32 → Int32 → Prop, (∀ (a3 : Int32) (a4 : Int32), (if a4 < (nI 1024) then vp_in (nI k) 100 ∧ (vp_in (((nI 1024) * (A 1696 (nI k).toNatClampNeg)) + a4) 174080 ∧ (if (A 1689 (((nI 1024) * (A 1696 (nI k).toNatClampNeg)) + a4).toNatClampNeg) = (-1) then if a3 = y then a4 = v else P2 (a3 + nI 1) (a4 + nI 1) else P2 a3 (a4 + nI 1))) else -1 = v) → P2 a3 a4) → P2 (nI 0) (nI 0)) → D203_input (nI k) y A I (fun r2 => r2 = v) := by
      intro v hv
      unfold D203_input
      refine srch_m h (D_isPath hS (fun k' hk' e => ?_) (fun n0 => absurd rfl (n0 k hk)))
      rw [i1]
      exact hv
    have key : ∀ m j bf, m + j = 1024 → bf ≤ j → (∀ v, (∀ P2 : Int32 → Int32 → Prop, (∀ (a3 : Int32) (a4 : Int32), (if a4 < (nI 1024) then vp_in (nI k) 100 ∧ (vp_in (((nI 1024) * (A 1696 (nI k).toNatClampNeg)) + a4) 174080 ∧ (if (A 1689 (((nI 1024) * (A 1696 (nI k).toNatClampNeg)) + a4).toNatClampNeg) = (-1) then if a3 = y then a4 = v else P2 (a3 + nI 1) (a4 + nI 1) else P2 a3 (a4 + nI 1))) else -1 = v) → P2 a3 a4) → P2 (nI bf) (nI j)) → D203_input (nI k) y A I (fun r2 => r2 = v)) → P (nI bf) (nI j) := by
      intro m
      induction m with
      | zero =>
        intro j bf hj hb hv
        refine hP _ _ ?_
        rw [iLt (by omega) (by decide), if_neg (by omega)]
        refine hv _ (fun P2 hP2 => hP2 _ _ ?_)
        rw [iLt (by omega) (by decide), if_neg (by omega)]
      | succ m ih =>
        intro j bf hj hb hv
        have iff := in_none (k := j) (by omega) hW hC hM
        have st : ∀ v (P2 : Int32 → Int32 → Prop), (if A 1689 (1024 * s + j) = -1 then (if nI bf = y then nI j = v else P2 (nI (bf + 1)) (nI (j + 1))) else P2 (nI bf) (nI (j + 1))) → (∀ (a3 : Int32) (a4 : Int32), (if a4 < (nI 1024) then vp_in (nI k) 100 ∧ (vp_in (((nI 1024) * (A 1696 (nI k).toNatClampNeg)) + a4) 174080 ∧ (if (A 1689 (((nI 1024) * (A 1696 (nI k).toNatClampNeg)) + a4).toNatClampNeg) = (-1) then if a3 = y then a4 = v else P2 (a3 + nI 1) (a4 + nI 1) else P2 a3 (a4 + nI 1))) else -1 = v) → P2 a3 a4) → P2 (nI bf) (nI j) := by
          intro v P2 hs2 hP2
          refine hP2 _ _ ?_
          rw [iLt (by omega) (by decide), if_pos (by omega), vpT (n := k) (by omega) (by decide), nI_clamp (n := k) (by omega), e96, pk_mul, nI_add, vpT (n := 1024 * s + j) (by omega) (by decide), nI_clamp (n := 1024 * s + j) (by omega), nI_add, nI_add]
          exact ⟨trivial, trivial, hs2⟩
        refine hP _ _ ?_
        rw [iLt (by omega) (by decide), if_pos (by omega)]
        refine C_has (by omega) (fun z => ?_) (fun z => ?_)
        · have z := iff.mp z
          rw [i1, nI_add, nI_add]
          by_cases c : nI bf = y
          · rw [if_pos c]
            exact hv _ (fun P2 hP2 => st _ P2 (by rw [if_pos z, if_pos c]) hP2)
          · rw [if_neg c]
            exact ih (j + 1) (bf + 1) (by omega) (by omega) (fun v hv2 => hv v (fun P2 hP2 => st v P2 (by rw [if_pos z, if_neg c]; exact hv2 P2 hP2) hP2))
        · have z : ¬ A 1689 (1024 * s + j) = -1 := fun y => by rw [iff.mpr y] at z; cases z
          rw [i0, nI_add]
          exact ih (j + 1) bf (by omega) (by omega) (fun v hv2 => hv v (fun P2 hP2 => st v P2 (by rw [if_neg z]; exact hv2 P2 hP2) hP2))
    exact key 1024 0 0 (by omega) (Nat.le_refl _) m
  · rw [i0]
    unfold D203_input
    exact srch_m h (D_isPath hS (fun k hk e => absurd e (n0 k hk)) (fun _ => by rw [i0]))
theorem input_no {x y : Int32} (h : nsrch I) : D15_input x y A I (fun r => D203_input x y A I (fun r2 => r2 = r)) := by
  unfold D15_input
  refine nsrch_c h ?_
  unfold D203_input
  exact nsrch_m h rfl
end RD2
