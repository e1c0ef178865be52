/-! WAYS WITH THEIR CONDITIONS AND INPUTS; the reads of paths -/
/-- a way's record: its run, its conditions (place, alternative), for each input at which condition it left (or none: it goes along), the alternative it has still to take, its split's number -/
abbrev zR : Type := zW × List (Nat × Nat) × (Nat → Option Nat) × Option Nat × Nat
/-- the first input from k on, of m, that left at condition c: its number + 1, or 0 -/
def flp (f : Nat → Option Nat) (c : Nat) : Nat → Nat → Nat
  | 0, _ => 0
  | m + 1, k => if f k = some c then k + 1 else flp f c m (k + 1)
def lv (o : Option Nat) : Int32 := match o with
  | none => -1
  | some c => (nI c).toInt8.toInt32
def recC (A I : HA) (w : Nat) (r : zR) : Prop := I w 9 = nI r.2.1.length ∧ (∀ c p, r.2.1[c]? = some p → A (w + 7) c = nI ((flp r.2.2.1 c 1024 0 * 8 + p.2) * 1000 + p.1)) ∧ (∀ k, k < 1024 → inA A (w + 9) k = (r.2.2.1 k).isNone) ∧ I w 16 = altv r.2.2.2.1 ∧ I w 17 = nI r.2.2.2.2
def recM (A : HA) (s : Nat) (r : zR) : Prop := A 1688 (520 * s + 2) = nI r.2.1.length ∧ (∀ c p, r.2.1[c]? = some p → A 1688 (520 * s + 114 + 2 * c) = nI p.1 ∧ A 1688 (520 * s + 114 + 2 * c + 1) = nI p.2) ∧ (∀ k, k < 1024 → A 1689 (1024 * s + k) = lv (r.2.2.1 k)) ∧ A 1688 (520 * s + 3) = altv r.2.2.2.1 ∧ A 1688 (520 * s + 4) = nI r.2.2.2.2
def recW (r : zR) : Prop := r.2.1.length ≤ 200 ∧ (∀ p ∈ r.2.1, p.1 < 1000 ∧ p.2 < 8) ∧ (∀ k c, r.2.2.1 k = some c → c < r.2.1.length)
/-- what is kept of a way that has ended -/
def endC (A I : HA) (w : Nat) (S : zW) : Prop := I w 11 = nI (zd S) ∧ I w 12 = zo S ∧ I w 13 = zpl S ∧ I w 14 = zk S ∧ I w 15 = zr S
def endM (A : HA) (b : Nat) (S : zW) : Prop := A 1688 (b + 1) = nI (zd S) ∧ A 1688 (b + 514) = zo S ∧ A 1688 (b + 515) = zpl S ∧ A 1688 (b + 516) = zk S ∧ (zo S = nI 1 → A 1688 (b + 517) = zr S)
/-- a path: class's way i, reference's slot s -/
def pthR (A I : HA) (F : zF) (i s : Nat) (r : zR) : Prop := i < 161 ∧ s < 170 ∧ recW r ∧ recC A I (71 + 10 * i) r ∧ recM A s r ∧ endC A I (71 + 10 * i) r.1 ∧ endM A (520 * s) r.1 ∧ zd r.1 ≤ 200 ∧ (zo r.1 = nI 1 → wdv F (zr r.1))
/-- the paths -/
def SP (A I : HA) (F : zF) (n : Nat) : Prop := n ≤ 100 ∧ I 20 7 = nI n ∧ I 1681 24 = nI n ∧ ∀ k, k < n → ∃ i s r, A 41 k = nI i ∧ A 1696 k = nI s ∧ pthR A I F i s r
/-- searched on both sides, or on neither -/
def srch (I : HA) : Prop := I 3 7 = nI 1 ∧ I 1681 16 = nI 1
def nsrch (I : HA) : Prop := I 3 7 = nI 0 ∧ I 1681 16 = nI 0
section RD
variable {A I : HA} {F : zF} {n : Nat}
theorem srch_c {P Q : Prop} (h : srch I) (k : Q) : if I 3 7 = 0 then P else Q := by rw [h.1, i1]; exact k
theorem srch_m {P Q : Prop} (h : srch I) (k : Q) : if I 1681 16 = 0 then P else Q := by rw [h.2, i1]; exact k
theorem nsrch_c {P Q : Prop} (h : nsrch I) (k : P) : if I 3 7 = 0 then P else Q := by rw [h.1, i0]; exact k
theorem nsrch_m {P Q : Prop} (h : nsrch I) (k : P) : if I 1681 16 = 0 then P else Q := by rw [h.2, i0]; exact k
/-- PROMISE 7: told -/
theorem told_both {x : Int32} (h : srch I) (h0 : I 39 1 = I 1681 21) (h1 : I 20 10 = I 1681 25) (h2 : I 20 12 = I 1681 26) (h3 : I 20 9 = I 1681 30) (h4 : I 20 7 = I 1681 24) : D7_told x A I (fun r => D194_told x A I (fun r2 => r2 = r)) := by
  have no : D7_told x A I (fun r => r = r) → True := fun _ => trivial
  unfold D7_told
  refine srch_c h ?_
  have m : ∀ r, (if x = nI 0 then r = I 39 1 else if x = nI 1 then r = I 20 10 else if x = nI 2 then r = I 20 12 else if x = nI 3 then r = I 20 9 else if x = nI 4 then r = I 20 7 else r = -2) → D194_told x A I (fun r2 => r2 = r) := by
    intro r hr
    unfold D194_told
    refine srch_m h ?_
    rw [← h0, ← h1, ← h2, ← h3, ← h4]
    repeat' split
    all_goals simp_all
  repeat' split
  all_goals exact m _ (by simp_all)
theorem told_no {x : Int32} (h : nsrch I) : D7_told x A I (fun r => D194_told x A I (fun r2 => r2 = r)) := by
  unfold D7_told
  refine nsrch_c h ?_
  unfold D194_told
  exact nsrch_m h rfl
/-- PROMISE 16: times -/
theorem times_both {x y : Int32} {G : zG} (h : srch I) (hC : gRC A I G) (hM : gRM A I G) (ht : ∀ i, i < 240 → A 42 i = A 1699 i) : D18_times x y A I (fun r => D206_times x y A I (fun r2 => r2 = r)) := by
  have hG := hC.1.1
  have m : ∀ r, (∀ q p, q < G.1 → p < gL G q → x = nI q → y = nI p → r = A 1699 (40 * q + p)) → ((∀ q p, q < G.1 → p < gL G q → ¬ (x = nI q ∧ y = nI p)) → r = -2) → D206_times x y A I (fun r2 => r2 = r) := by
    intro r k1 k0
    unfold D206_times
    refine srch_m h ?_
    rw [hM.2.1]
    refine D_inM (by omega) (fun q hq e => ?_) (fun n0 => ?_)
    · subst e
      have hl := (hM.1.2.2 q (by omega)).1
      rw [i1, vpT (n := q) (by omega) (by decide), nI_clamp (n := q) (by omega), (hM.2.2.2 q (by omega)).1]
      refine ⟨trivial, D_inM (by omega) (fun p hp e => ?_) (fun n1 => ?_)⟩
      · subst e
        rw [i1, pk_mul, nI_add, vpT (by omega) (by decide), nI_clamp (by omega)]
        exact ⟨trivial, (k1 q p hq hp rfl rfl).symm⟩
      · rw [i0]
        exact (k0 fun q' p' h1 h2 e => n1 p' (by have := (nI_eq (by omega) (by omega)).mp e.1; subst this; exact h2) e.2).symm
    · rw [i0]
      exact (k0 fun q' p' h1 h2 e => n0 q' h1 e.1).symm
  unfold D18_times
  refine srch_c h ?_
  refine D_hasM (by omega) hC.2.2.2.1 (fun q hq e => ?_) (fun n0 => ?_)
  · subst e
    have hl := (hC.1.2.2 q (by omega)).1
    rw [i1]
    unfold D83_hasOperation
    rw [vpT (n := q) (by omega) (by decide), nI_clamp (n := q) (by omega), (hC.2.2.2.2.2 q (by omega)).1]
    by_cases c : y < 0
    · rw [if_pos c]
      show if nI 0 = 0 then _ else _
      rw [i0]
      exact m _ (fun q' p' h1 h2 _ e2 => absurd (e2 ▸ c) (nI_pos (n := p') (by have := (hC.1.2.2 q' (by omega)).1; omega))) (fun _ => rfl)
    · rw [if_neg c]
      obtain ⟨p, hp, rfl⟩ := nI_of c
      refine ⟨trivial, ?_⟩
      rw [iLt hp (by omega)]
      by_cases c2 : p < gL G q
      · rw [if_pos c2]
        show if nI 1 = 0 then _ else _
        rw [i1]
        unfold D77_slot
        rw [pk_mul, nI_add]
        show vp_in (nI (q * 40 + p)) 240 ∧ D206_times (nI q) (nI p) A I (fun r2 => r2 = A 42 (nI (q * 40 + p)).toNatClampNeg)
        rw [vpT (n := q * 40 + p) (by omega) (by decide), nI_clamp (n := q * 40 + p) (by omega)]
        refine ⟨trivial, m _ (fun q' p' h1 h2 e1 e2 => ?_) (fun z => absurd ⟨rfl, rfl⟩ (z q p hq c2))⟩
        have := (nI_eq (by omega) (by omega)).mp e1
        subst this
        have := (nI_eq hp (by omega)).mp e2
        subst this
        rw [ht _ (by omega), show q * 40 + p = 40 * q + p by omega]
      · rw [if_neg c2]
        show if nI 0 = 0 then _ else _
        rw [i0]
        exact m _ (fun q' p' h1 h2 e1 e2 => by
          have := (nI_eq (by omega) (by omega)).mp e1
          subst this
          have := (nI_eq hp (by omega)).mp e2
          subst this
          exact absurd h2 c2) (fun _ => rfl)
  · rw [i0]
    exact m _ (fun q' p' h1 h2 e1 _ => absurd e1 (n0 q' h1)) (fun _ => rfl)
theorem times_no {x y : Int32} (h : nsrch I) : D18_times x y A I (fun r => D206_times x y A I (fun r2 => r2 = r)) := by
  unfold D18_times
  refine nsrch_c h ?_
  unfold D206_times
  exact nsrch_m h rfl
/-- PROMISE 15: pruned -/
theorem pruned_both {x y : Int32} {pn : Nat} (h : srch I) (hp : pn < 2 ^ 30) (h1 : I 20 12 = nI pn) (h2 : I 1681 26 = nI pn) (hl : ∀ j, j < 30 → j < pn → ∃ p a, a < 8 ∧ p < 1000 ∧ A 43 j = nI (p * 8 + a) ∧ A 1697 j = nI p ∧ A 1698 j = nI a) : D17_pruned x y A I (fun r => D205_pruned x y A I (fun r2 => r2 = r)) := by
  unfold D17_pruned
  refine srch_c h ?_
  refine D_within (fun y1 y2 => ?_) (fun yb => ?_)
  · rw [i1]
    obtain ⟨wt, -, wt2, rfl⟩ := rg2 (lo := 0) y1 y2 (by decide) (by decide)
    have no : (∀ j, j < 30 → j < pn → ¬ x = nI j) → D205_pruned x (nI wt) A I (fun r2 => r2 = -1) := by
      intro n0
      unfold D205_pruned
      refine srch_m h (D_isIn (fun _ _ => ?_) (fun z => absurd z (fun z => z.elim y1 y2)))
      rw [i1]
      refine D_isIn (fun x1 x2 => ?_) (fun _ => by rw [i0])
      rw [i1]
      obtain ⟨j, -, j2, rfl⟩ := rg2 (lo := 0) x1 x2 (by decide) (by decide)
      rw [h2, iLt (by omega) (by omega), if_neg (fun z => n0 j (by omega) z rfl)]
    by_cases c : x < 0
    · rw [if_pos c]; exact no fun j hj _ e => nI_pos (n := j) (by omega) (e ▸ c)
    · rw [if_neg c]
      obtain ⟨j, hj, rfl⟩ := nI_of c
      have mn : (if nI 30 < I 20 12 then nI 30 else I 20 12) = nI (min pn 30) := by
        rw [h1]
        by_cases z : 30 < pn
        · rw [if_pos ((nI_ltI (by decide) (by omega)).mpr z), show min pn 30 = 30 by omega]
        · rw [if_neg (fun y => z ((nI_ltI (by decide) (by omega)).mp y)), show min pn 30 = pn by omega]
      rw [mn, iLt hj (by omega)]
      by_cases c2 : j < min pn 30
      · rw [if_pos c2]
        have hidx : (pn - 1 - j) % 30 < 30 ∧ (pn - 1 - j) % 30 < pn := ⟨Nat.mod_lt _ (by decide), Nat.lt_of_le_of_lt (Nat.mod_le _ _) (by omega)⟩
        obtain ⟨p, a, ha, hpp, e43, e97, e98⟩ := hl _ hidx.1 hidx.2
        have yes : ∀ r, r = (if wt = 0 then nI p else nI a) → D205_pruned (nI j) (nI wt) A I (fun r2 => r2 = r) := by
          intro r hr
          unfold D205_pruned
          refine srch_m h (D_isIn (fun _ _ => ?_) (fun z => absurd z (fun z => z.elim y1 y2)))
          rw [i1]
          refine D_isIn (fun x1 x2 => ?_) (fun z => absurd z (fun z => z.elim (fun y => by have := (nI_ltI hj (by decide)).mp y; omega) (fun y => by have := (nI_ltI (by decide) hj).mp y; omega)))
          rw [i1, h2, iLt hj (by omega), if_pos (by omega), pk_sub (by omega), pk_sub (by omega), nI_rem (by omega) (by decide) (by decide), vpT (by omega) (by decide), nI_clamp (by omega), e97, e98, iEq0 (by omega)]
          by_cases w0 : wt = 0
          · rw [if_pos w0] at hr ⊢; exact ⟨trivial, hr.symm⟩
          · rw [if_neg w0] at hr ⊢; exact ⟨trivial, hr.symm⟩
        rw [iEq0 (by omega)]
        by_cases w0 : wt = 0
        · rw [if_pos w0]
          unfold D102_prunedPlace
          rw [h1, pk_sub (by omega), pk_sub (by omega), nI_rem (by omega) (by decide) (by decide), vpT (by omega) (by decide), nI_clamp (by omega), e43, nI_div (by omega) (by decide) (by decide), show (p * 8 + a) / 8 = p by omega]
          exact ⟨trivial, yes _ (by rw [if_pos w0])⟩
        · rw [if_neg w0]
          unfold D103_prunedAlternative
          rw [h1, pk_sub (by omega), pk_sub (by omega), nI_rem (by omega) (by decide) (by decide), vpT (by omega) (by decide), nI_clamp (by omega), e43, nI_rem (by omega) (by decide) (by decide), show (p * 8 + a) % 8 = a by omega]
          exact ⟨trivial, yes _ (by rw [if_neg w0])⟩
      · rw [if_neg c2]
        exact no fun i hi hi2 e => by have := (nI_eq hj (by omega)).mp e; omega
  · rw [i0]
    unfold D205_pruned
    exact srch_m h (D_isIn (fun a b => absurd yb (fun z => z.elim a b)) (fun _ => by rw [i0]))
theorem pruned_no {x y : Int32} (h : nsrch I) : D17_pruned x y A I (fun r => D205_pruned x y A I (fun r2 => r2 = r)) := by
  unfold D17_pruned
  refine nsrch_c h ?_
  unfold D205_pruned
  exact nsrch_m h rfl
end RD
