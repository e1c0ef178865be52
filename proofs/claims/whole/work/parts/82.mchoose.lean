/-! THE REFERENCE: which alternative each input takes -/
def CHm (y a b kk : Int32) (A I : HA) (P : Int32 → HA → HA → Prop) : Prop := if y = (nI 18) then if a < b then vp_in kk 1024 ∧ (P (kk + nI 1) (sA A 1702 kk.toNatClampNeg (nI 0)) I) else vp_in kk 1024 ∧ (P (kk + nI 1) (sA A 1702 kk.toNatClampNeg (nI 1)) I) else if y = (nI 19) then if a = b then vp_in kk 1024 ∧ (P (kk + nI 1) (sA A 1702 kk.toNatClampNeg (nI 0)) I) else vp_in kk 1024 ∧ (P (kk + nI 1) (sA A 1702 kk.toNatClampNeg (nI 1)) I) else if y = (nI 9) then if a = 0 then vp_in kk 1024 ∧ (P (kk + nI 1) (sA A 1702 kk.toNatClampNeg (nI 1)) I) else vp_in kk 1024 ∧ (P (kk + nI 1) (sA A 1702 kk.toNatClampNeg (nI 0)) I) else if y = (nI 10) then if a = 0 then vp_in kk 1024 ∧ (P (kk + nI 1) (sA A 1702 kk.toNatClampNeg (nI 1)) I) else vp_in kk 1024 ∧ (P (kk + nI 1) (sA A 1702 kk.toNatClampNeg (nI 0)) I) else if y = (nI 21) then if a < 0 then vp_in kk 1024 ∧ (P (kk + nI 1) (sA A 1702 kk.toNatClampNeg (nI 6)) I) else if (nI 5) < a then vp_in kk 1024 ∧ (P (kk + nI 1) (sA A 1702 kk.toNatClampNeg (nI 7)) I) else vp_in kk 1024 ∧ (P (kk + nI 1) (sA A 1702 kk.toNatClampNeg a) I) else if a < 0 then vp_in kk 1024 ∧ (P (kk + nI 1) (sA A 1702 kk.toNatClampNeg (I 1681 39)) I) else if a < (I 1681 39) then vp_in kk 1024 ∧ (P (kk + nI 1) (sA A 1702 kk.toNatClampNeg a) I) else vp_in kk 1024 ∧ (P (kk + nI 1) (sA A 1702 kk.toNatClampNeg (I 1681 39)) I)
def L188a (x y v : Int32) (A I : HA) (Q : HA → HA → Prop) : Prop := ∀ P15 : Int32 → HA → HA → Prop, (∀ (a16 : Int32) (A20 I21 : HA), (if a16 < (nI 1024) then vp_in (((nI 1024) * x) + a16) 174080 ∧ (if (A20 1689 (((nI 1024) * x) + a16).toNatClampNeg) = (-1) then vp_in a16 1024 ∧ (if v = 0 then CHm y (A20 1703 a16.toNatClampNeg) (nI 0) a16 A20 I21 P15 else D190_worth v ((a16 / (nI 32)) - (nI 16)) ((a16 - a16 / (nI 32) * (nI 32)) - (nI 16)) A20 I21 (fun v25 A26 I27 => CHm y (A20 1703 a16.toNatClampNeg) v25 a16 A26 I27 P15)) else P15 (a16 + nI 1) A20 I21) else Q A20 I21) → P15 a16 A20 I21) → P15 (nI 0) A I
def L188c (x y : Int32) (A I : HA) (Q : HA → HA → Prop) : Prop := ∀ P15 : Int32 → HA → HA → Prop, (∀ (a16 : Int32) (A20 I21 : HA), (if a16 < (nI 1024) then vp_in (((nI 1024) * x) + a16) 174080 ∧ (if (A20 1689 (((nI 1024) * x) + a16).toNatClampNeg) = (-1) then vp_in a16 1024 ∧ CHm y (A20 1703 a16.toNatClampNeg) (nI 0) a16 A20 I21 P15 else P15 (a16 + nI 1) A20 I21) else Q A20 I21) → P15 a16 A20 I21) → P15 (nI 0) A I
theorem s16 (x : Int32) : x - nI 16 = x + (-16) := by rw [Int32.sub_eq_add_neg]; rfl
theorem bR_xk {k : Nat} (h : k < 1024) : bR (xk k) ∧ bR (yk k) := by
  have go : ∀ j, j < 32 → bR (nI j + (-16)) := fun j hj => by
    unfold bR
    rw [← s16, pk_sub_toInt (by omega) (by decide)]
    omega
  exact ⟨go _ (by omega), go _ (by omega)⟩
section MC
variable {F : zF} {P : Int32 → HA → HA → Prop}
theorem CH_ok {K n k : Nat} {a b : Int32} {A I : HA} (hK : dcd K) (hk : k < 1024) (h39 : K = 22 ∨ K = 23 → I 1681 39 = nI n) (hn : n ≤ 5) (q : P (nI (k + 1)) (sA A 1702 k (nI (zch K a b n))) I) : CHm (nI K) a b (nI k) A I P := by
  have K30 : K < 30 := by rcases hK with e | e | e | e | e | e | e <;> omega
  unfold CHm
  unfold zch at q
  rw [vpT (n := k) (by omega) (by decide), nI_clamp (n := k) (by omega), nI_add]
  simp only [eqT (show K < 2 ^ 31 by omega) (show 18 < 2 ^ 31 by decide), eqT (show K < 2 ^ 31 by omega) (show 19 < 2 ^ 31 by decide), eqT (show K < 2 ^ 31 by omega) (show 9 < 2 ^ 31 by decide), eqT (show K < 2 ^ 31 by omega) (show 10 < 2 ^ 31 by decide), eqT (show K < 2 ^ 31 by omega) (show 21 < 2 ^ 31 by decide)]
  by_cases c18 : K = 18
  · rw [if_pos c18]
    rw [if_neg (by omega), if_pos c18] at q
    split <;> (rename_i h; first | rw [if_pos h] at q | rw [if_neg h] at q) <;> exact ⟨trivial, q⟩
  · rw [if_neg c18]
    by_cases c19 : K = 19
    · rw [if_pos c19]
      rw [if_neg (by omega), if_neg (by omega), if_pos c19] at q
      split <;> (rename_i h; first | rw [if_pos h] at q | rw [if_neg h] at q) <;> exact ⟨trivial, q⟩
    · rw [if_neg c19]
      by_cases c9 : K = 9 ∨ K = 10
      · rw [if_pos c9] at q
        have d : if a = 0 then True ∧ P (nI (k + 1)) (sA A 1702 k (nI 1)) I else True ∧ P (nI (k + 1)) (sA A 1702 k (nI 0)) I := by
          split <;> (rename_i h; first | rw [if_pos h] at q | rw [if_neg h] at q) <;> exact ⟨trivial, q⟩
        by_cases c : K = 9
        · rw [if_pos c]; exact d
        · rw [if_neg c, if_pos (by omega)]; exact d
      · rw [if_neg c9, if_neg c18, if_neg c19] at q
        rw [if_neg (by omega), if_neg (by omega)]
        by_cases c21 : K = 21
        · rw [if_pos c21] at q ⊢
          by_cases h1 : a < 0
          · rw [if_pos h1] at q ⊢; exact ⟨trivial, q⟩
          · rw [if_neg h1] at q ⊢
            by_cases h2 : nI 5 < a
            · rw [if_pos h2] at q ⊢; exact ⟨trivial, q⟩
            · rw [if_neg h2] at q ⊢
              obtain ⟨j, hj, rfl⟩ := nI_of h1
              rw [nI_clamp hj] at q
              exact ⟨trivial, q⟩
        · rw [if_neg c21] at q ⊢
          rw [h39 (by rcases hK with e | e | e | e | e | e | e <;> omega)]
          by_cases h1 : a < 0
          · rw [if_pos h1] at q ⊢; exact ⟨trivial, q⟩
          · rw [if_neg h1] at q ⊢
            by_cases h2 : a < nI n
            · rw [if_pos h2] at q ⊢
              obtain ⟨j, hj, rfl⟩ := nI_of h1
              rw [nI_clamp hj] at q
              exact ⟨trivial, q⟩
            · rw [if_neg h2] at q ⊢; exact ⟨trivial, q⟩
theorem M_choose {Q : HA → HA → Prop} {A I : HA} {K n s jl jr : Nat} {ch : Nat → Nat} (h : zFM A I F) (hw : zfw F) (hK : dcd K) (hs : s < 170) (hn : n ≤ 5) (h38 : I 1681 38 = nI jl) (hjl : jl < F.1) (h39 : I 1681 39 = (if K = 18 ∨ K = 19 then nI jr else if K = 22 ∨ K = 23 then nI n else -1)) (hjr : jr < F.1)
    (hd : ∀ k, k < 1024 → A 1689 (1024 * s + k) = -1 → ∃ a b, evs F (xk k) (yk k) jl = some a ∧ (K = 18 ∨ K = 19 → evs F (xk k) (yk k) jr = some b) ∧ ch k = zch K a b n)
    (q : ∀ A' I', (∀ a, ¬ (1700 ≤ a ∧ a ≤ 1703) → A' a = A a) → oI I I' → (∀ k, k < 1024 → A 1689 (1024 * s + k) = -1 → A' 1702 k = nI (ch k)) → Q A' I') : D188_choose (nI s) (nI K) A I Q := by
  have hN := h.2.2.1
  have K30 : K < 30 := by rcases hK with e | e | e | e | e | e | e <;> omega
  unfold D188_choose
  rw [h38]
  refine M_spell h hw hjl (fun A1 a1 t1 => ?_)
  intro P4 hP4
  have fst : ∀ (m i : Nat) (A2 I2 : HA), m + i = 1024 → (∀ a, ¬ (1700 ≤ a ∧ a ≤ 1703) → A2 a = A a) → A2 1701 = A1 1701 → oI I I2 → (∀ k, k < i → A 1689 (1024 * s + k) = -1 → evs F (xk k) (yk k) jl = some (A2 1703 k)) → P4 (nI i) A2 I2 := by
    intro m
    induction m with
    | zero =>
      intro i A2 I2 hi o2 e01 oi fs
      obtain rfl : i = 1024 := by omega
      refine hP4 _ _ _ ?_
      rw [iLt (by decide) (by decide), if_neg (by decide)]
      have h2 : zFM A2 I2 F := by
        unfold zFM at h ⊢
        rw [o2 1691 (by decide), o2 1692 (by decide), o2 1693 (by decide), o2 1694 (by decide), oi 1681 15 (by omega)]
        exact h
      have j39 : I2 1681 39 = (if K = 18 ∨ K = 19 then nI jr else if K = 22 ∨ K = 23 then nI n else -1) := by rw [oi 1681 39 (by omega)]; exact h39
      by_cases cc : K = 18 ∨ K = 19
      · have two : D189_spell (I2 1681 39) A2 I2 (fun v12 A13 I14 => L188a (nI s) (nI K) v12 A13 I14 Q) := by
          rw [j39, if_pos cc]
          refine M_spell h2 hw hjr (fun A3 a3 t3 => ?_)
          have len := tks_len hw (by omega) hjr
          have p1 := zsz_pos hw hjr (by omega)
          have le := zsz_le hw.fok hN ⟨jr, hjr, rfl⟩
          intro P hP
          have key : ∀ (m i : Nat) (A4 I4 : HA), m + i = 1024 → (∀ a, ¬ (1700 ≤ a ∧ a ≤ 1703) → A4 a = A a) → A4 1701 = A3 1701 → A4 1703 = A2 1703 → oI I I4 → (∀ k, k < i → A 1689 (1024 * s + k) = -1 → A4 1702 k = nI (ch k)) → P (nI i) A4 I4 := by
            intro m
            induction m with
            | zero =>
              intro i A4 I4 hi o4 e1 e3 oi4 cs
              obtain rfl : i = 1024 := by omega
              refine hP _ _ _ ?_
              rw [iLt (by decide) (by decide), if_neg (by decide)]
              exact q _ _ o4 oi4 cs
            | succ m ih =>
              intro i A4 I4 hi o4 e1 e3 oi4 cs
              refine hP _ _ _ ?_
              rw [iLt (by omega) (by decide), if_pos (by omega), pk_mul, nI_add, vpT (n := 1024 * s + i) (by omega) (by decide), nI_clamp (n := 1024 * s + i) (by omega), o4 1689 (by decide)]
              refine ⟨trivial, ?_⟩
              by_cases ci : A 1689 (1024 * s + i) = -1
              · rw [if_pos ci, vpT (n := i) (by omega) (by decide), nI_clamp (n := i) (by omega), iEq0 (by omega), if_neg (by omega), nI_rem (by omega) (by decide) (by decide), nI_div (by omega) (by decide) (by decide), s16, s16, e3]
                obtain ⟨va, vb, ea, eb, ec⟩ := hd i (by omega) ci
                have bx := bR_xk (k := i) (by omega)
                refine ⟨trivial, M_worth (x := xk i) (y := yk i) hw hN bx.1 bx.2 hjr (fun u hu => by rw [e1]; exact t3 u hu) (fun u z A5 I5 es en z1 b1 b2 b3 => ?_)⟩
                obtain ⟨eu, -⟩ := es vb (eb cc)
                have ef := fs i (by omega) ci
                obtain rfl : va = A2 1703 i := Option.some.inj (ea.symm.trans ef)
                subst eu
                refine CH_ok (n := n) hK (by omega) (fun y => absurd y (by omega)) hn ?_
                rw [← ec]
                refine ih (i + 1) _ _ (by omega) (fun a n1 => by rw [sA_na (by omega), b1 a (by omega)]; exact o4 a n1) (by rw [sA_na (by decide), b1 1701 (by decide)]; exact e1) (by rw [sA_na (by decide), b1 1703 (by decide)]; exact e3) (fun a j nn => by rw [b2 a j nn]; exact oi4 a j nn) (fun k hk ck => ?_)
                by_cases ek : k = i
                · subst ek; rw [sA_e]
                · rw [sA_n (Or.inr ek), b1 1702 (by decide)]; exact cs k (by omega) ck
              · rw [if_neg ci, nI_add]
                exact ih (i + 1) _ _ (by omega) o4 e1 e3 oi4 (fun k hk ck => cs k (by by_cases ek : k = i; subst ek; exact absurd ck ci; omega) ck)
          exact key 1024 0 A3 I2 (by omega) (fun a n1 => by rw [a3 a (by omega) (by omega)]; exact o2 a n1) rfl (a3 1703 (by decide) (by decide)) oi (fun k hk => absurd hk (by omega))
        rw [iEq (by omega) (by decide)]
        by_cases c18 : K = 18
        · rw [if_pos c18]; exact two
        · rw [if_neg c18, iEq (by omega) (by decide), if_pos (by omega)]; exact two
      · rw [iEq (by omega) (by decide), if_neg (by omega), iEq (by omega) (by decide), if_neg (by omega)]
        show L188c (nI s) (nI K) A2 I2 Q
        intro P hP
        have key : ∀ (m i : Nat) (A4 : HA), m + i = 1024 → (∀ a, ¬ (1700 ≤ a ∧ a ≤ 1703) → A4 a = A a) → A4 1703 = A2 1703 → (∀ k, k < i → A 1689 (1024 * s + k) = -1 → A4 1702 k = nI (ch k)) → P (nI i) A4 I2 := by
          intro m
          induction m with
          | zero =>
            intro i A4 hi o4 e3 cs
            obtain rfl : i = 1024 := by omega
            refine hP _ _ _ ?_
            rw [iLt (by decide) (by decide), if_neg (by decide)]
            exact q _ _ o4 oi cs
          | succ m ih =>
            intro i A4 hi o4 e3 cs
            refine hP _ _ _ ?_
            rw [iLt (by omega) (by decide), if_pos (by omega), pk_mul, nI_add, vpT (n := 1024 * s + i) (by omega) (by decide), nI_clamp (n := 1024 * s + i) (by omega), o4 1689 (by decide)]
            refine ⟨trivial, ?_⟩
            by_cases ci : A 1689 (1024 * s + i) = -1
            · rw [if_pos ci, vpT (n := i) (by omega) (by decide), nI_clamp (n := i) (by omega), e3]
              obtain ⟨va, vb, ea, eb, ec⟩ := hd i (by omega) ci
              have ef := fs i (by omega) ci
              obtain rfl : va = A2 1703 i := Option.some.inj (ea.symm.trans ef)
              refine ⟨trivial, CH_ok (n := n) hK (by omega) (fun y => by rw [j39, if_neg cc, if_pos y]) hn ?_⟩
              have e2 : zch K (A2 1703 i) (nI 0) n = ch i := by
                rw [ec]
                unfold zch
                by_cases c9 : K = 9 ∨ K = 10
                · rw [if_pos c9, if_pos c9]
                · have n18 : ¬ K = 18 := fun y => cc (Or.inl y)
                  have n19 : ¬ K = 19 := fun y => cc (Or.inr y)
                  rw [if_neg c9, if_neg c9, if_neg n18, if_neg n18, if_neg n19, if_neg n19]
              rw [e2]
              refine ih (i + 1) _ (by omega) (fun a n1 => by rw [sA_na (by omega)]; exact o4 a n1) (by rw [sA_na (by decide)]; exact e3) (fun k hk ck => ?_)
              by_cases ek : k = i
              · subst ek; rw [sA_e]
              · rw [sA_n (Or.inr ek)]; exact cs k (by omega) ck
            · rw [if_neg ci, nI_add]
              exact ih (i + 1) _ (by omega) o4 e3 (fun k hk ck => cs k (by by_cases ek : k = i; subst ek; exact absurd ck ci; omega) ck)
        exact key 1024 0 A2 (by omega) o2 rfl (fun k hk => absurd hk (by omega))
    | succ m ih =>
      intro i A2 I2 hi o2 e01 oi fs
      refine hP4 _ _ _ ?_
      rw [iLt (by omega) (by decide), if_pos (by omega), pk_mul, nI_add, vpT (n := 1024 * s + i) (by omega) (by decide), nI_clamp (n := 1024 * s + i) (by omega), o2 1689 (by decide)]
      refine ⟨trivial, ?_⟩
      by_cases ci : A 1689 (1024 * s + i) = -1
      · rw [if_pos ci, nI_rem (by omega) (by decide) (by decide), nI_div (by omega) (by decide) (by decide), s16, s16]
        obtain ⟨va, vb, ea, eb, ec⟩ := hd i (by omega) ci
        have bx := bR_xk (k := i) (by omega)
        refine M_worth (x := xk i) (y := yk i) hw hN bx.1 bx.2 hjl (fun u hu => by rw [e01]; exact t1 u hu) (fun u z A5 I5 es en z1 b1 b2 b3 => ?_)
        obtain ⟨eu, -⟩ := es va ea
        rw [vpT (n := i) (by omega) (by decide), nI_clamp (n := i) (by omega), nI_add]
        refine ⟨trivial, ih (i + 1) _ _ (by omega) (fun a n1 => by rw [sA_na (by omega), b1 a (by omega)]; exact o2 a n1) (by rw [sA_na (by decide), b1 1701 (by decide)]; exact e01) (fun a j nn => by rw [b2 a j nn]; exact oi a j nn) (fun k hk ck => ?_)⟩
        by_cases ek : k = i
        · subst ek; rw [sA_e, ea, eu]
        · rw [sA_n (Or.inr ek), b1 1703 (by decide)]; exact fs k (by omega) ck
      · rw [if_neg ci, nI_add]
        exact ih (i + 1) _ _ (by omega) o2 e01 oi (fun k hk ck => fs k (by by_cases ek : k = i; subst ek; exact absurd ck ci; omega) ck)
  exact fst 1024 0 A1 I (by omega) (fun a n1 => a1 a (by omega) (by omega)) rfl (fun _ _ _ => rfl) (fun k hk => absurd hk (by omega))
end MC
