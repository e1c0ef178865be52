/-! THE CLASS shares a way's inputs -/
def zch (K : Nat) (a b : Int32) (n : Nat) : Nat := if K = 9 ∨ K = 10 then (if a = 0 then 1 else 0) else if K = 18 then (if a < b then 0 else 1) else if K = 19 then (if a = b then 0 else 1) else if K = 21 then (if a < 0 then 6 else if nI 5 < a then 7 else a.toNatClampNeg) else (if a < 0 then n else if a < nI n then a.toNatClampNeg else n)
/-- operations that may split -/
def dcd (K : Nat) : Prop := K = 9 ∨ K = 10 ∨ K = 18 ∨ K = 19 ∨ K = 21 ∨ K = 22 ∨ K = 23
theorem zch_lt {K n : Nat} {a b : Int32} (hn : n ≤ 5) : zch K a b n < 8 := by
  unfold zch
  split
  · split <;> omega
  · split
    · split <;> omega
    · split
      · split <;> omega
      · split
        · split
          · omega
          · split
            · omega
            · rename_i h1 h2
              obtain ⟨j, hj, rfl⟩ := nI_of h1
              rw [nI_clamp hj]
              have : ¬ 5 < j := fun z => h2 ((nI_ltI (by decide) hj).mpr z)
              omega
        · split
          · omega
          · split
            · rename_i h1 h2
              obtain ⟨j, hj, rfl⟩ := nI_of h1
              rw [nI_clamp hj]
              have := (nI_ltI hj (by omega)).mp h2
              omega
            · omega
theorem C_choose {Q : Int32 → Prop} {K n : Nat} {a b : Int32} (hK : dcd K) (hn : n ≤ 5) (k : Q (nI (zch K a b n))) : D66_choose (nI K) a b (nI n) Q := by
  unfold zch at k
  rcases hK with hK | hK | hK | hK | hK | hK | hK
  · refine ch_9 hK ?_
    rw [if_pos (by omega)] at k
    split <;> (rename_i h; first | rw [if_pos h] at k | rw [if_neg h] at k) <;> exact k
  · refine ch_10 hK ?_
    rw [if_pos (by omega)] at k
    split <;> (rename_i h; first | rw [if_pos h] at k | rw [if_neg h] at k) <;> exact k
  · refine ch_18 hK ?_
    rw [if_neg (by omega), if_pos (by omega)] at k
    split <;> (rename_i h; first | rw [if_pos h] at k | rw [if_neg h] at k) <;> exact k
  · refine ch_19 hK ?_
    rw [if_neg (by omega), if_neg (by omega), if_pos (by omega)] at k
    split <;> (rename_i h; first | rw [if_pos h] at k | rw [if_neg h] at k) <;> exact k
  · refine ch_21 hK ?_
    rw [if_neg (by omega), if_neg (by omega), if_neg (by omega), if_pos (by omega)] at k
    by_cases h1 : a < 0
    · rw [if_pos h1] at k ⊢; exact k
    · rw [if_neg h1] at k ⊢
      by_cases h2 : nI 5 < a
      · rw [if_pos h2] at k ⊢; exact k
      · rw [if_neg h2] at k ⊢
        obtain ⟨j, hj, rfl⟩ := nI_of h1
        rw [nI_clamp hj] at k
        exact k
  · refine ch_22 hK ?_
    rw [if_neg (by omega), if_neg (by omega), if_neg (by omega), if_neg (by omega)] at k
    by_cases h1 : a < 0
    · rw [if_pos h1] at k ⊢; exact k
    · rw [if_neg h1] at k ⊢
      by_cases h2 : a < nI n
      · rw [if_pos h2] at k ⊢
        obtain ⟨j, hj, rfl⟩ := nI_of h1
        rw [nI_clamp hj] at k
        exact k
      · rw [if_neg h2] at k ⊢; exact k
  · refine ch_23 hK ?_
    rw [if_neg (by omega), if_neg (by omega), if_neg (by omega), if_neg (by omega)] at k
    by_cases h1 : a < 0
    · rw [if_pos h1] at k ⊢; exact k
    · rw [if_neg h1] at k ⊢
      by_cases h2 : a < nI n
      · rw [if_pos h2] at k ⊢
        obtain ⟨j, hj, rfl⟩ := nI_of h1
        rw [nI_clamp hj] at k
        exact k
      · rw [if_neg h2] at k ⊢; exact k
/-- the two words of an input -/
def xk (k : Nat) : Int32 := nI (k / 32) + (-16)
def yk (k : Nat) : Int32 := nI (k % 32) + (-16)
/-- the least below i for which f, or -1 -/
def lsx (f : Nat → Bool) : Nat → Int32
  | 0 => -1
  | i + 1 => if lsx f i = -1 ∧ f i = true then nI i else lsx f i
section SH
variable {w : Nat} {A I : HA} {S : zW} {F : zF} {G : zG}
theorem GC.self {A0 I0 : HA} (h : GC w A0 I0 A I S F) : GC w A I A I S F := ⟨h.1, h.2.1, h.2.2.1, h.2.2.2.1, fun _ _ _ => rfl, fun _ _ _ _ => rfl⟩
theorem GC.move (h : GC w A I A I S F) {A' I' : HA} (ha : ∀ a, (w + 1 ≤ a ∧ a ≤ w + 6 ∨ 33 ≤ a ∧ a ≤ 36) → A' a = A a) (hi : I' w = I w) (h4 : I' 32 4 = I 32 4) : GC w A' I' A' I' S F := by
  obtain ⟨h1, h2, h3, h5, -, -⟩ := h
  refine ⟨h1, h2, h3.off (fun a a1 a2 => ha a (by omega)) hi, ?_, fun _ _ _ => rfl, fun _ _ _ _ => rfl⟩
  unfold zFC at h5 ⊢
  rw [h4, ha 33 (by omega), ha 34 (by omega), ha 35 (by omega), ha 36 (by omega)]
  exact h5
theorem C_share {Q : HA → HA → Prop} {K n jl jr : Nat} {ch : Nat → Nat} (h : GC w A I A I S F) (hw71 : 71 ≤ w) (hw : zfw F) (hK : dcd K) (hn : n ≤ 5) (h1 : K = 18 ∨ K = 19 ∨ K = 23 → 1 < zh S) (h0 : 0 < zh S) (hl : zlf K S = nI jl) (hjl : jl < F.1) (hr : zrt K S = nI jr) (hjr : jr < F.1)
    (hd : ∀ k, k < 1024 → inA A (w + 9) k = true → ∃ a b, evs F (xk k) (yk k) jl = some a ∧ evs F (xk k) (yk k) jr = some b ∧ ch k = zch K a b n)
    (q : ∀ A' I', (∀ a, ¬ (46 ≤ a ∧ a ≤ 70) → A' a = A a) → (∀ a, a ≠ 47 → a ≠ 51 → I' a = I a) → (∀ c k, c < 8 → k < 1024 → inA A' (56 + 2 * c) k = (inA A (w + 9) k && decide (ch k = c))) → (∀ c, c < 8 → A' 46 c = lsx (fun k => inA A (w + 9) k && decide (ch k = c)) 1024) → Q A' I') : D105_share w (nI K) (nI n) A I Q := by
  have hN := h.2.2.2.1.2.2.1
  have hf := h.1.far
  have hK30 : K < 30 := by rcases hK with e | e | e | e | e | e | e <;> omega
  unfold D105_share
  refine C_leftOf h hK30 h1 h0 ?_
  rw [hl]
  refine C_write isT47 h.2.2.2.1 hw hjl (fun A1 a1 t1 => ?_)
  have g1 : GC w A1 (sI I 47 3 (nI (tks F jl).length)) A1 (sI I 47 3 (nI (tks F jl).length)) S F := h.move (fun a ha => a1 a (by omega) (by omega)) (sI_na (by omega)) (by rw [sI_na (by decide)])
  refine C_rightOf g1 hK30 (fun _ => h0) ?_
  rw [hr]
  refine C_write isT51 g1.2.2.2.1 hw hjr (fun A2 a2 t2 => ?_)
  generalize hI : sI (sI I 47 3 (nI (tks F jl).length)) 51 3 (nI (tks F jr).length) = I2
  have i47 : I2 47 3 = nI (tks F jl).length := by rw [← hI, sI_n (by decide), sI_e]
  have i51 : I2 51 3 = nI (tks F jr).length := by rw [← hI, sI_e]
  have io : ∀ a, a ≠ 47 → a ≠ 51 → I2 a = I a := fun a n1 n2 => by rw [← hI, sI_na n2, sI_na n1]
  have o2 : ∀ a, ¬ (46 ≤ a ∧ a ≤ 70) → A2 a = A a := fun a n1 => by rw [a2 a (by omega) (by omega), a1 a (by omega) (by omega)]
  have tl : ∀ i, i < (tks F jl).length → A2 48 i = (tks F jl).getD i 0 := fun i hi => by rw [a2 48 (by decide) (by decide)]; exact t1 i hi
  intro P7 hP7
  have clr : ∀ (m i : Nat) (A3 : HA), m + i = 8 → (∀ a, ¬ (46 ≤ a ∧ a ≤ 70) → A3 a = A a) → A3 48 = A2 48 → A3 52 = A2 52 → (∀ c, c < 8 → A3 46 c = -1) → (∀ c k, c < i → k < 1024 → inA A3 (56 + 2 * c) k = false) → P7 (nI i) A3 I2 := by
    intro m
    induction m with
    | zero =>
      intro i A3 hi o3 e48 e52 e46 ec
      refine hP7 _ _ _ ?_
      rw [iLt (by omega) (by decide), if_neg (by omega)]
      intro P hP
      have key : ∀ (m i : Nat) (A4 : HA), m + i = 1024 → (∀ a, ¬ (46 ≤ a ∧ a ≤ 70) → A4 a = A a) → A4 48 = A2 48 → A4 52 = A2 52 → (∀ c, c < 8 → A4 46 c = lsx (fun k => inA A (w + 9) k && decide (ch k = c)) i) → (∀ c k, c < 8 → k < 1024 → inA A4 (56 + 2 * c) k = (decide (k < i) && (inA A (w + 9) k && decide (ch k = c)))) → P (nI i) A4 I2 := by
        intro m
        induction m with
        | zero =>
          intro i A4 hi o4 e48 e52 e46 ec
          obtain rfl : i = 1024 := by omega
          refine hP _ _ _ ?_
          rw [iLt (by decide) (by decide), if_neg (by decide)]
          refine q _ _ o4 io (fun c k hc hk => ?_) e46
          rw [ec c k hc hk, decide_eq_true hk]
          rfl
        | succ m ih =>
          intro i A4 hi o4 e48 e52 e46 ec
          refine hP _ _ _ ?_
          rw [iLt (by omega) (by decide), if_pos (by omega)]
          have iin : inA A4 (w + 8 + 1) i = inA A (w + 9) i := by unfold inA; rw [o4 (w + 8 + 1) (by omega)]
          refine C_has (by omega) (fun y => ?_) (fun y => ?_)
          · rw [i1]
            rw [iin] at y
            obtain ⟨va, vb, ea, eb, ec2⟩ := hd i (by omega) y
            unfold D39_xOf D40_yOf
            rw [nI_rem (by omega) (by decide) (by decide), nI_div (by omega) (by decide) (by decide)]
            refine C_wordFor (t := 47) (x := xk i) (y := yk i) hw hN hjl i47 (fun u hu => by rw [show 47 + 1 = 48 from rfl, e48]; exact tl u hu) (fun v ev A5 b1 => ?_) (fun en => by rw [ea] at en; cases en)
            obtain rfl : va = v := Option.some.inj (ea.symm.trans ev)
            refine C_wordFor (t := 51) (x := xk i) (y := yk i) hw hN hjr i51 (fun u hu => by rw [show 51 + 1 = 52 from rfl, b1 52 (by decide), e52]; exact t2 u hu) (fun v ev A6 b2 => ?_) (fun en => by rw [eb] at en; cases en)
            obtain rfl : vb = v := Option.some.inj (eb.symm.trans ev)
            have c8 := zch_lt (K := K) (a := va) (b := vb) hn
            refine C_choose hK hn ?_
            rw [← ec2] at c8 ⊢
            rw [vpT (by omega) (by decide), nI_clamp (n := ch i) (by omega)]
            have o6 : ∀ a, a ≠ 50 → a ≠ 54 → A6 a = A4 a := fun a n1 n2 => by rw [b2 a n2, b1 a n1]
            refine ⟨trivial, C_addI (by omega) (fun A7 d1 d2 => ?_)⟩
            have e467 : ∀ c, A7 46 c = A4 46 c := fun c => by rw [d1 46 (by omega), o6 46 (by decide) (by decide)]
            have in7 : ∀ c k, c < 8 → k < 1024 → inA A7 (56 + 2 * c) k = (decide (k < i + 1) && (inA A (w + 9) k && decide (ch k = c))) := by
              intro c k hc hk
              by_cases ecc : c = ch i
              · subst ecc
                have := d2 k hk
                rw [show 55 + 2 * ch i + 1 = 56 + 2 * ch i by omega] at this
                have e6 : inA A6 (56 + 2 * ch i) k = inA A4 (56 + 2 * ch i) k := by unfold inA; rw [o6 _ (by omega) (by omega)]
                rw [this, e6, ec _ k c8 hk]
                by_cases ek : k = i
                · subst ek; simp [y]
                · have : (k < i + 1) ↔ k < i := by omega
                  simp [ek, this]
              · have e7 : inA A7 (56 + 2 * c) k = inA A4 (56 + 2 * c) k := by unfold inA; rw [d1 _ (by omega), o6 _ (by omega) (by omega)]
                rw [e7, ec c k hc hk]
                by_cases ek : k = i
                · subst ek; simp [Ne.symm ecc]
                · have : (k < i + 1) ↔ k < i := by omega
                  simp [this]
            have o7 : ∀ a, ¬ (46 ≤ a ∧ a ≤ 70) → A7 a = A a := fun a n1 => by rw [d1 a (by omega), o6 a (by omega) (by omega)]; exact o4 a n1
            rw [nI_add, e467 (ch i), e46 (ch i) c8]
            refine ⟨trivial, ?_⟩
            have ls : ∀ c, c < 8 → c ≠ ch i → lsx (fun k => inA A (w + 9) k && decide (ch k = c)) (i + 1) = lsx (fun k => inA A (w + 9) k && decide (ch k = c)) i := fun c _ nc => by
              show (if _ ∧ (inA A (w + 9) i && decide (ch i = c)) = true then _ else _) = _
              rw [if_neg (fun z => nc (by have := z.2; simp at this; exact this.2.symm))]
            have lt : lsx (fun k => inA A (w + 9) k && decide (ch k = ch i)) (i + 1) = if lsx (fun k => inA A (w + 9) k && decide (ch k = ch i)) i = -1 then nI i else lsx (fun k => inA A (w + 9) k && decide (ch k = ch i)) i := by
              show (if _ ∧ (inA A (w + 9) i && decide (ch i = ch i)) = true then _ else _) = _
              by_cases z : lsx (fun k => inA A (w + 9) k && decide (ch k = ch i)) i = -1
              · rw [if_pos z, if_pos ⟨z, by simp [y]⟩]
              · rw [if_neg z, if_neg (fun u => z u.1)]
            by_cases z : lsx (fun k => inA A (w + 9) k && decide (ch k = ch i)) i = -1
            · rw [if_pos z] at lt
              rw [if_pos z]
              refine ⟨trivial, ih (i + 1) _ (by omega) (fun a n1 => by rw [sA_na (by omega)]; exact o7 a n1) (by rw [sA_na (by decide), d1 48 (by omega), o6 48 (by decide) (by decide)]; exact e48) (by rw [sA_na (by decide), d1 52 (by omega), o6 52 (by decide) (by decide)]; exact e52) (fun c hc => ?_) (fun c k hc hk => ?_)⟩
              · by_cases ecc : c = ch i
                · subst ecc; rw [sA_e, lt]
                · rw [sA_n (Or.inr ecc), e467, e46 c hc, ls c hc ecc]
              · have : inA (sA A7 46 (ch i) (nI i)) (56 + 2 * c) k = inA A7 (56 + 2 * c) k := by unfold inA; rw [sA_na (by omega)]
                rw [this]; exact in7 c k hc hk
            · rw [if_neg z] at lt
              rw [if_neg z]
              refine ih (i + 1) _ (by omega) o7 (by rw [d1 48 (by omega), o6 48 (by decide) (by decide)]; exact e48) (by rw [d1 52 (by omega), o6 52 (by decide) (by decide)]; exact e52) (fun c hc => ?_) in7
              by_cases ecc : c = ch i
              · subst ecc; rw [e467, e46 _ hc, lt]
              · rw [e467, e46 c hc, ls c hc ecc]
          · rw [i0, nI_add]
            rw [iin] at y
            refine ih (i + 1) _ (by omega) o4 e48 e52 (fun c hc => ?_) (fun c k hc hk => ?_)
            · rw [e46 c hc]
              show _ = (if _ ∧ (inA A (w + 9) i && decide (ch i = c)) = true then _ else _)
              rw [if_neg (fun z => by have := z.2; simp [y] at this)]
            · rw [ec c k hc hk]
              by_cases ek : k = i
              · subst ek; simp [y]
              · have : (k < i + 1) ↔ k < i := by omega
                simp [this]
      refine key 1024 0 A3 (by omega) o3 e48 e52 e46 (fun c k hc hk => ?_)
      rw [ec c k (by omega) hk]
      simp
    | succ m ih =>
      intro i A3 hi o3 e48 e52 e46 ec
      refine hP7 _ _ _ ?_
      rw [iLt (by omega) (by decide), if_pos (by omega), vpT (by omega) (by decide), nI_clamp (n := i) (by omega), nI_add]
      unfold D37_clear
      refine ⟨trivial, ih (i + 1) _ (by omega) (fun a n1 => by rw [sF_n (by omega)]; exact o3 a n1) (by rw [sF_n (by omega)]; exact e48) (by rw [sF_n (by omega)]; exact e52) (fun c hc => by rw [sF_n (by omega)]; exact e46 c hc) (fun c k hc hk => ?_)⟩
      by_cases ecc : c = i
      · subst ecc
        rw [show 56 + 2 * c = 55 + 2 * c + 1 by omega]
        exact in_clear hk
      · have : inA (sF A3 (55 + 2 * i + 1) (nI 0) 32) (56 + 2 * c) k = inA A3 (56 + 2 * c) k := by unfold inA; rw [sF_n (by omega)]
        rw [this]; exact ec c k (by omega) hk
  refine clr 8 0 _ (by omega) (fun a n1 => by rw [sF_n (by omega)]; exact o2 a n1) (by rw [sF_n (by decide)]) (by rw [sF_n (by decide)]) (fun c hc => ?_) (fun c k hc _ => absurd hc (by omega))
  unfold sF
  rw [va_up_self]
  show (if c < 8 then (-1 : Int32) else _) = _
  rw [if_pos hc]
end SH
