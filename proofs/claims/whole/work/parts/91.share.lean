/-! THE CLASS'S SPLIT -/
theorem lsx_ch {f : Nat → Bool} : ∀ n, n < 2 ^ 31 → (lsx f n = -1 ∧ ∀ i, i < n → f i = false) ∨ ∃ m, m < n ∧ lsx f n = nI m ∧ f m = true ∧ ∀ i, i < m → f i = false
  | 0, _ => Or.inl ⟨rfl, fun i hi => absurd hi (Nat.not_lt_zero i)⟩
  | n + 1, hn => by
    have e : lsx f (n + 1) = if lsx f n = -1 ∧ f n = true then nI n else lsx f n := rfl
    rcases lsx_ch (f := f) n (by omega) with ⟨h1, h2⟩ | ⟨m, hm, h1, h2, h3⟩
    · by_cases c : f n = true
      · right
        exact ⟨n, Nat.lt_succ_self n, by rw [e, if_pos ⟨h1, c⟩], c, h2⟩
      · left
        refine ⟨by rw [e, if_neg (fun z => c z.2)]; exact h1, fun i hi => ?_⟩
        by_cases z : i = n
        · subst z; exact Bool.eq_false_iff.mpr c
        · exact h2 i (by omega)
    · right
      refine ⟨m, by omega, ?_, h2, h3⟩
      rw [e, h1, if_neg (fun z => nI_pos (n := m) (by omega) (by rw [z.1]; decide))]
theorem lsx_congr {f g : Nat → Bool} : ∀ n, (∀ i, i < n → f i = g i) → lsx f n = lsx g n
  | 0, _ => rfl
  | n + 1, h => by
    show (if lsx f n = -1 ∧ f n = true then nI n else lsx f n) = (if lsx g n = -1 ∧ g n = true then nI n else lsx g n)
    rw [lsx_congr n (fun i hi => h i (by omega)), h n (by omega)]
theorem flp_ch {f : Nat → Option Nat} {c : Nat} : ∀ m k, (flp f c m k = 0 ∧ ∀ j, k ≤ j → j < k + m → ¬ f j = some c) ∨ ∃ j, k ≤ j ∧ j < k + m ∧ flp f c m k = j + 1 ∧ f j = some c ∧ ∀ i, k ≤ i → i < j → ¬ f i = some c
  | 0, k => Or.inl ⟨rfl, fun j h1 h2 => absurd h1 (by omega)⟩
  | m + 1, k => by
    have e : flp f c (m + 1) k = if f k = some c then k + 1 else flp f c m (k + 1) := rfl
    by_cases h : f k = some c
    · right
      exact ⟨k, Nat.le_refl _, by omega, by rw [e, if_pos h], h, fun i h1 h2 => absurd h1 (by omega)⟩
    · rcases flp_ch (f := f) (c := c) m (k + 1) with ⟨h1, h2⟩ | ⟨j, j1, j2, h1, h2, h3⟩
      · left
        refine ⟨by rw [e, if_neg h]; exact h1, fun j a b => ?_⟩
        by_cases z : j = k
        · subst z; exact h
        · exact h2 j (by omega) (by omega)
      · right
        refine ⟨j, by omega, by omega, by rw [e, if_neg h]; exact h1, h2, fun i a b => ?_⟩
        by_cases z : i = k
        · subst z; exact h
        · exact h3 i (by omega) b
theorem flp_congr {f g : Nat → Option Nat} {c : Nat} : ∀ m k, (∀ j, k ≤ j → j < k + m → (f j = some c ↔ g j = some c)) → flp f c m k = flp g c m k
  | 0, _, _ => rfl
  | m + 1, k, h => by
    show (if f k = some c then k + 1 else flp f c m (k + 1)) = (if g k = some c then k + 1 else flp g c m (k + 1))
    rw [flp_congr m (k + 1) (fun j a b => h j (by omega) (by omega))]
    by_cases z : f k = some c
    · rw [if_pos z, if_pos ((h k (Nat.le_refl _) (by omega)).mp z)]
    · rw [if_neg z, if_neg (fun y => z ((h k (Nat.le_refl _) (by omega)).mpr y))]
theorem lsx_flp {f : Nat → Bool} {g : Nat → Option Nat} {c : Nat} (h : ∀ k, k < 1024 → (f k = true ↔ g k = some c)) : lsx f 1024 + nI 1 = nI (flp g c 1024 0) := by
  rcases lsx_ch (f := f) 1024 (by decide) with ⟨h1, h2⟩ | ⟨m, hm, h1, h2, h3⟩
  · rcases flp_ch (f := g) (c := c) 1024 0 with ⟨g1, g2⟩ | ⟨j, j1, j2, g1, g2, g3⟩
    · rw [h1, g1]; decide
    · exact absurd ((h j (by omega)).mpr g2) (by rw [h2 j (by omega)]; decide)
  · rcases flp_ch (f := g) (c := c) 1024 0 with ⟨g1, g2⟩ | ⟨j, j1, j2, g1, g2, g3⟩
    · exact absurd ((h m hm).mp h2) (g2 m (by omega) (by omega))
    · have : m = j := by
        rcases Nat.lt_trichotomy m j with z | z | z
        · exact absurd ((h m hm).mp h2) (g3 m (by omega) z)
        · exact z
        · have := h3 j z
          rw [(h j (by omega)).mpr g2] at this
          cases this
      subst this
      rw [h1, g1, nI_add]
theorem lsx_or {f g : Nat → Bool} {N : Nat} (hN : N < 2 ^ 31) : lsx (fun k => f k || g k) N = (if lsx g N = -1 then lsx f N else if lsx f N = -1 then lsx g N else if lsx g N < lsx f N then lsx g N else lsx f N) := by
  have n1 : ∀ {m : Nat}, m < N → ¬ nI m = -1 := fun {m} hm z => nI_pos (n := m) (by omega) (by rw [z]; decide)
  rcases lsx_ch (f := g) N hN with ⟨g1, g2⟩ | ⟨m, hm, g1, g2, g3⟩
  · rw [g1, if_pos rfl]
    exact lsx_congr N (fun i hi => by rw [g2 i hi, Bool.or_false])
  · rw [g1, if_neg (n1 hm)]
    rcases lsx_ch (f := f) N hN with ⟨f1, f2⟩ | ⟨q, hq, f1, f2, f3⟩
    · rw [f1, if_pos rfl, ← g1]
      exact lsx_congr N (fun i hi => by rw [f2 i hi, Bool.false_or])
    · rw [f1, if_neg (n1 hq)]
      rcases lsx_ch (f := fun k => f k || g k) N hN with ⟨h1, h2⟩ | ⟨p, hp, h1, h2, h3⟩
      · have := h2 m hm
        rw [g2, Bool.or_true] at this
        cases this
      · rw [h1]
        have p1 : p ≤ m := Nat.le_of_not_lt fun z => by have := h3 m z; rw [g2, Bool.or_true] at this; cases this
        have p2 : p ≤ q := Nat.le_of_not_lt fun z => by have := h3 q z; rw [f2, Bool.true_or] at this; cases this
        have p3 : p = m ∨ p = q := by
          cases hf : f p with
          | true => right; exact Nat.le_antisymm p2 (Nat.le_of_not_lt fun z => by rw [f3 p z] at hf; cases hf)
          | false =>
            rw [hf, Bool.false_or] at h2
            left; exact Nat.le_antisymm p1 (Nat.le_of_not_lt fun z => by rw [g3 p z] at h2; cases h2)
        by_cases c : m < q
        · rw [if_pos ((nI_ltI (by omega) (by omega)).mpr c), show p = m by omega]
        · rw [if_neg (fun z => c ((nI_ltI (by omega) (by omega)).mp z)), show p = q by omega]
/-- whether some number below n has p -/
def zany (p : Nat → Bool) : Nat → Bool
  | 0 => false
  | n + 1 => zany p n || p n
theorem zany_iff {p : Nat → Bool} : ∀ n, zany p n = true ↔ ∃ k, k < n ∧ p k = true
  | 0 => ⟨fun e => Bool.noConfusion e, fun ⟨k, hk, _⟩ => absurd hk (Nat.not_lt_zero k)⟩
  | n + 1 => by
    show (zany p n || p n) = true ↔ _
    rw [Bool.or_eq_true, zany_iff n]
    constructor
    · rintro (⟨k, hk, e⟩ | e)
      · exact ⟨k, by omega, e⟩
      · exact ⟨n, Nat.lt_succ_self n, e⟩
    · rintro ⟨k, hk, e⟩
      by_cases z : k = n
      · subst z; exact Or.inr e
      · exact Or.inl ⟨k, by omega, e⟩
theorem lsx_any {f : Nat → Bool} : lsx f 1024 = -1 ↔ ¬ zany f 1024 = true := by
  rcases lsx_ch (f := f) 1024 (by decide) with ⟨h1, h2⟩ | ⟨m, hm, h1, h2, h3⟩
  · exact ⟨fun _ z => (by obtain ⟨k, hk, e⟩ := (zany_iff 1024).mp z; rw [h2 k hk] at e; exact Bool.noConfusion e), fun _ => h1⟩
  · exact ⟨fun z => absurd z (fun z => nI_pos (n := m) (by omega) (by rw [← h1, z]; decide)), fun z => absurd ((zany_iff 1024).mpr ⟨m, hm, h2⟩) z⟩
/-- the inputs of a record that take an alternative -/
def gch (r : zR) (ch : Nat → Nat) (c : Nat) : Nat → Bool := fun k => (r.2.2.1 k).isNone && decide (ch k = c)
def zinp (f : Nat → Option Nat) (ch : Nat → Nat) (c n : Nat) (k : Nat) : Option Nat := match f k with
  | some j => some j
  | none => if ch k = c then none else some n
def zrs (S : zW) : zW := (S.1, S.2.1, (zd S, 0, 0, 0, 0))
def zplc (S : zW) : Nat := 100 * zq S + zpc S
def zkid (r : zR) (S : zW) (ch : Nat → Nat) (g c : Nat) : zR := (zrs S, r.2.1 ++ [(zplc S, c)], zinp r.2.2.1 ch c r.2.1.length, some c, g)
abbrev zT : Type := List zR × Int32 × Nat × (Nat → Nat × Nat)
def zal (r : zR) (S : zW) (ch : Nat → Nat) (g c : Nat) (t : zT) : zT := if zany (gch r ch c) 1024 = true then (if t.1.length = 60 then (t.1, t.2.1 + nI 1, t.2.2) else (t.1 ++ [zkid r S ch g c], t.2)) else (t.1, t.2.1, t.2.2.1 + 1, un t.2.2.2 (t.2.2.1 % 30) (zplc S, c))
def zspl (r : zR) (S : zW) (ch : Nat → Nat) (g : Nat) : Nat → zT → zT
  | 0, t => t
  | n + 1, t => zal r S ch g n (zspl r S ch g n t)
def qSet (s : zS) (t : zT) (g : Nat) : zS := (qF s, qP s, t.1, qT s, qC s, qZ s, t.2.1, t.2.2.1, t.2.2.2, g)
def qGet (s : zS) : zT := (qW s, qL s, qN s, qK s)
theorem zinp_len {f : Nat → Option Nat} {ch : Nat → Nat} {c n k : Nat} (h : ∀ j, f k = some j → j < n) : zinp f ch c n k = some n ↔ ((f k).isNone = true ∧ ¬ ch k = c) := by
  unfold zinp
  split
  · rename_i j e
    exact ⟨fun z => absurd (h j e) (by have := Option.some.inj z; omega), fun z => (by rw [e] at z; cases z.1)⟩
  · rename_i e
    by_cases z : ch k = c
    · rw [if_pos z]; exact ⟨fun y => (by cases y), fun y => absurd z y.2⟩
    · rw [if_neg z, e]; exact ⟨fun _ => ⟨rfl, z⟩, fun _ => rfl⟩
theorem zinp_old {f : Nat → Option Nat} {ch : Nat → Nat} {c n k j : Nat} (hj : j < n) : zinp f ch c n k = some j ↔ f k = some j := by
  unfold zinp
  split
  · rename_i i e; rw [e]
  · rename_i e
    rw [e]
    by_cases z : ch k = c
    · rw [if_pos z]
    · rw [if_neg z]; exact ⟨fun y => absurd (Option.some.inj y) (by omega), fun y => (by cases y)⟩
theorem zinp_none {f : Nat → Option Nat} {ch : Nat → Nat} {c n k : Nat} : (zinp f ch c n k).isNone = ((f k).isNone && decide (ch k = c)) := by
  unfold zinp
  split
  · rename_i i e; rw [e]; rfl
  · rename_i e
    rw [e]
    by_cases z : ch k = c
    · rw [if_pos z]; simp [z]
    · rw [if_neg z]; simp [z]
section CS
variable {A I : HA} {S : zW} {F : zF} {G : zG}
/-- the sharing, as share left it -/
def shr (A : HA) (r : zR) (ch : Nat → Nat) : Prop := (∀ c k, c < 8 → k < 1024 → inA A (56 + 2 * c) k = gch r ch c k) ∧ ∀ c, c < 8 → A 46 c = lsx (gch r ch c) 1024
theorem C_least {Q : Int32 → Prop} {r : zR} {ch : Nat → Nat} {c n : Nat} (h : shr A r ch) (hc : c < 8) (h8 : ∀ k, k < 1024 → (r.2.2.1 k).isNone = true → ch k < 8) (hn : ∀ k j, k < 1024 → r.2.2.1 k = some j → j < n) (q : ∀ v, v + nI 1 = nI (flp (zinp r.2.2.1 ch c n) n 1024 0) → Q v) : D108_leastOfOthers (nI c) A I Q := by
  obtain ⟨N, hN⟩ : ∃ N, N = 1024 := ⟨_, rfl⟩
  have h2 := h.2
  rw [← hN] at h2 h8 hn q
  have N31 : N < 2 ^ 31 := by omega
  intro P hP
  have key : ∀ d m, d + m = 8 → P (lsx (fun k => (r.2.2.1 k).isNone && (decide (ch k < m) && !decide (ch k = c))) N) (nI m) := by
    intro d
    induction d with
    | zero =>
      intro m hm
      refine hP _ _ ?_
      rw [iLt (by omega) (by decide), if_neg (by omega)]
      refine q _ (hN ▸ lsx_flp (fun k hk => ?_))
      rw [zinp_len (fun j e => hn k j (by omega) e), Bool.and_eq_true, Bool.and_eq_true]
      constructor
      · rintro ⟨a, b, d⟩
        exact ⟨a, fun z => by rw [z] at d; simp at d⟩
      · rintro ⟨a, b⟩
        exact ⟨a, decide_eq_true (by have := h8 k (by omega) a; omega), by simp [b]⟩
    | succ d ih =>
      intro m hm
      have ih := ih (m + 1) (by omega)
      refine hP _ _ ?_
      rw [iLt (by omega) (by decide), if_pos (by omega), nI_add, iEq (by omega) (by omega)]
      by_cases e : m = c
      · rw [if_pos e]
        rw [lsx_congr (g := fun k => (r.2.2.1 k).isNone && (decide (ch k < m) && !decide (ch k = c))) N (fun i hi => ?_)] at ih
        · exact ih
        · congr 1
          by_cases z : ch i = c
          · simp [z]
          · simp only [z]; congr 1; exact decide_eq_decide.mpr (by omega)
      · rw [if_neg e, vpT (n := m) (by omega) (by decide), nI_clamp (n := m) (by omega), h2 m (by omega)]
        refine ⟨trivial, ?_⟩
        have or := lsx_or N31 (f := fun k => (r.2.2.1 k).isNone && (decide (ch k < m) && !decide (ch k = c))) (g := gch r ch m)
        rw [lsx_congr (f := fun k => ((r.2.2.1 k).isNone && (decide (ch k < m) && !decide (ch k = c))) || gch r ch m k) (g := fun k => (r.2.2.1 k).isNone && (decide (ch k < m + 1) && !decide (ch k = c))) N (fun i hi => ?_)] at or
        · rw [or] at ih
          generalize lsx (fun k => (r.2.2.1 k).isNone && (decide (ch k < m) && !decide (ch k = c))) N = a2 at ih ⊢
          by_cases c1 : lsx (gch r ch m) N = -1
          · rw [if_pos c1] at ih ⊢; exact ih
          · rw [if_neg c1] at ih ⊢
            by_cases c2 : a2 = -1
            · rw [if_pos c2] at ih ⊢; exact ⟨trivial, ih⟩
            · rw [if_neg c2] at ih ⊢
              refine ⟨trivial, ?_⟩
              by_cases c3 : lsx (gch r ch m) N < a2
              · rw [if_pos c3] at ih ⊢; exact ⟨trivial, ih⟩
              · rw [if_neg c3] at ih ⊢; exact ih
        · unfold gch
          show ((r.2.2.1 i).isNone && _ || (r.2.2.1 i).isNone && _) = _
          rw [← Bool.and_or_distrib_left]
          congr 1
          by_cases z : ch i = c
          · have : ¬ ch i = m := by omega
            simp [z]; omega
          · by_cases y : ch i < m
            · simp [z, y]; omega
            · by_cases x : ch i = m
              · simp [z, x]; omega
              · have : ¬ ch i < m + 1 := by omega
                simp [z, y, x, this]
  have k0 := key 8 0 (by omega)
  rw [lsx_congr (g := fun _ => false) N (fun i hi => by simp)] at k0
  have e : lsx (fun _ => false) N = -1 := by
    rcases lsx_ch (f := fun _ => false) N N31 with ⟨h1, _⟩ | ⟨m, _, _, h2, _⟩
    · exact h1
    · cases h2
  rw [e] at k0
  exact k0
end CS
