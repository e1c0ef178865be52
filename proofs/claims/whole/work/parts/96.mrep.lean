/-! HOW A SEARCH LIES IN THE REFERENCE'S HEAP; its divide -/
theorem nar_b (x : Int32) : vp_nar (bm_ty 1) x = x.toInt8.toInt32 := rfl
theorem nar_lv (o : Option Nat) : vp_nar (bm_ty 1) (lv o) = lv o := by
  rw [nar_b]
  cases o with
  | none => rfl
  | some c => show (nI c).toInt8.toInt32.toInt8.toInt32 = (nI c).toInt8.toInt32; rw [Int8.toInt8_toInt32]
def offM (A A' : HA) (s : Nat) : Prop := (∀ j, j < 520 → A' 1688 (520 * s + j) = A 1688 (520 * s + j)) ∧ ∀ k, k < 1024 → A' 1689 (1024 * s + k) = A 1689 (1024 * s + k)
theorem recM.off {A A' : HA} {s : Nat} {r : zR} (h : recM A s r) (hr : recW r) (o : offM A A' s) : recM A' s r := by
  obtain ⟨e1, e2, e3, e4, e5⟩ := h
  have h200 := hr.1
  refine ⟨by rw [o.1 2 (by decide)]; exact e1, fun c p e => ?_, fun k hk => by rw [o.2 k hk]; exact e3 k hk, by rw [o.1 3 (by decide)]; exact e4, by rw [o.1 4 (by decide)]; exact e5⟩
  have hc := (List.getElem?_eq_some_iff.mp e).1
  have := e2 c p e
  rw [show 520 * s + 114 + 2 * c + 1 = 520 * s + (114 + 2 * c + 1) by omega, show 520 * s + 114 + 2 * c = 520 * s + (114 + 2 * c) by omega] at this ⊢
  rw [o.1 _ (by omega), o.1 _ (by omega)]
  exact this
theorem zRepN.off {A A' : HA} {s : Nat} {S : zW} (h : zRepN (520 * s) A S) (hz : zwf S) (o : ∀ j, j < 514 → A' 1688 (520 * s + j) = A 1688 (520 * s + j)) : zRepN (520 * s) A' S := by
  obtain ⟨e1, e2, e3, e4, e5⟩ := h
  have ht := hz.1
  have hn := hz.2.2.2.1
  refine ⟨by have := o 0 (by decide); rw [Nat.add_zero] at this; rw [this]; exact e1, by rw [o 5 (by decide)]; exact e2, by rw [o 1 (by decide)]; exact e3, fun f hf => ?_, fun k hk => ?_⟩
  · have hh := (hz.2.1 f hf).2.2
    obtain ⟨f1, f2, f3, f4⟩ := e4 f hf
    refine ⟨?_, ?_, ?_, fun j hj => ?_⟩
    · rw [show 520 * s + 30 + 21 * f = 520 * s + (30 + 21 * f) by omega] at f1 ⊢; rw [o _ (by omega)]; exact f1
    · rw [show 520 * s + 30 + 21 * f + 1 = 520 * s + (30 + 21 * f + 1) by omega] at f2 ⊢; rw [o _ (by omega)]; exact f2
    · rw [show 520 * s + 30 + 21 * f + 2 = 520 * s + (30 + 21 * f + 2) by omega] at f3 ⊢; rw [o _ (by omega)]; exact f3
    · have := f4 j hj
      rw [show 520 * s + 30 + 21 * f + (3 + j) = 520 * s + (30 + 21 * f + (3 + j)) by omega] at this ⊢; rw [o _ (by omega)]; exact this
  · obtain ⟨k1, k2⟩ := e5 k hk
    have hl := hz.2.2.2.2.1 k hk
    refine ⟨?_, fun i hi => ?_⟩
    · rw [show 520 * s + 6 + k = 520 * s + (6 + k) by omega] at k1 ⊢; rw [o _ (by omega)]; exact k1
    · have := k2 i hi
      rw [show 520 * s + 10 + (k * 5 + i) = 520 * s + (10 + (k * 5 + i)) by omega] at this ⊢; rw [o _ (by omega)]; exact this
theorem endM.off {A A' : HA} {s : Nat} {S : zW} (h : endM A (520 * s) S) (o : offM A A' s) : endM A' (520 * s) S := ⟨by rw [o.1 1 (by decide)]; exact h.1, by rw [o.1 514 (by decide)]; exact h.2.1, by rw [o.1 515 (by decide)]; exact h.2.2.1, by rw [o.1 516 (by decide)]; exact h.2.2.2.1, fun e => by rw [o.1 517 (by decide)]; exact h.2.2.2.2 e⟩
def mw (A : HA) (s : Nat) (r : zR) : Prop := recW r ∧ zwf r.1 ∧ recM A s r ∧ zRepN (520 * s) A r.1
def mp (A : HA) (s : Nat) (r : zR) : Prop := recW r ∧ recM A s r ∧ endM A (520 * s) r.1
theorem mw.off {A A' : HA} {s : Nat} {r : zR} (h : mw A s r) (o : offM A A' s) : mw A' s r := ⟨h.1, h.2.1, h.2.2.1.off h.1 o, h.2.2.2.off h.2.1 (fun j hj => o.1 j (by omega))⟩
theorem mp.off {A A' : HA} {s : Nat} {r : zR} (h : mp A s r) (o : offM A A' s) : mp A' s r := ⟨h.1, h.2.1.off h.1 o, h.2.2.off o⟩
def wsM (W : HA → Nat → zR → Prop) (A : HA) (xs : List Nat) (R : List zR) : Prop := ∀ (k i : Nat) (r : zR), xs[k]? = some i → R[k]? = some r → W A i r
theorem wsM.off {W : HA → Nat → zR → Prop} {A A' : HA} {xs : List Nat} {R : List zR} (h : wsM W A xs R) (hW : ∀ s r, W A s r → offM A A' s → W A' s r) (o : ∀ i, i ∈ xs → offM A A' i) : wsM W A' xs R := fun k i r e1 e2 => hW i r (h k i r e1 e2) (o i (List.mem_of_getElem? e1))
theorem wsM.erase {W : HA → Nat → zR → Prop} {A : HA} {xs : List Nat} {R : List zR} (h : wsM W A xs R) (k : Nat) : wsM W A (xs.eraseIdx k) (R.eraseIdx k) := fun j i r e1 e2 => by
  rw [List.getElem?_eraseIdx] at e1 e2
  by_cases c : j < k
  · rw [if_pos c] at e1 e2; exact h j i r e1 e2
  · rw [if_neg c] at e1 e2; exact h (j + 1) i r e1 e2
theorem wsM.app {W : HA → Nat → zR → Prop} {A : HA} {xs : List Nat} {R : List zR} {i : Nat} {r : zR} (h : wsM W A xs R) (hl : xs.length = R.length) (hc : W A i r) : wsM W A (xs ++ [i]) (R ++ [r]) := fun k j q e1 e2 => by
  rcases ap_some e1 with e1 | ⟨e1, rfl⟩
  · rcases ap_some e2 with e2 | ⟨e2, rfl⟩
    · exact h k j q e1 e2
    · have := (List.getElem?_eq_some_iff.mp e1).1; omega
  · rcases ap_some e2 with e2 | ⟨e2, rfl⟩
    · have := (List.getElem?_eq_some_iff.mp e2).1; omega
    · exact hc
def RMn (A I : HA) (ps ws : List Nat) (s : zS) : Prop := ps.length = (qP s).length ∧ ws.length = (qW s).length ∧ rowA (A 1696) ps ∧ rowA (A 1695) ws ∧ I 1681 24 = nI ps.length ∧ I 1681 21 = nI ws.length ∧ (∀ i, i < 240 → A 1699 i = qT s i) ∧ I 1681 30 = qC s ∧ I 1681 19 = qZ s ∧ I 1681 25 = qL s ∧ I 1681 26 = nI (qN s) ∧ (∀ j, j < 30 → j < qN s → A 1697 j = nI (qK s j).1 ∧ A 1698 j = nI (qK s j).2) ∧ I 1681 22 = nI (qG s)
/-- which slots are taken -/
def tkM (A : HA) (cur ps ws : List Nat) : Prop := ∀ x, x < 170 → (x ∈ cur ++ (ps ++ (ws ++ [])) → ¬ A 1690 x = 0) ∧ (x ∉ cur ++ (ps ++ (ws ++ [])) → A 1690 x = 0)
def RMl (A I : HA) (cur ps ws : List Nat) (s : zS) : Prop := own 170 cur ps ws [] ∧ tkM A cur ps ws ∧ RMn A I ps ws s ∧ wsM mp A ps (qP s) ∧ wsM mw A ws (qW s)
def frM (A I A' I' : HA) : Prop := (∀ a, a < 1688 ∨ 1703 < a → A' a = A a) ∧ (∀ a j, a ≠ 1681 → I' a j = I a j) ∧ (∀ j, j = 0 ∨ j = 1 ∨ j = 16 ∨ j = 17 ∨ j = 18 → I' 1681 j = I 1681 j)
theorem frM.rf {A I : HA} : frM A I A I := ⟨fun _ _ => rfl, fun _ _ _ => rfl, fun _ _ => rfl⟩
theorem frM.tr {A I A1 I1 A2 I2 : HA} (h : frM A I A1 I1) (g : frM A1 I1 A2 I2) : frM A I A2 I2 := ⟨fun a e => (g.1 a e).trans (h.1 a e), fun a j e => (g.2.1 a j e).trans (h.2.1 a j e), fun j e => (g.2.2 j e).trans (h.2.2 j e)⟩
theorem pigeon : ∀ (n : Nat) (L : List Nat), (∀ x, x < n → x ∈ L) → n ≤ L.length
  | 0, _, _ => Nat.zero_le _
  | n + 1, L, h => by
    have hn := h n (Nat.lt_succ_self n)
    have := pigeon n (L.erase n) (fun x hx => (List.mem_erase_of_ne (by omega)).mpr (h x (by omega)))
    rw [List.length_erase_of_mem hn] at this
    have := List.length_pos_of_mem hn
    omega
theorem least_nat {p : Nat → Prop} : ∀ n, (∃ x, x < n ∧ p x) → ∃ x, x < n ∧ p x ∧ ∀ i, i < x → ¬ p i
  | 0, ⟨x, hx, _⟩ => absurd hx (Nat.not_lt_zero x)
  | n + 1, ⟨x, hx, px⟩ => by
    by_cases c : ∃ x, x < n ∧ p x
    · obtain ⟨y, hy, h⟩ := least_nat n c
      exact ⟨y, by omega, h⟩
    · exact ⟨x, hx, px, fun i hi pi => c ⟨i, by omega, pi⟩⟩
theorem free_slot {L : List Nat} (h : L.length < 170) : ∃ s, s < 170 ∧ s ∉ L ∧ ∀ i, i < s → i ∈ L := by
  have : ∃ x, x < 170 ∧ x ∉ L := by
    apply Classical.byContradiction
    intro z
    have := pigeon 170 L (fun x hx => Classical.byContradiction fun y => z ⟨x, hx, y⟩)
    omega
  obtain ⟨s, h1, h2, h3⟩ := least_nat (p := fun x => x ∉ L) 170 this
  exact ⟨s, h1, h2, fun i hi => Classical.not_not.mp (h3 i hi)⟩
section MD
variable {A I : HA} {S : zW} {F : zF} {G : zG}
theorem M_copyWay {Q : HA → HA → Prop} {s t : Nat} (hs : s < 170) (ht : t < 170) (hne : s ≠ t) (hb : ∀ k, k < 1024 → ∃ o, A 1689 (1024 * s + k) = lv o)
    (q : ∀ A', (∀ a, a ≠ 1688 → a ≠ 1689 → A' a = A a) → (∀ j, ¬ (520 * t ≤ j ∧ j < 520 * t + 520) → A' 1688 j = A 1688 j) → (∀ j, j < 520 → A' 1688 (520 * t + j) = A 1688 (520 * s + j)) → (∀ j, ¬ (1024 * t ≤ j ∧ j < 1024 * t + 1024) → A' 1689 j = A 1689 j) → (∀ j, j < 1024 → A' 1689 (1024 * t + j) = A 1689 (1024 * s + j)) → Q A' I) : D192_copyWay (nI s) (nI t) A I Q := by
  intro P hP
  have key1 : ∀ d i A', d + i = 520 → (∀ a, a ≠ 1688 → A' a = A a) → (∀ j, ¬ (520 * t ≤ j ∧ j < 520 * t + i) → A' 1688 j = A 1688 j) → (∀ j, j < i → A' 1688 (520 * t + j) = A 1688 (520 * s + j)) → P (nI i) A' I := by
    intro d
    induction d with
    | zero =>
      intro i A1 hi h1 h2 h3
      obtain rfl : i = 520 := by omega
      refine hP _ _ _ ?_
      rw [iLt (by decide) (by decide), if_neg (by decide)]
      intro P6 hP6
      have key2 : ∀ d i A', d + i = 1024 → (∀ a, a ≠ 1689 → A' a = A1 a) → (∀ j, ¬ (1024 * t ≤ j ∧ j < 1024 * t + i) → A' 1689 j = A 1689 j) → (∀ j, j < i → A' 1689 (1024 * t + j) = A 1689 (1024 * s + j)) → P6 (nI i) A' I := by
        intro d
        induction d with
        | zero =>
          intro i A2 hi g1 g2 g3
          obtain rfl : i = 1024 := by omega
          refine hP6 _ _ _ ?_
          rw [iLt (by decide) (by decide), if_neg (by decide)]
          exact q _ (fun a n1 n2 => by rw [g1 a n2]; exact h1 a n1) (fun j hj => by rw [g1 _ (by decide)]; exact h2 j hj) (fun j hj => by rw [g1 _ (by decide)]; exact h3 j hj) g2 g3
        | succ d ih =>
          intro i A2 hi g1 g2 g3
          refine hP6 _ _ _ ?_
          rw [iLt (by omega) (by decide), if_pos (by omega), pk_mul, pk_mul, nI_add, nI_add, nI_add, vpT (n := 1024 * s + i) (by omega) (by decide), vpT (n := 1024 * t + i) (by omega) (by decide), nI_clamp (n := 1024 * s + i) (by omega), nI_clamp (n := 1024 * t + i) (by omega), g2 _ (by omega)]
          obtain ⟨o, eo⟩ := hb i (by omega)
          rw [eo, nar_lv, ← eo]
          refine ⟨trivial, trivial, ih (i + 1) _ (by omega) (fun a n1 => by rw [sA_na n1]; exact g1 a n1) (fun j hj => by rw [sA_n (by omega)]; exact g2 j (by omega)) (fun j hj => ?_)⟩
          by_cases e : j = i
          · subst e; rw [sA_e]
          · rw [sA_n (by omega)]; exact g3 j (by omega)
      exact key2 1024 0 A1 (by omega) (fun _ _ => rfl) (fun j _ => by rw [h1 _ (by decide)]) (fun j hj => absurd hj (Nat.not_lt_zero j))
    | succ d ih =>
      intro i A2 hi g1 g2 g3
      refine hP _ _ _ ?_
      rw [iLt (by omega) (by decide), if_pos (by omega), pk_mul, pk_mul, nI_add, nI_add, nI_add, vpT (n := 520 * s + i) (by omega) (by decide), vpT (n := 520 * t + i) (by omega) (by decide), nI_clamp (n := 520 * s + i) (by omega), nI_clamp (n := 520 * t + i) (by omega), g2 _ (by omega)]
      refine ⟨trivial, trivial, ih (i + 1) _ (by omega) (fun a n1 => by rw [sA_na n1]; exact g1 a n1) (fun j hj => by rw [sA_n (by omega)]; exact g2 j (by omega)) (fun j hj => ?_)⟩
      by_cases e : j = i
      · subst e; rw [sA_e]
      · rw [sA_n (by omega)]; exact g3 j (by omega)
  exact key1 520 0 A (by omega) (fun _ _ => rfl) (fun j _ => rfl) (fun j hj => absurd hj (Nat.not_lt_zero j))
/-- the loop that looks whether an input takes an alternative -/
theorem M_some {X0 X1 : Prop} {s c : Nat} {r : zR} {ch : Nat → Nat} (hs : s < 170) (hc : c < 8) (hl : ∀ k, k < 1024 → (A 1689 (1024 * s + k) = -1 ↔ (r.2.2.1 k).isNone = true)) (hch : ∀ k, k < 1024 → (r.2.2.1 k).isNone = true → A 1702 k = nI (ch k)) (h8 : ∀ k, ch k < 8) (k1 : tkn r ch c → X1) (k0 : ¬ tkn r ch c → X0) : (∀ P20 : Int32 → Int32 → Prop, (∀ (a21 : Int32) (a22 : Int32), (if a22 < (nI 1024) then if a21 = 0 then vp_in (((nI 1024) * nI s) + a22) 174080 ∧ (if (A 1689 (((nI 1024) * nI s) + a22).toNatClampNeg) = (-1) then vp_in a22 1024 ∧ (if (A 1702 a22.toNatClampNeg) = nI c then P20 (nI 1) (a22 + nI 1) else P20 (nI 0) (a22 + nI 1)) else P20 (nI 0) (a22 + nI 1)) else P20 (nI 1) (a22 + nI 1) else if a21 = 0 then X0 else X1) → P20 a21 a22) → P20 (nI 0) (nI 0)) := by
  intro P hP
  have key : ∀ d i, d + i = 1024 → (zany (gch r ch c) i = false → P (nI 0) (nI i)) ∧ (zany (gch r ch c) i = true → P (nI 1) (nI i)) := by
    intro d
    induction d with
    | zero =>
      intro i hi
      obtain rfl : i = 1024 := by omega
      refine ⟨fun z => ?_, fun z => ?_⟩
      · refine hP _ _ ?_
        rw [iLt (by decide) (by decide), if_neg (by decide), i0]
        exact k0 (fun y => by unfold tkn at y; rw [z] at y; exact Bool.noConfusion y)
      · refine hP _ _ ?_
        rw [iLt (by decide) (by decide), if_neg (by decide), i1]
        exact k1 z
    | succ d ih =>
      intro i hi
      obtain ⟨ih0, ih1⟩ := ih (i + 1) (by omega)
      have e : zany (gch r ch c) (i + 1) = (zany (gch r ch c) i || gch r ch c i) := rfl
      rw [e] at ih0 ih1
      refine ⟨fun z => ?_, fun z => ?_⟩
      · rw [z, Bool.false_or] at ih0 ih1
        refine hP _ _ ?_
        rw [iLt (by omega) (by decide), if_pos (by omega), i0, pk_mul, nI_add, nI_add, vpT (n := 1024 * s + i) (by omega) (by decide), nI_clamp (n := 1024 * s + i) (by omega), vpT (n := i) (by omega) (by decide), nI_clamp (n := i) (by omega)]
        refine ⟨trivial, ?_⟩
        by_cases y : A 1689 (1024 * s + i) = -1
        · rw [if_pos y]
          have y2 := (hl i (by omega)).mp y
          have hci := h8 i
          rw [hch i (by omega) y2, iEq (by omega) (by omega)]
          refine ⟨trivial, ?_⟩
          by_cases x : ch i = c
          · rw [if_pos x]
            exact ih1 (by unfold gch; rw [y2, x]; simp)
          · rw [if_neg x]
            exact ih0 (by unfold gch; rw [y2]; simp [x])
        · rw [if_neg y]
          exact ih0 (by unfold gch; rw [Bool.eq_false_iff.mpr (fun z => y ((hl i (by omega)).mpr z))]; rfl)
      · rw [z, Bool.true_or] at ih1
        refine hP _ _ ?_
        rw [iLt (by omega) (by decide), if_pos (by omega), i1, nI_add]
        exact ih1 rfl
  exact (key 1024 0 (by omega)).1 rfl
/-- the loop that writes at which condition inputs left -/
theorem M_left {Q : HA → HA → Prop} {P : Int32 → HA → HA → Prop} {s t c n : Nat} {r : zR} {ch : Nat → Nat} (hs : s < 170) (ht : t < 170) (hne : s ≠ t) (hc : c < 8) (hl : ∀ k, k < 1024 → A 1689 (1024 * s + k) = lv (r.2.2.1 k)) (hl2 : ∀ k, k < 1024 → (A 1689 (1024 * s + k) = -1 ↔ (r.2.2.1 k).isNone = true)) (hlt : ∀ k, k < 1024 → A 1689 (1024 * t + k) = lv (r.2.2.1 k)) (hch : ∀ k, k < 1024 → (r.2.2.1 k).isNone = true → A 1702 k = nI (ch k)) (h8 : ∀ k, ch k < 8)
    (hP : ∀ (a37 : Int32) (A40 I41 : HA), (if a37 < (nI 1024) then vp_in (((nI 1024) * nI s) + a37) 174080 ∧ (if (A40 1689 (((nI 1024) * nI s) + a37).toNatClampNeg) = (-1) then vp_in a37 1024 ∧ (if (A40 1702 a37.toNatClampNeg) = nI c then P (a37 + nI 1) A40 I41 else vp_in (((nI 1024) * nI t) + a37) 174080 ∧ (P (a37 + nI 1) (sA A40 1689 (((nI 1024) * nI t) + a37).toNatClampNeg (vp_nar (bm_ty 1) (Int8.toInt32 (Int32.toInt8 (nI n))))) I41)) else P (a37 + nI 1) A40 I41) else Q A40 I41) → P a37 A40 I41)
    (q : ∀ A', (∀ a, a ≠ 1689 → A' a = A a) → (∀ j, ¬ (1024 * t ≤ j ∧ j < 1024 * t + 1024) → A' 1689 j = A 1689 j) → (∀ k, k < 1024 → A' 1689 (1024 * t + k) = lv (zinp r.2.2.1 ch c n k)) → Q A' I) : P (nI 0) A I := by
  have key : ∀ d i A', d + i = 1024 → (∀ a, a ≠ 1689 → A' a = A a) → (∀ j, ¬ (1024 * t ≤ j ∧ j < 1024 * t + i) → A' 1689 j = A 1689 j) → (∀ k, k < i → A' 1689 (1024 * t + k) = lv (zinp r.2.2.1 ch c n k)) → P (nI i) A' I := by
    intro d
    induction d with
    | zero =>
      intro i A' hi g1 g2 g3
      obtain rfl : i = 1024 := by omega
      refine hP _ _ _ ?_
      rw [iLt (by decide) (by decide), if_neg (by decide)]
      exact q _ g1 g2 g3
    | succ d ih =>
      intro i A' hi g1 g2 g3
      refine hP _ _ _ ?_
      rw [iLt (by omega) (by decide), if_pos (by omega), pk_mul, nI_add, nI_add, vpT (n := 1024 * s + i) (by omega) (by decide), nI_clamp (n := 1024 * s + i) (by omega), vpT (n := i) (by omega) (by decide), nI_clamp (n := i) (by omega), g2 (1024 * s + i) (by omega), g1 1702 (by decide)]
      refine ⟨trivial, ?_⟩
      have keep : lv (zinp r.2.2.1 ch c n i) = lv (r.2.2.1 i) → P (nI (i + 1)) A' I := fun e => ih (i + 1) A' (by omega) g1 (fun j hj => g2 j (by omega)) (fun k hk => by
        by_cases z : k = i
        · subst z; rw [g2 _ (by omega), hlt _ (by omega), e]
        · exact g3 k (by omega))
      by_cases y : A 1689 (1024 * s + i) = -1
      · rw [if_pos y]
        have y2 := (hl2 i (by omega)).mp y
        have hci := h8 i
        rw [hch i (by omega) y2, iEq (by omega) (by omega)]
        refine ⟨trivial, ?_⟩
        have e0 : r.2.2.1 i = none := Option.isNone_iff_eq_none.mp y2
        by_cases x : ch i = c
        · rw [if_pos x]
          exact keep (by unfold zinp; rw [e0]; show lv (if _ then _ else _) = _; rw [if_pos x])
        · rw [if_neg x, pk_mul, nI_add, vpT (n := 1024 * t + i) (by omega) (by decide), nI_clamp (n := 1024 * t + i) (by omega)]
          refine ⟨trivial, ih (i + 1) _ (by omega) (fun a n1 => by rw [sA_na n1]; exact g1 a n1) (fun j hj => by rw [sA_n (by omega)]; exact g2 j (by omega)) (fun k hk => ?_)⟩
          by_cases z : k = i
          · subst z
            rw [sA_e]
            show vp_nar (bm_ty 1) (lv (some n)) = _
            rw [nar_lv]
            unfold zinp
            rw [e0]
            show _ = lv (if _ then _ else _)
            rw [if_neg x]
          · rw [sA_n (by omega)]; exact g3 k (by omega)
      · rw [if_neg y]
        refine keep ?_
        have : ∃ j, r.2.2.1 i = some j := by
          cases h : r.2.2.1 i with
          | none => exact absurd ((hl2 i (by omega)).mpr (by rw [h]; rfl)) y
          | some j => exact ⟨j, rfl⟩
        obtain ⟨j, ej⟩ := this
        unfold zinp
        rw [ej]
  exact key 1024 0 A (by omega) (fun _ _ => rfl) (fun _ _ => rfl) (fun k hk => absurd hk (Nat.not_lt_zero k))
end MD
