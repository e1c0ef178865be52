/-! FORMULAS' TOKENS, pure; written out on both sides -/
/-- every made formula: of one part or of two, parts made before it, its size -/
def zfw (F : zF) : Prop := ∀ j, 258 ≤ j → j < F.1 → F.2.2.2.2 j ≤ 60 ∧ ∃ l, l < j ∧ F.2.2.1 j = nI l ∧
  (((F.2.1 j = nI 11 ∨ F.2.1 j = nI 29) ∧ F.2.2.2.1 j = -1 ∧ F.2.2.2.2 j = zsz F (nI l) + 1) ∨ ∃ k r, op2 k ∧ r < j ∧ F.2.1 j = nI k ∧ F.2.2.2.1 j = nI r ∧ F.2.2.2.2 j = zsz F (nI l) + zsz F (nI r) + 1)
theorem zfw.fok {F : zF} (h : zfw F) : zfok F := fun j h1 h2 => (h j h1 h2).1
/-- the tokens of formula j, operands first -/
def tk (F : zF) : Nat → Nat → List Int32
  | 0, _ => []
  | n + 1, j => if j < 256 then [nI 1000 + (nI j - nI 128)] else if j < 258 then [nI (j - 255)] else tk F n (F.2.2.1 j).toNatClampNeg ++ ((if F.2.2.2.1 j = -1 then [] else tk F n (F.2.2.2.1 j).toNatClampNeg) ++ [F.2.1 j])
theorem zsz_pos {F : zF} (h : zfw F) {j : Nat} (hj : j < F.1) (hN : F.1 < 2 ^ 31) : 1 ≤ zsz F (nI j) := by
  rw [zsz_nI (by omega)]
  by_cases e : j < 258
  · rw [if_pos e]; omega
  · rw [if_neg e]
    obtain ⟨-, l, hl, -, ⟨-, -, e⟩ | ⟨k, r, -, -, -, -, e⟩⟩ := h j (by omega) hj <;> omega
theorem tk_len {F : zF} (h : zfw F) (hN : F.1 < 2 ^ 31) : ∀ n j, j < n → j < F.1 → (tk F n j).length = zsz F (nI j)
  | 0, j, h1, _ => absurd h1 (Nat.not_lt_zero j)
  | n + 1, j, h1, h2 => by
    unfold tk
    rw [zsz_nI (by omega)]
    by_cases e : j < 256
    · rw [if_pos e, if_pos (by omega)]; rfl
    · rw [if_neg e]
      by_cases e2 : j < 258
      · rw [if_pos e2, if_pos e2]; rfl
      · rw [if_neg e2, if_neg e2]
        obtain ⟨-, l, hl, el, ⟨-, er, es⟩ | ⟨k, r, -, hr, -, er, es⟩⟩ := h j (by omega) h2
        · rw [el, er, if_pos rfl, nI_clamp (by omega), es, List.length_append, tk_len h hN n l (by omega) (by omega)]; rfl
        · rw [el, er, if_neg (fun y => nI_pos (n := r) (by omega) (by rw [y]; decide)), nI_clamp (by omega), nI_clamp (by omega), es, List.length_append, List.length_append, tk_len h hN n l (by omega) (by omega), tk_len h hN n r (by omega) (by omega)]
          show _ + (_ + 1) = _
          omega
/-- fuel does not matter -/
theorem tk_fuel {F : zF} (h : zfw F) (hN : F.1 < 2 ^ 31) : ∀ n m j, j < n → j < m → j < F.1 → tk F n j = tk F m j
  | 0, _, j, h1, _, _ => absurd h1 (Nat.not_lt_zero j)
  | _ + 1, 0, j, _, h1, _ => absurd h1 (Nat.not_lt_zero j)
  | n + 1, m + 1, j, h1, h2, h3 => by
    unfold tk
    by_cases e : j < 256
    · rw [if_pos e, if_pos e]
    · rw [if_neg e, if_neg e]
      by_cases e2 : j < 258
      · rw [if_pos e2, if_pos e2]
      · rw [if_neg e2, if_neg e2]
        obtain ⟨-, l, hl, el, ⟨-, er, es⟩ | ⟨k, r, -, hr, -, er, es⟩⟩ := h j (by omega) h3
        · rw [el, er, if_pos rfl, if_pos rfl, nI_clamp (by omega), tk_fuel h hN n m l (by omega) (by omega) (by omega)]
        · rw [el, er, if_neg (fun y => nI_pos (n := r) (by omega) (by rw [y]; decide)), if_neg (fun y => nI_pos (n := r) (by omega) (by rw [y]; decide)), nI_clamp (by omega), nI_clamp (by omega), tk_fuel h hN n m l (by omega) (by omega) (by omega), tk_fuel h hN n m r (by omega) (by omega) (by omega)]
/-- the tokens of formula j -/
def tks (F : zF) (j : Nat) : List Int32 := tk F (j + 1) j
theorem tks_len {F : zF} (h : zfw F) (hN : F.1 < 2 ^ 31) {j : Nat} (hj : j < F.1) : (tks F j).length = zsz F (nI j) := tk_len h hN _ _ (Nat.lt_succ_self j) hj
theorem tks_num {F : zF} {j : Nat} (h : j < 256) : tks F j = [nI 1000 + (nI j - nI 128)] := by unfold tks tk; rw [if_pos h]
theorem tks_xy {F : zF} {j : Nat} (h : ¬ j < 256) (h2 : j < 258) : tks F j = [nI (j - 255)] := by unfold tks tk; rw [if_neg h, if_pos h2]
theorem tks_one {F : zF} (h : zfw F) (hN : F.1 < 2 ^ 31) {j l : Nat} (h8 : 258 ≤ j) (hj : j < F.1) (hl : l < j) (el : F.2.2.1 j = nI l) (er : F.2.2.2.1 j = -1) : tks F j = tks F l ++ [F.2.1 j] := by
  unfold tks
  conv => { lhs; unfold tk }
  rw [if_neg (by omega), if_neg (by omega), el, er, if_pos rfl, nI_clamp (by omega), tk_fuel h hN j (l + 1) l hl (by omega) (by omega)]
  rfl
theorem tks_two {F : zF} (h : zfw F) (hN : F.1 < 2 ^ 31) {j l r : Nat} (h8 : 258 ≤ j) (hj : j < F.1) (hl : l < j) (hr : r < j) (el : F.2.2.1 j = nI l) (er : F.2.2.2.1 j = nI r) : tks F j = tks F l ++ (tks F r ++ [F.2.1 j]) := by
  unfold tks
  conv => { lhs; unfold tk }
  rw [if_neg (by omega), if_neg (by omega), el, er, if_neg (fun y => nI_pos (n := r) (by omega) (by rw [y]; decide)), nI_clamp (by omega), nI_clamp (by omega), tk_fuel h hN j (l + 1) l hl (by omega) (by omega), tk_fuel h hN j (r + 1) r hr (by omega) (by omega)]
/-- all tokens of the formulas that wait, the last on top -/
def tka (F : zF) (st : List Nat) : List Int32 := st.flatMap (tks F)
theorem tka_app {F : zF} {a b : List Nat} : tka F (a ++ b) = tka F a ++ tka F b := List.flatMap_append
theorem tka_one {F : zF} {j : Nat} : tka F [j] = tks F j := by unfold tka; simp
theorem tka_len {F : zF} (h : zfw F) (hN : F.1 < 2 ^ 31) : ∀ st : List Nat, (∀ j ∈ st, j < F.1) → st.length ≤ (tka F st).length
  | [], _ => Nat.le_refl _
  | j :: st, hs => by
    have e : tka F (j :: st) = tks F j ++ tka F st := rfl
    rw [e, List.length_append, tks_len h hN (hs j (List.mem_cons_self))]
    have := zsz_pos h (hs j (List.mem_cons_self)) hN
    have := tka_len h hN st (fun i hi => hs i (List.mem_cons_of_mem _ hi))
    show st.length + 1 ≤ _
    omega
section TW
variable {t : Nat} {A I : HA} {F : zF}
theorem C_isMade {Q : Int32 → Prop} {j : Nat} (h : zFC A I F) (hj : j < F.1) (k1 : 258 ≤ j → Q (nI 1)) (k0 : j < 258 → Q (nI 0)) : D32_isMade (nI j) A I Q := by
  have := h.2.2.1
  unfold D32_isMade
  rw [h.1, iLt (by omega) (by decide), iLt (by omega) (by omega)]
  by_cases e : j < 258
  · rw [if_pos e]; exact k0 e
  · rw [if_neg e, if_pos hj]; exact k1 (by omega)
theorem C_leftOfF {Q : Int32 → Prop} {j : Nat} (h : zFC A I F) (hj : j < F.1) (k1 : 258 ≤ j → Q (F.2.2.1 j)) (k0 : j < 258 → Q (-1)) : D33_leftOf (nI j) A I Q := by
  have := h.2.2.1
  unfold D33_leftOf
  refine C_isMade h hj (fun e => ?_) (fun e => ?_)
  · rw [i1, vpT (by omega) (by decide), nI_clamp (by omega), (h.2.2.2 j e hj).2.1]; exact ⟨trivial, k1 e⟩
  · rw [i0]; exact k0 e
theorem C_rightOfF {Q : Int32 → Prop} {j : Nat} (h : zFC A I F) (hj : j < F.1) (k1 : 258 ≤ j → Q (F.2.2.2.1 j)) (k0 : j < 258 → Q (-1)) : D34_rightOf (nI j) A I Q := by
  have := h.2.2.1
  unfold D34_rightOf
  refine C_isMade h hj (fun e => ?_) (fun e => ?_)
  · rw [i1, vpT (by omega) (by decide), nI_clamp (by omega), (h.2.2.2 j e hj).2.2.1]; exact ⟨trivial, k1 e⟩
  · rw [i0]; exact k0 e
theorem C_lastTok {Q : Int32 → Prop} {j : Nat} (h : zFC A I F) (hj : j < F.1) (k : Q ((tks F j).getLastD 0)) : D31_lastTokenOf (nI j) A I Q := by
  have := h.2.2.1
  unfold tks tk at k
  unfold D31_lastTokenOf
  refine C_isMade h hj (fun e => ?_) (fun e => ?_)
  · rw [i1, vpT (by omega) (by decide), nI_clamp (by omega), (h.2.2.2 j e hj).1]
    rw [if_neg (by omega), if_neg (by omega), ← List.append_assoc, List.getLastD_concat] at k
    exact ⟨trivial, k⟩
  · rw [i0]
    by_cases e2 : j < 256
    · rw [if_pos e2] at k
      refine C_isNumber (fun _ => ?_) (fun z => absurd ((isn_nI (by omega)).mpr e2) z)
      rw [i1]
      unfold D26_numberIn
      rw [addE]
      exact k
    · rw [if_neg e2, if_pos e] at k
      refine C_isNumber (fun z => absurd ((isn_nI (by omega)).mp z) e2) (fun _ => ?_)
      rw [i0, iEq (by omega) (by decide)]
      by_cases e3 : j = 256
      · rw [if_pos e3]; subst e3; exact k
      · rw [if_neg e3]; obtain rfl : j = 257 := by omega
        exact k
end TW
