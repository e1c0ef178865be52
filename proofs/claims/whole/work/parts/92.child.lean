/-! THE CLASS: a child, all of a split -/
section CK
variable {A I : HA} {S : zW} {F : zF} {G : zG}
set_option maxRecDepth 100000 in
theorem C_copyRun {Q : HA → HA → Prop} {o w i n len : Nat} (ho : o = 71 + 10 * i) (hw : w = 71 + 10 * n) (hne : i ≠ n) (hz : zwf S) (h : zRepC o A I S) (h9 : I o 9 = nI len) (hl : len ≤ 200)
    (q : ∀ A' I', zRepC w A' I' (zrs S) → (∀ a, ¬ (w + 1 ≤ a ∧ a ≤ w + 7) → A' a = A a) → (∀ a, a ≠ w → I' a = I a) → (∀ c, c < len → A' (w + 7) c = A (o + 7) c) → I' w 9 = nI len → Q A' I') : D141_copyRun w o A I Q := by
  have ht := hz.1
  have how : o ≠ w := by omega
  unfold D141_copyRun
  simp only [sI_na how]
  rw [h9, h.1, h.2.1, h.2.2.1, nI_add, pk_mul, nI_clamp (n := 0) (by decide), nI_clamp (n := 4) (by decide), nI_clamp (n := 20) (by decide), nI_clamp (n := len) (by omega), nI_clamp (n := (zt S + 1) * 18) (by omega)]
  refine ⟨by decide, by decide, by decide, by decide, by decide, by decide, by decide, by decide, by decide, by decide, by decide, by decide, by decide, by decide, by decide, by decide, by decide, nI_pos (by omega), by omega, by omega, by decide, by decide, by decide, by decide, by decide, by decide, by decide, by decide, by decide, by decide, by decide, by decide, nI_pos (by omega), by omega, by omega, ?_⟩
  obtain ⟨h1, h2, h3, h4, h5, h6, h7, h8, h10⟩ := h
  refine q _ _ ⟨?_, ?_, ?_, ?_, ?_, ?_, ?_, fun f hf => ?_, fun k hk => ?_⟩ (fun a ha => ?_) (fun a ha => ?_) (fun c hc => ?_) ?_
  · rw [sI_n (by omega), sI_n (by omega), sI_n (by omega), sI_n (by omega), sI_n (by omega), sI_n (by omega), sI_n (by omega), sI_e]; rfl
  · rw [sI_n (by omega), sI_n (by omega), sI_n (by omega), sI_n (by omega), sI_n (by omega), sI_n (by omega), sI_e]; rfl
  · rw [sI_n (by omega), sI_n (by omega), sI_n (by omega), sI_n (by omega), sI_e]; rfl
  · rw [sI_n (by omega), sI_n (by omega), sI_n (by omega), sI_e]; rfl
  · rw [sI_n (by omega), sI_n (by omega), sI_e]; rfl
  · rw [sI_n (by omega), sI_e]; rfl
  · rw [sI_e]; rfl
  · have hf : f ≤ zt S := hf
    obtain ⟨f1, f2, f3, f4⟩ := h8 f hf
    have fh := (hz.2.1 f hf).2.2
    refine ⟨?_, ?_, ?_, fun j hj => ?_⟩
    · rw [sC_na (by omega), sC_na (by omega), sC_na (by omega), sC_na (by omega), sC_na (by omega), sC_na (by omega), sC_at, if_pos (by omega), show 0 + (f - 0) = f by omega]; exact f1
    · rw [sC_na (by omega), sC_na (by omega), sC_na (by omega), sC_na (by omega), sC_na (by omega), sC_at, if_pos (by omega), show 0 + (f - 0) = f by omega, sC_na (by omega)]; exact f2
    · rw [sC_na (by omega), sC_na (by omega), sC_na (by omega), sC_na (by omega), sC_at, if_pos (by omega), show 0 + (f - 0) = f by omega, sC_na (by omega), sC_na (by omega)]; exact f3
    · have hj : j < 6 + zH S f := hj
      rw [sC_na (by omega), sC_na (by omega), sC_na (by omega), sC_at, if_pos (by omega), show 0 + (f * 18 + j - 0) = f * 18 + j by omega, sC_na (by omega), sC_na (by omega), sC_na (by omega)]; exact f4 j hj
  · have hk : k < zn S := hk
    have hn4 := hz.2.2.2.1
    obtain ⟨k1, k2⟩ := h10 k hk
    have hl5 := hz.2.2.2.2.1 k hk
    refine ⟨?_, fun i hi => ?_⟩
    · rw [sC_na (by omega), sC_na (by omega), sC_at, if_pos (by omega), show 0 + (k - 0) = k by omega, sC_na (by omega), sC_na (by omega), sC_na (by omega), sC_na (by omega)]; exact k1
    · have hi : i < zL S k := hi
      rw [sC_na (by omega), sC_at, if_pos (by omega), show 0 + (k * 5 + i - 0) = k * 5 + i by omega, sC_na (by omega), sC_na (by omega), sC_na (by omega), sC_na (by omega), sC_na (by omega)]; exact k2 i hi
  · rw [sC_na (by omega), sC_na (by omega), sC_na (by omega), sC_na (by omega), sC_na (by omega), sC_na (by omega), sC_na (by omega)]
  · rw [sI_na ha, sI_na ha, sI_na ha, sI_na ha, sI_na ha, sI_na ha, sI_na ha, sI_na ha]
  · rw [sC_at, if_pos (by omega), show 0 + (c - 0) = c by omega, sC_na (by omega), sC_na (by omega), sC_na (by omega), sC_na (by omega), sC_na (by omega), sC_na (by omega)]
  · rw [sI_n (by omega), sI_n (by omega), sI_n (by omega), sI_n (by omega), sI_n (by omega), sI_e]
/-- what the way at hand has of its record -/
def curC (A I : HA) (w : Nat) (r : zR) : Prop := I w 9 = nI r.2.1.length ∧ ∀ c p, r.2.1[c]? = some p → A (w + 7) c = nI ((flp r.2.2.1 c 1024 0 * 8 + p.2) * 1000 + p.1)
theorem sp_last {sp : List Nat} (h : 0 < sp.length) : ∃ sp0 n, sp = sp0 ++ [n] := by
  rcases List.eq_nil_or_concat sp with e | ⟨l, a, e⟩
  · rw [e] at h; exact absurd h (by decide)
  · exact ⟨l, a, by rw [e, List.concat_eq_append]⟩
theorem C_addAlt {Q : HA → HA → Prop} {i c : Nat} {ps ws sp : List Nat} {s : zS} {r : zR} {ch : Nat → Nat} (h : RCl A I [i] ps ws sp s) (hP : ps.length < 100) (hW60 : (qW s).length ≤ 60) (hG : GC (71 + 10 * i) A I A I S F) (hcur : curC A I (71 + 10 * i) r) (hr : recW r) (hr2 : r.2.1.length < 200) (hsh : shr A r ch) (h8 : ∀ k, k < 1024 → (r.2.2.1 k).isNone = true → ch k < 8) (hc : c < 8)
    (k1 : (qW s).length = 60 → Q A (sI I 20 10 (I 20 10 + nI 1)))
    (k2 : ∀ n sp0 A' I', sp = sp0 ++ [n] → (qW s).length < 60 → cw A' I' n (zkid r S ch (qG s) c) → (∀ a, a ≠ 40 → ¬ (71 + 10 * n + 1 ≤ a ∧ a ≤ 71 + 10 * n + 9) → A' a = A a) → (∀ a j, a ≠ 71 + 10 * n → ¬ (a = 20 ∧ j = 4) → ¬ (a = 39 ∧ j = 1) → I' a j = I a j) → A' 40 = sA A 40 ws.length (nI n) 40 → I' 20 4 = nI sp0.length → I' 39 1 = nI (ws.length + 1) → Q A' I') : D99_addAlternative (71 + 10 * i) (nI c) A I Q := by
  obtain ⟨hown, hlen, ⟨n1, n2, n3, n4, n5, n6, n7, n8, n9, n10, n11, n12, n13, n14, n15⟩, hPs, hWs⟩ := h
  have hi161 : i < 161 := hown.2 i (by simp)
  unfold D99_addAlternative D93_isFull
  rw [n7, n2, iLt (by omega) (by decide)]
  by_cases c60 : (qW s).length < 60
  · rw [if_pos c60]
    show if nI 0 = 0 then _ else _
    rw [i0]
    have hsl : 0 < sp.length := by simp at hlen; omega
    obtain ⟨sp0, n, rfl⟩ := sp_last hsl
    have hn161 : n < 161 := hown.2 n (by simp)
    have hne : i ≠ n := by
      have := hown.1
      rw [List.singleton_append, List.nodup_cons] at this
      intro e
      exact this.1 (by rw [e]; simp)
    have l0 : (sp0 ++ [n]).length = sp0.length + 1 := by simp
    have e38 : A 38 sp0.length = nI n := n5 _ _ (by rw [List.getElem?_append_right (Nat.le_refl _), Nat.sub_self]; rfl)
    have l161 : sp0.length < 161 := by simp at hlen; omega
    rw [n8, l0, if_pos (show (0 : Int32) < nI (sp0.length + 1) from (nI_ltI (a := 0) (by decide) (by omega)).mpr (by omega)), pk_sub (by omega), sI_e, show sp0.length + 1 - 1 = sp0.length from rfl, vpT (n := sp0.length) (by omega) (by decide), nI_clamp (n := sp0.length) (by omega), e38, vpT (n := n) (by omega) (by decide), nI_clamp (n := n) (by omega)]
    refine ⟨trivial, trivial, ?_⟩
    have hI1 : ∀ a, a ≠ 20 → sI I 20 4 (nI sp0.length) a = I a := fun a ha => sI_na ha
    refine C_copyRun (i := i) (n := n) (len := r.2.1.length) rfl rfl hne hG.2.1 (hG.2.2.1.off (fun a _ _ => rfl) (hI1 _ (by omega))) (by rw [hI1 _ (by omega)]; exact hcur.1) (by omega) (fun A2 I2 z2 a2 i2 c2 e9 => ?_)
    unfold D107_inputsOf
    rw [vpT (n := c) (by omega) (by decide), nI_clamp (n := c) (by omega)]
    refine ⟨trivial, Or.inr (Or.inr ⟨c, hc, rfl⟩), ?_⟩
    unfold D42_copy
    rw [nI_clamp (n := 0) (by decide), nI_clamp (n := 32) (by decide)]
    refine ⟨by decide, by decide, by decide, by decide, by decide, ?_⟩
    have e8 : 71 + 10 * n + 8 + 1 = 71 + 10 * n + 9 := by omega
    rw [e8]
    have hA8 : ∀ a, ¬ (71 + 10 * n + 1 ≤ a ∧ a ≤ 71 + 10 * n + 9) → sC A2 (55 + 2 * c + 1) (71 + 10 * n + 9) 0 0 32 a = A a := fun a ha => by rw [sC_na (by omega)]; exact a2 a (by omega)
    have hA7 : ∀ a, a ≠ 71 + 10 * n + 9 → sC A2 (55 + 2 * c + 1) (71 + 10 * n + 9) 0 0 32 a = A2 a := fun a ha => by rw [sC_na ha]
    have hA9 : ∀ k, k < 1024 → inA (sC A2 (55 + 2 * c + 1) (71 + 10 * n + 9) 0 0 32) (71 + 10 * n + 9) k = gch r ch c k := by
      intro k hk
      rw [← hsh.1 c k hc hk]
      unfold inA
      rw [sC_at, if_pos (by omega), show 0 + (k / 32 - 0) = k / 32 by omega, a2 _ (by omega), show 55 + 2 * c + 1 = 56 + 2 * c by omega]
    generalize sC A2 (55 + 2 * c + 1) (71 + 10 * n + 9) 0 0 32 = A8 at hA8 hA7 hA9
    have hI2 : ∀ a, a ≠ 20 → a ≠ 71 + 10 * n → I2 a = I a := fun a h1 h2 => by rw [i2 a h2]; exact hI1 a h1
    have G8 : GC (71 + 10 * i) A8 I2 A8 I2 S F := hG.move (fun a ha => hA8 a (by omega)) (hI2 _ (by omega) (by omega)) (by rw [hI2 32 (by decide) (by omega)])
    refine C_placeNow G8 ?_
    have sh8 : shr A8 r ch := by
      refine ⟨fun c' k h1 h2 => ?_, fun c' h1 => by rw [hA8 46 (by omega)]; exact hsh.2 c' h1⟩
      rw [← hsh.1 c' k h1 h2]
      unfold inA
      rw [hA8 (56 + 2 * c') (by omega)]
    refine C_least sh8 hc h8 (fun k j _ e => hr.2.2 k j e) (fun v hv => ?_)
    unfold D142_addCondition
    rw [e9, iLt (by omega) (by decide), if_pos hr2, vpT (n := r.2.1.length) (by omega) (by decide), nI_clamp (n := r.2.1.length) (by omega), hv]
    refine ⟨trivial, ?_⟩
    have fl1 : flp (zinp r.2.2.1 ch c r.2.1.length) r.2.1.length 1024 0 ≤ 1024 := by
      rcases flp_ch (f := zinp r.2.2.1 ch c r.2.1.length) (c := r.2.1.length) 1024 0 with ⟨e, _⟩ | ⟨j, _, j2, e, _⟩ <;> omega
    unfold zplace
    rw [pk_mul, nI_add, pk_mul, nI_add, nI_add]
    show D88_add _ _ (sI (sI _ _ 16 (nI c)) _ 17 _) _
    unfold D88_add
    have i39 : I2 39 1 = nI (qW s).length := by rw [hI2 39 (by decide) (by omega), n7, n2]
    have i2017 : I2 20 17 = nI (qG s) := by rw [i2 20 (by omega), sI_n (by decide)]; exact n15
    have i204 : I2 20 4 = nI sp0.length := by rw [i2 20 (by omega), sI_e]
    rw [sI_na (show 39 ≠ 71 + 10 * n by omega), sI_na (show 39 ≠ 71 + 10 * n by omega), sI_na (show 39 ≠ 71 + 10 * n by omega), i39, iLt (by omega) (by decide), if_pos c60, vpT (n := (qW s).length) (by omega) (by decide), nI_clamp (n := (qW s).length) (by omega), sI_na (show 20 ≠ 71 + 10 * n by omega), sI_na (show 20 ≠ 71 + 10 * n by omega), i2017, nI_add]
    refine ⟨trivial, ?_⟩
    have pl : (flp (zinp r.2.2.1 ch c r.2.1.length) r.2.1.length 1024 0 * 8 + c) * 1000 + (100 * zq S + zpc S) = (flp (zinp r.2.2.1 ch c r.2.1.length) r.2.1.length 1024 0 * 8 + c) * 1000 + zplc S := rfl
    refine k2 n sp0 _ _ rfl c60 ⟨⟨?_, ?_, ?_, ?_, ?_⟩, ?_⟩ ?_ ?_ ?_ ?_ ?_
    · rw [sI_na (by omega), sI_n (by omega), sI_n (by omega), sI_e]
      show _ = nI (r.2.1 ++ [(zplc S, c)]).length
      rw [List.length_append]; rfl
    · intro c' p e
      show sA (sA A8 _ _ _) _ _ _ (71 + 10 * n + 7) c' = nI ((flp (zinp r.2.2.1 ch c r.2.1.length) c' 1024 0 * 8 + p.2) * 1000 + p.1)
      rw [sA_na (by omega)]
      rcases ap_some e with e | ⟨e1, rfl⟩
      · have hc' := (List.getElem?_eq_some_iff.mp e).1
        rw [sA_n (by omega), hA7 _ (by omega), c2 c' hc', hcur.2 c' p e, flp_congr 1024 0 (fun j _ _ => (zinp_old hc').symm)]
      · subst e1
        rw [sA_e]; rfl
    · intro k hk
      show inA (sA (sA A8 _ _ _) _ _ _) (71 + 10 * n + 9) k = (zinp r.2.2.1 ch c r.2.1.length k).isNone
      rw [zinp_none]
      unfold inA
      rw [sA_na (by omega), sA_na (by omega)]
      exact hA9 k hk
    · rw [sI_na (by omega), sI_n (by omega), sI_e]; rfl
    · rw [sI_na (by omega), sI_e]; rfl
    · show zRepC (71 + 10 * n) _ _ (zrs S)
      obtain ⟨z1, z3, z4, z5, z6, z7, z8, z9, z10⟩ := z2
      refine ⟨by rw [sI_na (by omega), sI_n (by omega), sI_n (by omega), sI_n (by omega)]; exact z1, by rw [sI_na (by omega), sI_n (by omega), sI_n (by omega), sI_n (by omega)]; exact z3, by rw [sI_na (by omega), sI_n (by omega), sI_n (by omega), sI_n (by omega)]; exact z4, by rw [sI_na (by omega), sI_n (by omega), sI_n (by omega), sI_n (by omega)]; exact z5, by rw [sI_na (by omega), sI_n (by omega), sI_n (by omega), sI_n (by omega)]; exact z6, by rw [sI_na (by omega), sI_n (by omega), sI_n (by omega), sI_n (by omega)]; exact z7, by rw [sI_na (by omega), sI_n (by omega), sI_n (by omega), sI_n (by omega)]; exact z8, ?_, ?_⟩
      · rw [sA_na (by omega), sA_na (by omega), sA_na (by omega), sA_na (by omega), sA_na (by omega), sA_na (by omega), sA_na (by omega), sA_na (by omega), hA7 _ (by omega), hA7 _ (by omega), hA7 _ (by omega), hA7 _ (by omega)]
        exact z9
      · rw [sA_na (by omega), sA_na (by omega), sA_na (by omega), sA_na (by omega), hA7 _ (by omega), hA7 _ (by omega)]
        exact z10
    · intro a h1 h2
      rw [sA_na h1, sA_na (by omega)]
      exact hA8 a h2
    · intro a j h1 h2 h3
      by_cases e20 : a = 20
      · subst e20
        rw [sI_na (by decide), sI_na h1, sI_na h1, sI_na h1, i2 20 h1, sI_n (by omega)]
      · by_cases e39 : a = 39
        · subst e39
          rw [sI_n (by omega), sI_na h1, sI_na h1, sI_na h1, hI2 _ (by decide) h1]
        · rw [sI_na e39, sI_na h1, sI_na h1, sI_na h1, hI2 _ e20 h1]
    · funext k
      by_cases e : k = ws.length
      · rw [e, sA_e, ← n2, sA_e]
      · rw [sA_n (Or.inr e), ← n2, sA_n (Or.inr e), sA_na (by omega), hA8 40 (by omega)]
    · rw [sI_na (by decide), sI_na (by omega), sI_na (by omega), sI_na (by omega)]; exact i204
    · rw [sI_e, n2]
  · rw [if_neg c60]
    show if nI 1 = 0 then _ else _
    rw [i1]
    exact k1 (by omega)
end CK
