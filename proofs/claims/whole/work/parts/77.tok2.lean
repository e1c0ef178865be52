section TS
variable {A I : HA} {F : zF}
theorem M_spell {Q : Int32 → HA → HA → Prop} {j : Nat} (h : zFM A I F) (hw : zfw F) (hj : j < F.1) (k : ∀ A', (∀ a, a ≠ 1700 → a ≠ 1701 → A' a = A a) → (∀ i, i < (tks F j).length → A' 1701 i = (tks F j).getD i 0) → Q (nI (tks F j).length) A' I) : D189_spell (nI j) A I Q := by
  have hN := h.2.2.1
  have hN2 : F.1 < 2 ^ 31 := by omega
  have hl := tks_len hw hN2 hj
  have hs := zsz_le hw.fok hN ⟨j, hj, rfl⟩
  have hp := zsz_pos hw hj hN2
  unfold D189_spell
  rw [vpT (n := j) (by omega) (by decide), vpT (n := 0) (by omega) (by decide), nI_clamp (n := 0) (by omega), nI_clamp (n := j) (by omega), h.sz hj, ← hl]
  refine ⟨trivial, trivial, ?_⟩
  intro P hP
  generalize hT : tks F j = T at *
  have key : ∀ (m : Nat) (rs : List Nat) (A1 : HA) (W : List Int32), (tkr F rs).length = m → T = tkr F rs ++ W → (∀ p ∈ rs, p < F.1) → opn A1 1700 rs → (∀ a, a ≠ 1700 → a ≠ 1701 → A1 a = A a) → (∀ i, m ≤ i → i < T.length → A1 1701 i = T.getD i 0) → P (nI m) (nI rs.length) A1 I := by
    intro m
    induction m with
    | zero =>
      intro rs A1 W hm hTW hrs ho ha hd
      have hle := tkr_len hw hN2 rs hrs
      refine hP _ _ _ _ ?_
      rw [← nI_0, iLt (by omega) (by omega), if_neg (by omega)]
      exact k A1 ha (fun i hi => hd i (Nat.zero_le _) hi)
    | succ m ih =>
      intro rs A1 W hm hTW hrs ho ha hd
      have hTl : (tkr F rs).length + W.length = T.length := by rw [hTW, List.length_append]
      refine hP _ _ _ _ ?_
      match rs, hm, hTW, hrs, ho with
      | [], hm, _, _, _ => exact absurd hm (by show ¬ 0 = m + 1; omega)
      | p :: rs, hm, hTW, hrs, ho =>
        have hp0 := hrs p (List.mem_cons_self)
        have hrs' : ∀ q ∈ rs, q < F.1 := fun q hq => hrs q (List.mem_cons_of_mem _ hq)
        have hle := tkr_len hw hN2 (p :: rs) hrs
        have hle : rs.length + 1 ≤ m + 1 := by rw [hm] at hle; exact hle
        have hz1 : nI (p :: rs).length = nI (rs.length + 1) := rfl
        rw [hm] at hTl
        have hF2 : zFM A1 I F := by
          unfold zFM at h ⊢
          rw [ha 1691 (by decide) (by decide), ha 1692 (by decide) (by decide), ha 1693 (by decide) (by decide), ha 1694 (by decide) (by decide)]
          exact h
        obtain ⟨v, hv, cs⟩ := tkr_pop hw hN2 hp0 rs
        have ha3 : ∀ a, a ≠ 1700 → a ≠ 1701 → sA A1 1701 m v a = A a := fun a n1 n2 => by rw [sA_na n2]; exact ha a n1 n2
        have ho3 : opn (sA A1 1701 m v) 1700 rs := opn_ne (by decide) rs ho.2
        have hd3 : ∀ X, X.length = m → T = X ++ ([v] ++ W) → ∀ i, m ≤ i → i < T.length → sA A1 1701 m v 1701 i = T.getD i 0 := fun X hX hT i i1 i2 => by
          by_cases e : i = m
          · subst e; rw [sA_e, hT, get_pre hX.symm]
          · rw [sA_n (by omega)]; exact hd i (by omega) i2
        rw [hz1, ← nI_0, iLt (by omega) (by omega), if_pos (by omega), show nI (rs.length + 1) + (-1 : Int32) = nI rs.length from nI_pred', show nI (m + 1) + (-1 : Int32) = nI m from nI_pred', vpT (n := rs.length) (by omega) (by decide), nI_clamp (n := rs.length) (by omega), ho.1, vpT (n := m) (by omega) (by decide), nI_clamp (n := m) (by omega), iLt (by omega) (by decide), iLt (by omega) (by decide)]
        refine ⟨trivial, ?_⟩
        rcases cs with ⟨e8, et⟩ | ⟨e8, eo, l, hl, el, cs⟩
        · rw [et] at hm hTW
          have hX : (tkr F rs).length = m := by rw [List.length_append] at hm; exact Nat.succ.inj hm
          have hTW : T = tkr F rs ++ ([v] ++ W) := by rw [hTW, List.append_assoc]
          have go := ih rs _ ([v] ++ W) hX hTW hrs' ho3 ha3 (hd3 _ hX hTW)
          by_cases e2 : p < 256
          · rw [tks_num e2] at hv
            rw [if_pos e2]
            unfold D178_number
            have hv : nI 1000 + (nI p - nI 128) = v := hv
            show True ∧ P (nI m) (nI rs.length) (sA A1 1701 m (nI 1000 + (nI p - nI 128))) I
            rw [hv]
            exact ⟨trivial, go⟩
          · rw [tks_xy e2 e8] at hv
            have hv : nI (p - 255) = v := hv
            rw [if_neg e2, if_pos e8, pk_sub (by omega), hv]
            exact ⟨trivial, go⟩
        · obtain ⟨f1, f2, f3, f4⟩ := hF2.2.2.2.2 p e8 hp0
          rw [if_neg (by omega), if_neg (by omega), vpT (n := p) (by omega) (by decide), nI_clamp (n := p) (by omega), f1, eo, sA_na (b := 1692) (by decide), f2, el, sA_na (b := 1693) (by decide), sA_na (b := 1693) (by decide), f3, nI_add, vpT (n := rs.length + 1) (by omega) (by decide), nI_clamp (n := rs.length + 1) (by omega), nI_add]
          refine ⟨trivial, trivial, trivial, trivial, trivial, ?_⟩
          rcases cs with ⟨er, et⟩ | ⟨r, hr, er, et⟩
          · rw [er, if_pos rfl]
            rw [et] at hm hTW
            have hX : (tkr F (l :: rs)).length = m := by rw [List.length_append] at hm; exact Nat.succ.inj hm
            have hTW : T = tkr F (l :: rs) ++ ([v] ++ W) := by rw [hTW, List.append_assoc]
            exact ih (l :: rs) _ ([v] ++ W) hX hTW (fun q hq => (List.mem_cons.mp hq).elim (fun y => by omega) (hrs' q)) ⟨sA_e, opn_up rs (Nat.le_refl _) ho3⟩ (fun a n1 n2 => by rw [sA_na n1]; exact ha3 a n1 n2) (fun i i1 i2 => by rw [sA_na (by decide)]; exact hd3 _ hX hTW i i1 i2)
          · rw [er, iNg (by omega) (by decide)]
            rw [et] at hm hTW
            have hX : (tkr F (r :: l :: rs)).length = m := by rw [List.length_append] at hm; exact Nat.succ.inj hm
            have hrs2 : ∀ q ∈ r :: l :: rs, q < F.1 := fun q hq => (List.mem_cons.mp hq).elim (fun y => by omega) (fun hq => (List.mem_cons.mp hq).elim (fun y => by omega) (hrs' q))
            have hTW : T = tkr F (r :: l :: rs) ++ ([v] ++ W) := by rw [hTW, List.append_assoc]
            refine ⟨trivial, trivial, ih (r :: l :: rs) _ ([v] ++ W) hX hTW hrs2 ⟨sA_e, by rw [sA_n (by show _ ∨ rs.length ≠ rs.length + 1; omega)]; exact sA_e, opn_up rs (by omega) (opn_up rs (Nat.le_refl _) ho3)⟩ (fun a n1 n2 => by rw [sA_na n1, sA_na n1]; exact ha3 a n1 n2) (fun i i1 i2 => by rw [sA_na (by decide), sA_na (by decide)]; exact hd3 _ hX hTW i i1 i2)⟩
  exact key T.length [j] _ [] (by show (tkr F [] ++ tks F j).length = _; rw [hT]; rfl) (by show T = ([] ++ tks F j) ++ []; rw [hT]; simp) (fun p hp => by rw [List.mem_singleton.mp hp]; exact hj) ⟨sA_e, trivial⟩ (fun a n1 _ => sA_na n1) (fun i h1 h2 => absurd h2 (by omega))
end TS
