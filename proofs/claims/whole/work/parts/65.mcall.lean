/-! THE REFERENCE: a frame more -/
section RE
variable {b : Nat} {A0 I0 A I : HA} {S : zW} {F : zF} {G : zG}
theorem M_enter {Q : HA → HA → Prop} {T : Nat} {x : Int32} (hb : b + 520 ≤ 88400) (hw : I 1681 35 = nI b) (hT : T ≤ 3) (e : A 1688 b = nI T)
    (k : ∀ A', (∀ a, a ≠ 1688 → A' a = A a) → A' 1688 b = nI (T + 1) → A' 1688 (b + 30 + 21 * T) = x → A' 1688 (b + 30 + 21 * T + 1) = nI 0 → A' 1688 (b + 30 + 21 * T + 2) = nI 0 → (∀ j, j < 6 → A' 1688 (b + 30 + 21 * T + (3 + j)) = -100) → (∀ i, i ≠ b → ¬ (b + 30 + 21 * T ≤ i ∧ i < b + 30 + 21 * T + 9) → A' 1688 i = A 1688 i) → Q A' (sI I 1681 36 (nI (b + 30 + 21 * T)))) : D157_enter x A I Q := by
  unfold D157_enter
  rw [hw, nI_add, Nat.add_zero, vpT (by omega) (by decide), nI_clamp (n := b) (by omega), e, nI_add]
  refine ⟨trivial, trivial, M_frame hb hw hT sA_e ?_⟩
  rw [sI_e, nI_add, nI_add, nI_add, Nat.add_zero, vpT (by omega) (by decide), vpT (by omega) (by decide), vpT (by omega) (by decide), nI_clamp (n := b + 30 + 21 * T) (by omega), nI_clamp (n := b + 30 + 21 * T + 1) (by omega), nI_clamp (n := b + 30 + 21 * T + 2) (by omega)]
  refine ⟨trivial, trivial, trivial, ?_⟩
  intro P hP
  have key : ∀ (m i : Nat) (A' : HA), m + i = 6 → (∀ a, a ≠ 1688 → A' a = A a) → A' 1688 b = nI (T + 1) → A' 1688 (b + 30 + 21 * T) = x → A' 1688 (b + 30 + 21 * T + 1) = nI 0 → A' 1688 (b + 30 + 21 * T + 2) = nI 0 → (∀ j, j < i → A' 1688 (b + 30 + 21 * T + (3 + j)) = -100) → (∀ i, i ≠ b → ¬ (b + 30 + 21 * T ≤ i ∧ i < b + 30 + 21 * T + 9) → A' 1688 i = A 1688 i) → P (nI i) A' (sI I 1681 36 (nI (b + 30 + 21 * T))) := by
    intro m
    induction m with
    | zero =>
      intro i A' hi h1 h2 h3 h4 h5 h6 h7
      refine hP _ _ _ ?_
      rw [iLt (by omega) (by decide), if_neg (by omega)]
      exact k A' h1 h2 h3 h4 h5 (fun j hj => h6 j (by omega)) h7
    | succ m ih =>
      intro i A' hi h1 h2 h3 h4 h5 h6 h7
      refine hP _ _ _ ?_
      rw [iLt (by omega) (by decide), if_pos (by omega), sI_e, nI_add, nI_add, vpT (by omega) (by decide), nI_clamp (by omega), nI_add]
      refine ⟨trivial, ih (i + 1) _ (by omega) (fun a ha => by rw [sA_na ha]; exact h1 a ha) (by rw [sA_n (by omega)]; exact h2) (by rw [sA_n (by omega)]; exact h3) (by rw [sA_n (by omega)]; exact h4) (by rw [sA_n (by omega)]; exact h5) (fun j hj => ?_) (fun q n1 n2 => by rw [sA_n (by omega)]; exact h7 q n1 n2)⟩
      by_cases e : j = i
      · subst e
        rw [show b + 30 + 21 * T + (3 + j) = b + 30 + 21 * T + 3 + j by omega, sA_e]
      · rw [sA_n (by omega)]; exact h6 j (by omega)
  refine key 6 0 _ (by omega) (fun a ha => by rw [sA_na ha, sA_na ha, sA_na ha, sA_na ha]) ?_ ?_ ?_ ?_ (fun j hj => absurd hj (by omega)) (fun q n1 n2 => ?_)
  · rw [sA_n (by omega), sA_n (by omega), sA_n (by omega), sA_e]
  · rw [sA_n (by omega), sA_n (by omega), sA_e]
  · rw [sA_n (by omega), sA_e]
  · rw [sA_e]
  · rw [sA_n (by omega), sA_n (by omega), sA_n (by omega), sA_n (by omega)]
/-- CALL's last part: the frame, the values -/
theorem M_call {Q : Int32 → HA → HA → Prop} {q c : Nat} (h : GA b A0 I0 A I S F) (ht : zt S < 3) (hq : q < 6) (hc : c ≤ zh S) (hc3 : c ≤ 3) (hh : zh S - c ≤ 11) (hpc : zpc S < 40) (k : ∀ A' I', GA b A0 I0 A' I' (zcall S q c) F → Q (nI 0) A' I') : D157_enter (nI q) (sA A 1688 ((I 1681 36) + (nI 2)).toNatClampNeg ((A 1688 ((I 1681 36) + (nI 2)).toNatClampNeg) - (nI c))) I (fun A17 I18 => (∀ P19 : Int32 → HA → HA → Prop, (∀ (a20 : Int32) (A24 I25 : HA), (if a20 < (nI c) then vp_in ((I 1681 36) + (nI 2)) 88400 ∧ (vp_in ((((I 1681 36) + (nI 9)) + (A24 1688 ((I 1681 36) + (nI 2)).toNatClampNeg)) + a20) 88400 ∧ (vp_in (((I25 1681 36) + (nI 3)) + a20) 88400 ∧ (P19 (a20 + nI 1) (sA A24 1688 (((I25 1681 36) + (nI 3)) + a20).toNatClampNeg (A24 1688 ((((I 1681 36) + (nI 9)) + (A24 1688 ((I 1681 36) + (nI 2)).toNatClampNeg)) + a20).toNatClampNeg)) I25))) else Q (nI 0) A24 I25) → P19 a20 A24 I25) → P19 (nI 0) A17 I18)) := by
  have hz := h.wf.hi
  have hb := h.hb
  rw [h.f, nI_add, nI_add, nI_clamp (n := b + 30 + 21 * zt S + 2) (by omega), h.fr.2.2.1, pk_sub (by omega)]
  refine M_enter hb h.w (T := zt S + 1) (by omega) (by rw [sA_n (by omega)]; exact h.t) (fun A1 a1 a2 a3 a4 a5 a6 a7 => ?_)
  intro P hP
  have old : ∀ i, i ≠ b → i ≠ b + 30 + 21 * zt S + 2 → ¬ (b + 30 + 21 * (zt S + 1) ≤ i ∧ i < b + 30 + 21 * (zt S + 1) + 9) → A1 1688 i = A 1688 i := fun i n1 n2 n3 => by rw [a7 i n1 n3, sA_n (by omega)]
  have key : ∀ (m i : Nat) (A2 : HA), m + i = c → (∀ a, a ≠ 1688 → A2 a = A1 a) → (∀ j, A2 1688 j = if b + 30 + 21 * (zt S + 1) + 3 ≤ j ∧ j < b + 30 + 21 * (zt S + 1) + 3 + i then A 1688 (b + 30 + 21 * zt S + 9 + (zh S - c) + (j - (b + 30 + 21 * (zt S + 1) + 3))) else A1 1688 j) → P (nI i) A2 (sI I 1681 36 (nI (b + 30 + 21 * (zt S + 1)))) := by
    intro m
    induction m with
    | zero =>
      intro i A2 hi e1 e2
      refine hP _ _ _ ?_
      rw [iLt (by omega) (by omega), if_neg (by omega)]
      refine k _ _ ?_
      obtain ⟨g1, g2, g3, g4, g5, g6⟩ := h
      obtain ⟨r1, r2, r3, r4, r5, r6, r7⟩ := g4
      obtain ⟨w1, w2, w3, w4, w5⟩ := g2
      have o2 : ∀ i, i ≠ b → i ≠ b + 30 + 21 * zt S + 2 → ¬ (b + 30 + 21 * (zt S + 1) ≤ i ∧ i < b + 30 + 21 * (zt S + 1) + 9) → A2 1688 i = A 1688 i := fun i n1 n2 n3 => by rw [e2 i, if_neg (by omega)]; exact old i n1 n2 n3
      refine ⟨g1, ?_, g3, ?_, ?_, ?_⟩
      · refine ⟨by show zt S + 1 ≤ 3; omega, fun f hf => ?_, fun f hf => ?_, w4, w5⟩
        · have hf : f ≤ zt S + 1 := hf
          show un (zM S) (zt S + 1) q f < 6 ∧ un (zP S) (zt S + 1) 0 f ≤ 40 ∧ un (un (zH S) (zt S) (zh S - c)) (zt S + 1) 0 f ≤ 12
          by_cases e : f = zt S + 1
          · rw [e, un_e, un_e, un_e]; omega
          · rw [un_n e, un_n e, un_n e]
            have := w2 f (by omega)
            refine ⟨this.1, this.2.1, ?_⟩
            unfold un
            split
            · omega
            · exact this.2.2
        · have hf : f < zt S + 1 := hf
          show un (un (zH S) (zt S) (zh S - c)) (zt S + 1) 0 f ≤ 11 ∧ un (zP S) (zt S + 1) 0 f ≤ 39
          rw [un_n (i := zt S + 1) (by omega), un_n (f := zP S) (i := zt S + 1) (by omega)]
          unfold un
          split
          · rename_i e
            subst e
            exact ⟨hh, Nat.le_of_lt_succ hpc⟩
          · exact w3 f (by omega)
      · refine ⟨by rw [sI_n (by decide)]; exact r1, sI_e, ?_, by rw [o2 _ (by omega) (by omega) (by omega)]; exact r4, by rw [o2 _ (by omega) (by omega) (by omega)]; exact r5, fun f hf => ?_, fun k hk => ?_⟩
        · rw [e2 b, if_neg (by omega)]; exact a2
        · have hf : f ≤ zt S + 1 := hf
          show _ = nI (un (zM S) (zt S + 1) q f) ∧ _ = nI (un (zP S) (zt S + 1) 0 f) ∧ _ = nI (un (un (zH S) (zt S) (zh S - c)) (zt S + 1) 0 f) ∧ ∀ j, j < 6 + un (un (zH S) (zt S) (zh S - c)) (zt S + 1) 0 f → _ = if f = zt S + 1 then (if j < c then zV S (zt S) (6 + (zh S - c) + j) else if j < 6 then -100 else zV S f j) else zV S f j
          by_cases e : f = zt S + 1
          · subst e
            rw [un_e, un_e, un_e, e2 (b + 30 + 21 * (zt S + 1)), if_neg (by omega), e2 (b + 30 + 21 * (zt S + 1) + 1), if_neg (by omega), e2 (b + 30 + 21 * (zt S + 1) + 2), if_neg (by omega)]
            refine ⟨a3, a4, a5, fun j hj => ?_⟩
            rw [if_pos rfl, e2]
            by_cases e : j < c
            · rw [if_pos (by omega), if_pos e, show b + 30 + 21 * zt S + 9 + (zh S - c) + (b + 30 + 21 * (zt S + 1) + (3 + j) - (b + 30 + 21 * (zt S + 1) + 3)) = b + 30 + 21 * zt S + (3 + (6 + (zh S - c) + j)) by omega]
              exact (r6 (zt S) (Nat.le_refl _)).2.2.2 _ (by unfold zh at *; omega)
            · rw [if_neg (by omega), if_neg e, if_pos (by omega)]
              exact a6 j (by omega)
          · obtain ⟨f1, f2, f3, f4⟩ := r6 f (by omega)
            have hf12 := (w2 f (by omega)).2.2
            rw [un_n e, un_n e, un_n e, o2 _ (by omega) (by omega) (by omega), o2 _ (by omega) (by omega) (by omega)]
            refine ⟨f1, f2, ?_, fun j hj => ?_⟩
            · by_cases e3 : f = zt S
              · subst e3
                rw [un_e, e2, if_neg (by omega), a7 _ (by omega) (by omega), sA_e]
              · rw [un_n e3, o2 _ (by omega) (by omega) (by omega)]; exact f3
            · have hj' : j < 6 + zH S f := by
                unfold un at hj
                split at hj
                · rename_i e3; subst e3; unfold zh at *; omega
                · exact hj
              rw [if_neg e, o2 _ (by omega) (by omega) (by omega)]
              exact f4 j hj'
        · obtain ⟨k1, k2⟩ := r7 k hk
          have hk : k < zn S := hk
          have hl := w5.1 k hk
          have := w4
          exact ⟨by rw [o2 _ (by omega) (by omega) (by omega)]; exact k1, fun i hi => by have hi : i < zL S k := hi; rw [o2 _ (by omega) (by omega) (by omega)]; exact k2 i hi⟩
      · unfold zFM at g5 ⊢
        rw [sI_n (by decide), e1 _ (by decide), e1 _ (by decide), e1 _ (by decide), e1 _ (by decide), a1 _ (by decide), a1 _ (by decide), a1 _ (by decide), a1 _ (by decide), sA_na (by decide), sA_na (by decide), sA_na (by decide), sA_na (by decide)]
        exact g5
      · obtain ⟨q1, q2, q3⟩ := g6
        refine ⟨fun a n1 n2 => by rw [e1 a n1, a1 a n1, sA_na n1]; exact q1 a n1 n2, fun i n1 => ?_, fun a j n1 => by rw [sI_n (by omega)]; exact q3 a j n1⟩
        unfold zMI at n1
        rw [o2 i (by omega) (by omega) (by omega)]
        exact q2 i (by unfold zMI; exact n1)
    | succ m ih =>
      intro i A2 hi e1 e2
      have d2 : A2 1688 (b + 30 + 21 * zt S + 2) = nI (zh S - c) := by rw [e2, if_neg (by omega), a7 _ (by omega) (by omega), sA_e]
      refine hP _ _ _ ?_
      rw [iLt (by omega) (by omega), if_pos (by omega), sI_e, d2, nI_add, nI_add, nI_add, nI_add, vpT (by omega) (by decide), vpT (by omega) (by decide), vpT (by omega) (by decide), nI_clamp (n := b + 30 + 21 * (zt S + 1) + 3 + i) (by omega), nI_clamp (by omega), nI_add]
      refine ⟨trivial, trivial, trivial, ih (i + 1) _ (by omega) (fun a ha => by rw [sA_na ha]; exact e1 a ha) (fun j => ?_)⟩
      by_cases e : j = b + 30 + 21 * (zt S + 1) + 3 + i
      · subst e
        rw [sA_e, if_pos (by omega), e2, if_neg (by omega), old _ (by omega) (by omega) (by omega), show b + 30 + 21 * (zt S + 1) + 3 + i - (b + 30 + 21 * (zt S + 1) + 3) = i by omega]
      · rw [sA_n (by omega), e2 j]
        by_cases e3 : b + 30 + 21 * (zt S + 1) + 3 ≤ j ∧ j < b + 30 + 21 * (zt S + 1) + 3 + i
        · rw [if_pos e3, if_pos (by omega)]
        · rw [if_neg e3, if_neg (by omega)]
  refine key c 0 _ (by omega) (fun a ha => rfl) (fun j => ?_)
  rw [if_neg (by omega)]
end RE
