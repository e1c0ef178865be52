/-! THE CLASS: arrays of a way, a call's frame -/
theorem ar_neg : ∀ k, k < 4 → (-2 - nI k : Int32) < 0 := by decide
theorem ar_n1 : ∀ k, k < 4 → ¬ (-2 - nI k : Int32) = -1 := by decide
theorem ar_n2 : ∀ k, k < 4 → ¬ (-2 : Int32) < -2 - nI k := by decide
theorem ar_e : ∀ k, k < 4 → (-100 : Int32) < -2 - nI k := by decide
theorem ar_s : ∀ k, k < 4 → (-2 : Int32) - (-2 - nI k) = nI k := by decide
theorem zar_nI {k : Nat} (h : k < 4) : zar (-2 - nI k) = k := by
  unfold zar
  rw [ar_s k h, nI_clamp (by omega)]
section CA
variable {w : Nat} {A0 I0 A I : HA} {S : zW} {F : zF} {G : zG}
theorem GC.arr (h : GC w A0 I0 A I S F) {k : Nat} (hk : k < zn S) : A (w + 5) k = nI (zL S k) ∧ ∀ i, i < zL S k → A (w + 6) (k * 5 + i) = zE S k i := h.2.2.1.2.2.2.2.2.2.2.2 k hk
theorem GC.n (h : GC w A0 I0 A I S F) : I w 7 = nI (zn S) := h.2.2.1.2.1
theorem C_lenOf {Q : Int32 → Prop} {k : Nat} {v : Int32} (h : GC w A0 I0 A I S F) (hk : k < zn S) (e : v = -2 - nI k) (q : Q (nI (zL S k))) : D131_lengthOf w v A I Q := by
  have hn := h.wf.2.2.2.1
  unfold D131_lengthOf
  rw [e, if_neg (ar_n2 k (by omega)), if_pos (ar_e k (by omega)), ar_s k (by omega), vpT (by omega) (by decide), nI_clamp (by omega), (h.arr hk).1]
  exact ⟨trivial, q⟩
theorem C_lenNo {Q : Int32 → Prop} {v : Int32} (e : v = -1) (q : Q (nI 0)) : D131_lengthOf w v A I Q := by
  unfold D131_lengthOf
  rw [e, if_pos (by decide)]
  exact q
theorem C_elementOf {Q : Int32 → Prop} {k i : Nat} (h : GC w A0 I0 A I S F) (hk : k < zn S) (hi : i < zL S k) (q : Q (zE S k i)) : D132_elementOf w (-2 - nI k) (nI i) A I Q := by
  have hn := h.wf.2.2.2.1
  have hl := h.wf.2.2.2.2.1 k hk
  unfold D132_elementOf
  rw [ar_s k (by omega), pk_mul, nI_add, vpT (by omega) (by decide), nI_clamp (by omega), (h.arr hk).2 i hi]
  exact ⟨trivial, q⟩
theorem C_keepElement {Q : HA → HA → Prop} {k i : Nat} {x : Int32} (h : GC w A0 I0 A I S F) (hk : k < zn S) (hi : i < zL S k) (q : ∀ A', GC w A0 I0 A' I (zset S k i x) F → Q A' I) : D133_keepElement w (-2 - nI k) (nI i) x A I Q := by
  have hn := h.wf.2.2.2.1
  have hl := h.wf.2.2.2.2.1 k hk
  unfold D133_keepElement
  rw [ar_s k (by omega), pk_mul, nI_add, vpT (by omega) (by decide), nI_clamp (by omega)]
  exact ⟨trivial, q _ (h.setA (by omega) h.wf (repC_set h.2.2.1 h.wf k i x (by omega)))⟩
theorem repC_out5 (h : zRepC w A I S) {j : Nat} (x : Int32) (hj : zn S ≤ j) : zRepC w (sA A (w + 5) j x) I S := by
  obtain ⟨h1, h2, h3, h4, h5, h6, h7, h8, h9⟩ := h
  refine ⟨h1, h2, h3, h4, h5, h6, h7, fun g hg => ?_, fun q hq => ?_⟩
  · obtain ⟨f1, f2, f3, f4⟩ := h8 g hg
    exact ⟨by rw [sA_na (by omega)]; exact f1, by rw [sA_na (by omega)]; exact f2, by rw [sA_na (by omega)]; exact f3, fun i hi => by rw [sA_na (by omega)]; exact f4 i hi⟩
  · obtain ⟨k1, k2⟩ := h9 q hq
    exact ⟨by rw [sA_n (by omega)]; exact k1, fun i hi => by rw [sA_na (by omega)]; exact k2 i hi⟩
theorem repC_out6 (h : zRepC w A I S) (hz : zwf S) {j : Nat} (x : Int32) (hj : zn S * 5 ≤ j) : zRepC w (sA A (w + 6) j x) I S := by
  obtain ⟨h1, h2, h3, h4, h5, h6, h7, h8, h9⟩ := h
  refine ⟨h1, h2, h3, h4, h5, h6, h7, fun g hg => ?_, fun q hq => ?_⟩
  · obtain ⟨f1, f2, f3, f4⟩ := h8 g hg
    exact ⟨by rw [sA_na (by omega)]; exact f1, by rw [sA_na (by omega)]; exact f2, by rw [sA_na (by omega)]; exact f3, fun i hi => by rw [sA_na (by omega)]; exact f4 i hi⟩
  · obtain ⟨k1, k2⟩ := h9 q hq
    have hl := hz.2.2.2.2.1 q hq
    exact ⟨by rw [sA_na (by omega)]; exact k1, fun i hi => by rw [sA_n (by omega)]; exact k2 i hi⟩
theorem C_addArray {Q : Int32 → HA → HA → Prop} {l : Nat} (h : GC w A0 I0 A I S F) (hn : zn S < 4) (hl : l ≤ 5) (q : ∀ A' I', GC w A0 I0 A' I' (zarr S l) F → Q (-2 - nI (zn S)) A' I') : D130_addArray w (nI l) A I Q := by
  have hf := h.1.far
  unfold D130_addArray
  rw [h.n, vpT (by omega) (by decide), nI_clamp (by omega)]
  refine ⟨trivial, ?_⟩
  intro P hP
  have key : ∀ (m i : Nat) (A : HA), m + i = l → GC w A0 I0 A I S F → A (w + 5) (zn S) = nI l → (∀ j, j < i → A (w + 6) (zn S * 5 + j) = nI 128) → P (nI i) A I := by
    intro m
    induction m with
    | zero =>
      intro i A hi h a5 a6
      refine hP _ _ _ ?_
      rw [iLt (by omega) (by omega), if_neg (by omega), sI_e, h.n, nI_add, pk_sub (by omega)]
      refine q _ _ (h.setI (by omega) ?_ ?_)
      · obtain ⟨w1, w2, w3, w4, w5, w6⟩ := h.wf
        refine ⟨w1, w2, w3, by show zn S + 1 ≤ 4; omega, fun k hk => ?_, w6⟩
        have hk : k < zn S + 1 := hk
        show un (zL S) (zn S) l k ≤ 5
        by_cases e : k = zn S
        · rw [e, un_e]; exact hl
        · rw [un_n e]; exact w5 k (by omega)
      · obtain ⟨h1, h2, h3, h4, h5, h6, h7, h8, h9⟩ := h.2.2.1
        refine ⟨by rw [sI_n (by omega)]; exact h1, sI_e, by rw [sI_n (by omega)]; exact h3, by rw [sI_n (by omega)]; exact h4, by rw [sI_n (by omega)]; exact h5, by rw [sI_n (by omega)]; exact h6, by rw [sI_n (by omega)]; exact h7, h8, fun k hk => ?_⟩
        have hk : k < zn S + 1 := hk
        show A (w + 5) k = nI (un (zL S) (zn S) l k) ∧ ∀ i, i < un (zL S) (zn S) l k → A (w + 6) (k * 5 + i) = if k = zn S then nI 128 else zE S k i
        by_cases e : k = zn S
        · subst e
          rw [un_e]
          exact ⟨a5, fun i hi => by rw [if_pos rfl]; exact a6 i (by omega)⟩
        · rw [un_n e]
          obtain ⟨k1, k2⟩ := h9 k (by omega)
          exact ⟨k1, fun i hi => by rw [if_neg e]; exact k2 i hi⟩
    | succ m ih =>
      intro i A hi h a5 a6
      refine hP _ _ _ ?_
      rw [iLt (by omega) (by omega), if_pos (by omega)]
      unfold D27_number
      show vp_in _ _ ∧ P _ _ _
      rw [subE, nI_add, nI_add, pk_mul, nI_add, vpT (by omega) (by decide), nI_clamp (by omega)]
      refine ⟨trivial, ih (i + 1) _ (by omega) (h.setA (by omega) h.wf (repC_out6 h.2.2.1 h.wf _ (by omega))) (by rw [sA_na (by omega)]; exact a5) (fun j hj => ?_)⟩
      by_cases e : j = i
      · subst e; rw [sA_e]
      · rw [sA_n (by omega)]; exact a6 j (by omega)
  exact key l 0 _ (by omega) (h.setA (by omega) h.wf (repC_out5 h.2.2.1 _ (by omega))) sA_e (fun j hj => absurd hj (by omega))
theorem C_hasAllArrays {Q : Int32 → Prop} (h : GC w A0 I0 A I S F) (k : Q (nI (if zn S = 4 then 1 else 0))) : D129_hasAllArrays w A I Q := by
  have hn := h.wf.2.2.2.1
  unfold D129_hasAllArrays
  rw [h.n, iLt (by omega) (by omega)]
  by_cases e : zn S = 4
  · rw [if_neg (by omega)]; rw [if_pos e] at k; exact k
  · rw [if_pos (by omega)]; rw [if_neg e] at k; exact k
theorem sC_at {A : HA} {a b sp dp n j : Nat} : sC A a b sp dp n b j = if dp ≤ j ∧ j < dp + n then A a (sp + (j - dp)) else A b j := by unfold sC; rw [va_up_self]; rfl
theorem sC_na {A : HA} {a b sp dp n c : Nat} (h : c ≠ b) : sC A a b sp dp n c = A c := by unfold sC; rw [va_up_ne _ _ h]
theorem C_dropX {Q : HA → HA → Prop} {c : Nat} (h : GC w A0 I0 A I S F) (hc : c ≤ zh S) (k : ∀ A', GC w A0 I0 A' I (zdrop S c) F → (∀ a, a ≠ w + 3 → A' a = A a) → Q A' I) : D120_drop w (nI c) A I Q := by
  have hz := h.wf.hi
  have g : ∀ n, n = zh S - c → GC w A0 I0 (sA A (w + 3) (zt S) (nI n)) I (zdrop S c) F := fun n e => by
    subst e
    exact h.setA (by omega) (h.wf.H (by omega)) (repC_H h.2.2.1 _ _ (fun j hj => h.fr.2.2.2 j (by omega)))
  unfold D120_drop
  rw [h.top, vpT (by omega) (by decide), nI_clamp (by omega), h.fr.2.2.1, iLt (by omega) (by omega)]
  refine ⟨trivial, ?_⟩
  by_cases e : c < zh S
  · rw [if_pos e, pk_sub (by omega)]
    exact ⟨trivial, trivial, k _ (g _ rfl) (fun a ha => sA_na ha)⟩
  · rw [if_neg e]
    exact ⟨trivial, k _ (g 0 (by omega)) (fun a ha => sA_na ha)⟩
theorem C_enter {Q : HA → HA → Prop} {q c : Nat} (h : GC w A0 I0 A I S F) (ht : zt S < 3) (hq : q < 6) (hc : c ≤ zh S) (hc3 : c ≤ 3) (hh : zh S - c ≤ 11) (hpc : zpc S < 40) (k : ∀ A' I', GC w A0 I0 A' I' (zcall S q c) F → Q A' I') : D140_enter w (nI q) (nI c) A I Q := by
  have hz := h.wf.hi
  have hf := h.1.far
  unfold D140_enter
  rw [h.top, vpT (by omega) (by decide), nI_clamp (n := zt S) (by omega), nI_clamp (n := c) (by omega), h.fr.2.2.1]
  refine ⟨trivial, C_dropX h hc (fun A1 h1 hx => ?_)⟩
  have t1 : I w 4 = nI (zt S) := h.top
  have e4 : ∀ j, j < 6 + zh S → A1 (w + 4) (zt S * 18 + j) = zV S (zt S) j := fun j hj => by rw [hx _ (by omega)]; exact h.fr.2.2.2 j hj
  unfold D117_openFrame
  rw [sI_e, t1, nI_add, vpT (by omega) (by decide), nI_clamp (n := zt S + 1) (by omega)]
  refine ⟨trivial, trivial, trivial, ?_⟩
  intro P hP
  have key : ∀ (m i : Nat) (A2 : HA), m + i = 6 → (∀ a, a ≠ w + 4 → A2 a = (sA (sA (sA A1 (w + 1) (zt S + 1) (nI q)) (w + 2) (zt S + 1) (nI 0)) (w + 3) (zt S + 1) (nI 0)) a) → (∀ j, A2 (w + 4) j = if (zt S + 1) * 18 ≤ j ∧ j < (zt S + 1) * 18 + i then -100 else A1 (w + 4) j) → P (nI i) A2 (sI I w 4 (nI (zt S + 1))) := by
    intro m
    induction m with
    | zero =>
      intro i A2 hi e1 e2
      refine hP _ _ _ ?_
      rw [iLt (by omega) (by decide), if_neg (by omega)]
      show ¬ _ ∧ ¬ _ ∧ ¬ _ ∧ _ ∧ _ ∧ Q _ _
      rw [sI_e, pk_mul, pk_mul, nI_add, nI_add, pk_sub (by omega), nI_clamp (n := zt S * 18 + 6 + zh S - c) (by omega), nI_clamp (n := (zt S + 1) * 18) (by omega)]
      refine ⟨nI_pos (by omega), nI_pos (by omega), nI_pos (by omega), by omega, by omega, k _ _ ?_⟩
      obtain ⟨g1, g2, g3, g4, g5, g6⟩ := h1
      obtain ⟨h1, h2, h3, h4, h5, h6, h7, h8, h9⟩ := g3
      refine ⟨g1, ?_, ?_, ?_, fun a n1 n2 => ?_, fun a j n1 n2 => by rw [sI_n (by omega)]; exact g6 a j n1 n2⟩
      · obtain ⟨w1, w2, w3, w4⟩ := h.wf
        refine ⟨by show zt S + 1 ≤ 3; omega, fun f hf => ?_, fun f hf => ?_, w4⟩
        · have hf : f ≤ zt S + 1 := hf
          show un (zM S) (zt S + 1) q f < 6 ∧ un (zP S) (zt S + 1) 0 f ≤ 40 ∧ un (un (zH S) (zt S) (zh S - c)) (zt S + 1) 0 f ≤ 12
          by_cases e : f = zt S + 1
          · rw [e, un_e, un_e, un_e]; omega
          · rw [un_n e, un_n e, un_n e]
            have := w2 f (by omega)
            refine ⟨this.1, this.2.1, ?_⟩
            unfold un
            split
            · omega
            · exact this.2.2
        · have hf : f < zt S + 1 := hf
          show un (un (zH S) (zt S) (zh S - c)) (zt S + 1) 0 f ≤ 11 ∧ un (zP S) (zt S + 1) 0 f ≤ 39
          rw [un_n (i := zt S + 1) (by omega), un_n (f := zP S) (i := zt S + 1) (by omega)]
          unfold un
          split
          · rename_i e
            subst e
            exact ⟨hh, Nat.le_of_lt_succ hpc⟩
          · exact w3 f (by omega)
      · refine ⟨sI_e, by rw [sI_n (by omega)]; exact h2, by rw [sI_n (by omega)]; exact h3, by rw [sI_n (by omega)]; exact h4, by rw [sI_n (by omega)]; exact h5, by rw [sI_n (by omega)]; exact h6, by rw [sI_n (by omega)]; exact h7, fun f hf => ?_, fun k hk => ?_⟩
        · have hf : f ≤ zt S + 1 := hf
          show _ = nI (un (zM S) (zt S + 1) q f) ∧ _ = nI (un (zP S) (zt S + 1) 0 f) ∧ _ = nI (un (un (zH S) (zt S) (zh S - c)) (zt S + 1) 0 f) ∧ ∀ j, j < 6 + un (un (zH S) (zt S) (zh S - c)) (zt S + 1) 0 f → _ = if f = zt S + 1 then (if j < c then zV S (zt S) (6 + (zh S - c) + j) else if j < 6 then -100 else zV S f j) else zV S f j
          rw [sC_na (by omega), sC_na (by omega), sC_na (by omega), e1 _ (by omega), e1 _ (by omega), e1 _ (by omega)]
          by_cases e : f = zt S + 1
          · subst e
            rw [un_e, un_e, un_e, sA_na (by omega), sA_na (by omega), sA_e, sA_na (by omega), sA_e, sA_e]
            refine ⟨rfl, rfl, rfl, fun j hj => ?_⟩
            rw [sC_at, if_pos rfl]
            by_cases e : j < c
            · rw [if_pos (by omega), if_pos e, e2, if_neg (by omega), show zt S * 18 + 6 + zh S - c + ((zt S + 1) * 18 + j - (zt S + 1) * 18) = zt S * 18 + (6 + (zh S - c) + j) by omega]
              exact e4 _ (by omega)
            · rw [if_neg (by omega), if_neg e, if_pos (by omega), e2, if_pos (by omega)]
          · obtain ⟨f1, f2, f3, f4⟩ := h8 f (by show f ≤ zt S; omega)
            rw [un_n e, un_n e, un_n e, sA_na (by omega), sA_na (by omega), sA_n (by omega), sA_na (by omega), sA_n (by omega), sA_na (by omega), sA_n (by omega), sA_na (by omega), sA_na (by omega)]
            refine ⟨f1, f2, f3, fun j hj => ?_⟩
            have hj12 := (h.wf.2.1 f (by omega)).2.2
            have hj' : j < 18 := by
              unfold un at hj
              split at hj <;> omega
            rw [if_neg e, sC_at, if_neg (by omega), e2, if_neg (by omega)]
            exact f4 j hj
        · obtain ⟨k1, k2⟩ := h9 k hk
          rw [sC_na (by omega), sC_na (by omega), e1 _ (by omega), e1 _ (by omega), sA_na (by omega), sA_na (by omega), sA_na (by omega), sA_na (by omega), sA_na (by omega), sA_na (by omega)]
          exact ⟨k1, k2⟩
      · unfold zFC at g4 ⊢
        rw [sI_na (by omega), sC_na (by omega), sC_na (by omega), sC_na (by omega), sC_na (by omega), e1 _ (by omega), e1 _ (by omega), e1 _ (by omega), e1 _ (by omega)]
        repeat rw [sA_na (by omega)]
        exact g4
      · rw [sC_na (by omega), e1 _ (by omega), sA_na (by omega), sA_na (by omega), sA_na (by omega)]
        exact g5 a n1 n2
    | succ m ih =>
      intro i A2 hi e1 e2
      refine hP _ _ _ ?_
      rw [iLt (by omega) (by decide), if_pos (by omega), sI_e, pk_mul, nI_add, vpT (by omega) (by decide), nI_clamp (by omega), nI_add]
      refine ⟨trivial, ih (i + 1) _ (by omega) (fun a ha => by rw [sA_na ha]; exact e1 a ha) (fun j => ?_)⟩
      by_cases e : j = (zt S + 1) * 18 + i
      · subst e; rw [sA_e, if_pos (by omega)]
      · rw [sA_n (by omega), e2 j]
        by_cases e3 : (zt S + 1) * 18 ≤ j ∧ j < (zt S + 1) * 18 + i
        · rw [if_pos e3, if_pos (by omega)]
        · rw [if_neg e3, if_neg (by omega)]
  refine key 6 0 _ (by omega) (fun a ha => rfl) (fun j => ?_)
  rw [if_neg (by omega), sA_na (by omega), sA_na (by omega), sA_na (by omega)]
end CA
