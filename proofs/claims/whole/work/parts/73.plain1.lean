/-! PLAIN, both sides -/
section PB
variable {b : Nat} {A0 I0 A I : HA} {S : zW} {F : zF} {G : zG}
/-- what begin sets of the row beside the run -/
def mB (A : HA) (b : Nat) : HA := sA (sA (sA A 1688 (b + 2) (nI 0)) 1688 (b + 3) (-1)) 1688 (b + 4) (nI 0)
theorem M_begin {Q : HA → HA → Prop} {q : Nat} {x y : Int32} (hb : b + 520 ≤ 88400) (hw : I 1681 35 = nI b) (hq : q < 6) (hF : zFM A I F) (k : ∀ A' I', GA b (mB A b) I A' I' (zbeg q x y) F → Q A' I') : D156_begin (nI q) x y A I Q := by
  unfold D156_begin
  rw [hw, nI_add, nI_add, nI_add, nI_add, nI_add, nI_add, Nat.add_zero b, vpT (n := b) (by omega) (by decide), vpT (n := b + 1) (by omega) (by decide), vpT (n := b + 2) (by omega) (by decide), vpT (n := b + 3) (by omega) (by decide), vpT (n := b + 4) (by omega) (by decide), vpT (n := b + 5) (by omega) (by decide), nI_clamp (n := b) (by omega), nI_clamp (n := b + 1) (by omega), nI_clamp (n := b + 2) (by omega), nI_clamp (n := b + 3) (by omega), nI_clamp (n := b + 4) (by omega), nI_clamp (n := b + 5) (by omega)]
  refine ⟨trivial, trivial, trivial, trivial, trivial, trivial, M_enter hb hw (T := 0) (by decide) (by rw [sA_n (by omega), sA_n (by omega), sA_n (by omega), sA_n (by omega), sA_n (by omega), sA_e]) (fun A1 a1 a2 a3 a4 a5 a6 a7 => ?_)⟩
  rw [sI_e, nI_add, nI_add, vpT (n := b + 30 + 21 * 0 + 3) (by omega) (by decide), vpT (n := b + 30 + 21 * 0 + 3 + 1) (by omega) (by decide), nI_clamp (n := b + 30 + 21 * 0 + 3) (by omega), nI_clamp (n := b + 30 + 21 * 0 + 3 + 1) (by omega)]
  refine ⟨trivial, trivial, k _ _ ⟨hb, zbeg_wf hq, rfl, ⟨by rw [sI_n (by decide)]; exact hw, by rw [sI_e]; rfl, ?_, ?_, ?_, fun f hf => ?_, fun k hk => absurd hk (Nat.not_lt_zero k)⟩, ?_, fun a n1 n2 => ?_, fun i n1 => ?_, fun a j n1 => sI_n (by omega)⟩⟩
  · rw [sA_n (by omega), sA_n (by omega), a2]; rfl
  · rw [sA_n (by omega), sA_n (by omega), a7 _ (by omega) (by omega), sA_e]; rfl
  · rw [sA_n (by omega), sA_n (by omega), a7 _ (by omega) (by omega), sA_n (by omega), sA_n (by omega), sA_n (by omega), sA_n (by omega), sA_e]; rfl
  · have hf : f ≤ 0 := hf
    obtain rfl : f = 0 := by omega
    refine ⟨by rw [sA_n (by omega), sA_n (by omega)]; exact a3, by rw [sA_n (by omega), sA_n (by omega)]; exact a4, by rw [sA_n (by omega), sA_n (by omega)]; exact a5, fun j hj => ?_⟩
    have hj : j < 6 + 0 := hj
    show _ = if j = 0 then x else if j = 1 then y else -100
    by_cases e0 : j = 0
    · subst e0; rw [sA_n (by omega), if_pos rfl]; exact sA_e
    · by_cases e1 : j = 1
      · subst e1; rw [if_neg (by decide), if_pos rfl]; exact sA_e
      · rw [sA_n (by omega), sA_n (by omega), if_neg e0, if_neg e1]; exact a6 j (by omega)
  · unfold zFM at hF ⊢
    rw [sI_n (by decide), sA_na (by decide), sA_na (by decide), sA_na (by decide), sA_na (by decide), sA_na (by decide), sA_na (by decide), sA_na (by decide), sA_na (by decide), a1 _ (by decide), a1 _ (by decide), a1 _ (by decide), a1 _ (by decide)]
    repeat rw [sA_na (by decide)]
    exact hF
  · unfold mB
    rw [sA_na n1, sA_na n1, a1 a n1, sA_na n1, sA_na n1, sA_na n1, sA_na n1, sA_na n1, sA_na n1, sA_na n1, sA_na n1, sA_na n1]
  · unfold zMI at n1
    unfold mB
    rw [sA_n (by omega), sA_n (by omega), a7 _ (by omega) (by omega), sA_n (by omega)]
    by_cases e4 : i = b + 4
    · subst e4; rw [sA_e, sA_e]
    · rw [sA_n (by omega), sA_n (i := b + 4) (by omega)]
      by_cases e3 : i = b + 3
      · subst e3; rw [sA_e, sA_e]
      · rw [sA_n (by omega), sA_n (i := b + 3) (by omega)]
        by_cases e2 : i = b + 2
        · subst e2; rw [sA_e, sA_e]
        · rw [sA_n (by omega), sA_n (i := b + 2) (by omega), sA_n (by omega), sA_n (by omega)]
/-- the first free slot -/
theorem M_slot {Q : Int32 → HA → HA → Prop} {s : Nat} (hs : s < 170) (h0 : A 1690 s = 0) (hb : ∀ i, i < s → ¬ A 1690 i = 0) (k : Q (nI s) (sA A 1690 s (nI 1)) I) : D155_slot A I Q := by
  intro P hP
  have key : ∀ m i, m + i = s → P (nI i) := by
    intro m
    induction m with
    | zero =>
      intro i hi
      obtain rfl : i = s := by omega
      refine hP _ ?_
      rw [vpT (by omega) (by decide), nI_clamp (by omega), if_pos h0]
      exact ⟨trivial, trivial, k⟩
    | succ m ih =>
      intro i hi
      refine hP _ ?_
      rw [vpT (by omega) (by decide), nI_clamp (by omega), if_neg (hb i (by omega)), nI_add]
      exact ⟨trivial, ih (i + 1) (by omega)⟩
  exact key s 0 (by omega)
theorem M_goOn0 {Q : Int32 → HA → HA → Prop} (h : GA b A0 I0 A I S F) (h3 : A 1688 (b + 3) = -1) (k : R162 (nI 0) A I Q) : D162_goOn A I Q := by
  have hb := h.hb
  unfold D162_goOn
  refine M_frame hb h.w h.wf.1 h.t ?_
  rw [h.ff, h.w, nI_add, vpT (n := b + 3) (by omega) (by decide), nI_clamp (n := b + 3) (by omega), h3, if_pos rfl]
  exact ⟨trivial, k⟩
end PB
