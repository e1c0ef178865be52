/-! THE REFERENCE's ways, over the pure state -/
/-- a way that has ended, in the reference's heap -/
def zRepE (b : Nat) (A I : HA) (S : zW) : Prop := I 1681 35 = nI b ∧ A 1688 (b + 1) = nI (zd S) ∧ A 1688 (b + 514) = zo S ∧ A 1688 (b + 515) = zpl S ∧ A 1688 (b + 516) = zk S ∧ (zo S = nI 1 → A 1688 (b + 517) = zr S)
/-- what is not the way at b, nor the formulas, is as in A0, I0 -/
def gmO (b : Nat) (A0 I0 A I : HA) : Prop := (∀ a, a ≠ 1688 → ¬ (1691 ≤ a ∧ a ≤ 1694) → A a = A0 a) ∧ (∀ i, ¬ (b ≤ i ∧ zMI (i - b)) → A 1688 i = A0 1688 i) ∧ (∀ a j, ¬ (a = 1681 ∧ (j = 15 ∨ 36 ≤ j ∧ j ≤ 39)) → I a j = I0 a j)
def GA (b : Nat) (A0 I0 A I : HA) (S : zW) (F : zF) : Prop := b + 520 ≤ 88400 ∧ zwf S ∧ zk S = 0 ∧ zRepM b A I S ∧ zFM A I F ∧ gmO b A0 I0 A I
def GE (b : Nat) (A0 I0 A I : HA) (S : zW) (F : zF) : Prop := b + 520 ≤ 88400 ∧ zRepE b A I S ∧ zFM A I F ∧ gmO b A0 I0 A I
section RM
variable {b : Nat} {A0 I0 A I : HA} {S : zW} {F : zF} {G : zG}
theorem gmO.sa (h : gmO b A0 I0 A I) {j : Nat} {x : Int32} (hj : b ≤ j ∧ zMI (j - b)) : gmO b A0 I0 (sA A 1688 j x) I := by
  obtain ⟨h1, h2, h3⟩ := h
  refine ⟨fun a n1 n2 => by rw [sA_na n1]; exact h1 a n1 n2, fun i n1 => ?_, h3⟩
  rw [sA_n (Or.inr (fun (e : i = j) => n1 (by rw [e]; exact hj)))]
  exact h2 i n1
theorem gmO.si (h : gmO b A0 I0 A I) {j : Nat} {x : Int32} (hj : j = 15 ∨ 36 ≤ j ∧ j ≤ 39) : gmO b A0 I0 A (sI I 1681 j x) := by
  obtain ⟨h1, h2, h3⟩ := h
  refine ⟨h1, h2, fun a i n1 => ?_⟩
  rw [sI_n (by omega)]
  exact h3 a i n1
theorem zFM.sa (h : zFM A I F) {j : Nat} {x : Int32} : zFM (sA A 1688 j x) I F := by
  unfold zFM at h ⊢
  rw [sA_na (by decide), sA_na (by decide), sA_na (by decide), sA_na (by decide)]
  exact h
theorem zFM.si (h : zFM A I F) {j : Nat} {x : Int32} (hj : j ≠ 15) : zFM A (sI I 1681 j x) F := by
  unfold zFM at h ⊢
  rw [sI_n (Or.inr (Ne.symm hj))]
  exact h
theorem GA.set (h : GA b A0 I0 A I S F) {S' : zW} {j : Nat} {x : Int32} (hj : b ≤ j ∧ zMI (j - b)) (hz : zwf S') (hk : zk S' = 0) (hr : zRepM b (sA A 1688 j x) I S') : GA b A0 I0 (sA A 1688 j x) I S' F :=
  ⟨h.1, hz, hk, hr, h.2.2.2.2.1.sa, h.2.2.2.2.2.sa hj⟩
theorem repM_M (h : zRepM b A I S) (hz : zwf S) (f x : Nat) (hf : f ≤ 3) : zRepM b (sA A 1688 (b + 30 + 21 * f) (nI x)) I (sM S f x) := by
  obtain ⟨h1, h2, h3, h4, h5, h6, h7⟩ := h
  refine ⟨h1, h2, by rw [sA_n (by omega)]; exact h3, by rw [sA_n (by omega)]; exact h4, by rw [sA_n (by omega)]; exact h5, fun g hg => ?_, fun k hk => ?_⟩
  · obtain ⟨f1, f2, f3, f4⟩ := h6 g hg
    have hh := (hz.2.1 g hg).2.2
    have ht := hz.1
    have hg : g ≤ zt S := hg
    refine ⟨?_, by rw [sA_n (by omega)]; exact f2, by rw [sA_n (by omega)]; exact f3, fun j hj => by have hj : j < 6 + zH S g := hj; rw [sA_n (by omega)]; exact f4 j hj⟩
    show _ = nI (un (zM S) f x g)
    by_cases e : g = f
    · subst e; rw [sA_e, un_e]
    · rw [sA_n (by omega), un_n e]; exact f1
  · obtain ⟨k1, k2⟩ := h7 k hk
    have hn := hz.2.2.2.1
    have hk : k < zn S := hk
    have hl := hz.2.2.2.2.1 k hk
    exact ⟨by rw [sA_n (by omega)]; exact k1, fun i hi => by have hi : i < zL S k := hi; rw [sA_n (by omega)]; exact k2 i hi⟩
theorem repM_P (h : zRepM b A I S) (hz : zwf S) (f x : Nat) (hf : f ≤ 3) : zRepM b (sA A 1688 (b + 30 + 21 * f + 1) (nI x)) I (sP S f x) := by
  obtain ⟨h1, h2, h3, h4, h5, h6, h7⟩ := h
  refine ⟨h1, h2, by rw [sA_n (by omega)]; exact h3, by rw [sA_n (by omega)]; exact h4, by rw [sA_n (by omega)]; exact h5, fun g hg => ?_, fun k hk => ?_⟩
  · obtain ⟨f1, f2, f3, f4⟩ := h6 g hg
    have hh := (hz.2.1 g hg).2.2
    have ht := hz.1
    have hg : g ≤ zt S := hg
    refine ⟨by rw [sA_n (by omega)]; exact f1, ?_, by rw [sA_n (by omega)]; exact f3, fun j hj => by have hj : j < 6 + zH S g := hj; rw [sA_n (by omega)]; exact f4 j hj⟩
    show _ = nI (un (zP S) f x g)
    by_cases e : g = f
    · subst e; rw [sA_e, un_e]
    · rw [sA_n (by omega), un_n e]; exact f2
  · obtain ⟨k1, k2⟩ := h7 k hk
    have hn := hz.2.2.2.1
    have hk : k < zn S := hk
    have hl := hz.2.2.2.2.1 k hk
    exact ⟨by rw [sA_n (by omega)]; exact k1, fun i hi => by have hi : i < zL S k := hi; rw [sA_n (by omega)]; exact k2 i hi⟩
theorem repM_H (h : zRepM b A I S) (hz : zwf S) (f x : Nat) (hf : f ≤ 3) (hx : ∀ j, j < 6 + x → A 1688 (b + 30 + 21 * f + (3 + j)) = zV S f j) (hx12 : x ≤ 12) : zRepM b (sA A 1688 (b + 30 + 21 * f + 2) (nI x)) I (sH S f x) := by
  obtain ⟨h1, h2, h3, h4, h5, h6, h7⟩ := h
  refine ⟨h1, h2, by rw [sA_n (by omega)]; exact h3, by rw [sA_n (by omega)]; exact h4, by rw [sA_n (by omega)]; exact h5, fun g hg => ?_, fun k hk => ?_⟩
  · obtain ⟨f1, f2, f3, f4⟩ := h6 g hg
    have hh := (hz.2.1 g hg).2.2
    have ht := hz.1
    have hg : g ≤ zt S := hg
    refine ⟨by rw [sA_n (by omega)]; exact f1, by rw [sA_n (by omega)]; exact f2, ?_, fun j hj => ?_⟩
    · show _ = nI (un (zH S) f x g)
      by_cases e : g = f
      · subst e; rw [sA_e, un_e]
      · rw [sA_n (by omega), un_n e]; exact f3
    · have hj : j < 6 + un (zH S) f x g := hj
      by_cases e : g = f
      · subst e; rw [un_e] at hj; rw [sA_n (by omega)]; exact hx j hj
      · rw [un_n e] at hj; rw [sA_n (by omega)]; exact f4 j hj
  · obtain ⟨k1, k2⟩ := h7 k hk
    have hn := hz.2.2.2.1
    have hk : k < zn S := hk
    have hl := hz.2.2.2.2.1 k hk
    exact ⟨by rw [sA_n (by omega)]; exact k1, fun i hi => by have hi : i < zL S k := hi; rw [sA_n (by omega)]; exact k2 i hi⟩
theorem repM_V (h : zRepM b A I S) (hz : zwf S) (f j : Nat) (x : Int32) (hf : f ≤ 3) (hj : j < 18) : zRepM b (sA A 1688 (b + 30 + 21 * f + (3 + j)) x) I (sV S f j x) := by
  obtain ⟨h1, h2, h3, h4, h5, h6, h7⟩ := h
  refine ⟨h1, h2, by rw [sA_n (by omega)]; exact h3, by rw [sA_n (by omega)]; exact h4, by rw [sA_n (by omega)]; exact h5, fun g hg => ?_, fun k hk => ?_⟩
  · obtain ⟨f1, f2, f3, f4⟩ := h6 g hg
    have hh := (hz.2.1 g hg).2.2
    have ht := hz.1
    have hg : g ≤ zt S := hg
    refine ⟨by rw [sA_n (by omega)]; exact f1, by rw [sA_n (by omega)]; exact f2, by rw [sA_n (by omega)]; exact f3, fun i hi => ?_⟩
    have hi : i < 6 + zH S g := hi
    show _ = u2 (zV S) f j x g i
    by_cases e : g = f ∧ i = j
    · obtain ⟨rfl, rfl⟩ := e; rw [sA_e, u2_e]
    · have ne : g ≠ f ∨ i ≠ j := by omega
      rw [sA_n (Or.inr (by omega)), u2_n ne]; exact f4 i hi
  · obtain ⟨k1, k2⟩ := h7 k hk
    have hn := hz.2.2.2.1
    have hk : k < zn S := hk
    have hl := hz.2.2.2.2.1 k hk
    exact ⟨by rw [sA_n (by omega)]; exact k1, fun i hi => by have hi : i < zL S k := hi; rw [sA_n (by omega)]; exact k2 i hi⟩
theorem repM_set (h : zRepM b A I S) (hz : zwf S) (k i : Nat) (x : Int32) (hk4 : k < 4) (hi : i < 5) : zRepM b (sA A 1688 (b + 10 + (k * 5 + i)) x) I (zset S k i x) := by
  obtain ⟨h1, h2, h3, h4, h5, h6, h7⟩ := h
  refine ⟨h1, h2, by rw [sA_n (by omega)]; exact h3, by rw [sA_n (by omega)]; exact h4, by rw [sA_n (by omega)]; exact h5, fun g hg => ?_, fun q hq => ?_⟩
  · obtain ⟨f1, f2, f3, f4⟩ := h6 g hg
    exact ⟨by rw [sA_n (by omega)]; exact f1, by rw [sA_n (by omega)]; exact f2, by rw [sA_n (by omega)]; exact f3, fun i hi => by rw [sA_n (by omega)]; exact f4 i hi⟩
  · obtain ⟨k1, k2⟩ := h7 q hq
    have hl := hz.2.2.2.2.1 q hq
    have hn := hz.2.2.2.1
    have hq : q < zn S := hq
    refine ⟨by rw [sA_n (by omega)]; exact k1, fun j hj => ?_⟩
    have hj : j < zL S q := hj
    show _ = u2 (zE S) k i x q j
    by_cases e : q = k ∧ j = i
    · obtain ⟨rfl, rfl⟩ := e; rw [sA_e, u2_e]
    · have ne : q ≠ k ∨ j ≠ i := by omega
      rw [sA_n (Or.inr (by omega)), u2_n ne]; exact k2 j hj
theorem GA.wf (h : GA b A0 I0 A I S F) : zwf S := h.2.1
theorem GA.hb (h : GA b A0 I0 A I S F) : b + 520 ≤ 88400 := h.1
theorem GA.w (h : GA b A0 I0 A I S F) : I 1681 35 = nI b := h.2.2.2.1.1
theorem GA.f (h : GA b A0 I0 A I S F) : I 1681 36 = nI (b + 30 + 21 * zt S) := h.2.2.2.1.2.1
theorem GA.t (h : GA b A0 I0 A I S F) : A 1688 b = nI (zt S + 1) := h.2.2.2.1.2.2.1
theorem GA.fr (h : GA b A0 I0 A I S F) : A 1688 (b + 30 + 21 * zt S) = nI (zq S) ∧ A 1688 (b + 30 + 21 * zt S + 1) = nI (zpc S) ∧ A 1688 (b + 30 + 21 * zt S + 2) = nI (zh S) ∧ ∀ j, j < 6 + zh S → A 1688 (b + 30 + 21 * zt S + (3 + j)) = zV S (zt S) j := h.2.2.2.1.2.2.2.2.2.1 _ (Nat.le_refl _)
theorem M_place {Q : Int32 → Prop} (h : GA b A0 I0 A I S F) (k : Q (zplace S)) : D166_place A I Q := by
  have hz := h.wf.hi
  have hb := h.hb
  unfold D166_place
  rw [h.f, nI_add, nI_add, vpT (by omega) (by decide), vpT (by omega) (by decide), nI_clamp (by omega), nI_clamp (by omega), Nat.add_zero, h.fr.1, h.fr.2.1, pk_mul, nI_add]
  exact ⟨trivial, trivial, k⟩
theorem M_top {Q : Int32 → Prop} {c : Nat} (h : GA b A0 I0 A I S F) (hc : c < zh S) (k : Q (zpk S c)) : D172_top (nI c) A I Q := by
  have hz := h.wf.hi
  have hb := h.hb
  unfold D172_top
  rw [h.f, nI_add, vpT (by omega) (by decide), nI_clamp (n := b + 30 + 21 * zt S + 2) (by omega), h.fr.2.2.1, nI_add, nI_add, pk_sub (by omega), pk_sub (by omega), vpT (by omega) (by decide), nI_clamp (by omega), show b + 30 + 21 * zt S + 9 + zh S - 1 - c = b + 30 + 21 * zt S + (3 + (6 + (zh S - 1 - c))) by omega, h.fr.2.2.2 _ (by omega)]
  exact ⟨trivial, trivial, k⟩
theorem M_ends {Q : Int32 → HA → HA → Prop} {x y z : Int32} {S' : zW} (h : GA b A0 I0 A I S F) (k : ∀ A' I', (∀ (S' : zW), zd S' = zd S → zo S' = x → zpl S' = y → zk S' = z → (x = nI 1 → A 1688 (b + 517) = zr S') → GE b A0 I0 A' I' S' F) → Q (nI 1) A' I') : D167_ends x y z A I Q := by
  have hb := h.hb
  unfold D167_ends
  rw [h.w, nI_add, nI_add, nI_add, vpT (by omega) (by decide), vpT (by omega) (by decide), vpT (by omega) (by decide), nI_clamp (by omega), nI_clamp (by omega), nI_clamp (by omega)]
  refine ⟨trivial, trivial, trivial, k _ _ (fun S' e1 e2 e3 e4 e5 => ⟨hb, ⟨h.w, ?_, ?_, ?_, ?_, ?_⟩, h.2.2.2.2.1.sa.sa.sa, ((h.2.2.2.2.2.sa ?_).sa ?_).sa ?_⟩)⟩
  · rw [sA_n (by omega), sA_n (by omega), sA_n (by omega), e1]; exact h.2.2.2.1.2.2.2.2.1
  · rw [sA_n (by omega), sA_n (by omega), sA_e, e2]
  · rw [sA_n (by omega), sA_e, e3]
  · rw [sA_e, e4]
  · intro e; rw [sA_n (by omega), sA_n (by omega), sA_n (by omega)]; exact e5 (e2 ▸ e)
  · unfold zMI; omega
  · unfold zMI; omega
  · unfold zMI; omega
theorem M_broken {Q : Int32 → HA → HA → Prop} (h : GA b A0 I0 A I S F) (k : ∀ A' I', GE b A0 I0 A' I' (zend S (nI 5) (zplace S)) F → Q (nI 1) A' I') : D165_broken A I Q := by
  unfold D165_broken
  exact M_place h (M_ends (S' := S) h (fun A' I' f => k _ _ (f _ rfl rfl rfl (h.2.2.1.trans nI_0.symm) (fun e => absurd e (by decide)))))
theorem M_pushX {Q : HA → HA → Prop} {x : Int32} (h : GA b A0 I0 A I S F) (hh : zh S < 12) (k : ∀ A', GA b A0 I0 A' I (zpush S x) F → Q A' I) : D171_push x A I Q := by
  have hz := h.wf.hi
  have hb := h.hb
  unfold D171_push
  rw [h.f, nI_add, nI_add, vpT (by omega) (by decide), nI_clamp (n := b + 30 + 21 * zt S + 2) (by omega), h.fr.2.2.1, nI_add, vpT (by omega) (by decide), nI_clamp (by omega), sA_n (by omega), h.fr.2.2.1, nI_add]
  refine ⟨trivial, trivial, trivial, trivial, k _ ?_⟩
  rw [show b + 30 + 21 * zt S + 9 + zh S = b + 30 + 21 * zt S + (3 + (6 + zh S)) by omega]
  have g : GA b A0 I0 (sA A 1688 (b + 30 + 21 * zt S + (3 + (6 + zh S))) x) I (sV S (zt S) (6 + zh S) x) F := h.set (by unfold zMI; omega) h.wf.V h.2.2.1 (repM_V h.2.2.2.1 h.wf _ _ _ hz.1 (by omega))
  refine g.set (by unfold zMI; omega) (g.wf.H (by omega)) h.2.2.1 (repM_H g.2.2.2.1 g.wf _ _ hz.1 (fun j hj => ?_) (by omega))
  by_cases e : j = 6 + zh S
  · subst e
    rw [sA_e]
    exact u2_e.symm
  · rw [sA_n (by omega), h.fr.2.2.2 j (by omega)]
    exact (u2_n (Or.inr e)).symm
theorem GA.drop (h : GA b A0 I0 A I S F) {c : Nat} : GA b A0 I0 (sA A 1688 (b + 30 + 21 * zt S + 2) (nI (zh S - c))) I (zdrop S c) F := by
  have hz := h.wf.hi
  exact h.set (by unfold zMI; omega) (h.wf.H (by omega)) h.2.2.1 (repM_H h.2.2.2.1 h.wf _ _ hz.1 (fun j hj => h.fr.2.2.2 j (by omega)) (by omega))
theorem GA.jump (h : GA b A0 I0 A I S F) {p : Nat} (hp : p ≤ 40) : GA b A0 I0 (sA A 1688 (b + 30 + 21 * zt S + 1) (nI p)) I (zjump S p) F := by
  have hz := h.wf.hi
  exact h.set (by unfold zMI; omega) (h.wf.P hp) h.2.2.1 (repM_P h.2.2.2.1 h.wf _ _ hz.1)
/-- next: goes c, comes nothing -/
theorem M_next0 {Q : Int32 → HA → HA → Prop} {c : Nat} (h : GA b A0 I0 A I S F) (hc : c ≤ zh S) (hp : zpc S < 40) (k : ∀ A', GA b A0 I0 A' I (znext (zdrop S c)) F → Q (nI 0) A' I) : D170_next (nI c) (-100) A I Q := by
  have hz := h.wf.hi
  have hb := h.hb
  unfold D170_next
  rw [h.f, nI_add, nI_add, if_pos rfl, vpT (by omega) (by decide), vpT (by omega) (by decide), nI_clamp (n := b + 30 + 21 * zt S + 2) (by omega), nI_clamp (n := b + 30 + 21 * zt S + 1) (by omega), h.fr.2.2.1, pk_sub (by omega), sA_n (by omega), h.fr.2.1, nI_add]
  exact ⟨trivial, trivial, trivial, trivial, k _ ((h.drop (c := c)).jump (p := zpc S + 1) (by omega))⟩
/-- next: goes c, comes v -/
theorem M_next1 {Q : Int32 → HA → HA → Prop} {c : Nat} {v : Int32} (h : GA b A0 I0 A I S F) (hv : ¬ v = -100) (hc : c ≤ zh S) (hh : zh S - c < 12) (hp : zpc S < 40) (k : ∀ A', GA b A0 I0 A' I (zfin S c v) F → Q (nI 0) A' I) : D170_next (nI c) v A I Q := by
  have hz := h.wf.hi
  have hb := h.hb
  unfold D170_next
  rw [h.f, nI_add, if_neg hv, vpT (by omega) (by decide), nI_clamp (n := b + 30 + 21 * zt S + 2) (by omega), h.fr.2.2.1, pk_sub (by omega)]
  refine ⟨trivial, trivial, M_pushX (h.drop (c := c)) (by rw [zh_drop]; exact hh) (fun A1 h1 => ?_)⟩
  have hf : I 1681 36 = nI (b + 30 + 21 * zt S) := h.f
  have f2 : A1 1688 (b + 30 + 21 * zt S + 1) = nI (zpc S) := h1.fr.2.1
  rw [hf, nI_add, vpT (by omega) (by decide), nI_clamp (by omega), f2, nI_add]
  exact ⟨trivial, trivial, k _ (h1.jump (p := zpc S + 1) (by omega))⟩
end RM
