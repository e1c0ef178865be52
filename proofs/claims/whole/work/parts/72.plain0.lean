/-! PLAIN RUNS: numbers alone -/
section PL
variable {w b : Nat} {A0 I0 A I : HA} {S : zW} {F : zF} {G : zG}
theorem znm.ok (h : znm S F) (hf : zfok F) (h6 : 256 ≤ F.1) : zok S F := zok.ff h h6 hf
/-- the plain run, pure -/
def zrp (G : zG) (bd : Nat) : Nat → zW → zF → zW
  | 0, S, _ => S
  | n + 1, S, F => if zd S = bd then zend S (nI 4) (zplace S) else if ¬ zpc S < gL G (zq S) then zend S (nI 5) (zplace S)
    else if (zoper G none F (zdone S)).1 = 0 then zrp G bd n (zoper G none F (zdone S)).2.1 F else (zoper G none F (zdone S)).2.1
theorem C_runP {Q : HA → HA → Prop} {bd n : Nat} (hg : gRC A0 I0 G) (hbd : bd ≤ 200) (h : GC w A0 I0 A I S F) (hf : zfok F) (hnm : znm S F) (ho : zo S = 0) (hd : zd S ≤ bd) (hn : bd < zd S + n) (hN : F.1 < 32258) (k : ∀ A' I', GC w A0 I0 A' I' (zrp G bd n S F) F → Q A' I') : (∀ P5 : Int32 → HA → HA → Prop, (∀ (a6 : Int32) (A10 I11 : HA), (if (nI 200) < a6 then Q A10 I11 else D57_comesToOne w (nI bd) A10 I11 (fun v13 A14 I15 => if v13 = 0 then Q A14 I15 else D58_stopsToSplit w A14 I15 (fun v16 A17 I18 => P5 (a6 + nI 1) A17 I18))) → P5 a6 A10 I11) → P5 (nI 0) A I) := by
  intro P hP
  have key : ∀ (n i : Nat) (A I : HA) (S : zW), GC w A0 I0 A I S F → znm S F → zo S = 0 → zd S ≤ bd → bd < zd S + n → i + (bd - zd S) ≤ 200 → (∀ A' I', GC w A0 I0 A' I' (zrp G bd n S F) F → Q A' I') → P (nI i) A I := by
    intro n
    induction n with
    | zero => intro i A I S _ _ _ h1 h2; exact absurd h2 (by omega)
    | succ n ih =>
      intro i A I S h hnm ho hd hn hi k
      have hz := h.wf.hi
      refine hP _ _ _ ?_
      rw [iLt (by decide) (by omega), if_neg (by omega)]
      unfold zrp at k
      refine C_come h hg hbd (fun z => absurd ho z) (fun _ z I' h' => ?_) (fun _ z z2 I' h' => ?_) (fun _ z z2 I' h' => ?_)
      · rw [i0]
        rw [if_pos (by omega)] at k
        exact k _ _ h'
      · rw [i0]
        rw [if_neg (by omega), if_pos z2] at k
        exact k _ _ h'
      · rw [i1]
        rw [if_neg (by omega), if_neg (fun y => y z2)] at k
        have nmd : znm (zdone S) F := hnm
        have pcd : zpc (zdone S) < gL G (zq (zdone S)) := z2
        obtain ⟨o1, o3, o4, o5, o7, o8⟩ := zoper_num hg.1 h'.wf nmd pcd
        refine C_step h' hg (nmd.ok hf (by have := h'.2.2.2.1.2.1; omega)) hN pcd ⟨fun r2 => absurd r2 (by omega), fun r2 A2 I2 h2 => ?_⟩
        show P (nI i + nI 1) A2 I2
        rw [nI_add]
        rw [o1] at h2
        by_cases r0 : (zoper G none F (zdone S)).1 = 0
        · rw [if_pos r0] at k
          have d1 : zd (zoper G none F (zdone S)).2.1 = zd S + 1 := o3.1
          exact ih (i + 1) _ _ _ h2 (o4 r0) ((o3.2 r0).trans ho) (by omega) (by omega) (by omega) k
        · have r1 : (zoper G none F (zdone S)).1 = 1 := by omega
          rw [if_neg r0] at k
          have e0 := o8 r1
          refine hP _ _ _ ?_
          rw [iLt (by decide) (by omega), if_neg (by omega)]
          refine C_come h2 hg hbd (fun _ => ?_) (fun y => absurd y e0) (fun y => absurd y e0) (fun y => absurd y e0)
          rw [i0]
          exact k _ _ h2
  exact key n 0 A I S h hnm ho hd hn (by omega) k
theorem M_runP {Q : Int32 → HA → HA → Prop} {bd n : Nat} (hg : gRM A0 I0 G) (hbd : bd ≤ 200) (hb18 : I0 1681 18 = nI bd) (hcn : I0 1681 31 = nI 0) (h : GA b A0 I0 A I S F) (hf : zfok F) (hnm : znm S F) (ho : zo S = 0) (hd : zd S ≤ bd) (hn : bd < zd S + n) (hN : F.1 < 32258)
    (k : ∀ A' I', GE b A0 I0 A' I' (zrp G bd n S F) F → Q (nI 1) A' I') : R162 (nI 0) A I Q := by
  unfold R162
  intro P hP
  have key : ∀ (n : Nat) (A I : HA) (S : zW), GA b A0 I0 A I S F → znm S F → zo S = 0 → zd S ≤ bd → bd < zd S + n → (∀ A' I', GE b A0 I0 A' I' (zrp G bd n S F) F → Q (nI 1) A' I') → P (nI 0) A I := by
    intro n
    induction n with
    | zero => intro A I S _ _ _ h1 h2; exact absurd h2 (by omega)
    | succ n ih =>
      intro A I S h hnm ho hd hn k
      have hz := h.wf.hi
      have hb := h.hb
      have g := h.loM hg
      have hl := (g.1.2.2 (zq S) hz.2.1).1
      have e18 : I 1681 18 = nI bd := by rw [h.2.2.2.2.2.2.2 1681 18 (by omega)]; exact hb18
      have e31 : I 1681 31 = nI 0 := by rw [h.2.2.2.2.2.2.2 1681 31 (by omega)]; exact hcn
      refine hP _ _ _ ?_
      rw [i0]
      refine M_frame hb h.w hz.1 h.t ?_
      rw [h.ff, h.w, nI_add, vpT (n := b + 1) (by omega) (by decide), nI_clamp (n := b + 1) (by omega), h.2.2.2.1.2.2.2.2.1, e18, iEq (by omega) (by omega)]
      refine ⟨trivial, ?_⟩
      unfold zrp at k
      by_cases c1 : zd S = bd
      · rw [if_pos c1] at k
        rw [if_pos c1]
        refine M_place h (M_ends (S' := S) h (fun A' I' f => ?_))
        refine hP _ _ _ ?_
        rw [i1]
        exact k _ _ (f _ rfl rfl rfl (h.2.2.1.trans nI_0.symm) (fun y => absurd y (by decide)))
      · rw [if_neg c1] at k ⊢
        rw [h.f, nI_add, nI_add, Nat.add_zero (b + 30 + 21 * zt S), vpT (n := b + 30 + 21 * zt S + 1) (by omega) (by decide), vpT (n := b + 30 + 21 * zt S) (by omega) (by decide), nI_clamp (n := b + 30 + 21 * zt S + 1) (by omega), nI_clamp (n := b + 30 + 21 * zt S) (by omega), h.fr.1, h.fr.2.1, vpT (n := zq S) (by omega) (by decide), nI_clamp (n := zq S) (by omega), (g.2.2.2 (zq S) hz.2.1).1, iLt (by omega) (by omega)]
        refine ⟨trivial, trivial, trivial, ?_⟩
        by_cases c2 : zpc S < gL G (zq S)
        · rw [if_neg (fun y => y c2)] at k
          rw [if_pos c2, e31]
          refine ⟨trivial, trivial, ?_⟩
          have nmd : znm (zdone S) F := hnm
          have pcd : zpc (zdone S) < gL G (zq (zdone S)) := c2
          have hd1 := h.done (by omega)
          rw [nI_add, i0]
          obtain ⟨o1, o3, o4, o5, o7, o8⟩ := zoper_num hg.1 hd1.wf nmd pcd
          show D163_operate (altv none) _ _ _
          refine M_step hd1 hg (nmd.ok hf (by have := h.2.2.2.2.1.2.1; omega)) hN pcd (fun c e => by cases e) ⟨⟨fun r0 A2 I2 h2 => ?_, fun r1 A2 I2 h2 => ?_⟩, fun r2 => absurd r2 (by omega)⟩
          · rw [if_pos r0] at k
            rw [o1] at h2
            have d1 : zd (zoper G none F (zdone S)).2.1 = zd S + 1 := o3.1
            exact ih _ _ _ h2 (o4 r0) ((o3.2 r0).trans ho) (by omega) (by omega) k
          · rw [if_neg (by omega)] at k
            rw [o1] at h2
            refine hP _ _ _ ?_
            rw [i1]
            exact k _ _ h2
        · rw [if_pos c2] at k
          rw [if_neg c2]
          refine M_broken h (fun A' I' h' => ?_)
          refine hP _ _ _ ?_
          rw [i1]
          exact k _ _ h'
  exact key n A I S h hnm ho hd hn k
/-- where a run begins -/
def zbeg (q : Nat) (x y : Int32) : zW := ((0, fun _ => q, fun _ => 0, fun _ => 0, fun _ j => if j = 0 then x else if j = 1 then y else -100), (0, fun _ => 0, fun _ _ => 0), (0, 0, 0, 0, 0))
theorem zbeg_wf {q : Nat} {x y : Int32} (hq : q < 6) : zwf (zbeg q x y) := ⟨by show 0 ≤ 3; decide, fun f _ => ⟨hq, by show 0 ≤ 40; decide, by show 0 ≤ 12; decide⟩, fun f hf => absurd hf (Nat.not_lt_zero f), by show 0 ≤ 4; decide, fun k hk => absurd hk (Nat.not_lt_zero k), by show 0 ≤ 200; decide⟩
theorem C_open {Q : HA → HA → Prop} {t : Nat} {x : Int32} (hw : isW w) (ht : t ≤ 3) (e : I w 4 = nI t)
    (k : ∀ A', (∀ a, ¬ (w + 1 ≤ a ∧ a ≤ w + 4) → A' a = A a) → A' (w + 1) t = x → A' (w + 2) t = nI 0 → A' (w + 3) t = nI 0 → (∀ j, j < 6 → A' (w + 4) (t * 18 + j) = -100) → Q A' I) : D117_openFrame w x A I Q := by
  have hf := hw.far
  unfold D117_openFrame
  rw [e, vpT (by omega) (by decide), nI_clamp (n := t) (by omega)]
  refine ⟨trivial, trivial, trivial, ?_⟩
  intro P hP
  have key : ∀ (m i : Nat) (A' : HA), m + i = 6 → (∀ a, ¬ (w + 1 ≤ a ∧ a ≤ w + 4) → A' a = A a) → A' (w + 1) t = x → A' (w + 2) t = nI 0 → A' (w + 3) t = nI 0 → (∀ j, j < i → A' (w + 4) (t * 18 + j) = -100) → P (nI i) A' I := by
    intro m
    induction m with
    | zero =>
      intro i A' hi h1 h2 h3 h4 h5
      refine hP _ _ _ ?_
      rw [iLt (by omega) (by decide), if_neg (by omega)]
      exact k A' h1 h2 h3 h4 (fun j hj => h5 j (by omega))
    | succ m ih =>
      intro i A' hi h1 h2 h3 h4 h5
      refine hP _ _ _ ?_
      rw [iLt (by omega) (by decide), if_pos (by omega), e, pk_mul, nI_add, vpT (by omega) (by decide), nI_clamp (by omega), nI_add]
      refine ⟨trivial, ih (i + 1) _ (by omega) (fun a ha => by rw [sA_na (by omega)]; exact h1 a ha) (by rw [sA_na (by omega)]; exact h2) (by rw [sA_na (by omega)]; exact h3) (by rw [sA_na (by omega)]; exact h4) (fun j hj => ?_)⟩
      by_cases e2 : j = i
      · subst e2; rw [sA_e]
      · rw [sA_n (by omega)]; exact h5 j (by omega)
  exact key 6 0 _ (by omega) (fun a ha => by rw [sA_na (by omega), sA_na (by omega), sA_na (by omega)]) (by rw [sA_na (by omega), sA_na (by omega), sA_e]) (by rw [sA_na (by omega), sA_e]) sA_e (fun j hj => absurd hj (by omega))
theorem C_begin {Q : HA → HA → Prop} {q : Nat} {x y : Int32} (hw : isW w) (hq : q < 6) (hF : zFC A I F) (k : ∀ A' I', GC w (sF A (w + 9) (-1) 32) (sI (sI (sI I w 9 (nI 0)) w 16 (-1)) w 17 (nI 0)) A' I' (zbeg q x y) F → Q A' I') : D116_begin w (nI q) x y A I Q := by
  have hf := hw.far
  unfold D116_begin
  refine C_open hw (Nat.zero_le _) sI_e (fun A1 a1 a2 a3 a4 a5 => ?_)
  rw [vpT (by omega) (by decide), vpT (by omega) (by decide), nI_clamp (n := 0) (by omega), nI_clamp (n := 1) (by omega)]
  refine ⟨trivial, trivial, ?_⟩
  unfold D36_addAll
  refine k _ _ ?_
  have sFn : ∀ (B : HA) a, a ≠ w + 8 + 1 → sF B (w + 8 + 1) (-1) 32 a = B a := fun B a ha => by unfold sF; rw [va_up_ne _ _ ha]
  have sFn9 : ∀ (B : HA) a, a ≠ w + 9 → sF B (w + 9) (-1) 32 a = B a := fun B a ha => by unfold sF; rw [va_up_ne _ _ ha]
  refine ⟨hw, zbeg_wf hq, ?_, ?_, fun a n1 n2 => ?_, fun a j n1 n2 => ?_⟩
  · refine ⟨?_, ?_, ?_, ?_, ?_, ?_, ?_, fun f hf' => ?_, fun k hk => absurd hk (Nat.not_lt_zero k)⟩
    · rw [sI_n (by omega), sI_n (by omega), sI_n (by omega), sI_n (by omega), sI_n (by omega), sI_n (by omega), sI_n (by omega), sI_n (by omega), sI_n (by omega), sI_e]; rfl
    · rw [sI_n (by omega), sI_n (by omega), sI_n (by omega), sI_n (by omega), sI_n (by omega), sI_n (by omega), sI_n (by omega), sI_n (by omega), sI_e]; rfl
    · rw [sI_n (by omega), sI_n (by omega), sI_n (by omega), sI_n (by omega), sI_n (by omega), sI_n (by omega), sI_e]; rfl
    · rw [sI_n (by omega), sI_n (by omega), sI_n (by omega), sI_n (by omega), sI_n (by omega), sI_e]; rfl
    · rw [sI_n (by omega), sI_n (by omega), sI_n (by omega), sI_n (by omega), sI_e]; rfl
    · rw [sI_n (by omega), sI_n (by omega), sI_n (by omega), sI_e]; rfl
    · rw [sI_n (by omega), sI_n (by omega), sI_e]; rfl
    · have hf' : f ≤ 0 := hf'
      obtain rfl : f = 0 := by omega
      rw [sFn _ _ (by omega), sFn _ _ (by omega), sFn _ _ (by omega), sFn _ _ (by omega), sA_na (by omega), sA_na (by omega), sA_na (by omega), sA_na (by omega), sA_na (by omega), sA_na (by omega)]
      refine ⟨a2, a3, a4, fun j hj => ?_⟩
      have hj : j < 6 + 0 := hj
      show _ = if j = 0 then x else if j = 1 then y else -100
      by_cases e0 : j = 0
      · subst e0; rw [sA_n (by omega), if_pos rfl]; exact sA_e
      · by_cases e1 : j = 1
        · subst e1; rw [if_neg (by decide), if_pos rfl]; exact sA_e
        · rw [sA_n (by omega), sA_n (by omega), if_neg e0, if_neg e1]; exact a5 j (by omega)
  · unfold zFC at hF ⊢
    rw [sFn _ _ (by omega), sFn _ _ (by omega), sFn _ _ (by omega), sFn _ _ (by omega), sA_na (by omega), sA_na (by omega), sA_na (by omega), sA_na (by omega), sA_na (by omega), sA_na (by omega), sA_na (by omega), sA_na (by omega), a1 33 (by omega), a1 34 (by omega), a1 35 (by omega), a1 36 (by omega), sI_na (by omega), sI_na (by omega), sI_na (by omega), sI_na (by omega), sI_na (by omega), sI_na (by omega), sI_na (by omega), sI_na (by omega), sI_na (by omega), sI_na (by omega)]
    exact hF
  · by_cases e : a = w + 9
    · subst e
      unfold sF
      rw [show w + 8 + 1 = w + 9 from rfl, va_up_self, va_up_self, sA_na (by omega), sA_na (by omega), a1 _ (by omega)]
    · rw [sFn _ _ (by omega), sFn9 _ _ e, sA_na (by omega), sA_na (by omega)]
      exact a1 a (by omega)
  · by_cases e : a = w
    · subst e
      by_cases e17 : j = 17
      · subst e17; rw [sI_e, sI_e]
      · by_cases e16 : j = 16
        · subst e16; rw [sI_n (by omega), sI_e, sI_n (by omega), sI_e]
        · by_cases e9 : j = 9
          · subst e9
            rw [sI_n (by omega), sI_n (by omega), sI_n (by omega), sI_n (by omega), sI_n (by omega), sI_n (by omega), sI_n (by omega), sI_e, sI_n (by omega), sI_n (by omega), sI_e]
          · rw [sI_n (by omega), sI_n (by omega), sI_n (by omega), sI_n (by omega), sI_n (by omega), sI_n (by omega), sI_n (by omega), sI_n (by omega), sI_n (by omega), sI_n (by omega), sI_n (by omega), sI_n (by omega), sI_n (by omega)]
    · rw [sI_na e, sI_na e, sI_na e, sI_na e, sI_na e, sI_na e, sI_na e, sI_na e, sI_na e, sI_na e, sI_na e, sI_na e, sI_na e]
end PL
