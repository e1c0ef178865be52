/-! THE CLASS does one operation as the pure one: no alternative given -/
section CSs
variable {w : Nat} {A0 I0 A I : HA} {S : zW} {F : zF} {G : zG} {Q : Int32 → HA → HA → Prop}
abbrev CSk (w : Nat) (A0 I0 : HA) (r : Nat × zW × zF) (A I : HA) (Q : Int32 → HA → HA → Prop) : Prop := (r.1 = 2 → Q (nI 1) A I) ∧ (¬ r.1 = 2 → rC w A0 I0 r (Q (nI 0)))
theorem CSk.go {r : Nat × zW × zF} (k : CSk w A0 I0 (zoper G none F S) A I Q) (e : zoper G none F S = r) (hr : ¬ r.1 = 2) : rC w A0 I0 r (Q (nI 0)) := by subst e; exact k.2 hr
theorem zcm_n {S : zW} {c : Nat} {v : Int32 × zF} : ¬ (zcm S c v).1 = 2 := by unfold zcm; split <;> (intro e; cases e)
theorem zrai_n {kd : Nat} {pl : Int32} : ∀ (m : Nat) (S : zW), ¬ (zrai G kd pl m S).1 = 2
  | 0, S => by unfold zrai; split <;> (intro e; cases e)
  | m + 1, S => by
    unfold zrai
    split
    · intro e; cases e
    · exact zrai_n m _
theorem zthr_n {kd : Nat} : ¬ (zthr G F S kd).1 = 2 := zrai_n _ _
theorem CSk.bk (k : CSk w A0 I0 (zoper G none F S) A I Q) (e : zoper G none F S = zbrk F S) : ∀ A' I', GC w A0 I0 A' I' (zend S (nI 5) (zplace S)) F → Q (nI 0) A' I' := k.go e (by intro e; cases e)
theorem CSk.sp (k : CSk w A0 I0 (zoper G none F S) A I Q) (e : zoper G none F S = (2, S, F)) : Q (nI 1) A I := k.1 (by rw [e])
theorem g_num {K : Nat} (hg : gRC A0 I0 G) (hz : zwf S) (hp : zpc S < gL G (zq S)) (ho : gO G (zq S) (zpc S) = K) : rgP K (gU G (zq S) (zpc S)) := by
  have := ((hg.1.2.2 (zq S) hz.hi.2.1).2.2.1 (zpc S) hp).2
  rw [ho] at this
  exact this
theorem g_pc (hg : gRC A0 I0 G) (hz : zwf S) (hp : zpc S < gL G (zq S)) : zpc S < 40 := by
  have := (hg.1.2.2 (zq S) hz.hi.2.1).1
  omega
theorem rg_nat {a : Int32} {lo m : Nat} (h : nI lo ≤ a ∧ a ≤ nI m) (hm : m < 1000) (hl : lo ≤ m) : ∃ j, lo ≤ j ∧ j ≤ m ∧ a = nI j := by
  have h0 : ¬ a < 0 := fun z => nI_pos (n := lo) (by omega) (Int32.lt_of_le_of_lt h.1 z)
  obtain ⟨j, hj, rfl⟩ := nI_of h0
  exact ⟨j, (nI_leI (by omega) hj).mp h.1, (nI_leI hj (by omega)).mp h.2, rfl⟩
set_option maxRecDepth 100000 in
theorem cs_0 (h : GC w A0 I0 A I S F) (hg : gRC A0 I0 G) (hok : zok S F) (hN : F.1 < 32258) (hp : zpc S < gL G (zq S)) (ho : gO G (zq S) (zpc S) = 0) (k : CSk w A0 I0 (zoper G none F S) A I Q) : D58_stopsToSplit w A I Q := by
  have hz := h.wf.hi
  have h40 := g_pc hg h.wf hp
  have hr := g_num hg h.wf hp ho
  have e := zo_0 (alt := none) (F := F) ho
  refine cs_pre h hg hp ho (by decide) (by decide) (fun z => absurd z (by decide)) (fun z => ?_) (fun z => r58_0 ?_)
  · rw [zb_no rfl (by decide)] at z
    exact k.bk (by rw [e, if_pos (by have z : 12 < zh S + 1 := z; omega)])
  · rw [zb_no rfl (by decide)] at z
    have z : ¬ 12 < zh S + 1 := z
    rw [if_neg (by omega)] at e
    have k := k.go e (by intro y; cases y)
    refine C_move h hg (by decide) (fun v1 v2 A' e1 e2 h' => ?_)
    simp (decide := true) only [reduceIte]
    show D27_number _ _
    unfold D27_number
    rw [subE]
    exact C_push h' (by rw [zh_drop]; omega) (fun A1 h1 => C_next h1 h40 (fun A2 h2 => k _ _ h2))
set_option maxRecDepth 100000 in
theorem cs_1 (h : GC w A0 I0 A I S F) (hg : gRC A0 I0 G) (hok : zok S F) (hN : F.1 < 32258) (hp : zpc S < gL G (zq S)) (ho : gO G (zq S) (zpc S) = 1) (k : CSk w A0 I0 (zoper G none F S) A I Q) : D58_stopsToSplit w A I Q := by
  have hz := h.wf.hi
  have h40 := g_pc hg h.wf hp
  have hr := g_num hg h.wf hp ho
  have e := zo_1 (alt := none) (F := F) ho
  refine cs_pre h hg hp ho (by decide) (by decide) (fun z => absurd z (by decide)) (fun z => ?_) (fun z => r58_1 ?_)
  · have y : zh S = 12 ∨ zV S (zt S) (gU G (zq S) (zpc S)).toNatClampNeg = -100 := ?_
    · exact k.bk (by rw [e, if_pos y])
    rcases z with y | y | y | y
    · exact absurd y (Nat.not_lt_zero _)
    · have y : 12 < zh S - 0 + 1 := y
      exact Or.inl (by omega)
    · exact Or.inr y.2
    · exact absurd (Or.inl (by decide)) y.1
  · obtain ⟨i, -, i2, ei⟩ := rg_nat hr (by decide) (by decide)
    rw [ei] at z e ⊢
    rw [nI_clamp (by omega)] at e
    have z1 : zh S < 12 := Decidable.byContradiction fun y => z (Or.inr (Or.inl (by show 12 < zh S - 0 + 1; omega)))
    have z2 : ¬ zV S (zt S) i = -100 := fun y => z (Or.inr (Or.inr (Or.inl ⟨rfl, by rw [nI_clamp (by omega)]; exact y⟩)))
    rw [if_neg (by rintro (y | y); omega; exact z2 y)] at e
    have k := k.go e (by intro y; cases y)
    refine C_move h hg (by decide) (fun v1 v2 A' e1 e2 h' => ?_)
    simp (decide := true) only [reduceIte]
    show D137_localAt _ _ _ _ _
    exact C_localAt h' (by omega) (C_push h' (by rw [zh_drop]; show zh S - 0 < 12; omega) (fun A1 h1 => C_next h1 h40 (fun A2 h2 => k _ _ h2)))
set_option maxRecDepth 100000 in
theorem cs_2 (h : GC w A0 I0 A I S F) (hg : gRC A0 I0 G) (hok : zok S F) (hN : F.1 < 32258) (hp : zpc S < gL G (zq S)) (ho : gO G (zq S) (zpc S) = 2) (k : CSk w A0 I0 (zoper G none F S) A I Q) : D58_stopsToSplit w A I Q := by
  have hz := h.wf.hi
  have h40 := g_pc hg h.wf hp
  have hr := g_num hg h.wf hp ho
  have e := zo_2 (alt := none) (F := F) ho
  refine cs_pre h hg hp ho (by decide) (by decide) (fun z => absurd z (by decide)) (fun z => ?_) (fun z => r58_2 ?_)
  · rw [zb_any (by decide) (by decide)] at z
    have z : zh S < 1 ∨ 12 < zh S - 1 + 0 := z
    exact k.bk (by rw [e, if_pos (by omega)])
  · rw [zb_any (by decide) (by decide)] at z
    have z : ¬ (zh S < 1 ∨ 12 < zh S - 1 + 0) := z
    obtain ⟨i, -, i2, ei⟩ := rg_nat hr (by decide) (by decide)
    rw [ei] at e ⊢
    rw [nI_clamp (by omega), if_neg (by omega)] at e
    have k := k.go e (by intro y; cases y)
    refine C_move h hg (by decide) (fun v1 v2 A' e1 e2 h' => ?_)
    simp (decide := true) only [reduceIte]
    show D138_keepLocal _ _ _ _ _ _
    rw [e1 (by omega)]
    exact C_keepLocal h' (by omega) (fun A1 h1 => C_next h1 h40 (fun A2 h2 => k _ _ h2))
set_option maxRecDepth 100000 in
theorem cs_3 (h : GC w A0 I0 A I S F) (hg : gRC A0 I0 G) (hok : zok S F) (hN : F.1 < 32258) (hp : zpc S < gL G (zq S)) (ho : gO G (zq S) (zpc S) = 3) (k : CSk w A0 I0 (zoper G none F S) A I Q) : D58_stopsToSplit w A I Q := by
  have hz := h.wf.hi
  have h40 := g_pc hg h.wf hp
  have hr := g_num hg h.wf hp ho
  have e := zo_3 (alt := none) (F := F) ho
  refine cs_pre h hg hp ho (by decide) (by decide) (fun z => absurd z (by decide)) (fun z => ?_) (fun z => r58_3 ?_)
  · rw [zb_any (by decide) (by decide)] at z
    have z : zh S < 1 ∨ 12 < zh S - 1 + 0 := z
    exact k.bk (by rw [e, if_pos (by omega)])
  · rw [zb_any (by decide) (by decide)] at z
    have z : ¬ (zh S < 1 ∨ 12 < zh S - 1 + 0) := z
    rw [if_neg (by omega)] at e
    have k := k.go e (by intro y; cases y)
    refine C_move h hg (by decide) (fun v1 v2 A' e1 e2 h' => ?_)
    simp (decide := true) only [reduceIte]
    show D134_next _ _ _ _
    exact C_next h' h40 (fun A2 h2 => k _ _ h2)
set_option maxRecDepth 100000 in
theorem cs_4 (h : GC w A0 I0 A I S F) (hg : gRC A0 I0 G) (hok : zok S F) (hN : F.1 < 32258) (hp : zpc S < gL G (zq S)) (ho : gO G (zq S) (zpc S) = 4) (k : CSk w A0 I0 (zoper G none F S) A I Q) : D58_stopsToSplit w A I Q := by
  have hz := h.wf.hi
  have h40 := g_pc hg h.wf hp
  have hr := g_num hg h.wf hp ho
  have e := zo_4 (alt := none) (F := F) ho
  refine cs_pre h hg hp ho (by decide) (by decide) (fun z => absurd z (by decide)) (fun z => ?_) (fun z => r58_4 ?_)
  · rw [zb_any (by decide) (by decide)] at z
    have z : zh S < 1 ∨ 12 < zh S - 1 + 2 := z
    exact k.bk (by rw [e, if_pos (by omega)])
  · rw [zb_any (by decide) (by decide)] at z
    have z : ¬ (zh S < 1 ∨ 12 < zh S - 1 + 2) := z
    rw [if_neg (by omega)] at e
    have k := k.go e (by intro y; cases y)
    refine C_move h hg (by decide) (fun v1 v2 A' e1 e2 h' => ?_)
    simp (decide := true) only [reduceIte]
    show D126_push _ _ _ _ _
    rw [e1 (by omega)]
    exact C_push h' (by rw [zh_drop]; show zh S - 1 < 12; omega) (fun A1 h1 => C_push h1 (by rw [zh_push, zh_drop]; show zh S - 1 + 1 < 12; omega) (fun A2 h2 => C_next h2 h40 (fun A3 h3 => k _ _ h3)))
set_option maxRecDepth 100000 in
theorem cs_5 (h : GC w A0 I0 A I S F) (hg : gRC A0 I0 G) (hok : zok S F) (hN : F.1 < 32258) (hp : zpc S < gL G (zq S)) (ho : gO G (zq S) (zpc S) = 5) (k : CSk w A0 I0 (zoper G none F S) A I Q) : D58_stopsToSplit w A I Q := by
  have hz := h.wf.hi
  have h40 := g_pc hg h.wf hp
  have hr := g_num hg h.wf hp ho
  have e := zo_5 (alt := none) (F := F) ho
  refine cs_pre h hg hp ho (by decide) (by decide) (fun z => absurd z (by decide)) (fun z => ?_) (fun z => r58_5 ?_)
  · rw [zb_any (by decide) (by decide)] at z
    have z : zh S < 2 ∨ 12 < zh S - 2 + 2 := z
    exact k.bk (by rw [e, if_pos (by omega)])
  · rw [zb_any (by decide) (by decide)] at z
    have z : ¬ (zh S < 2 ∨ 12 < zh S - 2 + 2) := z
    rw [if_neg (by omega)] at e
    have k := k.go e (by intro y; cases y)
    refine C_move h hg (by decide) (fun v1 v2 A' e1 e2 h' => ?_)
    simp (decide := true) only [reduceIte]
    show D126_push _ _ _ _ _
    rw [e1 (by omega), e2 (by omega)]
    exact C_push h' (by rw [zh_drop]; show zh S - 2 < 12; omega) (fun A1 h1 => C_push h1 (by rw [zh_push, zh_drop]; show zh S - 2 + 1 < 12; omega) (fun A2 h2 => C_next h2 h40 (fun A3 h3 => k _ _ h3)))
set_option maxRecDepth 100000 in
theorem cs_28 (h : GC w A0 I0 A I S F) (hg : gRC A0 I0 G) (hok : zok S F) (hN : F.1 < 32258) (hp : zpc S < gL G (zq S)) (ho : gO G (zq S) (zpc S) = 28) (k : CSk w A0 I0 (zoper G none F S) A I Q) : D58_stopsToSplit w A I Q := by
  have hz := h.wf.hi
  have h40 := g_pc hg h.wf hp
  have hr := g_num hg h.wf hp ho
  have e := zo_28 (alt := none) (F := F) ho
  refine cs_pre h hg hp ho (by decide) (by decide) (fun z => absurd z (by decide)) (fun z => ?_) (fun z => r58_28 ?_)
  · rw [zb_no rfl (by decide)] at z
    exact k.bk (by rw [e, if_pos (by have z : 12 < zh S + 1 := z; omega)])
  · rw [zb_no rfl (by decide)] at z
    have z : ¬ 12 < zh S + 1 := z
    rw [if_neg (by omega)] at e
    have k := k.go e (by intro y; cases y)
    refine C_move h hg (by decide) (fun v1 v2 A' e1 e2 h' => ?_)
    simp (decide := true) only [reduceIte]
    show D126_push _ _ _ _ _
    exact C_push h' (by rw [zh_drop]; omega) (fun A1 h1 => C_next h1 h40 (fun A2 h2 => k _ _ h2))
set_option maxRecDepth 100000 in
theorem cs_6 (h : GC w A0 I0 A I S F) (hg : gRC A0 I0 G) (hok : zok S F) (hN : F.1 < 32258) (hp : zpc S < gL G (zq S)) (ho : gO G (zq S) (zpc S) = 6) (k : CSk w A0 I0 (zoper G none F S) A I Q) : D58_stopsToSplit w A I Q := by
  have hz := h.wf.hi
  have h40 := g_pc hg h.wf hp
  have hr := g_num hg h.wf hp ho
  have e := zo_6 (alt := none) (F := F) ho
  refine cs_pre h hg hp ho (by decide) (by decide) (fun z => absurd z (by decide)) (fun z => ?_) (fun z => r58_6 ?_)
  · rw [zb_w2 hz.2.2.2 rfl (by decide) (by decide) (by unfold rfo; decide) (by decide)] at z
    exact k.bk (by rw [e, if_pos z])
  · rw [zb_w2 hz.2.2.2 rfl (by decide) (by decide) (by unfold rfo; decide) (by decide)] at z
    rw [if_neg z] at e
    have k := k.go e zcm_n
    exact C_compute2 h hg hok hN ⟨by decide, by decide, by decide⟩ (by omega) (fun y => z (Or.inr (Or.inl y))) (fun y => z (Or.inr (Or.inr y))) h40 k
set_option maxRecDepth 100000 in
theorem cs_7 (h : GC w A0 I0 A I S F) (hg : gRC A0 I0 G) (hok : zok S F) (hN : F.1 < 32258) (hp : zpc S < gL G (zq S)) (ho : gO G (zq S) (zpc S) = 7) (k : CSk w A0 I0 (zoper G none F S) A I Q) : D58_stopsToSplit w A I Q := by
  have hz := h.wf.hi
  have h40 := g_pc hg h.wf hp
  have hr := g_num hg h.wf hp ho
  have e := zo_7 (alt := none) (F := F) ho
  refine cs_pre h hg hp ho (by decide) (by decide) (fun z => absurd z (by decide)) (fun z => ?_) (fun z => r58_7 ?_)
  · rw [zb_w2 hz.2.2.2 rfl (by decide) (by decide) (by unfold rfo; decide) (by decide)] at z
    exact k.bk (by rw [e, if_pos z])
  · rw [zb_w2 hz.2.2.2 rfl (by decide) (by decide) (by unfold rfo; decide) (by decide)] at z
    rw [if_neg z] at e
    have k := k.go e zcm_n
    exact C_compute2 h hg hok hN ⟨by decide, by decide, by decide⟩ (by omega) (fun y => z (Or.inr (Or.inl y))) (fun y => z (Or.inr (Or.inr y))) h40 k
set_option maxRecDepth 100000 in
theorem cs_8 (h : GC w A0 I0 A I S F) (hg : gRC A0 I0 G) (hok : zok S F) (hN : F.1 < 32258) (hp : zpc S < gL G (zq S)) (ho : gO G (zq S) (zpc S) = 8) (k : CSk w A0 I0 (zoper G none F S) A I Q) : D58_stopsToSplit w A I Q := by
  have hz := h.wf.hi
  have h40 := g_pc hg h.wf hp
  have hr := g_num hg h.wf hp ho
  have e := zo_8 (alt := none) (F := F) ho
  refine cs_pre h hg hp ho (by decide) (by decide) (fun z => absurd z (by decide)) (fun z => ?_) (fun z => r58_8 ?_)
  · rw [zb_w2 hz.2.2.2 rfl (by decide) (by decide) (by unfold rfo; decide) (by decide)] at z
    exact k.bk (by rw [e, if_pos z])
  · rw [zb_w2 hz.2.2.2 rfl (by decide) (by decide) (by unfold rfo; decide) (by decide)] at z
    rw [if_neg z] at e
    have k := k.go e zcm_n
    exact C_compute2 h hg hok hN ⟨by decide, by decide, by decide⟩ (by omega) (fun y => z (Or.inr (Or.inl y))) (fun y => z (Or.inr (Or.inr y))) h40 k
set_option maxRecDepth 100000 in
theorem cs_12 (h : GC w A0 I0 A I S F) (hg : gRC A0 I0 G) (hok : zok S F) (hN : F.1 < 32258) (hp : zpc S < gL G (zq S)) (ho : gO G (zq S) (zpc S) = 12) (k : CSk w A0 I0 (zoper G none F S) A I Q) : D58_stopsToSplit w A I Q := by
  have hz := h.wf.hi
  have h40 := g_pc hg h.wf hp
  have hr := g_num hg h.wf hp ho
  have e := zo_12 (alt := none) (F := F) ho
  refine cs_pre h hg hp ho (by decide) (by decide) (fun z => absurd z (by decide)) (fun z => ?_) (fun z => r58_12 ?_)
  · rw [zb_w2 hz.2.2.2 rfl (by decide) (by decide) (by unfold rfo; decide) (by decide)] at z
    exact k.bk (by rw [e, if_pos z])
  · rw [zb_w2 hz.2.2.2 rfl (by decide) (by decide) (by unfold rfo; decide) (by decide)] at z
    rw [if_neg z] at e
    have k := k.go e zcm_n
    exact C_compute2 h hg hok hN ⟨by decide, by decide, by decide⟩ (by omega) (fun y => z (Or.inr (Or.inl y))) (fun y => z (Or.inr (Or.inr y))) h40 k
set_option maxRecDepth 100000 in
theorem cs_13 (h : GC w A0 I0 A I S F) (hg : gRC A0 I0 G) (hok : zok S F) (hN : F.1 < 32258) (hp : zpc S < gL G (zq S)) (ho : gO G (zq S) (zpc S) = 13) (k : CSk w A0 I0 (zoper G none F S) A I Q) : D58_stopsToSplit w A I Q := by
  have hz := h.wf.hi
  have h40 := g_pc hg h.wf hp
  have hr := g_num hg h.wf hp ho
  have e := zo_13 (alt := none) (F := F) ho
  refine cs_pre h hg hp ho (by decide) (by decide) (fun z => absurd z (by decide)) (fun z => ?_) (fun z => r58_13 ?_)
  · rw [zb_w2 hz.2.2.2 rfl (by decide) (by decide) (by unfold rfo; decide) (by decide)] at z
    exact k.bk (by rw [e, if_pos z])
  · rw [zb_w2 hz.2.2.2 rfl (by decide) (by decide) (by unfold rfo; decide) (by decide)] at z
    rw [if_neg z] at e
    have k := k.go e zcm_n
    exact C_compute2 h hg hok hN ⟨by decide, by decide, by decide⟩ (by omega) (fun y => z (Or.inr (Or.inl y))) (fun y => z (Or.inr (Or.inr y))) h40 k
set_option maxRecDepth 100000 in
theorem cs_14 (h : GC w A0 I0 A I S F) (hg : gRC A0 I0 G) (hok : zok S F) (hN : F.1 < 32258) (hp : zpc S < gL G (zq S)) (ho : gO G (zq S) (zpc S) = 14) (k : CSk w A0 I0 (zoper G none F S) A I Q) : D58_stopsToSplit w A I Q := by
  have hz := h.wf.hi
  have h40 := g_pc hg h.wf hp
  have hr := g_num hg h.wf hp ho
  have e := zo_14 (alt := none) (F := F) ho
  refine cs_pre h hg hp ho (by decide) (by decide) (fun z => absurd z (by decide)) (fun z => ?_) (fun z => r58_14 ?_)
  · rw [zb_w2 hz.2.2.2 rfl (by decide) (by decide) (by unfold rfo; decide) (by decide)] at z
    exact k.bk (by rw [e, if_pos z])
  · rw [zb_w2 hz.2.2.2 rfl (by decide) (by decide) (by unfold rfo; decide) (by decide)] at z
    rw [if_neg z] at e
    have k := k.go e zcm_n
    exact C_compute2 h hg hok hN ⟨by decide, by decide, by decide⟩ (by omega) (fun y => z (Or.inr (Or.inl y))) (fun y => z (Or.inr (Or.inr y))) h40 k
set_option maxRecDepth 100000 in
theorem cs_15 (h : GC w A0 I0 A I S F) (hg : gRC A0 I0 G) (hok : zok S F) (hN : F.1 < 32258) (hp : zpc S < gL G (zq S)) (ho : gO G (zq S) (zpc S) = 15) (k : CSk w A0 I0 (zoper G none F S) A I Q) : D58_stopsToSplit w A I Q := by
  have hz := h.wf.hi
  have h40 := g_pc hg h.wf hp
  have hr := g_num hg h.wf hp ho
  have e := zo_15 (alt := none) (F := F) ho
  refine cs_pre h hg hp ho (by decide) (by decide) (fun z => absurd z (by decide)) (fun z => ?_) (fun z => r58_15 ?_)
  · rw [zb_w2 hz.2.2.2 rfl (by decide) (by decide) (by unfold rfo; decide) (by decide)] at z
    exact k.bk (by rw [e, if_pos z])
  · rw [zb_w2 hz.2.2.2 rfl (by decide) (by decide) (by unfold rfo; decide) (by decide)] at z
    rw [if_neg z] at e
    have k := k.go e zcm_n
    exact C_compute2 h hg hok hN ⟨by decide, by decide, by decide⟩ (by omega) (fun y => z (Or.inr (Or.inl y))) (fun y => z (Or.inr (Or.inr y))) h40 k
set_option maxRecDepth 100000 in
theorem cs_16 (h : GC w A0 I0 A I S F) (hg : gRC A0 I0 G) (hok : zok S F) (hN : F.1 < 32258) (hp : zpc S < gL G (zq S)) (ho : gO G (zq S) (zpc S) = 16) (k : CSk w A0 I0 (zoper G none F S) A I Q) : D58_stopsToSplit w A I Q := by
  have hz := h.wf.hi
  have h40 := g_pc hg h.wf hp
  have hr := g_num hg h.wf hp ho
  have e := zo_16 (alt := none) (F := F) ho
  refine cs_pre h hg hp ho (by decide) (by decide) (fun z => absurd z (by decide)) (fun z => ?_) (fun z => r58_16 ?_)
  · rw [zb_w2 hz.2.2.2 rfl (by decide) (by decide) (by unfold rfo; decide) (by decide)] at z
    exact k.bk (by rw [e, if_pos z])
  · rw [zb_w2 hz.2.2.2 rfl (by decide) (by decide) (by unfold rfo; decide) (by decide)] at z
    rw [if_neg z] at e
    have k := k.go e zcm_n
    exact C_compute2 h hg hok hN ⟨by decide, by decide, by decide⟩ (by omega) (fun y => z (Or.inr (Or.inl y))) (fun y => z (Or.inr (Or.inr y))) h40 k
set_option maxRecDepth 100000 in
theorem cs_11 (h : GC w A0 I0 A I S F) (hg : gRC A0 I0 G) (hok : zok S F) (hN : F.1 < 32258) (hp : zpc S < gL G (zq S)) (ho : gO G (zq S) (zpc S) = 11) (k : CSk w A0 I0 (zoper G none F S) A I Q) : D58_stopsToSplit w A I Q := by
  have hz := h.wf.hi
  have h40 := g_pc hg h.wf hp
  have hr := g_num hg h.wf hp ho
  have e := zo_11 (alt := none) (F := F) ho
  refine cs_pre h hg hp ho (by decide) (by decide) (fun z => absurd z (by decide)) (fun z => ?_) (fun z => r58_11 ?_)
  · rw [zb_w1 hz.2.2.2 rfl (by decide) (by decide) (by unfold rfo; decide) (by decide)] at z
    exact k.bk (by rw [e, if_pos z])
  · rw [zb_w1 hz.2.2.2 rfl (by decide) (by decide) (by unfold rfo; decide) (by decide)] at z
    rw [if_neg z] at e
    have k := k.go e zcm_n
    exact C_compute1 h hg hok hN (by decide) (by omega) (fun y => z (Or.inr y)) h40 k
set_option maxRecDepth 100000 in
theorem cs_17 (h : GC w A0 I0 A I S F) (hg : gRC A0 I0 G) (hok : zok S F) (hN : F.1 < 32258) (hp : zpc S < gL G (zq S)) (ho : gO G (zq S) (zpc S) = 17) (k : CSk w A0 I0 (zoper G none F S) A I Q) : D58_stopsToSplit w A I Q := by
  have hz := h.wf.hi
  have h40 := g_pc hg h.wf hp
  have hr := g_num hg h.wf hp ho
  have e := zo_17 (alt := none) (F := F) ho
  refine cs_pre h hg hp ho (by decide) (by decide) (fun z => absurd z (by decide)) (fun z => ?_) (fun z => r58_17 ?_)
  · rw [zb_no rfl (by decide)] at z
    have z : 12 < zh S + 0 := z
    omega
  · obtain ⟨i, -, i2, ei⟩ := rg_nat hr (by decide) (by decide)
    rw [ei] at e ⊢
    rw [nI_clamp (by omega)] at e
    have k := k.go e (by intro y; cases y)
    unfold D68_goElsewhere
    simp (decide := true) only [reduceIte]
    exact C_jump h (by omega) (fun A2 h2 => k _ _ h2)
set_option maxRecDepth 100000 in
theorem cs_20 (h : GC w A0 I0 A I S F) (hg : gRC A0 I0 G) (hok : zok S F) (hN : F.1 < 32258) (hp : zpc S < gL G (zq S)) (ho : gO G (zq S) (zpc S) = 20) (k : CSk w A0 I0 (zoper G none F S) A I Q) : D58_stopsToSplit w A I Q := by
  have hz := h.wf.hi
  have h40 := g_pc hg h.wf hp
  have hr := g_num hg h.wf hp ho
  have e := zo_20 (alt := none) (F := F) ho
  refine cs_pre h hg hp ho (by decide) (by decide) (fun z => absurd z (by decide)) (fun z => ?_) (fun z => r58_20 ?_)
  · rw [zb_r1 hz.2.2.2 rfl (by decide) (by decide) (by unfold rfo; decide) (by decide)] at z
    exact k.bk (by rw [e, if_pos z])
  · rw [zb_r1 hz.2.2.2 rfl (by decide) (by decide) (by unfold rfo; decide) (by decide)] at z
    obtain ⟨i, -, i2, ei⟩ := rg_nat hr (by decide) (by decide)
    rw [ei] at e ⊢
    rw [nI_clamp (by omega), if_neg z] at e
    have k := k.go e (by intro y; cases y)
    unfold D68_goElsewhere
    simp (decide := true) only [reduceIte]
    refine C_peek h (by omega) ?_
    by_cases e3 : zpk S 0 = -1
    · rw [if_pos e3] at k ⊢
      exact C_drop h (by decide) (fun A1 h1 => C_jump h1 (by omega) (fun A2 h2 => k _ _ h2))
    · rw [if_neg e3] at k ⊢
      refine C_operationNow h (C_drop h (by decide) (fun A1 h1 => ?_))
      rw [nI_add]
      exact C_jump h1 (by omega) (fun A2 h2 => k _ _ h2)
set_option maxRecDepth 100000 in
theorem cs_26 (h : GC w A0 I0 A I S F) (hg : gRC A0 I0 G) (hok : zok S F) (hN : F.1 < 32258) (hp : zpc S < gL G (zq S)) (ho : gO G (zq S) (zpc S) = 26) (k : CSk w A0 I0 (zoper G none F S) A I Q) : D58_stopsToSplit w A I Q := by
  have hz := h.wf.hi
  have h40 := g_pc hg h.wf hp
  have hr := g_num hg h.wf hp ho
  have e := zo_26 (alt := none) (F := F) ho
  refine cs_pre h hg hp ho (by decide) (by decide) (fun z => absurd z (by decide)) (fun z => ?_) (fun z => r58_26 ?_)
  · rw [zb_any (by decide) (by decide)] at z
    have z : zh S < 1 ∨ 12 < zh S - 1 + 0 := z
    exact k.bk (by rw [e, if_pos (by omega)])
  · rw [zb_any (by decide) (by decide)] at z
    have z : ¬ (zh S < 1 ∨ 12 < zh S - 1 + 0) := z
    rw [if_neg (by omega)] at e
    unfold D68_goElsewhere
    simp (decide := true) only [reduceIte]
    refine C_peek h (by omega) (C_placeNow h ?_)
    by_cases e3 : zt S = 0
    · rw [if_pos e3] at e
      have k := k.go e (by intro y; cases y)
      refine C_leave0 h e3 ?_
      rw [i0]
      have h1 : GC w A0 I0 A (sI I w 15 (zpk S 0)) (zret S (zpk S 0)) F := h.setI (by omega) h.wf (repC_ret h.2.2.1 _)
      by_cases e4 : zpk S 0 < 0
      · rw [if_pos e4] at k ⊢
        exact C_end h1 (fun I' h' => k _ _ h')
      · rw [if_neg e4] at k ⊢
        exact C_end h1 (fun I' h' => k _ _ h')
    · rw [if_neg e3] at e
      have k := k.go e (by intro y; cases y)
      refine C_leave1 h (by omega) (fun I' h' => ?_)
      rw [i1]
      have hl := h.wf.2.2.1 (zt S - 1) (by omega)
      exact C_finish h' (by decide) (by show zH S (zt S - 1) - 0 < 12; omega) (by show zP S (zt S - 1) < 40; omega) (fun A2 h2 => k _ _ h2)
set_option maxRecDepth 100000 in
theorem cs_27 (h : GC w A0 I0 A I S F) (hg : gRC A0 I0 G) (hok : zok S F) (hN : F.1 < 32258) (hp : zpc S < gL G (zq S)) (ho : gO G (zq S) (zpc S) = 27) (k : CSk w A0 I0 (zoper G none F S) A I Q) : D58_stopsToSplit w A I Q := by
  have hz := h.wf.hi
  have h40 := g_pc hg h.wf hp
  have hr := g_num hg h.wf hp ho
  have e := zo_27 (alt := none) (F := F) ho
  refine cs_pre h hg hp ho (by decide) (by decide) (fun z => absurd z (by decide)) (fun z => ?_) (fun z => r58_27 ?_)
  · rw [zb_no rfl (by decide)] at z
    have z : 12 < zh S + 0 := z
    omega
  · obtain ⟨i, -, i2, ei⟩ := rg_nat hr (by decide) (by decide)
    rw [ei] at e ⊢
    rw [nI_clamp (by omega)] at e
    unfold D68_goElsewhere
    simp (decide := true) only [reduceIte]
    exact C_thr h hg i2 (k.go e zthr_n)
set_option maxRecDepth 100000 in
theorem cs_24 (h : GC w A0 I0 A I S F) (hg : gRC A0 I0 G) (hok : zok S F) (hN : F.1 < 32258) (hp : zpc S < gL G (zq S)) (ho : gO G (zq S) (zpc S) = 24) (k : CSk w A0 I0 (zoper G none F S) A I Q) : D58_stopsToSplit w A I Q := by
  have hz := h.wf.hi
  have h40 := g_pc hg h.wf hp
  have hr := g_num hg h.wf hp ho
  have e := zo_24 (alt := none) (F := F) ho
  refine cs_pre h hg hp ho (by decide) (by decide) (fun z => absurd z (by decide)) (fun z => ?_) (fun z => r58_24 ?_)
  · rw [zb_r1 hz.2.2.2 rfl (by decide) (by decide) (by unfold rfo; decide) (by decide)] at z
    exact k.bk (by rw [e, if_pos z])
  · rw [zb_r1 hz.2.2.2 rfl (by decide) (by decide) (by unfold rfo; decide) (by decide)] at z
    rw [if_neg z] at e
    have h1 : 0 < zh S := by omega
    have hv : zpk S 0 < 0 := Decidable.byContradiction fun y => z (Or.inr y)
    unfold D54_arrayOf
    refine C_needsArray (by decide) (fun _ => ?_) (fun y => absurd (by decide) y)
    rw [i1, vpT (by omega) (by decide), C_tk h hg (by decide)]
    refine ⟨trivial, ?_⟩
    show D122_peek w (nI 0) A I _
    refine C_peek h h1 ?_
    rcases (hok.pk h1).ref hv (by omega) with y | ⟨j, hj, y⟩
    · rw [if_pos y] at e ⊢
      exact C_thr h hg (by decide) (k.go e zthr_n)
    · have hn := h.wf.2.2.2.1
      have y0 : ¬ zpk S 0 = -1 := by rw [y]; exact ar_n1 j (by omega)
      rw [if_neg y0, y, zar_nI (by omega)] at e
      rw [if_neg y0]
      have k := k.go e (by intro y; cases y)
      unfold D68_goElsewhere
      simp (decide := true) only [reduceIte]
      refine C_peek h h1 ?_
      refine C_lenOf h hj y ?_
      unfold D27_number
      rw [subE]
      exact C_finish h (by decide) (by omega) h40 (fun A2 h2 => k _ _ h2)
set_option maxRecDepth 100000 in
theorem cs_29 (h : GC w A0 I0 A I S F) (hg : gRC A0 I0 G) (hok : zok S F) (hN : F.1 < 32258) (hp : zpc S < gL G (zq S)) (ho : gO G (zq S) (zpc S) = 29) (k : CSk w A0 I0 (zoper G none F S) A I Q) : D58_stopsToSplit w A I Q := by
  have hz := h.wf.hi
  have h40 := g_pc hg h.wf hp
  have e := zo_29 (alt := none) (F := F) ho
  by_cases e0 : gU G (zq S) (zpc S) = 0
  · rw [if_neg (fun y => y e0)] at e
    refine cs_pre h hg hp ho (by decide) (by decide) (fun z => e0) (fun z => ?_) (fun z => r58_29 ?_)
    · rw [zb_w1 hz.2.2.2 rfl (by decide) (by decide) (by unfold rfo; decide) (by decide)] at z
      exact k.bk (by rw [e, if_pos z])
    · rw [zb_w1 hz.2.2.2 rfl (by decide) (by decide) (by unfold rfo; decide) (by decide)] at z
      rw [if_neg z] at e
      have k := k.go e zcm_n
      rw [e0]
      unfold D68_goElsewhere
      simp (decide := true) only [reduceIte]
      exact C_compute1 h hg hok hN (by decide) (by omega) (fun y => z (Or.inr y)) h40 k
  · rw [if_pos e0] at e
    have k := k.go e (by intro y; cases y)
    unfold D58_stopsToSplit
    refine C_opOf h hg hp (C_numberOf h hg hp ?_)
    rw [ho]
    unfold D59_isBroken
    rw [if_pos rfl, if_neg e0]
    show if nI 0 = 0 then R58 w (nI 29) _ A I Q else _
    rw [i0]
    refine r58_29 ?_
    unfold D68_goElsewhere
    simp (decide := true) only [reduceIte]
    rw [if_neg e0]
    exact C_placeNow h (C_end h (fun I' h' => k _ _ h'))
set_option maxRecDepth 100000 in
theorem cs_25 (h : GC w A0 I0 A I S F) (hg : gRC A0 I0 G) (hok : zok S F) (hN : F.1 < 32258) (hp : zpc S < gL G (zq S)) (ho : gO G (zq S) (zpc S) = 25) (k : CSk w A0 I0 (zoper G none F S) A I Q) : D58_stopsToSplit w A I Q := by
  have hz := h.wf.hi
  have g := h.low hg
  have h40 := g_pc hg h.wf hp
  have hr := g_num hg h.wf hp ho
  have e := zo_25 (alt := none) (F := F) ho
  obtain ⟨q, -, hq, ei⟩ := rg_nat hr (by decide) (by decide)
  rw [ei, nI_clamp (by omega)] at e
  have bad : zoper G none F S = zbrk F S → D123_placeNow w A I (fun v46 => D124_end w (nI 5) v46 A I (fun A47 I48 => Q (nI 0) A47 I48)) := fun z => C_placeNow h (C_end h (fun I' h' => k.bk z _ _ h'))
  unfold D58_stopsToSplit
  refine C_opOf h hg hp (C_numberOf h hg hp ?_)
  rw [ho, ei]
  unfold D59_isBroken
  rw [if_neg (by decide), if_pos rfl, vpT (by omega) (by decide)]
  refine ⟨trivial, trivial, C_canBeCalled g (by omega) ?_⟩
  by_cases c1 : q < G.1 ∧ ¬ gL G q = 0
  · rw [if_pos c1, i1]
    have ha := g.1.2.1 q c1.1
    refine C_argumentsOf g c1.1 (C_height h ?_)
    rw [iLt (by omega) (by omega)]
    by_cases c2 : zh S < gA G q
    · rw [if_pos c2]
      show if nI 1 = 0 then _ else _
      rw [i1]
      exact bad (by rw [e, if_pos (by omega)])
    · rw [if_neg c2]
      refine C_height h ?_
      rw [pk_sub (by omega), nI_add, iLt (by omega) (by omega)]
      by_cases c3 : 12 < zh S - gA G q + 1
      · rw [if_pos c3]
        show if nI 1 = 0 then _ else _
        rw [i1]
        exact bad (by rw [e, if_pos (by omega)])
      · rw [if_neg c3, if_neg (by decide)]
        refine C_any (by decide) (fun _ => ?_) (fun z => absurd (by decide) z)
        rw [i1]
        show if nI 0 = 0 then R58 w (nI 25) _ A I Q else _
        rw [i0]
        unfold R58 D55_needsArray D62_isDecided
        simp (decide := true) only [reduceIte]
        unfold D68_goElsewhere
        simp (decide := true) only [reduceIte]
        rw [if_neg (by omega)] at e
        refine C_isDeepest h ?_
        by_cases c4 : zt S = 3
        · rw [if_pos c4] at e
          rw [if_pos c4, i1]
          exact C_thr h hg (by decide) (k.go e zthr_n)
        · rw [if_neg c4] at e
          rw [if_neg c4, i0]
          have k := k.go e (by intro y; cases y)
          exact C_argumentsOf g c1.1 (C_enter h (by omega) (by omega) (by omega) (by omega) (by omega) h40 (fun A' I' h' => k _ _ h'))
  · rw [if_neg c1, i0]
    show if nI 1 = 0 then _ else _
    rw [i1]
    exact bad (by rw [e, if_pos (by omega)])
end CSs
