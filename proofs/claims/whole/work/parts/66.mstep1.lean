/-! THE REFERENCE does one operation as the pure one -/
def altv (alt : Option Nat) : Int32 := match alt with
  | none => -1
  | some c => nI c
/-- a split: how many alternatives, what decides it -/
def zsi (K : Nat) (S : zW) : Nat × Int32 × Int32 := if K = 9 ∨ K = 10 then (2, zpk S 0, -1) else if K = 18 ∨ K = 19 then (2, zpk S 1, zpk S 0) else if K = 21 then (8, zpk S 0, -1) else if K = 22 then (zL S (zar (zpk S 1)) + 1, zpk S 0, nI (zL S (zar (zpk S 1)))) else (zL S (zar (zpk S 2)) + 1, zpk S 1, nI (zL S (zar (zpk S 2))))
theorem un_un {α : Type} {f : Nat → α} {i : Nat} {x y : α} : un (un f i x) i y = un f i y := by
  funext j
  unfold un
  split <;> rfl
theorem un_id {α : Type} {f : Nat → α} {i : Nat} {x : α} (e : f i = x) : un f i x = f := by
  funext j
  unfold un
  split
  · rename_i h; rw [h]; exact e.symm
  · rfl
theorem u2_id {f : Nat → Nat → Int32} {i j : Nat} {x : Int32} (e : f i j = x) : u2 f i j x = f := by
  funext a c
  unfold u2
  split
  · rename_i h; rw [h.1, h.2]; exact e.symm
  · rfl
section RO
variable {b : Nat} {A0 I0 A I : HA} {S : zW} {F : zF} {G : zG} {alt : Option Nat} {Q : Int32 → HA → HA → Prop}
abbrev RMk (b : Nat) (A0 I0 : HA) (r : Nat × zW × zF) (K : Nat) (S : zW) (F : zF) (A : HA) (Q : Int32 → HA → HA → Prop) : Prop := rM b A0 I0 r Q ∧ (r.1 = 2 → ∀ I', GA b A0 I0 A I' S F → I' 1681 37 = nI (zsi K S).1 → I' 1681 38 = (zsi K S).2.1 → I' 1681 39 = (zsi K S).2.2 → Q (nI 2) A I')
theorem RMk.go {K : Nat} {r : Nat × zW × zF} (k : RMk b A0 I0 (zoper G alt F S) K S F A Q) (e : zoper G alt F S = r) : rM b A0 I0 r Q := by subst e; exact k.1
theorem RMk.bk {K : Nat} (k : RMk b A0 I0 (zoper G alt F S) K S F A Q) (h : GA b A0 I0 A I S F) (e : zoper G alt F S = zbrk F S) : D165_broken A I (fun v A I => Q v A I) := M_broken h ((k.go e).2 rfl)
theorem RMk.sp {K n : Nat} {x y : Int32} (k : RMk b A0 I0 (zoper G alt F S) K S F A Q) (h : GA b A0 I0 A I S F) (e : zoper G alt F S = (2, S, F)) (e1 : zsi K S = (n, x, y)) : D180_splits (nI n) x y A I (fun v A I => Q v A I) := by
  unfold D180_splits
  refine k.2 (by rw [e]) _ ?_ ?_ ?_ ?_
  · obtain ⟨h1, h2, h3, h4, h5, h6⟩ := h
    exact ⟨h1, h2, h3, h4.off rfl (by rw [sI_n (by decide), sI_n (by decide), sI_n (by decide)]) (by rw [sI_n (by decide), sI_n (by decide), sI_n (by decide)]), ((h5.si (by decide)).si (by decide)).si (by decide), ((h6.si (by decide)).si (by decide)).si (by decide)⟩
  · rw [e1, sI_n (by decide), sI_n (by decide), sI_e]
  · rw [e1, sI_n (by decide), sI_e]
  · rw [e1, sI_e]
theorem M_pre {K : Nat} {x : Int32} (h : GA b A0 I0 A I S F) (hg : gRM A0 I0 G) (hp : zpc S < gL G (zq S)) (ho : gO G (zq S) (zpc S) = K) (hK : K < 30) (k1 : K < 6 → D164_moves (nI K) (gU G (zq S) (zpc S)) (nI (zh S)) A I Q) (k2 : 6 ≤ K → K < 17 → D173_words (nI K) (nI (zh S)) x A I Q) (k3 : 17 ≤ K → K < 21 → D182_jumps (nI K) (gU G (zq S) (zpc S)) (nI (zh S)) x A I Q) (k4 : 21 ≤ K → K < 25 → D184_arrays (nI K) (nI (zh S)) x A I Q) (k5 : 25 ≤ K → D186_calls (nI K) (gU G (zq S) (zpc S)) (nI (zh S)) A I Q) : D163_operate x A I Q := by
  have hz := h.wf.hi
  have hb := h.hb
  have g := h.loM hg
  have hl := (g.1.2.2 (zq S) hz.2.1).1
  obtain ⟨e1, e2⟩ := (g.2.2.2 (zq S) hz.2.1).2.2.1 (zpc S) hp
  unfold D163_operate
  rw [h.f, nI_add, nI_add, nI_add, Nat.add_zero, vpT (n := b + 30 + 21 * zt S) (by omega) (by decide), vpT (n := b + 30 + 21 * zt S + 1) (by omega) (by decide), vpT (n := b + 30 + 21 * zt S + 2) (by omega) (by decide), nI_clamp (n := b + 30 + 21 * zt S) (by omega), nI_clamp (n := b + 30 + 21 * zt S + 1) (by omega), nI_clamp (n := b + 30 + 21 * zt S + 2) (by omega), h.fr.1, h.fr.2.1, h.fr.2.2.1, pk_mul, nI_add, vpT (by omega) (by decide), nI_clamp (by omega), e1, e2, ho, iLt (by omega) (by decide), iLt (by omega) (by decide), iLt (by omega) (by decide), iLt (by omega) (by decide)]
  refine ⟨trivial, trivial, trivial, trivial, trivial, trivial, trivial, ?_⟩
  by_cases c1 : K < 6
  · rw [if_pos c1]; exact k1 c1
  · rw [if_neg c1]
    by_cases c2 : K < 17
    · rw [if_pos c2]; exact k2 (by omega) c2
    · rw [if_neg c2]
      by_cases c3 : K < 21
      · rw [if_pos c3]; exact k3 (by omega) c3
      · rw [if_neg c3]
        by_cases c4 : K < 25
        · rw [if_pos c4]; exact k4 (by omega) c4
        · rw [if_neg c4]; exact k5 (by omega)
theorem M_isWord {Q : Int32 → Prop} {c : Nat} (h : GA b A0 I0 A I S F) (hc : c < zh S) (k1 : ¬ zpk S c < 0 → Q (nI 1)) (k0 : zpk S c < 0 → Q (nI 0)) : D174_isWord (nI c) A I Q := by
  unfold D174_isWord
  refine M_top h hc ?_
  split
  · exact k0 ‹_›
  · exact k1 ‹_›
theorem M_isRef {Q : Int32 → Prop} {c : Nat} (h : GA b A0 I0 A I S F) (hc : c < zh S) (k1 : zpk S c < 0 → Q (nI 1)) (k0 : ¬ zpk S c < 0 → Q (nI 0)) : D183_isReference (nI c) A I Q := by
  unfold D183_isReference
  refine M_top h hc ?_
  split
  · exact k1 ‹_›
  · exact k0 ‹_›
theorem n100 {v : Int32} {N n : Nat} (h : okv N n v) (hN : N < 2 ^ 31) (hn : n ≤ 4) : ¬ v = -100 := by
  rcases h with ⟨j, hj, rfl⟩ | rfl | ⟨k, hk, rfl⟩
  · exact fun y => nI_pos (n := j) (by omega) (by rw [y]; decide)
  · decide
  · have : ∀ k, k < 4 → ¬ (-2 - nI k : Int32) = -100 := by decide
    exact this k (by omega)
theorem m_num {K : Nat} (hg : gRM A0 I0 G) (hz : zwf S) (hp : zpc S < gL G (zq S)) (ho : gO G (zq S) (zpc S) = K) : rgP K (gU G (zq S) (zpc S)) := by
  have := ((hg.1.2.2 (zq S) hz.hi.2.1).2.2.1 (zpc S) hp).2
  rw [ho] at this
  exact this
theorem m_pc (hg : gRM A0 I0 G) (hz : zwf S) (hp : zpc S < gL G (zq S)) : zpc S < 40 := by
  have := (hg.1.2.2 (zq S) hz.hi.2.1).1
  omega
set_option maxRecDepth 100000 in
theorem ms_0 {K : Nat} (hK : K = 0) (h : GA b A0 I0 A I S F) (hg : gRM A0 I0 G) (hok : zok S F) (hN : F.1 < 32258) (hp : zpc S < gL G (zq S)) (ho : gO G (zq S) (zpc S) = K) (ha : ∀ c, alt = some c → c < (zsi K S).1) (k : RMk b A0 I0 (zoper G alt F S) K S F A Q) : D163_operate (altv alt) A I Q := by
  have hz := h.wf.hi
  have hb := h.hb
  have h40 := m_pc hg h.wf hp
  have hr := m_num hg h.wf hp (ho.trans hK)
  have e := zo_0 (alt := alt) (F := F) (ho.trans hK)
  refine M_pre h hg hp ho (by omega) (fun _ => ?_) (fun _ _ => absurd hK (by omega)) (fun _ _ => absurd hK (by omega)) (fun _ _ => absurd hK (by omega)) (fun _ => absurd hK (by omega))
  unfold D164_moves
  rw [iEq (by omega) (by decide), if_pos hK]
  rw [iEq (by omega) (by decide)]
  by_cases c : zh S = 12
  · rw [if_pos c] at e ⊢
    exact k.bk h e
  · rw [if_neg c] at e ⊢
    have ba : bR (gU G (zq S) (zpc S)) := by
      have h1 : (-128 : Int32).toInt ≤ (gU G (zq S) (zpc S)).toInt := Int32.le_iff_toInt_le.mp hr.1
      have h2 := Int32.le_iff_toInt_le.mp hr.2
      rw [nI_toInt (by decide)] at h2
      exact ⟨h1, h2⟩
    obtain ⟨j, hj, ej⟩ := nbA ba.1 ba.2
    refine M_node ba (M_next1 h (by rw [ej]; exact fun y => nI_pos (n := j) (by omega) (by rw [y]; decide)) (by omega) (by omega) h40 (fun A' h' => (k.go e).1 rfl _ _ h'))
set_option maxRecDepth 100000 in
theorem ms_1 {K : Nat} (hK : K = 1) (h : GA b A0 I0 A I S F) (hg : gRM A0 I0 G) (hok : zok S F) (hN : F.1 < 32258) (hp : zpc S < gL G (zq S)) (ho : gO G (zq S) (zpc S) = K) (ha : ∀ c, alt = some c → c < (zsi K S).1) (k : RMk b A0 I0 (zoper G alt F S) K S F A Q) : D163_operate (altv alt) A I Q := by
  have hz := h.wf.hi
  have hb := h.hb
  have h40 := m_pc hg h.wf hp
  have hr := m_num hg h.wf hp (ho.trans hK)
  have e := zo_1 (alt := alt) (F := F) (ho.trans hK)
  refine M_pre h hg hp ho (by omega) (fun _ => ?_) (fun _ _ => absurd hK (by omega)) (fun _ _ => absurd hK (by omega)) (fun _ _ => absurd hK (by omega)) (fun _ => absurd hK (by omega))
  unfold D164_moves
  rw [iEq (by omega) (by decide), if_neg (by omega), iEq (by omega) (by decide), if_pos hK]
  rw [iEq (by omega) (by decide)]
  obtain ⟨i, -, i2, ei⟩ := rg_nat hr (by decide) (by decide)
  rw [ei] at e ⊢
  rw [nI_clamp (by omega)] at e
  by_cases c : zh S = 12
  · rw [if_pos (Or.inl c)] at e
    rw [if_pos c]
    exact k.bk h e
  · rw [if_neg c, h.f, nI_add, nI_add, vpT (by omega) (by decide), nI_clamp (by omega), Nat.add_assoc, h.fr.2.2.2 i (by omega)]
    refine ⟨trivial, ?_⟩
    by_cases c2 : zV S (zt S) i = -100
    · rw [if_pos (Or.inr c2)] at e
      rw [if_pos c2]
      exact k.bk h e
    · rw [if_neg (by rintro (y | y); exact c y; exact c2 y)] at e
      rw [if_neg c2]
      exact ⟨trivial, M_next1 h c2 (by omega) (by omega) h40 (fun A' h' => (k.go e).1 rfl _ _ h')⟩
set_option maxRecDepth 100000 in
theorem ms_2 {K : Nat} (hK : K = 2) (h : GA b A0 I0 A I S F) (hg : gRM A0 I0 G) (hok : zok S F) (hN : F.1 < 32258) (hp : zpc S < gL G (zq S)) (ho : gO G (zq S) (zpc S) = K) (ha : ∀ c, alt = some c → c < (zsi K S).1) (k : RMk b A0 I0 (zoper G alt F S) K S F A Q) : D163_operate (altv alt) A I Q := by
  have hz := h.wf.hi
  have hb := h.hb
  have h40 := m_pc hg h.wf hp
  have hr := m_num hg h.wf hp (ho.trans hK)
  have e := zo_2 (alt := alt) (F := F) (ho.trans hK)
  refine M_pre h hg hp ho (by omega) (fun _ => ?_) (fun _ _ => absurd hK (by omega)) (fun _ _ => absurd hK (by omega)) (fun _ _ => absurd hK (by omega)) (fun _ => absurd hK (by omega))
  unfold D164_moves
  rw [iEq (by omega) (by decide), if_neg (by omega), iEq (by omega) (by decide), if_neg (by omega), iEq (by omega) (by decide), if_pos hK]
  rw [iLt (by omega) (by decide)]
  obtain ⟨i, -, i2, ei⟩ := rg_nat hr (by decide) (by decide)
  rw [ei] at e ⊢
  rw [nI_clamp (by omega)] at e
  by_cases c : zh S < 1
  · rw [if_pos c] at e ⊢
    exact k.bk h e
  · rw [if_neg c] at e ⊢
    refine M_top h (by omega) ?_
    rw [h.f, nI_add, nI_add, vpT (by omega) (by decide), nI_clamp (by omega), Nat.add_assoc]
    have g : GA b A0 I0 (sA A 1688 (b + 30 + 21 * zt S + (3 + i)) (zpk S 0)) I (zloc S i (zpk S 0)) F := h.set (by unfold zMI; omega) h.wf.V h.2.2.1 (repM_V h.2.2.2.1 h.wf _ _ _ hz.1 (by omega))
    exact ⟨trivial, M_next0 g (by show 1 ≤ zh S; omega) h40 (fun A' h' => (k.go e).1 rfl _ _ h')⟩
set_option maxRecDepth 100000 in
theorem ms_3 {K : Nat} (hK : K = 3) (h : GA b A0 I0 A I S F) (hg : gRM A0 I0 G) (hok : zok S F) (hN : F.1 < 32258) (hp : zpc S < gL G (zq S)) (ho : gO G (zq S) (zpc S) = K) (ha : ∀ c, alt = some c → c < (zsi K S).1) (k : RMk b A0 I0 (zoper G alt F S) K S F A Q) : D163_operate (altv alt) A I Q := by
  have hz := h.wf.hi
  have hb := h.hb
  have h40 := m_pc hg h.wf hp
  have hr := m_num hg h.wf hp (ho.trans hK)
  have e := zo_3 (alt := alt) (F := F) (ho.trans hK)
  refine M_pre h hg hp ho (by omega) (fun _ => ?_) (fun _ _ => absurd hK (by omega)) (fun _ _ => absurd hK (by omega)) (fun _ _ => absurd hK (by omega)) (fun _ => absurd hK (by omega))
  unfold D164_moves
  rw [iEq (by omega) (by decide), if_neg (by omega), iEq (by omega) (by decide), if_neg (by omega), iEq (by omega) (by decide), if_neg (by omega), iEq (by omega) (by decide), if_pos hK]
  rw [iLt (by omega) (by decide)]
  by_cases c : zh S < 1
  · rw [if_pos c] at e ⊢
    exact k.bk h e
  · rw [if_neg c] at e ⊢
    exact M_next0 h (by omega) h40 (fun A' h' => (k.go e).1 rfl _ _ h')
theorem dupE (hh : 1 ≤ zh S) : zpush (zpush (zdrop S 1) (zpk S 0)) (zpk S 0) = zpush (zdrop S 0) (zpk S 0) := by
  have e1 : zh (zdrop S 1) = zh S - 1 := un_e
  have e2 : zh (zpush (zdrop S 1) (zpk S 0)) = zh S - 1 + 1 := by rw [zh_push, e1]
  have e3 : zh (zdrop S 0) = zh S := un_e
  unfold zpush at *
  rw [e1] at *
  rw [e2, e3]
  show ((zt S, zM S, zP S, un (un (un (zH S) (zt S) (zh S - 1)) (zt S) (zh S - 1 + 1)) (zt S) (zh S - 1 + 1 + 1), u2 (u2 (zV S) (zt S) (6 + (zh S - 1)) (zpk S 0)) (zt S) (6 + (zh S - 1 + 1)) (zpk S 0)), S.2) = ((zt S, zM S, zP S, un (un (zH S) (zt S) (zh S - 0)) (zt S) (zh S + 1), u2 (zV S) (zt S) (6 + zh S) (zpk S 0)), S.2)
  rw [un_un, un_un, un_un, u2_id (f := zV S) (i := zt S) (j := 6 + (zh S - 1)) (x := zpk S 0) rfl, show zh S - 1 + 1 = zh S by omega]
theorem swapE (hh : 2 ≤ zh S) : zpush (zpush (zdrop S 2) (zpk S 0)) (zpk S 1) = zdrop (sV (sV S (zt S) (6 + (zh S - 2)) (zpk S 0)) (zt S) (6 + (zh S - 1)) (zpk S 1)) 0 := by
  have e1 : zh (zdrop S 2) = zh S - 2 := un_e
  have e2 : zh (zpush (zdrop S 2) (zpk S 0)) = zh S - 2 + 1 := by rw [zh_push, e1]
  unfold zpush at *
  rw [e1] at *
  rw [e2]
  show ((zt S, zM S, zP S, un (un (un (zH S) (zt S) (zh S - 2)) (zt S) (zh S - 2 + 1)) (zt S) (zh S - 2 + 1 + 1), u2 (u2 (zV S) (zt S) (6 + (zh S - 2)) (zpk S 0)) (zt S) (6 + (zh S - 2 + 1)) (zpk S 1)), S.2) = ((zt S, zM S, zP S, un (zH S) (zt S) (zh S - 0), u2 (u2 (zV S) (zt S) (6 + (zh S - 2)) (zpk S 0)) (zt S) (6 + (zh S - 1)) (zpk S 1)), S.2)
  rw [un_un, un_un, show zh S - 2 + 1 + 1 = zh S - 0 by omega, show zh S - 2 + 1 = zh S - 1 by omega]
set_option maxRecDepth 100000 in
theorem ms_4 {K : Nat} (hK : K = 4) (h : GA b A0 I0 A I S F) (hg : gRM A0 I0 G) (hok : zok S F) (hN : F.1 < 32258) (hp : zpc S < gL G (zq S)) (ho : gO G (zq S) (zpc S) = K) (ha : ∀ c, alt = some c → c < (zsi K S).1) (k : RMk b A0 I0 (zoper G alt F S) K S F A Q) : D163_operate (altv alt) A I Q := by
  have hz := h.wf.hi
  have hb := h.hb
  have h40 := m_pc hg h.wf hp
  have hr := m_num hg h.wf hp (ho.trans hK)
  have e := zo_4 (alt := alt) (F := F) (ho.trans hK)
  refine M_pre h hg hp ho (by omega) (fun _ => ?_) (fun _ _ => absurd hK (by omega)) (fun _ _ => absurd hK (by omega)) (fun _ _ => absurd hK (by omega)) (fun _ => absurd hK (by omega))
  unfold D164_moves
  rw [iEq (by omega) (by decide), if_neg (by omega), iEq (by omega) (by decide), if_neg (by omega), iEq (by omega) (by decide), if_neg (by omega), iEq (by omega) (by decide), if_neg (by omega), iEq (by omega) (by decide), if_pos hK]
  rw [iLt (by omega) (by decide), iEq (by omega) (by decide)]
  by_cases c : zh S < 1
  · rw [if_pos (Or.inl c)] at e
    rw [if_pos c]
    exact k.bk h e
  · rw [if_neg c]
    by_cases c2 : zh S = 12
    · rw [if_pos (Or.inr c2)] at e
      rw [if_pos c2]
      exact k.bk h e
    · rw [if_neg (by omega), dupE (by omega)] at e
      rw [if_neg c2]
      exact M_top h (by omega) (M_next1 h (n100 (hok.pk (by omega)) (by omega) h.wf.2.2.2.1) (by omega) (by omega) h40 (fun A' h' => (k.go e).1 rfl _ _ h'))
set_option maxRecDepth 100000 in
theorem ms_5 {K : Nat} (hK : K = 5) (h : GA b A0 I0 A I S F) (hg : gRM A0 I0 G) (hok : zok S F) (hN : F.1 < 32258) (hp : zpc S < gL G (zq S)) (ho : gO G (zq S) (zpc S) = K) (ha : ∀ c, alt = some c → c < (zsi K S).1) (k : RMk b A0 I0 (zoper G alt F S) K S F A Q) : D163_operate (altv alt) A I Q := by
  have hz := h.wf.hi
  have hb := h.hb
  have h40 := m_pc hg h.wf hp
  have hr := m_num hg h.wf hp (ho.trans hK)
  have e := zo_5 (alt := alt) (F := F) (ho.trans hK)
  refine M_pre h hg hp ho (by omega) (fun _ => ?_) (fun _ _ => absurd hK (by omega)) (fun _ _ => absurd hK (by omega)) (fun _ _ => absurd hK (by omega)) (fun _ => absurd hK (by omega))
  unfold D164_moves
  rw [iEq (by omega) (by decide), if_neg (by omega), iEq (by omega) (by decide), if_neg (by omega), iEq (by omega) (by decide), if_neg (by omega), iEq (by omega) (by decide), if_neg (by omega), iEq (by omega) (by decide), if_neg (by omega)]
  rw [iLt (by omega) (by decide)]
  by_cases c : zh S < 2
  · rw [if_pos c] at e ⊢
    exact k.bk h e
  · rw [if_neg c] at e ⊢
    rw [swapE (by omega)] at e
    refine M_top h (by omega) (M_top h (by omega) ?_)
    rw [h.f, nI_add, nI_add, pk_sub (by omega), pk_sub (by omega), vpT (by omega) (by decide), vpT (by omega) (by decide), nI_clamp (by omega), nI_clamp (by omega), show b + 30 + 21 * zt S + 9 + zh S - 2 = b + 30 + 21 * zt S + (3 + (6 + (zh S - 2))) by omega, show b + 30 + 21 * zt S + 9 + zh S - 1 = b + 30 + 21 * zt S + (3 + (6 + (zh S - 1))) by omega]
    have g : GA b A0 I0 (sA A 1688 (b + 30 + 21 * zt S + (3 + (6 + (zh S - 2)))) (zpk S 0)) I (sV S (zt S) (6 + (zh S - 2)) (zpk S 0)) F := h.set (by unfold zMI; omega) h.wf.V h.2.2.1 (repM_V h.2.2.2.1 h.wf _ _ _ hz.1 (by omega))
    have g2 : GA b A0 I0 (sA (sA A 1688 (b + 30 + 21 * zt S + (3 + (6 + (zh S - 2)))) (zpk S 0)) 1688 (b + 30 + 21 * zt S + (3 + (6 + (zh S - 1)))) (zpk S 1)) I (sV (sV S (zt S) (6 + (zh S - 2)) (zpk S 0)) (zt S) (6 + (zh S - 1)) (zpk S 1)) F := g.set (by unfold zMI; omega) g.wf.V h.2.2.1 (repM_V g.2.2.2.1 g.wf _ _ _ hz.1 (by omega))
    exact ⟨trivial, trivial, M_next0 g2 (by omega) h40 (fun A' h' => (k.go e).1 rfl _ _ h')⟩
set_option maxRecDepth 100000 in
theorem ms_11 {K : Nat} (hK : K = 11) (h : GA b A0 I0 A I S F) (hg : gRM A0 I0 G) (hok : zok S F) (hN : F.1 < 32258) (hp : zpc S < gL G (zq S)) (ho : gO G (zq S) (zpc S) = K) (ha : ∀ c, alt = some c → c < (zsi K S).1) (k : RMk b A0 I0 (zoper G alt F S) K S F A Q) : D163_operate (altv alt) A I Q := by
  have hz := h.wf.hi
  have hb := h.hb
  have h40 := m_pc hg h.wf hp
  have hr := m_num hg h.wf hp (ho.trans hK)
  have e := zo_11 (alt := alt) (F := F) (ho.trans hK)
  refine M_pre h hg hp ho (by omega) (fun _ => absurd hK (by omega)) (fun _ _ => ?_) (fun _ _ => absurd hK (by omega)) (fun _ _ => absurd hK (by omega)) (fun _ => absurd hK (by omega))
  unfold D173_words
  rw [iEq (by omega) (by decide), if_pos hK]
  rw [iLt (by omega) (by decide)]
  by_cases c : zh S < 1
  · rw [if_pos (Or.inl c)] at e
    rw [if_pos c]
    exact k.bk h e
  · rw [if_neg c]
    refine M_isWord h (by omega) (fun c2 => ?_) (fun c2 => ?_)
    · rw [if_neg (by rintro (y | y); exact c y; exact c2 y)] at e
      rw [i1]
      refine M_top h (by omega) ?_
      rw [hK]
      exact M_reckons1 (by decide) h hok.1 hN (hok.wd h.wf (by omega) c2) (by omega) h40 (k.go e)
    · rw [if_pos (Or.inr c2)] at e
      rw [i0]
      exact k.bk h e
set_option maxRecDepth 100000 in
theorem ms_6 {K : Nat} (hK : K = 6) (h : GA b A0 I0 A I S F) (hg : gRM A0 I0 G) (hok : zok S F) (hN : F.1 < 32258) (hp : zpc S < gL G (zq S)) (ho : gO G (zq S) (zpc S) = K) (ha : ∀ c, alt = some c → c < (zsi K S).1) (k : RMk b A0 I0 (zoper G alt F S) K S F A Q) : D163_operate (altv alt) A I Q := by
  have hz := h.wf.hi
  have hb := h.hb
  have h40 := m_pc hg h.wf hp
  have hr := m_num hg h.wf hp (ho.trans hK)
  have e := zo_6 (alt := alt) (F := F) (ho.trans hK)
  refine M_pre h hg hp ho (by omega) (fun _ => absurd hK (by omega)) (fun _ _ => ?_) (fun _ _ => absurd hK (by omega)) (fun _ _ => absurd hK (by omega)) (fun _ => absurd hK (by omega))
  unfold D173_words
  rw [iEq (by omega) (by decide), if_neg (by omega)]
  rw [iLt (by omega) (by decide)]
  by_cases c : zh S < 2
  · rw [if_pos (Or.inl c)] at e
    rw [if_pos c]
    exact k.bk h e
  · rw [if_neg c]
    refine M_isWord h (by omega) (fun c2 => ?_) (fun c2 => ?_)
    · rw [i1]
      refine M_isWord h (by omega) (fun c3 => ?_) (fun c3 => ?_)
      · rw [if_neg (by rintro (y | y | y); exact c y; exact c2 y; exact c3 y)] at e
        rw [i1]
        refine M_top h (by omega) ?_
        rw [iEq (by omega) (by decide), if_neg (by omega), iEq (by omega) (by decide), if_neg (by omega)]
        refine M_top h (by omega) ?_
        rw [hK]
        exact M_reckons2 ⟨by decide, by decide, by decide⟩ h hok.1 hN (hok.wd h.wf (by omega) c3) (hok.wd h.wf (by omega) c2) (fun y => absurd y (by decide)) (by omega) h40 (k.go e)
      · rw [if_pos (Or.inr (Or.inr c3))] at e
        rw [i0]
        exact k.bk h e
    · rw [if_pos (Or.inr (Or.inl c2))] at e
      rw [i0]
      exact k.bk h e
set_option maxRecDepth 100000 in
theorem ms_7 {K : Nat} (hK : K = 7) (h : GA b A0 I0 A I S F) (hg : gRM A0 I0 G) (hok : zok S F) (hN : F.1 < 32258) (hp : zpc S < gL G (zq S)) (ho : gO G (zq S) (zpc S) = K) (ha : ∀ c, alt = some c → c < (zsi K S).1) (k : RMk b A0 I0 (zoper G alt F S) K S F A Q) : D163_operate (altv alt) A I Q := by
  have hz := h.wf.hi
  have hb := h.hb
  have h40 := m_pc hg h.wf hp
  have hr := m_num hg h.wf hp (ho.trans hK)
  have e := zo_7 (alt := alt) (F := F) (ho.trans hK)
  refine M_pre h hg hp ho (by omega) (fun _ => absurd hK (by omega)) (fun _ _ => ?_) (fun _ _ => absurd hK (by omega)) (fun _ _ => absurd hK (by omega)) (fun _ => absurd hK (by omega))
  unfold D173_words
  rw [iEq (by omega) (by decide), if_neg (by omega)]
  rw [iLt (by omega) (by decide)]
  by_cases c : zh S < 2
  · rw [if_pos (Or.inl c)] at e
    rw [if_pos c]
    exact k.bk h e
  · rw [if_neg c]
    refine M_isWord h (by omega) (fun c2 => ?_) (fun c2 => ?_)
    · rw [i1]
      refine M_isWord h (by omega) (fun c3 => ?_) (fun c3 => ?_)
      · rw [if_neg (by rintro (y | y | y); exact c y; exact c2 y; exact c3 y)] at e
        rw [i1]
        refine M_top h (by omega) ?_
        rw [iEq (by omega) (by decide), if_neg (by omega), iEq (by omega) (by decide), if_neg (by omega)]
        refine M_top h (by omega) ?_
        rw [hK]
        exact M_reckons2 ⟨by decide, by decide, by decide⟩ h hok.1 hN (hok.wd h.wf (by omega) c3) (hok.wd h.wf (by omega) c2) (fun y => absurd y (by decide)) (by omega) h40 (k.go e)
      · rw [if_pos (Or.inr (Or.inr c3))] at e
        rw [i0]
        exact k.bk h e
    · rw [if_pos (Or.inr (Or.inl c2))] at e
      rw [i0]
      exact k.bk h e
set_option maxRecDepth 100000 in
theorem ms_8 {K : Nat} (hK : K = 8) (h : GA b A0 I0 A I S F) (hg : gRM A0 I0 G) (hok : zok S F) (hN : F.1 < 32258) (hp : zpc S < gL G (zq S)) (ho : gO G (zq S) (zpc S) = K) (ha : ∀ c, alt = some c → c < (zsi K S).1) (k : RMk b A0 I0 (zoper G alt F S) K S F A Q) : D163_operate (altv alt) A I Q := by
  have hz := h.wf.hi
  have hb := h.hb
  have h40 := m_pc hg h.wf hp
  have hr := m_num hg h.wf hp (ho.trans hK)
  have e := zo_8 (alt := alt) (F := F) (ho.trans hK)
  refine M_pre h hg hp ho (by omega) (fun _ => absurd hK (by omega)) (fun _ _ => ?_) (fun _ _ => absurd hK (by omega)) (fun _ _ => absurd hK (by omega)) (fun _ => absurd hK (by omega))
  unfold D173_words
  rw [iEq (by omega) (by decide), if_neg (by omega)]
  rw [iLt (by omega) (by decide)]
  by_cases c : zh S < 2
  · rw [if_pos (Or.inl c)] at e
    rw [if_pos c]
    exact k.bk h e
  · rw [if_neg c]
    refine M_isWord h (by omega) (fun c2 => ?_) (fun c2 => ?_)
    · rw [i1]
      refine M_isWord h (by omega) (fun c3 => ?_) (fun c3 => ?_)
      · rw [if_neg (by rintro (y | y | y); exact c y; exact c2 y; exact c3 y)] at e
        rw [i1]
        refine M_top h (by omega) ?_
        rw [iEq (by omega) (by decide), if_neg (by omega), iEq (by omega) (by decide), if_neg (by omega)]
        refine M_top h (by omega) ?_
        rw [hK]
        exact M_reckons2 ⟨by decide, by decide, by decide⟩ h hok.1 hN (hok.wd h.wf (by omega) c3) (hok.wd h.wf (by omega) c2) (fun y => absurd y (by decide)) (by omega) h40 (k.go e)
      · rw [if_pos (Or.inr (Or.inr c3))] at e
        rw [i0]
        exact k.bk h e
    · rw [if_pos (Or.inr (Or.inl c2))] at e
      rw [i0]
      exact k.bk h e
set_option maxRecDepth 100000 in
theorem ms_12 {K : Nat} (hK : K = 12) (h : GA b A0 I0 A I S F) (hg : gRM A0 I0 G) (hok : zok S F) (hN : F.1 < 32258) (hp : zpc S < gL G (zq S)) (ho : gO G (zq S) (zpc S) = K) (ha : ∀ c, alt = some c → c < (zsi K S).1) (k : RMk b A0 I0 (zoper G alt F S) K S F A Q) : D163_operate (altv alt) A I Q := by
  have hz := h.wf.hi
  have hb := h.hb
  have h40 := m_pc hg h.wf hp
  have hr := m_num hg h.wf hp (ho.trans hK)
  have e := zo_12 (alt := alt) (F := F) (ho.trans hK)
  refine M_pre h hg hp ho (by omega) (fun _ => absurd hK (by omega)) (fun _ _ => ?_) (fun _ _ => absurd hK (by omega)) (fun _ _ => absurd hK (by omega)) (fun _ => absurd hK (by omega))
  unfold D173_words
  rw [iEq (by omega) (by decide), if_neg (by omega)]
  rw [iLt (by omega) (by decide)]
  by_cases c : zh S < 2
  · rw [if_pos (Or.inl c)] at e
    rw [if_pos c]
    exact k.bk h e
  · rw [if_neg c]
    refine M_isWord h (by omega) (fun c2 => ?_) (fun c2 => ?_)
    · rw [i1]
      refine M_isWord h (by omega) (fun c3 => ?_) (fun c3 => ?_)
      · rw [if_neg (by rintro (y | y | y); exact c y; exact c2 y; exact c3 y)] at e
        rw [i1]
        refine M_top h (by omega) ?_
        rw [iEq (by omega) (by decide), if_neg (by omega), iEq (by omega) (by decide), if_neg (by omega)]
        refine M_top h (by omega) ?_
        rw [hK]
        exact M_reckons2 ⟨by decide, by decide, by decide⟩ h hok.1 hN (hok.wd h.wf (by omega) c3) (hok.wd h.wf (by omega) c2) (fun y => absurd y (by decide)) (by omega) h40 (k.go e)
      · rw [if_pos (Or.inr (Or.inr c3))] at e
        rw [i0]
        exact k.bk h e
    · rw [if_pos (Or.inr (Or.inl c2))] at e
      rw [i0]
      exact k.bk h e
set_option maxRecDepth 100000 in
theorem ms_13 {K : Nat} (hK : K = 13) (h : GA b A0 I0 A I S F) (hg : gRM A0 I0 G) (hok : zok S F) (hN : F.1 < 32258) (hp : zpc S < gL G (zq S)) (ho : gO G (zq S) (zpc S) = K) (ha : ∀ c, alt = some c → c < (zsi K S).1) (k : RMk b A0 I0 (zoper G alt F S) K S F A Q) : D163_operate (altv alt) A I Q := by
  have hz := h.wf.hi
  have hb := h.hb
  have h40 := m_pc hg h.wf hp
  have hr := m_num hg h.wf hp (ho.trans hK)
  have e := zo_13 (alt := alt) (F := F) (ho.trans hK)
  refine M_pre h hg hp ho (by omega) (fun _ => absurd hK (by omega)) (fun _ _ => ?_) (fun _ _ => absurd hK (by omega)) (fun _ _ => absurd hK (by omega)) (fun _ => absurd hK (by omega))
  unfold D173_words
  rw [iEq (by omega) (by decide), if_neg (by omega)]
  rw [iLt (by omega) (by decide)]
  by_cases c : zh S < 2
  · rw [if_pos (Or.inl c)] at e
    rw [if_pos c]
    exact k.bk h e
  · rw [if_neg c]
    refine M_isWord h (by omega) (fun c2 => ?_) (fun c2 => ?_)
    · rw [i1]
      refine M_isWord h (by omega) (fun c3 => ?_) (fun c3 => ?_)
      · rw [if_neg (by rintro (y | y | y); exact c y; exact c2 y; exact c3 y)] at e
        rw [i1]
        refine M_top h (by omega) ?_
        rw [iEq (by omega) (by decide), if_neg (by omega), iEq (by omega) (by decide), if_neg (by omega)]
        refine M_top h (by omega) ?_
        rw [hK]
        exact M_reckons2 ⟨by decide, by decide, by decide⟩ h hok.1 hN (hok.wd h.wf (by omega) c3) (hok.wd h.wf (by omega) c2) (fun y => absurd y (by decide)) (by omega) h40 (k.go e)
      · rw [if_pos (Or.inr (Or.inr c3))] at e
        rw [i0]
        exact k.bk h e
    · rw [if_pos (Or.inr (Or.inl c2))] at e
      rw [i0]
      exact k.bk h e
set_option maxRecDepth 100000 in
theorem ms_14 {K : Nat} (hK : K = 14) (h : GA b A0 I0 A I S F) (hg : gRM A0 I0 G) (hok : zok S F) (hN : F.1 < 32258) (hp : zpc S < gL G (zq S)) (ho : gO G (zq S) (zpc S) = K) (ha : ∀ c, alt = some c → c < (zsi K S).1) (k : RMk b A0 I0 (zoper G alt F S) K S F A Q) : D163_operate (altv alt) A I Q := by
  have hz := h.wf.hi
  have hb := h.hb
  have h40 := m_pc hg h.wf hp
  have hr := m_num hg h.wf hp (ho.trans hK)
  have e := zo_14 (alt := alt) (F := F) (ho.trans hK)
  refine M_pre h hg hp ho (by omega) (fun _ => absurd hK (by omega)) (fun _ _ => ?_) (fun _ _ => absurd hK (by omega)) (fun _ _ => absurd hK (by omega)) (fun _ => absurd hK (by omega))
  unfold D173_words
  rw [iEq (by omega) (by decide), if_neg (by omega)]
  rw [iLt (by omega) (by decide)]
  by_cases c : zh S < 2
  · rw [if_pos (Or.inl c)] at e
    rw [if_pos c]
    exact k.bk h e
  · rw [if_neg c]
    refine M_isWord h (by omega) (fun c2 => ?_) (fun c2 => ?_)
    · rw [i1]
      refine M_isWord h (by omega) (fun c3 => ?_) (fun c3 => ?_)
      · rw [if_neg (by rintro (y | y | y); exact c y; exact c2 y; exact c3 y)] at e
        rw [i1]
        refine M_top h (by omega) ?_
        rw [iEq (by omega) (by decide), if_neg (by omega), iEq (by omega) (by decide), if_neg (by omega)]
        refine M_top h (by omega) ?_
        rw [hK]
        exact M_reckons2 ⟨by decide, by decide, by decide⟩ h hok.1 hN (hok.wd h.wf (by omega) c3) (hok.wd h.wf (by omega) c2) (fun y => absurd y (by decide)) (by omega) h40 (k.go e)
      · rw [if_pos (Or.inr (Or.inr c3))] at e
        rw [i0]
        exact k.bk h e
    · rw [if_pos (Or.inr (Or.inl c2))] at e
      rw [i0]
      exact k.bk h e
set_option maxRecDepth 100000 in
theorem ms_15 {K : Nat} (hK : K = 15) (h : GA b A0 I0 A I S F) (hg : gRM A0 I0 G) (hok : zok S F) (hN : F.1 < 32258) (hp : zpc S < gL G (zq S)) (ho : gO G (zq S) (zpc S) = K) (ha : ∀ c, alt = some c → c < (zsi K S).1) (k : RMk b A0 I0 (zoper G alt F S) K S F A Q) : D163_operate (altv alt) A I Q := by
  have hz := h.wf.hi
  have hb := h.hb
  have h40 := m_pc hg h.wf hp
  have hr := m_num hg h.wf hp (ho.trans hK)
  have e := zo_15 (alt := alt) (F := F) (ho.trans hK)
  refine M_pre h hg hp ho (by omega) (fun _ => absurd hK (by omega)) (fun _ _ => ?_) (fun _ _ => absurd hK (by omega)) (fun _ _ => absurd hK (by omega)) (fun _ => absurd hK (by omega))
  unfold D173_words
  rw [iEq (by omega) (by decide), if_neg (by omega)]
  rw [iLt (by omega) (by decide)]
  by_cases c : zh S < 2
  · rw [if_pos (Or.inl c)] at e
    rw [if_pos c]
    exact k.bk h e
  · rw [if_neg c]
    refine M_isWord h (by omega) (fun c2 => ?_) (fun c2 => ?_)
    · rw [i1]
      refine M_isWord h (by omega) (fun c3 => ?_) (fun c3 => ?_)
      · rw [if_neg (by rintro (y | y | y); exact c y; exact c2 y; exact c3 y)] at e
        rw [i1]
        refine M_top h (by omega) ?_
        rw [iEq (by omega) (by decide), if_neg (by omega), iEq (by omega) (by decide), if_neg (by omega)]
        refine M_top h (by omega) ?_
        rw [hK]
        exact M_reckons2 ⟨by decide, by decide, by decide⟩ h hok.1 hN (hok.wd h.wf (by omega) c3) (hok.wd h.wf (by omega) c2) (fun y => absurd y (by decide)) (by omega) h40 (k.go e)
      · rw [if_pos (Or.inr (Or.inr c3))] at e
        rw [i0]
        exact k.bk h e
    · rw [if_pos (Or.inr (Or.inl c2))] at e
      rw [i0]
      exact k.bk h e
set_option maxRecDepth 100000 in
theorem ms_16 {K : Nat} (hK : K = 16) (h : GA b A0 I0 A I S F) (hg : gRM A0 I0 G) (hok : zok S F) (hN : F.1 < 32258) (hp : zpc S < gL G (zq S)) (ho : gO G (zq S) (zpc S) = K) (ha : ∀ c, alt = some c → c < (zsi K S).1) (k : RMk b A0 I0 (zoper G alt F S) K S F A Q) : D163_operate (altv alt) A I Q := by
  have hz := h.wf.hi
  have hb := h.hb
  have h40 := m_pc hg h.wf hp
  have hr := m_num hg h.wf hp (ho.trans hK)
  have e := zo_16 (alt := alt) (F := F) (ho.trans hK)
  refine M_pre h hg hp ho (by omega) (fun _ => absurd hK (by omega)) (fun _ _ => ?_) (fun _ _ => absurd hK (by omega)) (fun _ _ => absurd hK (by omega)) (fun _ => absurd hK (by omega))
  unfold D173_words
  rw [iEq (by omega) (by decide), if_neg (by omega)]
  rw [iLt (by omega) (by decide)]
  by_cases c : zh S < 2
  · rw [if_pos (Or.inl c)] at e
    rw [if_pos c]
    exact k.bk h e
  · rw [if_neg c]
    refine M_isWord h (by omega) (fun c2 => ?_) (fun c2 => ?_)
    · rw [i1]
      refine M_isWord h (by omega) (fun c3 => ?_) (fun c3 => ?_)
      · rw [if_neg (by rintro (y | y | y); exact c y; exact c2 y; exact c3 y)] at e
        rw [i1]
        refine M_top h (by omega) ?_
        rw [iEq (by omega) (by decide), if_neg (by omega), iEq (by omega) (by decide), if_neg (by omega)]
        refine M_top h (by omega) ?_
        rw [hK]
        exact M_reckons2 ⟨by decide, by decide, by decide⟩ h hok.1 hN (hok.wd h.wf (by omega) c3) (hok.wd h.wf (by omega) c2) (fun y => absurd y (by decide)) (by omega) h40 (k.go e)
      · rw [if_pos (Or.inr (Or.inr c3))] at e
        rw [i0]
        exact k.bk h e
    · rw [if_pos (Or.inr (Or.inl c2))] at e
      rw [i0]
      exact k.bk h e
set_option maxRecDepth 100000 in
theorem ms_17 {K : Nat} (hK : K = 17) (h : GA b A0 I0 A I S F) (hg : gRM A0 I0 G) (hok : zok S F) (hN : F.1 < 32258) (hp : zpc S < gL G (zq S)) (ho : gO G (zq S) (zpc S) = K) (ha : ∀ c, alt = some c → c < (zsi K S).1) (k : RMk b A0 I0 (zoper G alt F S) K S F A Q) : D163_operate (altv alt) A I Q := by
  have hz := h.wf.hi
  have hb := h.hb
  have h40 := m_pc hg h.wf hp
  have hr := m_num hg h.wf hp (ho.trans hK)
  have e := zo_17 (alt := alt) (F := F) (ho.trans hK)
  refine M_pre h hg hp ho (by omega) (fun _ => absurd hK (by omega)) (fun _ _ => absurd hK (by omega)) (fun _ _ => ?_) (fun _ _ => absurd hK (by omega)) (fun _ => absurd hK (by omega))
  unfold D182_jumps
  rw [iEq (by omega) (by decide), if_pos hK]
  obtain ⟨i, -, i2, ei⟩ := rg_nat hr (by decide) (by decide)
  rw [ei] at e ⊢
  rw [nI_clamp (by omega)] at e
  rw [h.f, nI_add, vpT (by omega) (by decide), nI_clamp (by omega)]
  exact ⟨trivial, (k.go e).1 rfl _ _ (h.jump (by omega))⟩
set_option maxRecDepth 100000 in
theorem ms_20 {K : Nat} (hK : K = 20) (h : GA b A0 I0 A I S F) (hg : gRM A0 I0 G) (hok : zok S F) (hN : F.1 < 32258) (hp : zpc S < gL G (zq S)) (ho : gO G (zq S) (zpc S) = K) (ha : ∀ c, alt = some c → c < (zsi K S).1) (k : RMk b A0 I0 (zoper G alt F S) K S F A Q) : D163_operate (altv alt) A I Q := by
  have hz := h.wf.hi
  have hb := h.hb
  have h40 := m_pc hg h.wf hp
  have hr := m_num hg h.wf hp (ho.trans hK)
  have e := zo_20 (alt := alt) (F := F) (ho.trans hK)
  refine M_pre h hg hp ho (by omega) (fun _ => absurd hK (by omega)) (fun _ _ => absurd hK (by omega)) (fun _ _ => ?_) (fun _ _ => absurd hK (by omega)) (fun _ => absurd hK (by omega))
  unfold D182_jumps
  rw [iEq (by omega) (by decide), if_neg (by omega), iEq (by omega) (by decide), if_pos hK]
  rw [iLt (by omega) (by decide)]
  obtain ⟨i, -, i2, ei⟩ := rg_nat hr (by decide) (by decide)
  rw [ei] at e ⊢
  rw [nI_clamp (by omega)] at e
  by_cases c : zh S < 1
  · rw [if_pos (Or.inl c)] at e
    rw [if_pos c]
    exact k.bk h e
  · rw [if_neg c]
    refine M_isRef h (by omega) (fun c2 => ?_) (fun c2 => ?_)
    · rw [if_neg (by rintro (y | y); exact c y; exact y c2)] at e
      rw [i1]
      refine M_top h (by omega) ?_
      have k := (k.go e).1 rfl
      rw [h.f, nI_add, nI_add, vpT (n := b + 30 + 21 * zt S + 2) (by omega) (by decide), vpT (n := b + 30 + 21 * zt S + 1) (by omega) (by decide), nI_clamp (n := b + 30 + 21 * zt S + 2) (by omega), nI_clamp (n := b + 30 + 21 * zt S + 1) (by omega), h.fr.2.2.1, pk_sub (by omega), sA_n (by omega), h.fr.2.1, nI_add]
      by_cases c3 : zpk S 0 = -1
      · rw [if_pos c3] at k ⊢
        exact ⟨trivial, trivial, trivial, k _ _ ((h.drop (c := 1)).jump (by omega))⟩
      · rw [if_neg c3] at k ⊢
        exact ⟨trivial, trivial, trivial, trivial, k _ _ ((h.drop (c := 1)).jump (p := zpc S + 1) (by omega))⟩
    · rw [if_pos (Or.inr c2)] at e
      rw [i0]
      exact k.bk h e
set_option maxRecDepth 100000 in
theorem ms_25 {K : Nat} (hK : K = 25) (h : GA b A0 I0 A I S F) (hg : gRM A0 I0 G) (hok : zok S F) (hN : F.1 < 32258) (hp : zpc S < gL G (zq S)) (ho : gO G (zq S) (zpc S) = K) (ha : ∀ c, alt = some c → c < (zsi K S).1) (k : RMk b A0 I0 (zoper G alt F S) K S F A Q) : D163_operate (altv alt) A I Q := by
  have hz := h.wf.hi
  have hb := h.hb
  have h40 := m_pc hg h.wf hp
  have hr := m_num hg h.wf hp (ho.trans hK)
  have e := zo_25 (alt := alt) (F := F) (ho.trans hK)
  refine M_pre h hg hp ho (by omega) (fun _ => absurd hK (by omega)) (fun _ _ => absurd hK (by omega)) (fun _ _ => absurd hK (by omega)) (fun _ _ => absurd hK (by omega)) (fun _ => ?_)
  unfold D186_calls
  rw [iEq (by omega) (by decide), if_pos hK]
  obtain ⟨q, -, hq, ei⟩ := rg_nat hr (by decide) (by decide)
  rw [ei] at e ⊢
  rw [nI_clamp (by omega)] at e
  have g := h.loM hg
  have hG := g.1.1
  rw [g.2.1, iLt (by omega) (by omega)]
  by_cases c1 : q < G.1
  · have ha := g.1.2.1 q c1
    have hl := (g.1.2.2 q (by omega)).1
    rw [if_pos c1, vpT (n := q) (by omega) (by decide), nI_clamp (n := q) (by omega), (g.2.2.2 q (by omega)).1, g.2.2.1 q c1, iEq0 (by omega)]
    refine ⟨trivial, ?_⟩
    by_cases c2 : gL G q = 0
    · rw [if_pos (by omega)] at e
      rw [if_pos c2]
      exact k.bk h e
    · rw [if_neg c2, iLt (by omega) (by omega)]
      refine ⟨trivial, ?_⟩
      by_cases c3 : zh S < gA G q
      · rw [if_pos (by omega)] at e
        rw [if_pos c3]
        exact k.bk h e
      · rw [if_neg c3, pk_sub (by omega), iEq (by omega) (by decide)]
        refine ⟨trivial, ?_⟩
        by_cases c4 : zh S - gA G q = 12
        · rw [if_pos (by omega)] at e
          rw [if_pos c4]
          exact k.bk h e
        · rw [if_neg (by omega)] at e
          rw [if_neg c4, h.w, nI_add, Nat.add_zero, vpT (n := b) (by omega) (by decide), nI_clamp (n := b) (by omega), h.t, iEq (by omega) (by decide)]
          refine ⟨trivial, ?_⟩
          by_cases c5 : zt S = 3
          · rw [if_pos c5] at e
            rw [if_pos (by omega)]
            exact M_thr h hg (by decide) (k.go e)
          · rw [if_neg c5] at e
            rw [if_neg (by omega)]
            refine ⟨trivial, ?_, ?_, M_call h (by omega) (by omega) (by omega) (by omega) (by omega) h40 (fun A' I' h' => (k.go e).1 rfl _ _ h')⟩
            · rw [h.f, nI_add]; exact vp_in_nI (by omega) (by decide)
            · rw [h.f, nI_add]; exact vp_in_nI (by omega) (by decide)
  · rw [if_pos (Or.inl c1)] at e
    rw [if_neg c1]
    exact k.bk h e
set_option maxRecDepth 100000 in
theorem ms_26 {K : Nat} (hK : K = 26) (h : GA b A0 I0 A I S F) (hg : gRM A0 I0 G) (hok : zok S F) (hN : F.1 < 32258) (hp : zpc S < gL G (zq S)) (ho : gO G (zq S) (zpc S) = K) (ha : ∀ c, alt = some c → c < (zsi K S).1) (k : RMk b A0 I0 (zoper G alt F S) K S F A Q) : D163_operate (altv alt) A I Q := by
  have hz := h.wf.hi
  have hb := h.hb
  have h40 := m_pc hg h.wf hp
  have hr := m_num hg h.wf hp (ho.trans hK)
  have e := zo_26 (alt := alt) (F := F) (ho.trans hK)
  refine M_pre h hg hp ho (by omega) (fun _ => absurd hK (by omega)) (fun _ _ => absurd hK (by omega)) (fun _ _ => absurd hK (by omega)) (fun _ _ => absurd hK (by omega)) (fun _ => ?_)
  unfold D186_calls
  rw [iEq (by omega) (by decide), if_neg (by omega), iEq (by omega) (by decide), if_pos hK]
  rw [iLt (by omega) (by decide)]
  by_cases c : zh S < 1
  · rw [if_pos c] at e ⊢
    exact k.bk h e
  · rw [if_neg c] at e ⊢
    refine M_top h (by omega) ?_
    rw [h.w, nI_add, nI_add, Nat.add_zero, vpT (n := b) (by omega) (by decide), vpT (n := b + 517) (by omega) (by decide), nI_clamp (n := b) (by omega), nI_clamp (n := b + 517) (by omega), h.t, iEq (by omega) (by decide)]
    refine ⟨trivial, ?_⟩
    by_cases c2 : zt S = 0
    · rw [if_pos c2] at e
      rw [if_pos (by omega)]
      refine ⟨trivial, ?_⟩
      have g : GA b A0 I0 (sA A 1688 (b + 517) (zpk S 0)) I S F := by
        obtain ⟨h1, h2, h3, h4, h5, h6⟩ := h
        refine ⟨h1, h2, h3, ?_, h5.sa, h6.sa (by unfold zMI; omega)⟩
        obtain ⟨r1, r2, r3, r4, r5, r6, r7⟩ := h4
        refine ⟨r1, r2, by rw [sA_n (by omega)]; exact r3, by rw [sA_n (by omega)]; exact r4, by rw [sA_n (by omega)]; exact r5, fun f hf => ?_, fun k hk => ?_⟩
        · obtain ⟨f1, f2, f3, f4⟩ := r6 f hf
          have hf12 := (h2.2.1 f hf).2.2
          exact ⟨by rw [sA_n (by omega)]; exact f1, by rw [sA_n (by omega)]; exact f2, by rw [sA_n (by omega)]; exact f3, fun j hj => by rw [sA_n (by omega)]; exact f4 j hj⟩
        · obtain ⟨k1, k2⟩ := r7 k hk
          have hl := h2.2.2.2.2.1 k hk
          have hn := h2.2.2.2.1
          exact ⟨by rw [sA_n (by omega)]; exact k1, fun i hi => by rw [sA_n (by omega)]; exact k2 i hi⟩
      have k := (k.go e).2 rfl
      by_cases c3 : zpk S 0 < 0
      · rw [if_pos c3] at k ⊢
        exact M_place g (M_ends (S' := S) g (fun A' I' f => k _ _ (f _ rfl rfl rfl (h.2.2.1.trans nI_0.symm) (fun y => absurd y (by decide)))))
      · rw [if_neg c3] at k ⊢
        exact M_place g (M_ends (S' := S) g (fun A' I' f => k _ _ (f _ rfl rfl rfl (h.2.2.1.trans nI_0.symm) (fun y => sA_e))))
    · rw [if_neg c2] at e
      rw [if_neg (by omega), pk_sub (by omega)]
      have hl := h.wf.2.2.1 (zt S - 1) (by omega)
      refine ⟨trivial, trivial, M_frame hb h.w (t := zt S - 1) (by omega) (by rw [sA_e]; congr 1; omega) ?_⟩
      have k := (k.go e).1 rfl
      exact M_next1 (h.leave (by omega)) (n100 (hok.pk (by omega)) (by omega) h.wf.2.2.2.1) (by omega) (by show zH S (zt S - 1) - 0 < 12; omega) (by show zP S (zt S - 1) < 40; omega) (fun A' h' => k _ _ h')
set_option maxRecDepth 100000 in
theorem ms_27 {K : Nat} (hK : K = 27) (h : GA b A0 I0 A I S F) (hg : gRM A0 I0 G) (hok : zok S F) (hN : F.1 < 32258) (hp : zpc S < gL G (zq S)) (ho : gO G (zq S) (zpc S) = K) (ha : ∀ c, alt = some c → c < (zsi K S).1) (k : RMk b A0 I0 (zoper G alt F S) K S F A Q) : D163_operate (altv alt) A I Q := by
  have hz := h.wf.hi
  have hb := h.hb
  have h40 := m_pc hg h.wf hp
  have hr := m_num hg h.wf hp (ho.trans hK)
  have e := zo_27 (alt := alt) (F := F) (ho.trans hK)
  refine M_pre h hg hp ho (by omega) (fun _ => absurd hK (by omega)) (fun _ _ => absurd hK (by omega)) (fun _ _ => absurd hK (by omega)) (fun _ _ => absurd hK (by omega)) (fun _ => ?_)
  unfold D186_calls
  rw [iEq (by omega) (by decide), if_neg (by omega), iEq (by omega) (by decide), if_neg (by omega), iEq (by omega) (by decide), if_pos hK]
  obtain ⟨i, -, i2, ei⟩ := rg_nat hr (by decide) (by decide)
  rw [ei] at e ⊢
  rw [nI_clamp (by omega)] at e
  exact M_thr h hg i2 (k.go e)
set_option maxRecDepth 100000 in
theorem ms_28 {K : Nat} (hK : K = 28) (h : GA b A0 I0 A I S F) (hg : gRM A0 I0 G) (hok : zok S F) (hN : F.1 < 32258) (hp : zpc S < gL G (zq S)) (ho : gO G (zq S) (zpc S) = K) (ha : ∀ c, alt = some c → c < (zsi K S).1) (k : RMk b A0 I0 (zoper G alt F S) K S F A Q) : D163_operate (altv alt) A I Q := by
  have hz := h.wf.hi
  have hb := h.hb
  have h40 := m_pc hg h.wf hp
  have hr := m_num hg h.wf hp (ho.trans hK)
  have e := zo_28 (alt := alt) (F := F) (ho.trans hK)
  refine M_pre h hg hp ho (by omega) (fun _ => absurd hK (by omega)) (fun _ _ => absurd hK (by omega)) (fun _ _ => absurd hK (by omega)) (fun _ _ => absurd hK (by omega)) (fun _ => ?_)
  unfold D186_calls
  rw [iEq (by omega) (by decide), if_neg (by omega), iEq (by omega) (by decide), if_neg (by omega), iEq (by omega) (by decide), if_neg (by omega), iEq (by omega) (by decide), if_pos hK]
  rw [iEq (by omega) (by decide)]
  by_cases c : zh S = 12
  · rw [if_pos c] at e ⊢
    exact k.bk h e
  · rw [if_neg c] at e ⊢
    exact M_next1 h (by decide) (by omega) (by omega) h40 (fun A' h' => (k.go e).1 rfl _ _ h')
set_option maxRecDepth 100000 in
theorem ms_29 {K : Nat} (hK : K = 29) (h : GA b A0 I0 A I S F) (hg : gRM A0 I0 G) (hok : zok S F) (hN : F.1 < 32258) (hp : zpc S < gL G (zq S)) (ho : gO G (zq S) (zpc S) = K) (ha : ∀ c, alt = some c → c < (zsi K S).1) (k : RMk b A0 I0 (zoper G alt F S) K S F A Q) : D163_operate (altv alt) A I Q := by
  have hz := h.wf.hi
  have hb := h.hb
  have h40 := m_pc hg h.wf hp
  have hr := m_num hg h.wf hp (ho.trans hK)
  have e := zo_29 (alt := alt) (F := F) (ho.trans hK)
  refine M_pre h hg hp ho (by omega) (fun _ => absurd hK (by omega)) (fun _ _ => absurd hK (by omega)) (fun _ _ => absurd hK (by omega)) (fun _ _ => absurd hK (by omega)) (fun _ => ?_)
  unfold D186_calls
  rw [iEq (by omega) (by decide), if_neg (by omega), iEq (by omega) (by decide), if_neg (by omega), iEq (by omega) (by decide), if_neg (by omega), iEq (by omega) (by decide), if_neg (by omega)]
  by_cases c0 : gU G (zq S) (zpc S) = 0
  · rw [if_neg (fun y => y c0)] at e
    rw [if_pos c0, iLt (by omega) (by decide)]
    by_cases c : zh S < 1
    · rw [if_pos (Or.inl c)] at e
      rw [if_pos c]
      exact k.bk h e
    · rw [if_neg c]
      refine M_isWord h (by omega) (fun c2 => ?_) (fun c2 => ?_)
      · rw [if_neg (by rintro (y | y); exact c y; exact c2 y)] at e
        rw [i1]
        exact M_top h (by omega) (M_reckons1 (by decide) h hok.1 hN (hok.wd h.wf (by omega) c2) (by omega) h40 (k.go e))
      · rw [if_pos (Or.inr c2)] at e
        rw [i0]
        exact k.bk h e
  · rw [if_pos c0] at e
    rw [if_neg c0]
    have k := (k.go e).2 rfl
    exact M_place h (M_ends (S' := S) h (fun A' I' f => k _ _ (f _ rfl rfl rfl (h.2.2.1.trans nI_0.symm) (fun y => absurd y (by decide)))))
end RO
