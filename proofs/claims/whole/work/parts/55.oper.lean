/-! THE PROGRAM, pure; one operation, pure -/
/-- methods; of each: arguments, operations, the operations, their numbers, handlers, their from, to, target, kind -/
abbrev zG : Type := Nat × (Nat → Nat) × (Nat → Nat) × (Nat → Nat → Nat) × (Nat → Nat → Int32) × (Nat → Nat) × (Nat → Nat → Nat) × (Nat → Nat → Nat) × (Nat → Nat → Nat) × (Nat → Nat → Nat)
def gA (G : zG) : Nat → Nat := G.2.1
def gL (G : zG) : Nat → Nat := G.2.2.1
def gO (G : zG) : Nat → Nat → Nat := G.2.2.2.1
def gU (G : zG) : Nat → Nat → Int32 := G.2.2.2.2.1
def gC (G : zG) : Nat → Nat := G.2.2.2.2.2.1
def gF (G : zG) : Nat → Nat → Nat := G.2.2.2.2.2.2.1
def gT (G : zG) : Nat → Nat → Nat := G.2.2.2.2.2.2.2.1
def gG (G : zG) : Nat → Nat → Nat := G.2.2.2.2.2.2.2.2.1
def gK (G : zG) : Nat → Nat → Nat := G.2.2.2.2.2.2.2.2.2
def gwf (G : zG) : Prop := G.1 ≤ 6 ∧ (∀ q, q < G.1 → gA G q ≤ 3) ∧ (∀ q, q < 6 → gL G q ≤ 40 ∧ gC G q ≤ 4 ∧ (∀ j, j < gL G q → gO G q j < 30 ∧ rgP (gO G q j) (gU G q j)) ∧ ∀ k, k < gC G q → gF G q k ≤ 40 ∧ gT G q k ≤ 40 ∧ gG G q k ≤ 39 ∧ gK G q k ≤ 12)
def gRC (A I : HA) (G : zG) : Prop := gwf G ∧ A 1 = lw_takes ∧ A 2 = lw_leaves ∧ I 22 0 = nI G.1 ∧ (∀ q, q < G.1 → A 23 q = nI (gA G q)) ∧ (∀ q, q < 6 → A 24 q = nI (gL G q) ∧ A 27 q = nI (gC G q) ∧ (∀ j, j < gL G q → A 25 (q * 40 + j) = nI (gO G q j) ∧ A 26 (q * 40 + j) = gU G q j) ∧ ∀ k, k < gC G q → A 28 (q * 4 + k) = nI (gF G q k) ∧ A 29 (q * 4 + k) = nI (gT G q k) ∧ A 30 (q * 4 + k) = nI (gG G q k) ∧ A 31 (q * 4 + k) = nI (gK G q k))
def gRM (A I : HA) (G : zG) : Prop := gwf G ∧ I 1681 1 = nI G.1 ∧ (∀ q, q < G.1 → A 1682 q = nI (gA G q)) ∧ (∀ q, q < 6 → A 1683 q = nI (gL G q) ∧ A 1686 q = nI (gC G q) ∧ (∀ j, j < gL G q → A 1684 (40 * q + j) = nI (gO G q j) ∧ A 1685 (40 * q + j) = gU G q j) ∧ ∀ k, k < gC G q → A 1687 (16 * q + 4 * k) = nI (gF G q k) ∧ A 1687 (16 * q + 4 * k + 1) = nI (gT G q k) ∧ A 1687 (16 * q + 4 * k + 2) = nI (gG G q k) ∧ A 1687 (16 * q + 4 * k + 3) = nI (gK G q k))
/-- does handler k of method q take a kind thrown at pc -/
abbrev zhm (G : zG) (q pc kd k : Nat) : Prop := (gK G q k = 0 ∨ gK G q k = kd) ∧ gF G q k ≤ pc ∧ pc < gT G q k
/-- the first handler from k on, of m -/
def zhd (G : zG) (q pc kd : Nat) : Nat → Nat → Option Nat
  | 0, _ => none
  | m + 1, k => if zhm G q pc kd k then some (gG G q k) else zhd G q pc kd m (k + 1)
def zhv (x : Option Nat) : Int32 := match x with
  | some g => nI g
  | none => -1
theorem zhd_le {G : zG} (h : gwf G) {q pc kd : Nat} (hq : q < 6) : ∀ (m k g : Nat), m + k = gC G q → zhd G q pc kd m k = some g → g ≤ 39
  | 0, k, g, _, e => by cases e
  | m + 1, k, g, hk, e => by
    unfold zhd at e
    split at e
    · cases e; exact ((h.2.2 q hq).2.2.2 k (by omega)).2.2.1
    · exact zhd_le h hq m (k + 1) g (by omega) e
/-- a kind is thrown: frame by frame; 0 a handler has it, 1 the way has ended -/
def zrai (G : zG) (kd : Nat) (pl : Int32) : Nat → zW → Nat × zW
  | 0, S => match zhd G (zq S) (zpc S) kd (gC G (zq S)) 0 with
    | some g => (0, zjump (zpush (zdrop S 12) (nI kd + nI 128)) g)
    | none => (1, zend (zkind S (nI kd)) (nI 3) pl)
  | m + 1, S => match zhd G (zq S) (zpc S) kd (gC G (zq S)) 0 with
    | some g => (0, zjump (zpush (zdrop S 12) (nI kd + nI 128)) g)
    | none => zrai G kd pl m (zleave S)
def zthr (G : zG) (F : zF) (S : zW) (kd : Nat) : Nat × zW × zF := ((zrai G kd (zplace S) (zt S) S).1, (zrai G kd (zplace S) (zt S) S).2, F)
def zbrk (F : zF) (S : zW) : Nat × zW × zF := (1, zend S (nI 5) (zplace S), F)
def zcm (S : zW) (c : Nat) (v : Int32 × zF) : Nat × zW × zF := if v.1 = -1 then (1, zend S (nI 7) (zplace S), v.2) else (0, zfin S c v.1, v.2)
/-- the array that a reference names -/
def zar (v : Int32) : Nat := (-2 - v).toNatClampNeg
/-- which length, which element -/
def zcl (l : Int32) : Nat := if l < nI 128 then 6 else if nI 133 < l then 7 else (l - nI 128).toNatClampNeg
def zci (i : Int32) (n : Nat) : Nat := if i < nI 128 then n else if i < nI (128 + n) then (i - nI 128).toNatClampNeg else n
/-- ONE OPERATION: with an alternative, or none; 0 on, 1 ended, 2 a split -/
def zoper (G : zG) (alt : Option Nat) (F : zF) (S : zW) : Nat × zW × zF :=
  let a := gU G (zq S) (zpc S); let n := a.toNatClampNeg; let h := zh S
  match gO G (zq S) (zpc S) with
  | 0 => if h = 12 then zbrk F S else (0, zfin S 0 (a + nI 128), F)
  | 1 => if h = 12 ∨ zV S (zt S) n = -100 then zbrk F S else (0, zfin S 0 (zV S (zt S) n), F)
  | 2 => if h < 1 then zbrk F S else (0, znext (zloc (zdrop S 1) n (zpk S 0)), F)
  | 3 => if h < 1 then zbrk F S else (0, znext (zdrop S 1), F)
  | 4 => if h < 1 ∨ h = 12 then zbrk F S else (0, znext (zpush (zpush (zdrop S 1) (zpk S 0)) (zpk S 0)), F)
  | 5 => if h < 2 then zbrk F S else (0, znext (zpush (zpush (zdrop S 2) (zpk S 0)) (zpk S 1)), F)
  | 11 => if h < 1 ∨ zpk S 0 < 0 then zbrk F S else zcm S 1 (z1 F (nI 11) (zpk S 0))
  | 9 => if h < 2 ∨ zpk S 0 < 0 ∨ zpk S 1 < 0 then zbrk F S else if isn (zpk S 0) then (if zpk S 0 = nI 128 then zthr G F S 1 else zcm S 2 (z2 F 9 (zpk S 1) (zpk S 0))) else (match alt with | none => (2, S, F) | some x => if x = 0 then zcm S 2 (z2 F 9 (zpk S 1) (zpk S 0)) else zthr G F S 1)
  | 10 => if h < 2 ∨ zpk S 0 < 0 ∨ zpk S 1 < 0 then zbrk F S else if isn (zpk S 0) then (if zpk S 0 = nI 128 then zthr G F S 1 else zcm S 2 (z2 F 10 (zpk S 1) (zpk S 0))) else (match alt with | none => (2, S, F) | some x => if x = 0 then zcm S 2 (z2 F 10 (zpk S 1) (zpk S 0)) else zthr G F S 1)
  | 17 => (0, zjump S n, F)
  | 18 => if h < 2 ∨ zpk S 0 < 0 ∨ zpk S 1 < 0 then zbrk F S else if isn (zpk S 1) ∧ isn (zpk S 0) then (0, zjump (zdrop S 2) (if zpk S 1 < zpk S 0 then n else zpc S + 1), F) else (match alt with | none => (2, S, F) | some x => (0, zjump (zdrop S 2) (if x = 0 then n else zpc S + 1), F))
  | 19 => if h < 2 ∨ zpk S 0 < 0 ∨ zpk S 1 < 0 then zbrk F S else if isn (zpk S 1) ∧ isn (zpk S 0) then (0, zjump (zdrop S 2) (if zpk S 1 = zpk S 0 then n else zpc S + 1), F) else (match alt with | none => (2, S, F) | some x => (0, zjump (zdrop S 2) (if x = 0 then n else zpc S + 1), F))
  | 20 => if h < 1 ∨ ¬ zpk S 0 < 0 then zbrk F S else (0, zjump (zdrop S 1) (if zpk S 0 = -1 then n else zpc S + 1), F)
  | 21 => if h < 1 ∨ zpk S 0 < 0 then zbrk F S else (match (if isn (zpk S 0) then some (zcl (zpk S 0)) else alt) with | none => (2, S, F) | some x => if x = 6 then zthr G F S 3 else if 5 < x ∨ zn S = 4 then zthr G F S 4 else (0, zfin (zarr S x) 1 (-2 - nI (zn S)), F))
  | 22 => if h < 2 ∨ zpk S 0 < 0 ∨ ¬ zpk S 1 < 0 then zbrk F S else if zpk S 1 = -1 then zthr G F S 5 else (match (if isn (zpk S 0) then some (zci (zpk S 0) (zL S (zar (zpk S 1)))) else alt) with | none => (2, S, F) | some x => if x < zL S (zar (zpk S 1)) then (0, zfin S 2 (zE S (zar (zpk S 1)) x), F) else zthr G F S 2)
  | 23 => if h < 3 ∨ zpk S 0 < 0 ∨ zpk S 1 < 0 ∨ ¬ zpk S 2 < 0 then zbrk F S else if zpk S 2 = -1 then zthr G F S 5 else (match (if isn (zpk S 1) then some (zci (zpk S 1) (zL S (zar (zpk S 2)))) else alt) with | none => (2, S, F) | some x => if x < zL S (zar (zpk S 2)) then (0, znext (zdrop (zset S (zar (zpk S 2)) x (zpk S 0)) 3), F) else zthr G F S 2)
  | 24 => if h < 1 ∨ ¬ zpk S 0 < 0 then zbrk F S else if zpk S 0 = -1 then zthr G F S 5 else (0, zfin S 1 (nI (zL S (zar (zpk S 0))) + nI 128), F)
  | 25 => if ¬ n < G.1 ∨ gL G n = 0 ∨ h < gA G n ∨ 12 ≤ h - gA G n then zbrk F S else if zt S = 3 then zthr G F S 6 else (0, zcall S n (gA G n), F)
  | 26 => if h < 1 then zbrk F S else if zt S = 0 then (1, zend (zret S (zpk S 0)) (if zpk S 0 < 0 then nI 2 else nI 1) (zplace S), F) else (0, zfin (zleave S) 0 (zpk S 0), F)
  | 27 => zthr G F S n
  | 28 => if h = 12 then zbrk F S else (0, zfin S 0 (-1), F)
  | 29 => if ¬ a = 0 then (1, zend S (nI 6) (zplace S), F) else if h < 1 ∨ zpk S 0 < 0 then zbrk F S else zcm S 1 (z1 F (nI 29) (zpk S 0))
  | o => if h < 2 ∨ zpk S 0 < 0 ∨ zpk S 1 < 0 then zbrk F S else zcm S 2 (z2 F o (zpk S 1) (zpk S 0))
/-- what values may be: words, null, arrays that there are; locals also nothing -/
def okv (N n : Nat) (v : Int32) : Prop := (∃ j, j < N ∧ v = nI j) ∨ v = -1 ∨ ∃ k, k < n ∧ v = -2 - nI k
def zok (S : zW) (F : zF) : Prop := zfok F ∧ (∀ f, f ≤ zt S → ∀ j, j < 6 + zH S f → okv F.1 (zn S) (zV S f j) ∨ j < 6 ∧ zV S f j = -100) ∧ ∀ k, k < zn S → ∀ i, i < zL S k → wdv F (zE S k i)
section CP
variable {w : Nat} {A0 I0 A I : HA} {S : zW} {F : zF} {G : zG}
theorem GC.low (h : GC w A0 I0 A I S F) (hw : gRC A0 I0 G) : gRC A I G := by
  have hf := h.1.far
  have e := h.2.2.2.2.1
  have ei : I 22 0 = I0 22 0 := h.2.2.2.2.2 22 0 (by omega) (by omega)
  unfold gRC at hw ⊢
  rw [e 1 (by omega) (by omega), e 2 (by omega) (by omega), e 23 (by omega) (by omega), e 24 (by omega) (by omega), e 25 (by omega) (by omega), e 26 (by omega) (by omega), e 27 (by omega) (by omega), e 28 (by omega) (by omega), e 29 (by omega) (by omega), e 30 (by omega) (by omega), e 31 (by omega) (by omega), ei]
  exact hw
theorem C_opOf {Q : Int32 → Prop} (h : GC w A0 I0 A I S F) (hg : gRC A0 I0 G) (hp : zpc S < gL G (zq S)) (k : Q (nI (gO G (zq S) (zpc S)))) : D47_opOf w A I Q := by
  have g := h.low hg
  have hz := h.wf.hi
  have hl := (g.1.2.2 (zq S) hz.2.1).1
  refine C_slotNow h ?_
  unfold D80_opAt
  rw [vpT (by omega) (by decide), nI_clamp (by omega), ((g.2.2.2.2.2 (zq S) hz.2.1).2.2.1 _ hp).1]
  exact ⟨trivial, k⟩
theorem C_numberOf {Q : Int32 → Prop} (h : GC w A0 I0 A I S F) (hg : gRC A0 I0 G) (hp : zpc S < gL G (zq S)) (k : Q (gU G (zq S) (zpc S))) : D49_numberOf w A I Q := by
  have g := h.low hg
  have hz := h.wf.hi
  have hl := (g.1.2.2 (zq S) hz.2.1).1
  refine C_slotNow h ?_
  unfold D81_numberAt
  rw [vpT (by omega) (by decide), nI_clamp (by omega), ((g.2.2.2.2.2 (zq S) hz.2.1).2.2.1 _ hp).2]
  exact ⟨trivial, k⟩
theorem C_hasOperation {Q : Int32 → Prop} {q p : Nat} (g : gRC A I G) (hq : q < 6) (hp : p ≤ 40) (k : Q (nI (if p < gL G q then 1 else 0))) : D83_hasOperation (nI q) (nI p) A I Q := by
  have hl := (g.1.2.2 q hq).1
  unfold D83_hasOperation
  rw [iLt0 (by omega), vpT (by omega) (by decide), nI_clamp (by omega), (g.2.2.2.2.2 q hq).1, iLt (by omega) (by omega)]
  refine ⟨trivial, ?_⟩
  split
  · rename_i e; rw [if_pos e] at k; exact k
  · rename_i e; rw [if_neg e] at k; exact k
theorem C_argumentsOf {Q : Int32 → Prop} {q : Nat} (g : gRC A I G) (hq : q < G.1) (k : Q (nI (gA G q))) : D85_argumentsOf (nI q) A I Q := by
  have := g.1.1
  unfold D85_argumentsOf
  rw [vpT (by omega) (by decide), nI_clamp (by omega), g.2.2.2.2.1 q hq]
  exact ⟨trivial, k⟩
theorem C_canBeCalled {Q : Int32 → Prop} {q : Nat} (g : gRC A I G) (hq : q < 6) (k : Q (nI (if q < G.1 ∧ ¬ gL G q = 0 then 1 else 0))) : D84_canBeCalled (nI q) A I Q := by
  have := g.1.1
  have hl := (g.1.2.2 q hq).1
  unfold D84_canBeCalled D74_hasMethod
  rw [iLt0 (by omega), g.2.2.2.1, iLt (by omega) (by omega)]
  by_cases e : q < G.1
  · rw [if_pos e]
    show if nI 1 = 0 then _ else _
    rw [i1, vpT (by omega) (by decide), nI_clamp (by omega), (g.2.2.2.2.2 q hq).1]
    refine ⟨trivial, ?_⟩
    rw [← nI_0, iLt (by omega) (by omega)]
    by_cases e2 : gL G q = 0
    · rw [if_neg (fun z => z.2 e2)] at k; rw [if_neg (by omega)]; exact k
    · rw [if_pos ⟨e, e2⟩] at k; rw [if_pos (by omega)]; exact k
  · rw [if_neg (fun z => e z.1)] at k; rw [if_neg e]; show if nI 0 = 0 then _ else _; rw [i0]; exact k
theorem C_handlerTarget {Q : Int32 → Prop} {q pc kd : Nat} (g : gRC A I G) (hq : q < 6) (hpc : pc ≤ 40) (hkd : kd ≤ 12) (k : Q (zhv (zhd G q pc kd (gC G q) 0))) : D82_handlerTarget (nI q) (nI pc) (nI kd) A I Q := by
  obtain ⟨hL, hC, hO, hH⟩ := g.1.2.2 q hq
  obtain ⟨r1, r2, r3, r4⟩ := g.2.2.2.2.2 q hq
  intro P hP
  have key : ∀ m i, m + i = gC G q → Q (zhv (zhd G q pc kd m i)) → P (nI (q * 4 + i)) := by
    intro m
    induction m with
    | zero =>
      intro i hi hQ
      refine hP _ ?_
      rw [vpT (by omega) (by decide), nI_clamp (by omega), r2, pk_mul, nI_add, iLt (by omega) (by omega), if_neg (by omega)]
      exact ⟨trivial, hQ⟩
    | succ m ih =>
      intro i hi hQ
      obtain ⟨b1, b2, b3, b4⟩ := hH i (by omega)
      obtain ⟨e1, e2, e3, e4⟩ := r4 i (by omega)
      refine hP _ ?_
      rw [vpT (by omega) (by decide), nI_clamp (by omega), r2, pk_mul, nI_add, iLt (by omega) (by omega), if_pos (by omega), vpT (by omega) (by decide), nI_clamp (by omega), e1, e2, e3, e4, iEq0 (by omega), iEq (by omega) (by omega), iLt (by omega) (by omega), iLt (by omega) (by omega), nI_add]
      have ih := ih (i + 1) (by omega)
      rw [show q * 4 + (i + 1) = q * 4 + i + 1 by omega] at ih
      refine ⟨trivial, trivial, ?_⟩
      unfold zhd at hQ
      by_cases c : zhm G q pc kd i
      · rw [if_pos c] at hQ
        have t : if pc < gF G q i then P (nI (q * 4 + i + 1)) else True ∧ if pc < gT G q i then True ∧ Q (nI (gG G q i)) else P (nI (q * 4 + i + 1)) := by
          rw [if_neg (by omega), if_pos c.2.2]; exact ⟨trivial, trivial, hQ⟩
        split
        · exact ⟨trivial, t⟩
        · refine ⟨trivial, ?_⟩
          rw [if_pos (by omega)]
          exact ⟨trivial, t⟩
      · rw [if_neg c] at hQ
        have ih := ih hQ
        have t : (gK G q i = 0 ∨ gK G q i = kd) → if pc < gF G q i then P (nI (q * 4 + i + 1)) else True ∧ if pc < gT G q i then True ∧ Q (nI (gG G q i)) else P (nI (q * 4 + i + 1)) := by
          intro z
          split
          · exact ih
          · rw [if_neg (fun y => c ⟨z, by omega, y⟩)]; exact ⟨trivial, ih⟩
        split
        · exact ⟨trivial, t (Or.inl ‹_›)⟩
        · refine ⟨trivial, ?_⟩
          split
          · exact ⟨trivial, t (Or.inr ‹_›)⟩
          · exact ih
  have := key (gC G q) 0 (by omega) k
  rw [pk_mul]
  exact this
theorem zwf.fin (h : zwf S) {c : Nat} {x : Int32} (hc : zh S - c < 12) (hp : zpc S < 40) : zwf (zfin S c x) := by
  have hz := h.hi
  refine zwf.P (zwf.H (zwf.V (zwf.H h (by omega))) ?_) (by show zpc S + 1 ≤ 40; omega)
  show un (zH S) (zt S) (zh S - c) (zt S) + 1 ≤ 12
  rw [un_e]; omega
theorem C_raise {Q : HA → HA → Prop} {kd : Nat} (h : GC w A0 I0 A I S F) (hg : gRC A0 I0 G) (hkd : kd ≤ 12) (k : ∀ A' I', GC w A0 I0 A' I' (zrai G kd (zplace S) (zt S) S).2 F → Q A' I') : D51_raise w (nI kd) A I Q := by
  unfold D51_raise
  refine C_placeNow h ?_
  have pl := zplace S
  revert k
  generalize zplace S = pl
  intro k P hP
  have key : ∀ (m i : Nat) (A I : HA) (S : zW), GC w A0 I0 A I S F → zt S = m → m + i ≤ 3 → (∀ A' I', GC w A0 I0 A' I' (zrai G kd pl m S).2 F → Q A' I') → P (nI i) A I := by
    intro m
    induction m with
    | zero =>
      intro i A I S h ht hi k
      have hz := h.wf.hi
      refine hP _ _ _ ?_
      rw [iLt (by omega) (by decide), if_pos (by omega)]
      refine C_methodNow h (C_operationNow h (C_handlerTarget (h.low hg) (by omega) (by omega) hkd ?_))
      unfold zrai at k
      cases e : zhd G (zq S) (zpc S) kd (gC G (zq S)) 0 with
      | none =>
        rw [e] at k
        show if (-1 : Int32) = -1 then _ else _
        rw [if_pos rfl]
        refine C_leave0 h ht ?_
        rw [i0]
        exact C_end (h.setI (S' := zkind S (nI kd)) (by omega) h.wf (repC_kind h.2.2.1 _)) (fun I' h' => k _ _ h')
      | some g =>
        rw [e] at k
        have hg39 := zhd_le (h.low hg).1 hz.2.1 _ _ _ (by omega) e
        show if nI g = -1 then _ else _
        rw [iNg (by omega) (by decide)]
        refine C_drop h (by omega) (fun A1 h1 => ?_)
        unfold D27_number
        rw [subE]
        exact C_push h1 (by show un (zH S) (zt S) (zh S - 12) (zt S) < 12; rw [un_e]; omega) (fun A2 h2 => C_jump h2 (by omega) (fun A3 h3 => k _ _ h3))
    | succ m ih =>
      intro i A I S h ht hi k
      have hz := h.wf.hi
      refine hP _ _ _ ?_
      rw [iLt (by omega) (by decide), if_pos (by omega)]
      refine C_methodNow h (C_operationNow h (C_handlerTarget (h.low hg) (by omega) (by omega) hkd ?_))
      unfold zrai at k
      cases e : zhd G (zq S) (zpc S) kd (gC G (zq S)) 0 with
      | none =>
        rw [e] at k
        show if (-1 : Int32) = -1 then _ else _
        rw [if_pos rfl]
        refine C_leave1 h (by omega) (fun I' h' => ?_)
        rw [i1, nI_add]
        exact ih (i + 1) _ _ _ h' (by show zt S - 1 = m; omega) (by omega) k
      | some g =>
        rw [e] at k
        have hg39 := zhd_le (h.low hg).1 hz.2.1 _ _ _ (by omega) e
        show if nI g = -1 then _ else _
        rw [iNg (by omega) (by decide)]
        refine C_drop h (by omega) (fun A1 h1 => ?_)
        unfold D27_number
        rw [subE]
        exact C_push h1 (by show un (zH S) (zt S) (zh S - 12) (zt S) < 12; rw [un_e]; omega) (fun A2 h2 => C_jump h2 (by omega) (fun A3 h3 => k _ _ h3))
  exact key (zt S) 0 A I S h rfl (by have := h.wf.hi; omega) k
end CP
