/-! THE RUNS, PURE: the state of a way, what class and reference hold of it -/
theorem sA_e {A : HA} {a i : Nat} {x : Int32} : sA A a i x a i = x := by unfold sA; rw [va_up_self, pk_us]
theorem sA_n {A : HA} {a i b j : Nat} {x : Int32} (h : b ≠ a ∨ j ≠ i) : sA A a i x b j = A b j := by
  unfold sA
  by_cases hb : b = a
  · subst hb; rw [va_up_self, pk_un (h.resolve_left (fun z => z rfl))]
  · rw [va_up_ne _ _ hb]
theorem sA_na {A : HA} {a i b : Nat} {x : Int32} (h : b ≠ a) : sA A a i x b = A b := by unfold sA; rw [va_up_ne _ _ h]
theorem sI_e {A : HA} {a i : Nat} {x : Int32} : sI A a i x a i = x := sA_e
theorem sI_n {A : HA} {a i b j : Nat} {x : Int32} (h : b ≠ a ∨ j ≠ i) : sI A a i x b j = A b j := sA_n h
theorem sI_na {A : HA} {a i b : Nat} {x : Int32} (h : b ≠ a) : sI A a i x b = A b := sA_na h
theorem vpT {n N : Nat} (h : n < N) (hN : N < 2 ^ 31) : vp_in (nI n) N = True := eq_true (vp_in_nI h hN)
theorem ltT {a b : Nat} (ha : a < 2 ^ 31) (hb : b < 2 ^ 31) : (nI a < nI b) = (a < b) := propext (nI_ltI ha hb)
theorem eqT {a b : Nat} (ha : a < 2 ^ 31) (hb : b < 2 ^ 31) : (nI a = nI b) = (a = b) := propext (nI_eq ha hb)
theorem lt0T {a : Nat} (ha : a < 2 ^ 31) : (nI a < 0) = False := eq_false (nI_pos ha)
theorem eq0T {a : Nat} (ha : a < 2 ^ 31) : (nI a = 0) = (a = 0) := propext ⟨fun e => (nI_eq ha (by decide)).mp (e.trans nI_0.symm), fun e => by rw [e]; rfl⟩
theorem eqnT {a : Nat} {x : Int32} (ha : a < 2 ^ 31) (hx : x < 0) : (nI a = x) = False := eq_false fun e => nI_pos ha (e ▸ hx)
theorem sub_neg {a b : Nat} (h : a < b) (hb : b < 2 ^ 30) : (nI a - nI b < 0) = True := eq_true (by
  rw [Int32.lt_iff_toInt_lt, pk_sub_toInt (by omega) hb]
  show (a : Int) - b < 0
  omega)
/-- a way's run: frames (how many below the top one, method, place, height, values), arrays (how many, lengths, elements), done, outcome, place, kind, what it returned -/
abbrev zW : Type := (Nat × (Nat → Nat) × (Nat → Nat) × (Nat → Nat) × (Nat → Nat → Int32)) × (Nat × (Nat → Nat) × (Nat → Nat → Int32)) × (Nat × Int32 × Int32 × Int32 × Int32)
def zt (S : zW) : Nat := S.1.1
def zM (S : zW) : Nat → Nat := S.1.2.1
def zP (S : zW) : Nat → Nat := S.1.2.2.1
def zH (S : zW) : Nat → Nat := S.1.2.2.2.1
def zV (S : zW) : Nat → Nat → Int32 := S.1.2.2.2.2
def zn (S : zW) : Nat := S.2.1.1
def zL (S : zW) : Nat → Nat := S.2.1.2.1
def zE (S : zW) : Nat → Nat → Int32 := S.2.1.2.2
def zd (S : zW) : Nat := S.2.2.1
def zo (S : zW) : Int32 := S.2.2.2.1
def zpl (S : zW) : Int32 := S.2.2.2.2.1
def zk (S : zW) : Int32 := S.2.2.2.2.2.1
def zr (S : zW) : Int32 := S.2.2.2.2.2.2
def un {α : Type} (f : Nat → α) (i : Nat) (x : α) : Nat → α := fun j => if j = i then x else f j
def u2 (f : Nat → Nat → Int32) (i j : Nat) (x : Int32) : Nat → Nat → Int32 := fun a b => if a = i ∧ b = j then x else f a b
theorem un_e {α : Type} {f : Nat → α} {i : Nat} {x : α} : un f i x i = x := by unfold un; rw [if_pos rfl]
theorem un_n {α : Type} {f : Nat → α} {i j : Nat} {x : α} (h : j ≠ i) : un f i x j = f j := by unfold un; rw [if_neg h]
theorem u2_e {f : Nat → Nat → Int32} {i j : Nat} {x : Int32} : u2 f i j x i j = x := by unfold u2; rw [if_pos ⟨rfl, rfl⟩]
theorem u2_n {f : Nat → Nat → Int32} {i j a b : Nat} {x : Int32} (h : a ≠ i ∨ b ≠ j) : u2 f i j x a b = f a b := by
  unfold u2
  rw [if_neg]
  rintro ⟨rfl, rfl⟩
  exact h.elim (fun z => z rfl) (fun z => z rfl)
/-- the top frame's height, its value so far below the top -/
def zh (S : zW) : Nat := zH S (zt S)
def zpk (S : zW) (b : Nat) : Int32 := zV S (zt S) (6 + (zh S - 1 - b))
def zpc (S : zW) : Nat := zP S (zt S)
def zq (S : zW) : Nat := zM S (zt S)
def zplace (S : zW) : Int32 := nI (100 * zq S + zpc S)
def sM (S : zW) (f x : Nat) : zW := ((zt S, un (zM S) f x, zP S, zH S, zV S), S.2)
def sP (S : zW) (f x : Nat) : zW := ((zt S, zM S, un (zP S) f x, zH S, zV S), S.2)
def sH (S : zW) (f x : Nat) : zW := ((zt S, zM S, zP S, un (zH S) f x, zV S), S.2)
def sV (S : zW) (f j : Nat) (x : Int32) : zW := ((zt S, zM S, zP S, zH S, u2 (zV S) f j x), S.2)
def sT (S : zW) (x : Nat) : zW := ((x, zM S, zP S, zH S, zV S), S.2)
def zjump (S : zW) (p : Nat) : zW := sP S (zt S) p
def zdrop (S : zW) (c : Nat) : zW := sH S (zt S) (zh S - c)
def zpush (S : zW) (x : Int32) : zW := sH (sV S (zt S) (6 + zh S) x) (zt S) (zh S + 1)
def zloc (S : zW) (i : Nat) (x : Int32) : zW := sV S (zt S) i x
def zleave (S : zW) : zW := sT S (zt S - 1)
def znext (S : zW) : zW := zjump S (zpc S + 1)
def zfin (S : zW) (c : Nat) (x : Int32) : zW := znext (zpush (zdrop S c) x)
def zend (S : zW) (o pl : Int32) : zW := (S.1, S.2.1, (zd S, o, pl, zk S, zr S))
def zkind (S : zW) (x : Int32) : zW := (S.1, S.2.1, (zd S, zo S, zpl S, x, zr S))
def zret (S : zW) (x : Int32) : zW := (S.1, S.2.1, (zd S, zo S, zpl S, zk S, x))
def zdone (S : zW) : zW := (S.1, S.2.1, (zd S + 1, zo S, zpl S, zk S, zr S))
def zset (S : zW) (k i : Nat) (x : Int32) : zW := (S.1, (zn S, zL S, u2 (zE S) k i x), S.2.2)
/-- an array more -/
def zarr (S : zW) (l : Nat) : zW := (S.1, (zn S + 1, un (zL S) (zn S) l, fun k i => if k = zn S then nI 128 else zE S k i), S.2.2)
/-- a frame more: method q; its first c values are the top ones of the frame below -/
def zcall (S : zW) (q c : Nat) : zW := ((zt S + 1, un (zM S) (zt S + 1) q, un (zP S) (zt S + 1) 0, un (un (zH S) (zt S) (zh S - c)) (zt S + 1) 0, fun f j => if f = zt S + 1 then (if j < c then zV S (zt S) (6 + (zh S - c) + j) else if j < 6 then -100 else zV S f j) else zV S f j), S.2)
/-- the made formulas: how many numbers are used; operation, left, right, size -/
abbrev zF : Type := Nat × (Nat → Int32) × (Nat → Int32) × (Nat → Int32) × (Nat → Nat)
/-- the frames that the class holds at w -/
def zRepC (w : Nat) (A I : HA) (S : zW) : Prop := I w 4 = nI (zt S) ∧ I w 7 = nI (zn S) ∧ I w 11 = nI (zd S) ∧ I w 12 = zo S ∧ I w 13 = zpl S ∧ I w 14 = zk S ∧ I w 15 = zr S ∧
  (∀ f, f ≤ zt S → A (w + 1) f = nI (zM S f) ∧ A (w + 2) f = nI (zP S f) ∧ A (w + 3) f = nI (zH S f) ∧ ∀ j, j < 6 + zH S f → A (w + 4) (f * 18 + j) = zV S f j) ∧
  (∀ k, k < zn S → A (w + 5) k = nI (zL S k) ∧ ∀ i, i < zL S k → A (w + 6) (k * 5 + i) = zE S k i)
/-- the frames that the reference holds from b on -/
def zRepM (b : Nat) (A I : HA) (S : zW) : Prop := I 1681 35 = nI b ∧ I 1681 36 = nI (b + 30 + 21 * zt S) ∧ A 1688 b = nI (zt S + 1) ∧ A 1688 (b + 5) = nI (zn S) ∧ A 1688 (b + 1) = nI (zd S) ∧
  (∀ f, f ≤ zt S → A 1688 (b + 30 + 21 * f) = nI (zM S f) ∧ A 1688 (b + 30 + 21 * f + 1) = nI (zP S f) ∧ A 1688 (b + 30 + 21 * f + 2) = nI (zH S f) ∧ ∀ j, j < 6 + zH S f → A 1688 (b + 30 + 21 * f + (3 + j)) = zV S f j) ∧
  (∀ k, k < zn S → A 1688 (b + 6 + k) = nI (zL S k) ∧ ∀ i, i < zL S k → A 1688 (b + 10 + (k * 5 + i)) = zE S k i)
/-- sizes within the rows -/
def zwf (S : zW) : Prop := zt S ≤ 3 ∧ (∀ f, f ≤ zt S → zM S f < 6 ∧ zP S f ≤ 40 ∧ zH S f ≤ 12) ∧ (∀ f, f < zt S → zH S f ≤ 11 ∧ zP S f ≤ 39) ∧ zn S ≤ 4 ∧ (∀ k, k < zn S → zL S k ≤ 5) ∧ zd S ≤ 200
def zFC (A I : HA) (F : zF) : Prop := I 32 4 = nI F.1 ∧ 258 ≤ F.1 ∧ F.1 ≤ 32258 ∧ ∀ j, 258 ≤ j → j < F.1 → A 33 j = F.2.1 j ∧ A 34 j = F.2.2.1 j ∧ A 35 j = F.2.2.2.1 j ∧ A 36 j = nI (F.2.2.2.2 j)
def zFM (A I : HA) (F : zF) : Prop := I 1681 15 = nI F.1 ∧ 258 ≤ F.1 ∧ F.1 ≤ 32258 ∧ (∀ j, j < 258 → A 1694 j = nI 1) ∧ ∀ j, 258 ≤ j → j < F.1 → A 1691 j = F.2.1 j ∧ A 1692 j = F.2.2.1 j ∧ A 1693 j = F.2.2.2.1 j ∧ A 1694 j = nI (F.2.2.2.2 j)
/-- the class's heap: a way at w, the formulas; all else as in A0, I0 -/
def GC (w : Nat) (A0 I0 A I : HA) (S : zW) (F : zF) : Prop := isW w ∧ zwf S ∧ zRepC w A I S ∧ zFC A I F ∧ (∀ a, ¬ (w + 1 ≤ a ∧ a ≤ w + 6) → ¬ (33 ≤ a ∧ a ≤ 36) → A a = A0 a) ∧
  (∀ a j, ¬ (a = w ∧ (j = 4 ∨ j = 7 ∨ 11 ≤ j ∧ j ≤ 15)) → ¬ (a = 32 ∧ j = 4) → I a j = I0 a j)
/-- where the reference's runs write -/
def zMI (j : Nat) : Prop := j ≤ 1 ∨ 5 ≤ j ∧ j < 114 ∨ 514 ≤ j ∧ j < 518
/-- the reference's heap: a way from b on, the formulas; all else as in A0, I0 -/
def GM (b : Nat) (A0 I0 A I : HA) (S : zW) (F : zF) : Prop := b + 520 ≤ 88400 ∧ zwf S ∧ zRepM b A I S ∧ zFM A I F ∧ (∀ a, a ≠ 1688 → ¬ (1691 ≤ a ∧ a ≤ 1694) → A a = A0 a) ∧ (∀ i, ¬ (b ≤ i ∧ zMI (i - b)) → A 1688 i = A0 1688 i) ∧
  (∀ a j, ¬ (a = 1681 ∧ (j = 15 ∨ 36 ≤ j ∧ j ≤ 39)) → I a j = I0 a j)
theorem isW.far {w : Nat} (h : isW w) : (w = 4 ∨ 71 ≤ w) ∧ w + 9 < 1681 := by
  rcases h with rfl | ⟨i, hi, rfl⟩ <;> omega
section GCs
variable {w b : Nat} {A0 I0 A I : HA} {S : zW} {F : zF}
theorem repC_M (h : zRepC w A I S) (f x : Nat) : zRepC w (sA A (w + 1) f (nI x)) I (sM S f x) := by
  obtain ⟨h1, h2, h3, h4, h5, h6, h7, h8, h9⟩ := h
  refine ⟨h1, h2, h3, h4, h5, h6, h7, fun g hg => ?_, fun k hk => ?_⟩
  · obtain ⟨f1, f2, f3, f4⟩ := h8 g hg
    refine ⟨?_, by rw [sA_na (by omega)]; exact f2, by rw [sA_na (by omega)]; exact f3, fun j hj => ?_⟩
    · show _ = nI (un (zM S) f x g)
      by_cases e : g = f
      · subst e; rw [sA_e, un_e]
      · rw [sA_n (Or.inr e), un_n e]; exact f1
    · rw [sA_na (by omega)]; exact f4 j hj
  · obtain ⟨k1, k2⟩ := h9 k hk
    exact ⟨by rw [sA_na (by omega)]; exact k1, fun i hi => by rw [sA_na (by omega)]; exact k2 i hi⟩
theorem repC_P (h : zRepC w A I S) (f x : Nat) : zRepC w (sA A (w + 2) f (nI x)) I (sP S f x) := by
  obtain ⟨h1, h2, h3, h4, h5, h6, h7, h8, h9⟩ := h
  refine ⟨h1, h2, h3, h4, h5, h6, h7, fun g hg => ?_, fun k hk => ?_⟩
  · obtain ⟨f1, f2, f3, f4⟩ := h8 g hg
    refine ⟨by rw [sA_na (by omega)]; exact f1, ?_, by rw [sA_na (by omega)]; exact f3, fun j hj => ?_⟩
    · show _ = nI (un (zP S) f x g)
      by_cases e : g = f
      · subst e; rw [sA_e, un_e]
      · rw [sA_n (Or.inr e), un_n e]; exact f2
    · rw [sA_na (by omega)]; exact f4 j hj
  · obtain ⟨k1, k2⟩ := h9 k hk
    exact ⟨by rw [sA_na (by omega)]; exact k1, fun i hi => by rw [sA_na (by omega)]; exact k2 i hi⟩
theorem repC_H (h : zRepC w A I S) (f x : Nat) (hx : ∀ j, j < 6 + x → A (w + 4) (f * 18 + j) = zV S f j) : zRepC w (sA A (w + 3) f (nI x)) I (sH S f x) := by
  obtain ⟨h1, h2, h3, h4, h5, h6, h7, h8, h9⟩ := h
  refine ⟨h1, h2, h3, h4, h5, h6, h7, fun g hg => ?_, fun k hk => ?_⟩
  · obtain ⟨f1, f2, f3, f4⟩ := h8 g hg
    refine ⟨by rw [sA_na (by omega)]; exact f1, by rw [sA_na (by omega)]; exact f2, ?_, fun j hj => ?_⟩
    · show _ = nI (un (zH S) f x g)
      by_cases e : g = f
      · subst e; rw [sA_e, un_e]
      · rw [sA_n (Or.inr e), un_n e]; exact f3
    · rw [sA_na (by omega)]
      have hj : j < 6 + un (zH S) f x g := hj
      by_cases e : g = f
      · subst e; rw [un_e] at hj; exact hx j hj
      · rw [un_n e] at hj; exact f4 j hj
  · obtain ⟨k1, k2⟩ := h9 k hk
    exact ⟨by rw [sA_na (by omega)]; exact k1, fun i hi => by rw [sA_na (by omega)]; exact k2 i hi⟩
theorem repC_V (h : zRepC w A I S) (hz : zwf S) (f j : Nat) (x : Int32) (hj : j < 18) : zRepC w (sA A (w + 4) (f * 18 + j) x) I (sV S f j x) := by
  obtain ⟨h1, h2, h3, h4, h5, h6, h7, h8, h9⟩ := h
  refine ⟨h1, h2, h3, h4, h5, h6, h7, fun g hg => ?_, fun k hk => ?_⟩
  · obtain ⟨f1, f2, f3, f4⟩ := h8 g hg
    refine ⟨by rw [sA_na (by omega)]; exact f1, by rw [sA_na (by omega)]; exact f2, by rw [sA_na (by omega)]; exact f3, fun i hi => ?_⟩
    have hh := (hz.2.1 g hg).2.2
    have hi : i < 6 + zH S g := hi
    show _ = u2 (zV S) f j x g i
    by_cases e : g = f ∧ i = j
    · obtain ⟨rfl, rfl⟩ := e; rw [sA_e, u2_e]
    · have ne : g ≠ f ∨ i ≠ j := by omega
      rw [sA_n (Or.inr (by omega)), u2_n ne]; exact f4 i hi
  · obtain ⟨k1, k2⟩ := h9 k hk
    exact ⟨by rw [sA_na (by omega)]; exact k1, fun i hi => by rw [sA_na (by omega)]; exact k2 i hi⟩
theorem repC_T (h : zRepC w A I S) {x : Nat} (hx : x ≤ zt S) : zRepC w A (sI I w 4 (nI x)) (sT S x) := by
  obtain ⟨h1, h2, h3, h4, h5, h6, h7, h8, h9⟩ := h
  exact ⟨sI_e, by rw [sI_n (by omega)]; exact h2, by rw [sI_n (by omega)]; exact h3, by rw [sI_n (by omega)]; exact h4, by rw [sI_n (by omega)]; exact h5, by rw [sI_n (by omega)]; exact h6, by rw [sI_n (by omega)]; exact h7, fun f hf => h8 f (Nat.le_trans hf hx), h9⟩
theorem repC_end (h : zRepC w A I S) (x y : Int32) : zRepC w A (sI (sI I w 12 x) w 13 y) (zend S x y) := by
  obtain ⟨h1, h2, h3, h4, h5, h6, h7, h8, h9⟩ := h
  exact ⟨by rw [sI_n (by omega), sI_n (by omega)]; exact h1, by rw [sI_n (by omega), sI_n (by omega)]; exact h2, by rw [sI_n (by omega), sI_n (by omega)]; exact h3, by rw [sI_n (by omega), sI_e]; rfl, sI_e, by rw [sI_n (by omega), sI_n (by omega)]; exact h6, by rw [sI_n (by omega), sI_n (by omega)]; exact h7, h8, h9⟩
theorem repC_kind (h : zRepC w A I S) (x : Int32) : zRepC w A (sI I w 14 x) (zkind S x) := by
  obtain ⟨h1, h2, h3, h4, h5, h6, h7, h8, h9⟩ := h
  exact ⟨by rw [sI_n (by omega)]; exact h1, by rw [sI_n (by omega)]; exact h2, by rw [sI_n (by omega)]; exact h3, by rw [sI_n (by omega)]; exact h4, by rw [sI_n (by omega)]; exact h5, sI_e, by rw [sI_n (by omega)]; exact h7, h8, h9⟩
theorem repC_ret (h : zRepC w A I S) (x : Int32) : zRepC w A (sI I w 15 x) (zret S x) := by
  obtain ⟨h1, h2, h3, h4, h5, h6, h7, h8, h9⟩ := h
  exact ⟨by rw [sI_n (by omega)]; exact h1, by rw [sI_n (by omega)]; exact h2, by rw [sI_n (by omega)]; exact h3, by rw [sI_n (by omega)]; exact h4, by rw [sI_n (by omega)]; exact h5, by rw [sI_n (by omega)]; exact h6, sI_e, h8, h9⟩
theorem repC_done (h : zRepC w A I S) {x : Int32} (hx : x = nI (zd S + 1)) : zRepC w A (sI I w 11 x) (zdone S) := by
  obtain ⟨h1, h2, h3, h4, h5, h6, h7, h8, h9⟩ := h
  exact ⟨by rw [sI_n (by omega)]; exact h1, by rw [sI_n (by omega)]; exact h2, by rw [sI_e]; exact hx, by rw [sI_n (by omega)]; exact h4, by rw [sI_n (by omega)]; exact h5, by rw [sI_n (by omega)]; exact h6, by rw [sI_n (by omega)]; exact h7, h8, h9⟩
theorem repC_set (h : zRepC w A I S) (hz : zwf S) (k i : Nat) (x : Int32) (hi : i < 5) : zRepC w (sA A (w + 6) (k * 5 + i) x) I (zset S k i x) := by
  obtain ⟨h1, h2, h3, h4, h5, h6, h7, h8, h9⟩ := h
  refine ⟨h1, h2, h3, h4, h5, h6, h7, fun g hg => ?_, fun q hq => ?_⟩
  · obtain ⟨f1, f2, f3, f4⟩ := h8 g hg
    exact ⟨by rw [sA_na (by omega)]; exact f1, by rw [sA_na (by omega)]; exact f2, by rw [sA_na (by omega)]; exact f3, fun i hi => by rw [sA_na (by omega)]; exact f4 i hi⟩
  · obtain ⟨k1, k2⟩ := h9 q hq
    refine ⟨by rw [sA_na (by omega)]; exact k1, fun j hj => ?_⟩
    have hl := hz.2.2.2.2.1 q hq
    have hj : j < zL S q := hj
    show _ = u2 (zE S) k i x q j
    by_cases e : q = k ∧ j = i
    · obtain ⟨rfl, rfl⟩ := e; rw [sA_e, u2_e]
    · have ne : q ≠ k ∨ j ≠ i := by omega
      rw [sA_n (Or.inr (by omega)), u2_n ne]; exact k2 j hj
theorem GC.setA (h : GC w A0 I0 A I S F) {S' : zW} {a i : Nat} {x : Int32} (ha : w + 1 ≤ a ∧ a ≤ w + 6) (hz : zwf S') (hr : zRepC w (sA A a i x) I S') : GC w A0 I0 (sA A a i x) I S' F := by
  obtain ⟨hw, hz0, h1, h2, h3, h4⟩ := h
  have hf := hw.far
  refine ⟨hw, hz, hr, ?_, fun b n1 n2 => ?_, h4⟩
  · unfold zFC at h2 ⊢
    rw [sA_na (by omega), sA_na (by omega), sA_na (by omega), sA_na (by omega)]
    exact h2
  · rw [sA_na (by omega)]
    exact h3 b n1 n2
theorem GC.setI (h : GC w A0 I0 A I S F) {S' : zW} {j : Nat} {x : Int32} (hj : j = 4 ∨ j = 7 ∨ 11 ≤ j ∧ j ≤ 15) (hz : zwf S') (hr : zRepC w A (sI I w j x) S') : GC w A0 I0 A (sI I w j x) S' F := by
  obtain ⟨hw, hz0, h1, h2, h3, h4⟩ := h
  have hf := hw.far
  refine ⟨hw, hz, hr, ?_, h3, fun b i n1 n2 => ?_⟩
  · unfold zFC at h2 ⊢
    rw [sI_na (by omega)]
    exact h2
  · rw [sI_n (by omega)]
    exact h4 b i n1 n2
theorem GC.top (h : GC w A0 I0 A I S F) : I w 4 = nI (zt S) := h.2.2.1.1
theorem GC.wf (h : GC w A0 I0 A I S F) : zwf S := h.2.1
theorem GC.isW (h : GC w A0 I0 A I S F) : isW w := h.1
theorem GC.fr (h : GC w A0 I0 A I S F) : A (w + 1) (zt S) = nI (zq S) ∧ A (w + 2) (zt S) = nI (zpc S) ∧ A (w + 3) (zt S) = nI (zh S) ∧ ∀ j, j < 6 + zh S → A (w + 4) (zt S * 18 + j) = zV S (zt S) j := h.2.2.1.2.2.2.2.2.2.2.1 _ (Nat.le_refl _)
theorem zwf.hi (h : zwf S) : zt S ≤ 3 ∧ zq S < 6 ∧ zpc S ≤ 40 ∧ zh S ≤ 12 := ⟨h.1, h.2.1 _ (Nat.le_refl _)⟩
theorem zwf.P (h : zwf S) {x : Nat} (hx : x ≤ 40) : zwf (sP S (zt S) x) := ⟨h.1, fun g hg => ⟨(h.2.1 g hg).1, by show un (zP S) (zt S) x g ≤ 40; unfold un; split; exact hx; exact (h.2.1 g hg).2.1, (h.2.1 g hg).2.2⟩, fun g hg => ⟨(h.2.2.1 g hg).1, by show un (zP S) (zt S) x g ≤ 39; have hg : g < zt S := hg; rw [un_n (by omega)]; exact (h.2.2.1 g hg).2⟩, h.2.2.2⟩
theorem zwf.V (h : zwf S) {f j : Nat} {x : Int32} : zwf (sV S f j x) := h
theorem zwf.T (h : zwf S) {x : Nat} (hx : x ≤ zt S) : zwf (sT S x) := ⟨Nat.le_trans hx h.1, fun f hf => h.2.1 f (Nat.le_trans hf hx), fun f hf => h.2.2.1 f (Nat.lt_of_lt_of_le hf hx), h.2.2.2⟩
theorem zwf.H (h : zwf S) {x : Nat} (hx : x ≤ 12) : zwf (sH S (zt S) x) := ⟨h.1, fun g hg => ⟨(h.2.1 g hg).1, (h.2.1 g hg).2.1, by show un (zH S) (zt S) x g ≤ 12; unfold un; split; exact hx; exact (h.2.1 g hg).2.2⟩, fun g hg => ⟨by show un (zH S) (zt S) x g ≤ 11; have hg : g < zt S := hg; rw [un_n (by omega)]; exact (h.2.2.1 g hg).1, (h.2.2.1 g hg).2⟩, h.2.2.2⟩
end GCs
