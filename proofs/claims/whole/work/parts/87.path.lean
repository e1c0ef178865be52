/-! how many inputs a way has: the same number on both sides; path -/
def b32_1 (x : Int32) : Int32 := x - ((Int32.toUInt32 x >>> (Int32.toUInt32 (nI 1) &&& Int32.toUInt32 31)).toInt32 &&& (nI 1431655765))
def b32_2 (x : Int32) : Int32 := (x &&& (nI 858993459)) + ((Int32.toUInt32 x >>> (Int32.toUInt32 (nI 2) &&& Int32.toUInt32 31)).toInt32 &&& (nI 858993459))
def b32_3 (x : Int32) : Int32 := (x + (Int32.toUInt32 x >>> (Int32.toUInt32 (nI 4) &&& Int32.toUInt32 31)).toInt32) &&& (nI 252645135)
def b32_4 (x : Int32) : Int32 := x + (Int32.toUInt32 x >>> (Int32.toUInt32 (nI 8) &&& Int32.toUInt32 31)).toInt32
def b32_5 (x : Int32) : Int32 := (x + (Int32.toUInt32 x >>> (Int32.toUInt32 (nI 16) &&& Int32.toUInt32 31)).toInt32) &&& (nI 63)
theorem b32_e {Q : Int32 → Prop} {x : Int32} (k : Q (b32_5 (b32_4 (b32_3 (b32_2 (b32_1 x)))))) : D212_bitCount x Q := k
theorem tN_and (a b : Int32) : (a &&& b).toBitVec.toNat = a.toBitVec.toNat &&& b.toBitVec.toNat := by rw [Int32.toBitVec_and, BitVec.toNat_and]
theorem tN_add {a b : Int32} (h : a.toBitVec.toNat + b.toBitVec.toNat < 2 ^ 32) : (a + b).toBitVec.toNat = a.toBitVec.toNat + b.toBitVec.toNat := by rw [Int32.toBitVec_add, BitVec.toNat_add, Nat.mod_eq_of_lt h]
theorem tN_sub {a b : Int32} (h : b.toBitVec.toNat ≤ a.toBitVec.toNat) : (a - b).toBitVec.toNat = a.toBitVec.toNat - b.toBitVec.toNat := by
  rw [Int32.toBitVec_sub, BitVec.toNat_sub]
  have := a.toBitVec.isLt
  omega
theorem and_le {a m : Nat} : a &&& m ≤ m := Nat.and_le_right
theorem t1 (x : Int32) : (b32_1 x).toBitVec.toNat = bc1 x.toBitVec.toNat := by
  unfold b32_1 bc1
  have e := pk_ushr x (nI 1) 1 (by decide)
  have le : ((x.toBitVec.toNat / 2 ^ 1) &&& (nI 1431655765).toBitVec.toNat) ≤ x.toBitVec.toNat := Nat.le_trans Nat.and_le_left (Nat.div_le_self _ _)
  rw [tN_sub (by rw [tN_and, e]; exact le), tN_and, e]
  rfl
theorem bound1 (X : Nat) (h : X < 2 ^ 32) : bc1 X < 2 ^ 32 := Nat.lt_of_le_of_lt (Nat.sub_le _ _) h
theorem t2 (x : Int32) : (b32_2 x).toBitVec.toNat = bc2 x.toBitVec.toNat := by
  unfold b32_2 bc2
  have e := pk_ushr x (nI 2) 2 (by decide)
  have c : (nI 858993459).toBitVec.toNat = 858993459 := by decide
  have l1 : x.toBitVec.toNat &&& 858993459 ≤ 858993459 := and_le
  have l2 : (x.toBitVec.toNat / 2 ^ 2) &&& 858993459 ≤ 858993459 := and_le
  rw [tN_add (by rw [tN_and, tN_and, e, c]; omega), tN_and, tN_and, e, c]
theorem t3 (x : Int32) (h : x.toBitVec.toNat ≤ 1717986918) : (b32_3 x).toBitVec.toNat = bc3 x.toBitVec.toNat := by
  unfold b32_3 bc3
  have e := pk_ushr x (nI 4) 4 (by decide)
  rw [tN_and, tN_add (by rw [e]; omega), e]
  rfl
theorem t4 (x : Int32) (h : x.toBitVec.toNat ≤ 252645135) : (b32_4 x).toBitVec.toNat = bc4 x.toBitVec.toNat := by
  unfold b32_4 bc4
  have e := pk_ushr x (nI 8) 8 (by decide)
  rw [tN_add (by rw [e]; omega), e]
theorem t5 (x : Int32) (h : x.toBitVec.toNat ≤ 600000000) : (b32_5 x).toBitVec.toNat = bc5 x.toBitVec.toNat := by
  unfold b32_5 bc5
  have e := pk_ushr x (nI 16) 16 (by decide)
  rw [tN_and, tN_add (by rw [e]; omega), e]
  rfl
theorem bit32 (x : Int32) : b32_5 (b32_4 (b32_3 (b32_2 (b32_1 x)))) = nI (bcN x.toBitVec.toNat) := by
  have e1 := t1 x
  have e2 := t2 (b32_1 x)
  have l2 : (b32_2 (b32_1 x)).toBitVec.toNat ≤ 1717986918 := by
    rw [e2]
    unfold bc2
    have l1 : (b32_1 x).toBitVec.toNat &&& 858993459 ≤ 858993459 := and_le
    have l2 : ((b32_1 x).toBitVec.toNat / 4) &&& 858993459 ≤ 858993459 := and_le
    omega
  have e3 := t3 _ l2
  have l3 : (b32_3 (b32_2 (b32_1 x))).toBitVec.toNat ≤ 252645135 := by rw [e3]; exact and_le
  have e4 := t4 _ l3
  have l4 : (b32_4 (b32_3 (b32_2 (b32_1 x)))).toBitVec.toNat ≤ 600000000 := by rw [e4]; unfold bc4; omega
  have e5 := t5 _ l4
  have l5 : bcN x.toBitVec.toNat ≤ 63 := by unfold bcN bc5; exact and_le
  apply Int32.toBitVec_inj.mp
  apply BitVec.eq_of_toNat_eq
  rw [e5, e4, e3, e2, e1, nI_ofN (by omega)]
  rfl
/-- the bits of a number -/
def pc : Nat → Nat → Nat
  | 0, _ => 0
  | n + 1, X => X % 2 + pc n (X / 2)
def dg : Nat → Nat → List Nat
  | 0, _ => []
  | n + 1, X => X % 4 :: dg n (X / 4)
theorem v4_dg : ∀ n X, X < 4 ^ n → v4 (dg n X) = X
  | 0, X, h => by have : X < 1 := h; show 0 = X; omega
  | n + 1, X, h => by
    show X % 4 + 4 * v4 (dg n (X / 4)) = X
    rw [v4_dg n (X / 4) (by have : X < 4 * 4 ^ n := by rw [Nat.mul_comm]; exact h
                            omega)]
    omega
def sd : List Nat → Nat
  | [] => 0
  | d :: D => (d - d / 2) + sd D
theorem sd_dg : ∀ n X, sd (dg n X) = pc (2 * n) X
  | 0, X => rfl
  | n + 1, X => by
    show (X % 4 - X % 4 / 2) + sd (dg n (X / 4)) = pc (2 * n + 1 + 1) X
    show _ = X % 2 + (X / 2 % 2 + pc (2 * n) (X / 2 / 2))
    rw [sd_dg n (X / 4), show X / 2 / 2 = X / 4 by omega]
    omega
theorem bcN_pc {X : Nat} (h : X < 2 ^ 32) : bcN X = pc 32 X := by
  have e := v4_dg 16 X (by exact h)
  have s := sd_dg 16 X
  have m4 : ∀ Y : Nat, Y % 4 < 4 := fun Y => Nat.mod_lt _ (by decide)
  have b := bc_dig (m4 X) (m4 (X / 4)) (m4 (X / 4 / 4)) (m4 (X / 4 / 4 / 4)) (m4 (X / 4 / 4 / 4 / 4)) (m4 (X / 4 / 4 / 4 / 4 / 4)) (m4 (X / 4 / 4 / 4 / 4 / 4 / 4)) (m4 (X / 4 / 4 / 4 / 4 / 4 / 4 / 4)) (m4 (X / 4 / 4 / 4 / 4 / 4 / 4 / 4 / 4)) (m4 (X / 4 / 4 / 4 / 4 / 4 / 4 / 4 / 4 / 4)) (m4 (X / 4 / 4 / 4 / 4 / 4 / 4 / 4 / 4 / 4 / 4)) (m4 (X / 4 / 4 / 4 / 4 / 4 / 4 / 4 / 4 / 4 / 4 / 4)) (m4 (X / 4 / 4 / 4 / 4 / 4 / 4 / 4 / 4 / 4 / 4 / 4 / 4)) (m4 (X / 4 / 4 / 4 / 4 / 4 / 4 / 4 / 4 / 4 / 4 / 4 / 4 / 4)) (m4 (X / 4 / 4 / 4 / 4 / 4 / 4 / 4 / 4 / 4 / 4 / 4 / 4 / 4 / 4)) (m4 (X / 4 / 4 / 4 / 4 / 4 / 4 / 4 / 4 / 4 / 4 / 4 / 4 / 4 / 4 / 4))
  simp only [dg] at e s
  rw [e] at b
  rw [b, ← s]
  simp only [sd]
  generalize X % 4 - X % 4 / 2 = w0
  generalize X / 4 % 4 - X / 4 % 4 / 2 = w1
  omega
def cn (f : Nat → Bool) : Nat → Nat
  | 0 => 0
  | n + 1 => cn f n + (if f n = true then 1 else 0)
theorem cn_left (f : Nat → Bool) : ∀ n, cn f (n + 1) = (if f 0 = true then 1 else 0) + cn (fun j => f (j + 1)) n
  | 0 => by simp [cn]
  | n + 1 => by
    show cn f (n + 1) + (if f (n + 1) = true then 1 else 0) = _ + (cn (fun j => f (j + 1)) n + (if f (n + 1) = true then 1 else 0))
    rw [cn_left f n]
    omega
theorem cn_congr {f g : Nat → Bool} : ∀ n, (∀ k, k < n → f k = g k) → cn f n = cn g n
  | 0, _ => rfl
  | n + 1, h => by
    show cn f n + (if f n = true then 1 else 0) = cn g n + (if g n = true then 1 else 0)
    rw [cn_congr n (fun k hk => h k (by omega)), h n (by omega)]
theorem pc_cn : ∀ n X, pc n X = cn (fun j => X.testBit j) n
  | 0, _ => rfl
  | n + 1, X => by
    rw [cn_left]
    show X % 2 + pc n (X / 2) = _
    rw [pc_cn n (X / 2), cn_congr (f := fun j => X.testBit (j + 1)) (g := fun j => (X / 2).testBit j) n (fun k _ => Nat.testBit_succ X k)]
    congr 1
    rw [Nat.testBit_zero]
    by_cases e : X % 2 = 1
    · simp [e]
    · simp [e]; omega
theorem cn_add (f : Nat → Bool) (a : Nat) : ∀ n, cn f (a + n) = cn f a + cn (fun j => f (a + j)) n
  | 0 => rfl
  | n + 1 => by
    show cn f (a + n) + (if f (a + n) = true then 1 else 0) = cn f a + (cn (fun j => f (a + j)) n + (if f (a + n) = true then 1 else 0))
    rw [cn_add f a n]
    omega
theorem cn_le (f : Nat → Bool) : ∀ n, cn f n ≤ n
  | 0 => Nat.le_refl _
  | n + 1 => by
    have := cn_le f n
    show cn f n + _ ≤ _
    split <;> omega
section SZ
variable {A I : HA} {F : zF} {n : Nat}
theorem C_size {Q : Int32 → Prop} {u : Nat} (q : Q (nI (cn (fun k => inA A (u + 1) k) 1024))) : D43_size u A I Q := by
  intro P hP
  have key : ∀ m i, m + i = 32 → P (nI (cn (fun k => inA A (u + 1) k) (32 * i))) (nI i) := by
    intro m
    induction m with
    | zero =>
      intro i hi
      obtain rfl : i = 32 := by omega
      refine hP _ _ ?_
      rw [iLt (by decide) (by decide), if_neg (by decide)]
      exact q
    | succ m ih =>
      intro i hi
      refine hP _ _ ?_
      rw [iLt (by omega) (by decide), if_pos (by omega), vpT (by omega) (by decide), nI_clamp (by omega)]
      refine ⟨trivial, b32_e ?_⟩
      rw [bit32, bcN_pc (A (u + 1) i).toBitVec.isLt, pc_cn, nI_add, nI_add]
      have := ih (i + 1) (by omega)
      rw [show 32 * (i + 1) = 32 * i + 32 by omega, cn_add, cn_congr (f := fun j => inA A (u + 1) (32 * i + j)) (g := fun j => (A (u + 1) i).toBitVec.toNat.testBit j) 32 (fun k hk => by unfold inA; rw [show (32 * i + k) / 32 = i by omega, show (32 * i + k) % 32 = k by omega])] at this
      exact this
  exact key 32 0 (by omega)
theorem M_count {Q : Int32 → Prop} {s : Nat} (hs : s < 170) {f : Nat → Bool} (hf : ∀ k, k < 1024 → (f k = true ↔ A 1689 (1024 * s + k) = -1)) (q : Q (nI (cn f 1024))) : D197_countInputs (nI s) A I Q := by
  intro P hP
  have key : ∀ m i, m + i = 1024 → P (nI (cn f i)) (nI i) := by
    intro m
    induction m with
    | zero =>
      intro i hi
      obtain rfl : i = 1024 := by omega
      refine hP _ _ ?_
      rw [iLt (by decide) (by decide), if_neg (by decide)]
      exact q
    | succ m ih =>
      intro i hi
      have ih := ih (i + 1) (by omega)
      refine hP _ _ ?_
      rw [iLt (by omega) (by decide), if_pos (by omega), pk_mul, nI_add, vpT (by omega) (by decide), nI_clamp (by omega), nI_add, nI_add, nI_add]
      refine ⟨trivial, ?_⟩
      by_cases c : A 1689 (1024 * s + i) = -1
      · rw [if_pos c]
        have e : cn f (i + 1) = cn f i + 1 := by show cn f i + _ = _; rw [if_pos ((hf i (by omega)).mpr c)]
        rw [e] at ih
        exact ih
      · rw [if_neg c]
        have e : cn f (i + 1) = cn f i + 0 := by show cn f i + _ = _; rw [if_neg (fun y => c ((hf i (by omega)).mp y))]
        rw [e] at ih
        exact ih
  exact key 1024 0 (by omega)
/-- PROMISE 8: path -/
theorem path_both {x y : Int32} (h : srch I) (hS : SP A I F n) (hF : zFC A I F) (hFM : zFM A I F) : D8_path x y A I (fun r => D195_path x y A I (fun r2 => r2 = r)) := by
  have hn := hS.1
  have hN := hF.2.2.1
  unfold D8_path
  refine srch_c h (D_within (fun y1 y2 => ?_) (fun yb => ?_))
  · rw [i1]
    obtain ⟨wt, -, wt2, rfl⟩ := rg2 (lo := 0) y1 y2 (by decide) (by decide)
    refine D_hasPath hS (fun k hk e => ?_) (fun n0 => ?_)
    · subst e
      rw [i1]
      obtain ⟨i, s, r, e41, e96, hi, hs, hW, hC, hM, hE, hEm, hd, hr⟩ := hS.2.2.2 k hk
      have ref : ∀ v, (v = if wt = 0 then zo r.1 else if wt = 1 then zpl r.1 else if wt = 2 then zk r.1 else if wt = 3 then nI (zd r.1) else if wt = 4 then nI r.2.1.length else if wt = 5 then nI (cn (fun k => inA A (71 + 10 * i + 9) k) 1024) else (if zo r.1 = nI 1 then nI (zsz F (zr r.1)) else nI 0)) → D195_path (nI k) (nI wt) A I (fun r2 => r2 = v) := by
        intro v hv
        unfold D195_path
        refine srch_m h (D_isIn (fun _ _ => ?_) (fun z => absurd z (fun z => z.elim y1 y2)))
        rw [i1]
        refine D_isPath hS (fun k' hk' e => ?_) (fun n0 => absurd rfl (n0 k hk))
        rw [i1, vpT (n := k) (by omega) (by decide), nI_clamp (n := k) (by omega), e96, pk_mul, nI_add, nI_add, nI_add, nI_add, nI_add, nI_add, vpT (n := 520 * s + 514) (by omega) (by decide), vpT (n := 520 * s + 515) (by omega) (by decide), vpT (n := 520 * s + 516) (by omega) (by decide), vpT (n := 520 * s + 517) (by omega) (by decide), vpT (n := 520 * s + 1) (by omega) (by decide), vpT (n := 520 * s + 2) (by omega) (by decide), nI_clamp (n := 520 * s + 514) (by omega), nI_clamp (n := 520 * s + 515) (by omega), nI_clamp (n := 520 * s + 516) (by omega), nI_clamp (n := 520 * s + 517) (by omega), nI_clamp (n := 520 * s + 1) (by omega), nI_clamp (n := 520 * s + 2) (by omega), hEm.1, hEm.2.1, hEm.2.2.1, hEm.2.2.2.1, hM.1]
        refine ⟨trivial, ?_⟩
        rw [iEq (a := wt) (b := 0) (by omega) (by decide)]
        by_cases c0 : wt = 0
        · rw [if_pos c0] at hv ⊢; exact ⟨trivial, hv.symm⟩
        rw [if_neg c0] at hv ⊢
        rw [iEq (a := wt) (b := 1) (by omega) (by decide)]
        by_cases c1 : wt = 1
        · rw [if_pos c1] at hv ⊢; exact ⟨trivial, hv.symm⟩
        rw [if_neg c1] at hv ⊢
        rw [iEq (a := wt) (b := 2) (by omega) (by decide)]
        by_cases c2 : wt = 2
        · rw [if_pos c2] at hv ⊢; exact ⟨trivial, hv.symm⟩
        rw [if_neg c2] at hv ⊢
        rw [iEq (a := wt) (b := 3) (by omega) (by decide)]
        by_cases c3 : wt = 3
        · rw [if_pos c3] at hv ⊢; exact ⟨trivial, hv.symm⟩
        rw [if_neg c3] at hv ⊢
        rw [iEq (a := wt) (b := 4) (by omega) (by decide)]
        by_cases c4 : wt = 4
        · rw [if_pos c4] at hv ⊢; exact ⟨trivial, hv.symm⟩
        rw [if_neg c4] at hv ⊢
        rw [iEq (a := wt) (b := 5) (by omega) (by decide)]
        by_cases c5 : wt = 5
        · rw [if_pos c5] at hv ⊢
          exact ⟨trivial, M_count hs (fun k hk => in_none hk hW hC hM) hv.symm⟩
        rw [if_neg c5] at hv ⊢
        by_cases c6 : zo r.1 = nI 1
        · rw [if_pos c6] at hv ⊢
          obtain ⟨j, hj, ej⟩ := hr c6
          rw [hEm.2.2.2.2 c6, ej, vpT (n := j) (by omega) (by decide), nI_clamp (n := j) (by omega), hFM.sz hj]
          rw [ej] at hv
          exact ⟨trivial, trivial, trivial, hv.symm⟩
        · rw [if_neg c6] at hv ⊢; exact ⟨trivial, hv.symm⟩
      refine D_pathAt (by omega) hi e41 ⟨isW_mk hi, ?_⟩
      unfold D9_factOf
      rw [hE.1, hE.2.1, hE.2.2.1, hE.2.2.2.1, hE.2.2.2.2, hC.1, iEq (a := wt) (b := 0) (by omega) (by decide)]
      by_cases c0 : wt = 0
      · rw [if_pos c0]; exact ref _ (by rw [if_pos c0])
      rw [if_neg c0, iEq (a := wt) (b := 1) (by omega) (by decide)]
      by_cases c1 : wt = 1
      · rw [if_pos c1]; exact ref _ (by rw [if_neg c0, if_pos c1])
      rw [if_neg c1, iEq (a := wt) (b := 2) (by omega) (by decide)]
      by_cases c2 : wt = 2
      · rw [if_pos c2]; exact ref _ (by rw [if_neg c0, if_neg c1, if_pos c2])
      rw [if_neg c2, iEq (a := wt) (b := 3) (by omega) (by decide)]
      by_cases c3 : wt = 3
      · rw [if_pos c3]; exact ref _ (by rw [if_neg c0, if_neg c1, if_neg c2, if_pos c3])
      rw [if_neg c3, iEq (a := wt) (b := 4) (by omega) (by decide)]
      by_cases c4 : wt = 4
      · rw [if_pos c4]; exact ref _ (by rw [if_neg c0, if_neg c1, if_neg c2, if_neg c3, if_pos c4])
      rw [if_neg c4, iEq (a := wt) (b := 5) (by omega) (by decide)]
      by_cases c5 : wt = 5
      · rw [if_pos c5]; exact C_size (ref _ (by rw [if_neg c0, if_neg c1, if_neg c2, if_neg c3, if_neg c4, if_pos c5]))
      rw [if_neg c5]
      by_cases c6 : zo r.1 = nI 1
      · rw [if_pos c6]
        exact C_sizeOf hF (hr c6) (ref _ (by rw [if_neg c0, if_neg c1, if_neg c2, if_neg c3, if_neg c4, if_neg c5, if_pos c6]))
      · rw [if_neg c6]; exact ref _ (by rw [if_neg c0, if_neg c1, if_neg c2, if_neg c3, if_neg c4, if_neg c5, if_neg c6])
    · rw [i0]
      unfold D195_path
      refine srch_m h (D_isIn (fun _ _ => ?_) (fun z => absurd z (fun z => z.elim y1 y2)))
      rw [i1]
      exact D_isPath hS (fun k hk e => absurd e (n0 k hk)) (fun _ => by rw [i0])
  · rw [i0]
    unfold D195_path
    exact srch_m h (D_isIn (fun a b => absurd yb (fun z => z.elim a b)) (fun _ => by rw [i0]))
theorem path_no {x y : Int32} (h : nsrch I) : D8_path x y A I (fun r => D195_path x y A I (fun r2 => r2 = r)) := by
  unfold D8_path
  refine nsrch_c h ?_
  unfold D195_path
  exact nsrch_m h rfl
end SZ
