/-! SETS OF INPUTS: bits of rows -/
def inA (A : HA) (a k : Nat) : Bool := (A a (k / 32)).toBitVec.toNat.testBit (k % 32)
theorem nI_div {a b : Nat} (ha : a < 2 ^ 31) (hb : b < 2 ^ 31) (h0 : 0 < b) : nI a / nI b = nI (a / b) := pk_div ha h0 hb
theorem nI_rem {a b : Nat} (ha : a < 2 ^ 31) (hb : b < 2 ^ 31) (h0 : 0 < b) : nI a - nI a / nI b * nI b = nI (a % b) := pk_rem ha h0 hb
theorem nI_ofN {n : Nat} (h : n < 2 ^ 32) : (nI n).toBitVec.toNat = n := by
  show (BitVec.ofNat 32 n).toNat = n
  rw [BitVec.toNat_ofNat, Nat.mod_eq_of_lt h]
theorem bit_is (x : Int32) {j : Nat} (hj : j < 32) : ((Int32.toUInt32 x >>> (Int32.toUInt32 (nI j) &&& Int32.toUInt32 31)).toInt32 &&& nI 1 = nI 1) ↔ x.toBitVec.toNat.testBit j = true := by
  have e1 : (((nI j).toUInt32 &&& Int32.toUInt32 31).toBitVec % 32).toNat = j := by
    have : ∀ j, j < 32 → (((nI j).toUInt32 &&& Int32.toUInt32 31).toBitVec % 32).toNat = j := by decide
    exact this j hj
  rw [pk_and _ (m := nI 1) 1 (by decide), pk_ushr x (nI j) j e1, nI_eq (by omega) (by decide), Nat.testBit_eq_decide_div_mod_eq, decide_eq_true_eq]
section IN
variable {A I : HA} {n : Nat}
theorem C_has {Q : Int32 → Prop} {k : Nat} (hk : k < 1024) (k1 : inA A (n + 1) k = true → Q (nI 1)) (k0 : inA A (n + 1) k = false → Q (nI 0)) : D38_has n (nI k) A I Q := by
  unfold D38_has
  rw [nI_rem (by omega) (by decide) (by decide), nI_div (by omega) (by decide) (by decide), vpT (by omega) (by decide), nI_clamp (by omega)]
  refine ⟨trivial, ?_⟩
  by_cases e : inA A (n + 1) k = true
  · rw [if_pos ((bit_is _ (by omega)).mpr e)]; exact k1 e
  · rw [if_neg (fun y => e ((bit_is _ (by omega)).mp y))]; exact k0 (Bool.not_eq_true _ ▸ e)
theorem C_addI {Q : HA → HA → Prop} {k : Nat} (hk : k < 1024) (q : ∀ A', (∀ a, a ≠ n + 1 → A' a = A a) → (∀ i, i < 1024 → inA A' (n + 1) i = (inA A (n + 1) i || decide (i = k))) → Q A' I) : D41_add n (nI k) A I Q := by
  unfold D41_add
  rw [nI_rem (by omega) (by decide) (by decide), nI_div (by omega) (by decide) (by decide), vpT (by omega) (by decide), nI_clamp (by omega)]
  refine ⟨trivial, trivial, q _ (fun a ha => sA_na ha) (fun i hi => ?_)⟩
  have sh : (nI 1 <<< (nI (k % 32) &&& 31)).toBitVec.toNat = 2 ^ (k % 32) := by
    have : ∀ j, j < 32 → (nI 1 <<< (nI j &&& 31)).toBitVec.toNat = 2 ^ j := by decide
    exact this _ (by omega)
  unfold inA
  by_cases e : i / 32 = k / 32
  · rw [e, sA_e, Int32.toBitVec_or, BitVec.toNat_or, Nat.testBit_or, sh, Nat.testBit_two_pow]
    congr 1
    by_cases e2 : i = k
    · subst e2; simp
    · have : ¬ k % 32 = i % 32 := by omega
      simp [this, e2]
  · rw [sA_n (Or.inr e)]
    have : ¬ i = k := fun y => e (by rw [y])
    simp [this]
theorem in_clear {a k : Nat} (hk : k < 1024) : inA (sF A a (nI 0) 32) a k = false := by
  unfold inA sF
  rw [va_up_self]
  show (if k / 32 < 32 then nI 0 else A a (k / 32)).toBitVec.toNat.testBit (k % 32) = false
  rw [if_pos (by omega)]
  simp [nI]
theorem in_all {a k : Nat} (hk : k < 1024) : inA (sF A a (-1) 32) a k = true := by
  unfold inA sF
  rw [va_up_self]
  show (if k / 32 < 32 then (-1 : Int32) else A a (k / 32)).toBitVec.toNat.testBit (k % 32) = true
  rw [if_pos (by omega), show ((-1 : Int32).toBitVec.toNat) = 2 ^ 32 - 1 by decide, Nat.testBit_two_pow_sub_one]
  simp; omega
end IN
