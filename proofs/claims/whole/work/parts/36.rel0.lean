/-! the relation at the start; the law's plain run out of what is left -/
theorem rel0 (SR : (Nat → Nat → Int32) → (Nat → Nat → Int32) → Prop) (xs : Nat → Int32) (x : Int32) : RelS SR xs (A0 xs) (I0 x) := by
  refine ⟨rfl, rfl, rfl, ⟨0, by decide, rfl, rfl, fun q hq => absurd hq (Nat.not_lt_zero q), fun q _ => ⟨0, by decide, rfl, rfl, fun j hj => absurd hj (Nat.not_lt_zero j)⟩, fun q _ => ⟨0, by decide, rfl, rfl, fun j hj => absurd hj (Nat.not_lt_zero j)⟩⟩, Or.inl ⟨rfl, rfl⟩⟩
/-- WHAT IS LEFT: a relation SR of the two searches, kept by a method more, and the other fourteen pairs of calls over it -/
theorem law_plain_of (SR : (Nat → Nat → Int32) → (Nat → Nat → Int32) → Prop) (hm : SRm SR) (ok : ∀ (L : Nat) (xs : Nat → Int32), L ≤ 3073 → ∀ q ∈ lw_ops.drop 3, opOK L (RelS SR xs) q.1 q.2.1 q.2.2) : bm_Law := by
  refine law_of (fun _ xs A I => RelS SR xs A I) (fun L xs _ => rel0 SR xs _) (fun _ _ _ _ h => h.1) (fun L xs hL q hq => ?_)
  rcases List.mem_cons.mp hq with rfl | hq
  · exact ok_method L xs SR hm
  rcases List.mem_cons.mp hq with rfl | hq
  · exact ok_operation L xs SR
  rcases List.mem_cons.mp hq with rfl | hq
  · exact ok_handler L xs SR
  exact ok L xs hL q hq
