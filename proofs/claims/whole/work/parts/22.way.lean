/-! a way, made -/
def way_F (F : Nat → bm_C) (w : Nat) : Nat → bm_C := fun k => if w ≤ k ∧ k < w + 10 then hc (sk_wcell w (k - w)) zI zI else F k
theorem way_eq (F : Nat → bm_C) (w : Nat) : va_up (va_up (va_up (va_up (va_up (va_up (va_up (va_up (va_up (va_up (va_up (va_up (va_up (va_up (va_up (va_up (va_up (va_up F (w + 1) (cI 4)) w (.inr (.inr (9, [.ref (w + 1), .null, .null, .null, .int 0, .null, .null, .int 0, .null, .int 0, .null, .int 0, .int 0, .int 0, .int 0, .int 0, .int 0, .int 0])))) (w + 1 + 1) (cI 4)) w (.inr (.inr (9, [.ref (w + 1), .ref (w + 1 + 1), .null, .null, .int 0, .null, .null, .int 0, .null, .int 0, .null, .int 0, .int 0, .int 0, .int 0, .int 0, .int 0, .int 0])))) (w + 1 + 2) (cI 4)) w (.inr (.inr (9, [.ref (w + 1), .ref (w + 1 + 1), .ref (w + 1 + 2), .null, .int 0, .null, .null, .int 0, .null, .int 0, .null, .int 0, .int 0, .int 0, .int 0, .int 0, .int 0, .int 0])))) (w + 1 + 3) (cI 72)) w (.inr (.inr (9, [.ref (w + 1), .ref (w + 1 + 1), .ref (w + 1 + 2), .ref (w + 1 + 3), .int 0, .null, .null, .int 0, .null, .int 0, .null, .int 0, .int 0, .int 0, .int 0, .int 0, .int 0, .int 0])))) (w + 1 + 4) (cI 4)) w (.inr (.inr (9, [.ref (w + 1), .ref (w + 1 + 1), .ref (w + 1 + 2), .ref (w + 1 + 3), .int 0, .ref (w + 1 + 4), .null, .int 0, .null, .int 0, .null, .int 0, .int 0, .int 0, .int 0, .int 0, .int 0, .int 0])))) (w + 1 + 5) (cI 20)) w (.inr (.inr (9, [.ref (w + 1), .ref (w + 1 + 1), .ref (w + 1 + 2), .ref (w + 1 + 3), .int 0, .ref (w + 1 + 4), .ref (w + 1 + 5), .int 0, .null, .int 0, .null, .int 0, .int 0, .int 0, .int 0, .int 0, .int 0, .int 0])))) (w + 1 + 6) (cI 200)) w (.inr (.inr (9, [.ref (w + 1), .ref (w + 1 + 1), .ref (w + 1 + 2), .ref (w + 1 + 3), .int 0, .ref (w + 1 + 4), .ref (w + 1 + 5), .int 0, .ref (w + 1 + 6), .int 0, .null, .int 0, .int 0, .int 0, .int 0, .int 0, .int 0, .int 0])))) (w + 1 + 7) (.inr (.inr (2, [.null])))) (w + 1 + 8) (cI 32)) (w + 1 + 7) (.inr (.inr (2, [.ref (w + 1 + 8)])))) w (.inr (.inr (9, [.ref (w + 1), .ref (w + 1 + 1), .ref (w + 1 + 2), .ref (w + 1 + 3), .int 0, .ref (w + 1 + 4), .ref (w + 1 + 5), .int 0, .ref (w + 1 + 6), .int 0, .ref (w + 1 + 7), .int 0, .int 0, .int 0, .int 0, .int 0, .int 0, .int 0]))) = way_F F w := by
  funext k
  by_cases hk : w ≤ k ∧ k < w + 10
  · obtain ⟨j, hj, rfl⟩ : ∃ j, j < 10 ∧ k = w + j := ⟨k - w, by omega, by omega⟩
    have e : way_F F w (w + j) = hc (sk_wcell w j) zI zI := by
      unfold way_F
      rw [if_pos hk, Nat.add_sub_cancel_left]
    rw [e]
    rcases (show j = 0 ∨ j = 1 ∨ j = 2 ∨ j = 3 ∨ j = 4 ∨ j = 5 ∨ j = 6 ∨ j = 7 ∨ j = 8 ∨ j = 9 by omega) with rfl | rfl | rfl | rfl | rfl | rfl | rfl | rfl | rfl | rfl
    · exact (va_up_self _ w _).trans rfl
    · (try rw [va_up_self]); (repeat rw [va_up_ne _ _ (by omega)]); (try rw [va_up_self]); rfl
    · (try rw [va_up_self]); (repeat rw [va_up_ne _ _ (by omega)]); (try rw [va_up_self]); rfl
    · (try rw [va_up_self]); (repeat rw [va_up_ne _ _ (by omega)]); (try rw [va_up_self]); rfl
    · (try rw [va_up_self]); (repeat rw [va_up_ne _ _ (by omega)]); (try rw [va_up_self]); rfl
    · (try rw [va_up_self]); (repeat rw [va_up_ne _ _ (by omega)]); (try rw [va_up_self]); rfl
    · (try rw [va_up_self]); (repeat rw [va_up_ne _ _ (by omega)]); (try rw [va_up_self]); rfl
    · (try rw [va_up_self]); (repeat rw [va_up_ne _ _ (by omega)]); (try rw [va_up_self]); rfl
    · (try rw [va_up_self]); (repeat rw [va_up_ne _ _ (by omega)]); (try rw [va_up_self]); rfl
    · (try rw [va_up_self]); (repeat rw [va_up_ne _ _ (by omega)]); (try rw [va_up_self]); rfl
  · have e : way_F F w k = F k := by
      unfold way_F
      rw [if_neg hk]
    rw [e]
    repeat rw [va_up_ne _ _ (by omega)]
theorem k_Way (d : Nat) {s w : Nat} {F : Nat → bm_C} {Q : bm_Q} (h3 : 3 ≤ w) (hc : F w = .inr (.inr (9, [.null, .null, .null, .null, .int 0, .null, .null, .int 0, .null, .int 0, .null, .int 0, .int 0, .int 0, .int 0, .int 0, .int 0, .int 0]))) (hQ : Q none (w + 10, s + 341, way_F F w)) : bm_M (d + 2) 115 [.ref w] (w + 1, s, F) Q := by
  refine k_WayU d h3 (by omega) hc ?_
  have e := way_eq F w
  rw [← e] at hQ
  exact hQ
