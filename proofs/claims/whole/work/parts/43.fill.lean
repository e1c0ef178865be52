/-! Arrays.fill -/
def fl_f (f : Nat → Int32) (v : Int32) (i : Nat) : Nat → Int32 := fun j => if j < i then v else f j
theorem fl_0 (f : Nat → Int32) (v : Int32) : fl_f f v 0 = f := by funext j; unfold fl_f; rw [if_neg (by omega)]
theorem fl_up (f : Nat → Int32) (v : Int32) (i : Nat) : upd (fl_f f v i) i v = fl_f f v (i + 1) := by
  funext j
  unfold upd fl_f
  by_cases h : j = i
  · subst h; rw [if_pos rfl, if_pos (by omega)]
  · rw [if_neg h]
    by_cases h2 : j < i
    · rw [if_pos h2, if_pos (by omega)]
    · rw [if_neg h2, if_neg (by omega)]
theorem up_sameA {A : Nat → Nat → Int32} {a : Nat} : va_up A a (A a) = A := by
  funext k
  by_cases hk : k = a
  · subst hk; rw [va_up_self]
  · rw [va_up_ne _ _ hk]
theorem fl_loop (d : Nat) {L a n : Nat} {A I : Nat → Nat → Int32} {Q : bm_Q} {v : Int32} (h3 : 3 ≤ a) (ha : a < 1704) (hs : sk L a = .inl (0, n)) (hn : n < 2 ^ 31) (hQ : Q none (hp L (va_up A a (fl_f (A a) v n)) I)) : ∀ (m i : Nat), i + m = n → bm_W (bm_M d) 213 Q 5 [.ref a, .int v, .int (nI i), .int (nI n)] [] (hp L (va_up A a (fl_f (A a) v i)) I) := by
  intro m
  induction m with
  | zero =>
    intro i hi
    obtain rfl : i = n := by omega
    refine w_iload_n (p := 6) (pI pM_213 rfl) rfl rfl ?_
    refine w_iload_n (p := 7) (pI pM_213 rfl) rfl rfl ?_
    refine w_icmp_ge (p := 10) (q := 20) (pI pM_213 rfl) rfl rfl rfl (fun c_1 => ?_) (fun c_1 => ?_)
    · exact w_return (pI pM_213 rfl) rfl hQ
    · exact absurd (Int32.le_refl _) c_1
  | succ m ih =>
    intro i hi
    refine w_iload_n (p := 6) (pI pM_213 rfl) rfl rfl ?_
    refine w_iload_n (p := 7) (pI pM_213 rfl) rfl rfl ?_
    refine w_icmp_ge (p := 10) (q := 20) (pI pM_213 rfl) rfl rfl rfl (fun c_1 => ?_) (fun c_1 => ?_)
    · exact absurd c_1 (nI_ge (by omega) hn)
    · refine w_aload_n (p := 11) (pI pM_213 rfl) rfl rfl ?_
      refine w_iload_n (p := 12) (pI pM_213 rfl) rfl rfl ?_
      refine w_iload_n (p := 13) (pI pM_213 rfl) rfl rfl ?_
      refine v_iast (p := 14) (pI pM_213 rfl) rfl h3 ha hs (vp_in_nI (by omega) hn) ?_
      rw [nI_clamp (by omega), va_up_self, fl_up, bx_uu]
      refine w_iinc (p := 17) (v := nI (i + 1)) (pI pM_213 rfl) rfl rfl (by rw [← nI_1]; rfl) rfl ?_
      refine w_goto (p := 5) (pI pM_213 rfl) rfl rfl ?_
      exact ih (i + 1) (by omega)
/-- Arrays.fill: all n places hold v -/
theorem c_fill (d : Nat) {L a n : Nat} {A I : Nat → Nat → Int32} {Q : bm_Q} {v : Int32} (h3 : 3 ≤ a) (ha : a < 1704) (hs : sk L a = .inl (0, n)) (hn : n < 2 ^ 31) (hQ : Q none (hp L (va_up A a (fl_f (A a) v n)) I)) : bm_M (d + 1) 213 [.ref a, .int v] (hp L A I) Q := by
  refine bw_enter rfl rfl rfl rfl ?_
  refine w_iconst (p := 1) (v := nI 0) (pI pM_213 rfl) rfl rfl ?_
  refine w_istore_n (p := 2) (pI pM_213 rfl) rfl rfl rfl ?_
  refine w_aload_n (p := 3) (pI pM_213 rfl) rfl rfl ?_
  refine v_alen (p := 4) (x := nI n) (pI pM_213 rfl) rfl ha hs rfl ?_
  refine w_istore_n (p := 5) (pI pM_213 rfl) rfl rfl rfl ?_
  have k := fl_loop d (A := A) (I := I) (v := v) h3 ha hs hn hQ n 0 (by omega)
  rw [fl_0, up_sameA] at k
  exact k
