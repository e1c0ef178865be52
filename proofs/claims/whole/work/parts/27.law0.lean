/-! from its entry the law comes to its loop, with the heap hp -/
theorem srN_far {F : Nat → bm_C} {x : Int32} {a : Nat} {y : bm_C} (h : F a = y) (ha : 71 ≤ a) : srN F x a = y := by
  exact (up_old (up_old (sh_keep (up_old (up_old (up_old (up_old (up_old (up_old (up_old (up_old (up_old (up_old (up_old (up_old (up_old (up_old (up_old (up_old (up_old (up_old (up_old (up_old (up_old (up_old (up_old (up_old (up_old (up_old (up_old (up_old (up_old (up_old (up_old (up_old (up_old (up_old (up_old (up_old (up_old (up_old (up_old (up_old (up_old (up_old (up_old (up_old (up_old (up_old (up_old (up_old h (by omega)) (by omega)) (by omega)) (by omega)) (by omega)) (by omega)) (by omega)) (by omega)) (by omega)) (by omega)) (by omega)) (by omega)) (by omega)) (by omega)) (by omega)) (by omega)) (by omega)) (by omega)) (by omega)) (by omega)) (by omega)) (by omega)) (by omega)) (by omega)) (by omega)) (by omega)) (by omega)) (by omega)) (by omega)) (by omega)) (by omega)) (by omega)) (by omega)) (by omega)) (by omega)) (by omega)) (by omega)) (by omega)) (by omega)) (by omega)) (by omega)) (by omega)) (by omega)) (by omega)) (by omega)) (by omega)) (by omega)) (by omega)) (Or.inr (by omega))) (by omega)) (by omega))
theorem wy_far {F : Nat → bm_C} {a : Nat} {y : bm_C} (h : F a = y) (ha : 1681 ≤ a) : wy_F F 161 a = y := by
  unfold wy_F
  rw [if_neg (by omega), if_neg (by omega)]
  exact h
theorem prN_far {F : Nat → bm_C} {x : Int32} {a : Nat} {y : bm_C} (h : F a = y) (ha : 1681 ≤ a) : prN F x a = y := by
  exact (up_old (up_old (up_old (up_old (wy_far (srN_far (up_old (up_old (up_old (up_old (up_old (up_old (up_old (up_old (up_old (up_old (up_old (up_old (up_old (up_old (way_keep (up_old h (by omega)) (Or.inr (by omega))) (by omega)) (by omega)) (by omega)) (by omega)) (by omega)) (by omega)) (by omega)) (by omega)) (by omega)) (by omega)) (by omega)) (by omega)) (by omega)) (by omega)) (by omega)) (by omega)) (by omega)) (by omega)) (by omega)) (by omega))
theorem wy_mid (F : Nat → bm_C) {k : Nat} (h1 : 71 ≤ k) (h2 : k < 1681) : wy_F F 161 k = hc (sk_wcell (k - (k - 71) % 10) ((k - 71) % 10)) zI zI := by
  unfold wy_F
  rw [if_neg (by omega), if_pos (by omega)]
theorem prN_mid (F : Nat → bm_C) (x : Int32) {k : Nat} (h1 : 71 ≤ k) (h2 : k < 1681) : prN F x k = hc (sk_wcell (k - (k - 71) % 10) ((k - 71) % 10)) zI zI := by
  exact (up_old ((up_old ((up_old ((up_old (wy_mid _ h1 h2) (by omega))) (by omega))) (by omega))) (by omega))
theorem sk_mid {L k : Nat} (h1 : 71 ≤ k) (h2 : k < 1681) : sk L k = sk_wcell (k - (k - 71) % 10) ((k - 71) % 10) := by
  unfold sk
  rw [if_neg (by omega), if_neg (by omega), if_pos h2]
theorem sk_far {L k : Nat} (h1 : 1704 ≤ k) : sk L k = .inl (0, 30) := by
  unfold sk
  rw [if_neg (by omega), if_neg (by omega), if_neg (by omega), if_neg (by omega)]
theorem A0_mid {xs : Nat → Int32} {k : Nat} (h1 : 71 ≤ k) (h2 : k < 1681) : A0 xs k = zI := by
  unfold A0
  rw [if_neg (by omega), if_neg (by omega), if_neg (by omega), if_pos (by omega)]
theorem A0_far {xs : Nat → Int32} {k : Nat} (h1 : 1704 ≤ k) : A0 xs k = lw_leaves := by
  unfold A0
  rw [if_neg (by omega), if_neg (by omega), if_neg (by omega), if_neg (by omega)]
theorem I0_mid {x : Int32} {k : Nat} (h1 : 71 ≤ k) (h2 : k < 1681) : I0 x k = zI := by
  funext j
  unfold I0
  rw [if_neg (by omega), if_neg (by omega), if_neg (by omega)]
  rfl
theorem lwN_eq (L : Nat) (xs : Nat → Int32) : lwN L xs = fun k => hc (sk L k) (A0 xs k) (I0 (lw_seed L xs) k) := by
  funext k
  by_cases h1 : k < 71
  · exact lwN_lo L xs k h1
  by_cases h2 : k < 1681
  · rw [sk_mid (by omega) h2, A0_mid (by omega) h2, I0_mid (by omega) h2]
    exact md_keep (up_old (prN_mid _ _ (by omega) h2) (by omega)) (Or.inl h2)
  by_cases h3 : k < 1704
  · exact lwN_hi L xs k (by omega) h3
  · rw [sk_far (by omega), A0_far (by omega)]
    refine md_keep (up_old (prN_far (up_old ?_ (by omega)) (by omega)) (by omega)) (Or.inr (by omega))
    show (if k = 0 then _ else if k = 1 then _ else _) = _
    rw [if_neg (by omega), if_neg (by omega)]
    rfl
theorem prN_0 {F : Nat → bm_C} {x : Int32} {y : bm_C} (h : F 0 = y) : prN F x 0 = y := by
  exact (up_old (up_old (up_old (up_old (wy_keep (srN_keep (up_old (up_old (up_old (up_old (up_old (up_old (up_old (up_old (up_old (up_old (up_old (up_old (up_old (up_old (way_keep (up_old h (by decide)) (by decide)) (by decide)) (by decide)) (by decide)) (by decide)) (by decide)) (by decide)) (by decide)) (by decide)) (by decide)) (by decide)) (by decide)) (by decide)) (by decide)) (by decide)) (by decide)) (by decide)) (by decide)) (by decide)) (by decide)) (by decide))
theorem lw_hp (L : Nat) (xs : Nat → Int32) : ((1704, 0 + 8 + 18 + 341 + 4 + 181 + 1 + 32 + 18 + 2 + 10 + 594 + 5 + 32258 + 32258 + 32258 + 32258 + 161 + 161 + 3 + 60 + 100 + 240 + 30 + 4 + 8 + 8 + 4 + 181 + 4 + 181 + 33 * 8 + 359 * 161 + 42 + 6 + 6 + 240 + 240 + 6 + 96 + 88400 + 174080 + 170 + 45000 + 45000 + 45000 + 45000 + 60 + 100 + 30 + 30 + 240 + 130 + 61 + 1024 + 1024, lwN L xs) : bm_H) = hp L (A0 xs) (I0 (lw_seed L xs)) := by
  rw [lwN_eq]
  rfl
theorem c_cellt (d : Nat) {n s : Nat} {F : Nat → bm_C} {Q : bm_Q} {L : Nat} {xs : Nat → Int32} (h0 : 0 < n) (hc : F 0 = .inl (0, L, xs)) (hL : L < 2 ^ 31) (hQ : Q (some (.int (lw_seed L xs))) (n, s, F)) : bm_M (d + 1) 211 [.ref 0, .int (nI 0)] (n, s, F) Q := c_cell0 d h0 hc hL hQ
theorem lw_begin {L : Nat} {xs : Nat → Int32} {Q : bm_Q} (hL : L ≤ 3073) (k : bm_W (bm_M 12) 214 Q 28 [.ref 0, .ref 3, .ref 1681, .int (nI 1)] [] (hp L (A0 xs) (I0 (lw_seed L xs)))) : bm_W (bm_M 12) 214 Q 0 (bm_en 4 [.ref 0]) [] (bm_h0 L xs) := by
  have g0 : h0_F L xs 0 = .inl (0, L, xs) := rfl
  show bm_W (bm_M 12) 214 Q 0 [.ref 0, .retAddr 0, .retAddr 0, .retAddr 0] [] (3, 0, h0_F L xs)
  refine z_new (p := 3) (x := .inr (.inr (0, [.null, .null, .null, .null, .null, .null, .null, .int 0]))) (pI pM_214 rfl) rfl rfl rfl rfl rfl ?_
  refine w_dup (p := 4) (pI pM_214 rfl) rfl rfl ?_
  refine w_aload_n (p := 5) (pI pM_214 rfl) rfl rfl ?_
  refine w_iconst (p := 6) (v := nI 0) (pI pM_214 rfl) rfl rfl ?_
  refine w_static (p := 9) (mj := 211) (pI pM_214 rfl) rfl rfl rfl rfl rfl rfl rfl rfl rfl ?_
  refine c_cellt _ (by decide) (up_old g0 (by decide)) (by omega) ?_
  refine z_special (p := 12) (mj := 0) (a := 3) (pI pM_214 rfl) rfl rfl rfl rfl rfl rfl rfl rfl rfl rfl (by decide) (by decide) up_here ?_
  refine k_PathRunner _ up_here ?_
  refine w_astore_n (p := 13) (pI pM_214 rfl) rfl rfl rfl ?_
  refine z_new (p := 16) (x := .inr (.inr (10, [.int 0, .int 0, .null, .null, .null, .null, .null, .null, .null, .null, .null, .null, .null, .null, .null, .int 0, .int 0, .int 0, .int 0, .int 0, .null, .int 0, .int 0, .null, .int 0, .int 0, .int 0, .null, .null, .null, .int 0, .int 0, .null, .null, .int 0, .int 0, .int 0, .int 0, .int 0, .int 0, .null, .null]))) (pI pM_214 rfl) rfl rfl rfl rfl rfl ?_
  refine w_dup (p := 17) (pI pM_214 rfl) rfl rfl ?_
  refine w_aload_n (p := 18) (pI pM_214 rfl) rfl rfl ?_
  refine w_iconst (p := 19) (v := nI 0) (pI pM_214 rfl) rfl rfl ?_
  refine w_static (p := 22) (mj := 211) (pI pM_214 rfl) rfl rfl rfl rfl rfl rfl rfl rfl rfl ?_
  refine c_cellt _ (by decide) (up_old (prN_0 (up_old g0 (by decide))) (by decide)) (by omega) ?_
  refine z_special (p := 25) (mj := 147) (a := 1681) (pI pM_214 rfl) rfl rfl rfl rfl rfl rfl rfl rfl rfl rfl (by decide) (by decide) up_here ?_
  refine k_Model _ up_here ?_
  refine w_astore_n (p := 26) (pI pM_214 rfl) rfl rfl rfl ?_
  refine w_iconst (p := 27) (v := nI 1) (pI pM_214 rfl) rfl rfl ?_
  refine w_istore_n (p := 28) (pI pM_214 rfl) rfl rfl rfl ?_
  rw [← lw_hp] at k
  exact k
