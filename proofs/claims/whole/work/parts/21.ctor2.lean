/-! CONSTRUCTORS: Formulas, Way, Machine -/
theorem k_Formulas (d : Nat) {n s b : Nat} {F : Nat → bm_C} {Q : bm_Q} (h3 : 3 ≤ b) (hb : b < n) (hc : F b = .inr (.inr (1, [.null, .null, .null, .null, .int 0]))) (hQ : Q none (n + 4, s + 32258 + 32258 + 32258 + 32258, va_up (va_up (va_up (va_up (va_up (va_up (va_up (va_up (va_up F n (cI 32258)) b (.inr (.inr (1, [.ref n, .null, .null, .null, .int 0])))) (n + 1) (cI 32258)) b (.inr (.inr (1, [.ref n, .ref (n + 1), .null, .null, .int 0])))) (n + 2) (cI 32258)) b (.inr (.inr (1, [.ref n, .ref (n + 1), .ref (n + 2), .null, .int 0])))) (n + 3) (cI 32258)) b (.inr (.inr (1, [.ref n, .ref (n + 1), .ref (n + 2), .ref (n + 3), .int 0])))) b (.inr (.inr (1, [.ref n, .ref (n + 1), .ref (n + 2), .ref (n + 3), .int 258]))))) : bm_M (d + 1) 22 [.ref b] (n, s, F) Q := by
  refine bw_enter rfl rfl rfl rfl ?_
  refine w_aload_n (p := 1) (pI pM_22 rfl) rfl rfl ?_
  refine w_objinit (p := 4) (pI pM_22 rfl) rfl rfl rfl rfl rfl ?_
  refine w_aload_n (p := 5) (pI pM_22 rfl) rfl rfl ?_
  refine w_sipush (p := 8) (v := 32258) (pI pM_22 rfl) rfl (by decide) ?_
  refine z_newarray (p := 10) (N := 32258) (t := 0) (pI pM_22 rfl) rfl rfl rfl rfl rfl ?_
  refine z_putfield (p := 13) (fs := [.null, .null, .null, .null, .int 0]) (fs2 := [.ref n, .null, .null, .null, .int 0]) (pI pM_22 rfl) rfl rfl rfl h3 (by omega) rfl (up_old hc (by omega)) rfl rfl rfl rfl (Or.inr ⟨rfl, rfl, rfl⟩) rfl ?_
  refine w_aload_n (p := 14) (pI pM_22 rfl) rfl rfl ?_
  refine w_sipush (p := 17) (v := 32258) (pI pM_22 rfl) rfl (by decide) ?_
  refine z_newarray (p := 19) (N := 32258) (t := 0) (pI pM_22 rfl) rfl rfl rfl rfl rfl ?_
  refine z_putfield (p := 22) (fs := [.ref n, .null, .null, .null, .int 0]) (fs2 := [.ref n, .ref (n + 1), .null, .null, .int 0]) (pI pM_22 rfl) rfl rfl rfl h3 (by omega) rfl (up_old up_here (by omega)) rfl rfl rfl rfl (Or.inr ⟨rfl, rfl, rfl⟩) rfl ?_
  refine w_aload_n (p := 23) (pI pM_22 rfl) rfl rfl ?_
  refine w_sipush (p := 26) (v := 32258) (pI pM_22 rfl) rfl (by decide) ?_
  refine z_newarray (p := 28) (N := 32258) (t := 0) (pI pM_22 rfl) rfl rfl rfl rfl rfl ?_
  refine z_putfield (p := 31) (fs := [.ref n, .ref (n + 1), .null, .null, .int 0]) (fs2 := [.ref n, .ref (n + 1), .ref (n + 2), .null, .int 0]) (pI pM_22 rfl) rfl rfl rfl h3 (by omega) rfl (up_old up_here (by omega)) rfl rfl rfl rfl (Or.inr ⟨rfl, rfl, rfl⟩) rfl ?_
  refine w_aload_n (p := 32) (pI pM_22 rfl) rfl rfl ?_
  refine w_sipush (p := 35) (v := 32258) (pI pM_22 rfl) rfl (by decide) ?_
  refine z_newarray (p := 37) (N := 32258) (t := 0) (pI pM_22 rfl) rfl rfl rfl rfl rfl ?_
  refine z_putfield (p := 40) (fs := [.ref n, .ref (n + 1), .ref (n + 2), .null, .int 0]) (fs2 := [.ref n, .ref (n + 1), .ref (n + 2), .ref (n + 3), .int 0]) (pI pM_22 rfl) rfl rfl rfl h3 (by omega) rfl (up_old up_here (by omega)) rfl rfl rfl rfl (Or.inr ⟨rfl, rfl, rfl⟩) rfl ?_
  refine w_aload_n (p := 41) (pI pM_22 rfl) rfl rfl ?_
  refine w_sipush (p := 44) (v := 258) (pI pM_22 rfl) rfl (by decide) ?_
  refine z_putfield (p := 47) (fs := [.ref n, .ref (n + 1), .ref (n + 2), .ref (n + 3), .int 0]) (fs2 := [.ref n, .ref (n + 1), .ref (n + 2), .ref (n + 3), .int 258]) (pI pM_22 rfl) rfl rfl rfl h3 (by omega) rfl up_here rfl rfl rfl rfl (Or.inl rfl) rfl ?_
  exact w_return (pI pM_22 rfl) rfl hQ
theorem k_WayU (d : Nat) {n s b : Nat} {F : Nat → bm_C} {Q : bm_Q} (h3 : 3 ≤ b) (hb : b < n) (hc : F b = .inr (.inr (9, [.null, .null, .null, .null, .int 0, .null, .null, .int 0, .null, .int 0, .null, .int 0, .int 0, .int 0, .int 0, .int 0, .int 0, .int 0]))) (hQ : Q none (n + 9, s + 4 + 4 + 4 + 72 + 4 + 20 + 200 + 1 + 32, va_up (va_up (va_up (va_up (va_up (va_up (va_up (va_up (va_up (va_up (va_up (va_up (va_up (va_up (va_up (va_up (va_up (va_up F n (cI 4)) b (.inr (.inr (9, [.ref n, .null, .null, .null, .int 0, .null, .null, .int 0, .null, .int 0, .null, .int 0, .int 0, .int 0, .int 0, .int 0, .int 0, .int 0])))) (n + 1) (cI 4)) b (.inr (.inr (9, [.ref n, .ref (n + 1), .null, .null, .int 0, .null, .null, .int 0, .null, .int 0, .null, .int 0, .int 0, .int 0, .int 0, .int 0, .int 0, .int 0])))) (n + 2) (cI 4)) b (.inr (.inr (9, [.ref n, .ref (n + 1), .ref (n + 2), .null, .int 0, .null, .null, .int 0, .null, .int 0, .null, .int 0, .int 0, .int 0, .int 0, .int 0, .int 0, .int 0])))) (n + 3) (cI 72)) b (.inr (.inr (9, [.ref n, .ref (n + 1), .ref (n + 2), .ref (n + 3), .int 0, .null, .null, .int 0, .null, .int 0, .null, .int 0, .int 0, .int 0, .int 0, .int 0, .int 0, .int 0])))) (n + 4) (cI 4)) b (.inr (.inr (9, [.ref n, .ref (n + 1), .ref (n + 2), .ref (n + 3), .int 0, .ref (n + 4), .null, .int 0, .null, .int 0, .null, .int 0, .int 0, .int 0, .int 0, .int 0, .int 0, .int 0])))) (n + 5) (cI 20)) b (.inr (.inr (9, [.ref n, .ref (n + 1), .ref (n + 2), .ref (n + 3), .int 0, .ref (n + 4), .ref (n + 5), .int 0, .null, .int 0, .null, .int 0, .int 0, .int 0, .int 0, .int 0, .int 0, .int 0])))) (n + 6) (cI 200)) b (.inr (.inr (9, [.ref n, .ref (n + 1), .ref (n + 2), .ref (n + 3), .int 0, .ref (n + 4), .ref (n + 5), .int 0, .ref (n + 6), .int 0, .null, .int 0, .int 0, .int 0, .int 0, .int 0, .int 0, .int 0])))) (n + 7) (.inr (.inr (2, [.null])))) (n + 8) (cI 32)) (n + 7) (.inr (.inr (2, [.ref (n + 8)])))) b (.inr (.inr (9, [.ref n, .ref (n + 1), .ref (n + 2), .ref (n + 3), .int 0, .ref (n + 4), .ref (n + 5), .int 0, .ref (n + 6), .int 0, .ref (n + 7), .int 0, .int 0, .int 0, .int 0, .int 0, .int 0, .int 0]))))) : bm_M (d + 2) 115 [.ref b] (n, s, F) Q := by
  refine bw_enter rfl rfl rfl rfl ?_
  refine w_aload_n (p := 1) (pI pM_115 rfl) rfl rfl ?_
  refine w_objinit (p := 4) (pI pM_115 rfl) rfl rfl rfl rfl rfl ?_
  refine w_aload_n (p := 5) (pI pM_115 rfl) rfl rfl ?_
  refine w_iconst (p := 6) (v := 4) (pI pM_115 rfl) rfl (by decide) ?_
  refine z_newarray (p := 8) (N := 4) (t := 0) (pI pM_115 rfl) rfl rfl rfl rfl rfl ?_
  refine z_putfield (p := 11) (fs := [.null, .null, .null, .null, .int 0, .null, .null, .int 0, .null, .int 0, .null, .int 0, .int 0, .int 0, .int 0, .int 0, .int 0, .int 0]) (fs2 := [.ref n, .null, .null, .null, .int 0, .null, .null, .int 0, .null, .int 0, .null, .int 0, .int 0, .int 0, .int 0, .int 0, .int 0, .int 0]) (pI pM_115 rfl) rfl rfl rfl h3 (by omega) rfl (up_old hc (by omega)) rfl rfl rfl rfl (Or.inr ⟨rfl, rfl, rfl⟩) rfl ?_
  refine w_aload_n (p := 12) (pI pM_115 rfl) rfl rfl ?_
  refine w_iconst (p := 13) (v := 4) (pI pM_115 rfl) rfl (by decide) ?_
  refine z_newarray (p := 15) (N := 4) (t := 0) (pI pM_115 rfl) rfl rfl rfl rfl rfl ?_
  refine z_putfield (p := 18) (fs := [.ref n, .null, .null, .null, .int 0, .null, .null, .int 0, .null, .int 0, .null, .int 0, .int 0, .int 0, .int 0, .int 0, .int 0, .int 0]) (fs2 := [.ref n, .ref (n + 1), .null, .null, .int 0, .null, .null, .int 0, .null, .int 0, .null, .int 0, .int 0, .int 0, .int 0, .int 0, .int 0, .int 0]) (pI pM_115 rfl) rfl rfl rfl h3 (by omega) rfl (up_old up_here (by omega)) rfl rfl rfl rfl (Or.inr ⟨rfl, rfl, rfl⟩) rfl ?_
  refine w_aload_n (p := 19) (pI pM_115 rfl) rfl rfl ?_
  refine w_iconst (p := 20) (v := 4) (pI pM_115 rfl) rfl (by decide) ?_
  refine z_newarray (p := 22) (N := 4) (t := 0) (pI pM_115 rfl) rfl rfl rfl rfl rfl ?_
  refine z_putfield (p := 25) (fs := [.ref n, .ref (n + 1), .null, .null, .int 0, .null, .null, .int 0, .null, .int 0, .null, .int 0, .int 0, .int 0, .int 0, .int 0, .int 0, .int 0]) (fs2 := [.ref n, .ref (n + 1), .ref (n + 2), .null, .int 0, .null, .null, .int 0, .null, .int 0, .null, .int 0, .int 0, .int 0, .int 0, .int 0, .int 0, .int 0]) (pI pM_115 rfl) rfl rfl rfl h3 (by omega) rfl (up_old up_here (by omega)) rfl rfl rfl rfl (Or.inr ⟨rfl, rfl, rfl⟩) rfl ?_
  refine w_aload_n (p := 26) (pI pM_115 rfl) rfl rfl ?_
  refine w_bipush (p := 28) (v := 72) (pI pM_115 rfl) rfl (by decide) ?_
  refine z_newarray (p := 30) (N := 72) (t := 0) (pI pM_115 rfl) rfl rfl rfl rfl rfl ?_
  refine z_putfield (p := 33) (fs := [.ref n, .ref (n + 1), .ref (n + 2), .null, .int 0, .null, .null, .int 0, .null, .int 0, .null, .int 0, .int 0, .int 0, .int 0, .int 0, .int 0, .int 0]) (fs2 := [.ref n, .ref (n + 1), .ref (n + 2), .ref (n + 3), .int 0, .null, .null, .int 0, .null, .int 0, .null, .int 0, .int 0, .int 0, .int 0, .int 0, .int 0, .int 0]) (pI pM_115 rfl) rfl rfl rfl h3 (by omega) rfl (up_old up_here (by omega)) rfl rfl rfl rfl (Or.inr ⟨rfl, rfl, rfl⟩) rfl ?_
  refine w_aload_n (p := 34) (pI pM_115 rfl) rfl rfl ?_
  refine w_iconst (p := 35) (v := 4) (pI pM_115 rfl) rfl (by decide) ?_
  refine z_newarray (p := 37) (N := 4) (t := 0) (pI pM_115 rfl) rfl rfl rfl rfl rfl ?_
  refine z_putfield (p := 40) (fs := [.ref n, .ref (n + 1), .ref (n + 2), .ref (n + 3), .int 0, .null, .null, .int 0, .null, .int 0, .null, .int 0, .int 0, .int 0, .int 0, .int 0, .int 0, .int 0]) (fs2 := [.ref n, .ref (n + 1), .ref (n + 2), .ref (n + 3), .int 0, .ref (n + 4), .null, .int 0, .null, .int 0, .null, .int 0, .int 0, .int 0, .int 0, .int 0, .int 0, .int 0]) (pI pM_115 rfl) rfl rfl rfl h3 (by omega) rfl (up_old up_here (by omega)) rfl rfl rfl rfl (Or.inr ⟨rfl, rfl, rfl⟩) rfl ?_
  refine w_aload_n (p := 41) (pI pM_115 rfl) rfl rfl ?_
  refine w_bipush (p := 43) (v := 20) (pI pM_115 rfl) rfl (by decide) ?_
  refine z_newarray (p := 45) (N := 20) (t := 0) (pI pM_115 rfl) rfl rfl rfl rfl rfl ?_
  refine z_putfield (p := 48) (fs := [.ref n, .ref (n + 1), .ref (n + 2), .ref (n + 3), .int 0, .ref (n + 4), .null, .int 0, .null, .int 0, .null, .int 0, .int 0, .int 0, .int 0, .int 0, .int 0, .int 0]) (fs2 := [.ref n, .ref (n + 1), .ref (n + 2), .ref (n + 3), .int 0, .ref (n + 4), .ref (n + 5), .int 0, .null, .int 0, .null, .int 0, .int 0, .int 0, .int 0, .int 0, .int 0, .int 0]) (pI pM_115 rfl) rfl rfl rfl h3 (by omega) rfl (up_old up_here (by omega)) rfl rfl rfl rfl (Or.inr ⟨rfl, rfl, rfl⟩) rfl ?_
  refine w_aload_n (p := 49) (pI pM_115 rfl) rfl rfl ?_
  refine w_sipush (p := 52) (v := 200) (pI pM_115 rfl) rfl (by decide) ?_
  refine z_newarray (p := 54) (N := 200) (t := 0) (pI pM_115 rfl) rfl rfl rfl rfl rfl ?_
  refine z_putfield (p := 57) (fs := [.ref n, .ref (n + 1), .ref (n + 2), .ref (n + 3), .int 0, .ref (n + 4), .ref (n + 5), .int 0, .null, .int 0, .null, .int 0, .int 0, .int 0, .int 0, .int 0, .int 0, .int 0]) (fs2 := [.ref n, .ref (n + 1), .ref (n + 2), .ref (n + 3), .int 0, .ref (n + 4), .ref (n + 5), .int 0, .ref (n + 6), .int 0, .null, .int 0, .int 0, .int 0, .int 0, .int 0, .int 0, .int 0]) (pI pM_115 rfl) rfl rfl rfl h3 (by omega) rfl (up_old up_here (by omega)) rfl rfl rfl rfl (Or.inr ⟨rfl, rfl, rfl⟩) rfl ?_
  refine w_aload_n (p := 58) (pI pM_115 rfl) rfl rfl ?_
  refine z_new (p := 61) (x := .inr (.inr (2, [.null]))) (pI pM_115 rfl) rfl rfl rfl rfl rfl ?_
  refine w_dup (p := 62) (pI pM_115 rfl) rfl rfl ?_
  refine z_special (p := 65) (mj := 35) (pI pM_115 rfl) rfl rfl rfl rfl rfl rfl rfl rfl rfl rfl (by omega) (by omega) up_here ?_
  refine k_Inputs _ (by omega) (by omega) up_here ?_
  refine z_putfield (p := 68) (fs := [.ref n, .ref (n + 1), .ref (n + 2), .ref (n + 3), .int 0, .ref (n + 4), .ref (n + 5), .int 0, .ref (n + 6), .int 0, .null, .int 0, .int 0, .int 0, .int 0, .int 0, .int 0, .int 0]) (fs2 := [.ref n, .ref (n + 1), .ref (n + 2), .ref (n + 3), .int 0, .ref (n + 4), .ref (n + 5), .int 0, .ref (n + 6), .int 0, .ref (n + 7), .int 0, .int 0, .int 0, .int 0, .int 0, .int 0, .int 0]) (pI pM_115 rfl) rfl rfl rfl h3 (by omega) rfl (up_old (up_old (up_old up_here (by omega)) (by omega)) (by omega)) rfl rfl rfl rfl (Or.inr ⟨rfl, rfl, rfl⟩) rfl ?_
  exact w_return (pI pM_115 rfl) rfl hQ
theorem k_Machine (d : Nat) {n s b : Nat} {F : Nat → bm_C} {Q : bm_Q} (h3 : 3 ≤ b) (hb : b < n) (hc : F b = .inr (.inr (3, [.null, .null]))) (hQ : Q none (n + 15, s + 10 + 594 + 5 + 32258 + 32258 + 32258 + 32258, va_up (va_up (va_up (va_up (va_up (va_up (va_up (va_up (va_up (va_up (va_up (va_up (va_up (va_up (va_up (va_up (va_up (va_up (va_up (va_up (va_up (va_up (va_up (va_up (va_up (va_up (va_up (va_up (va_up (va_up (va_up F n (.inr (.inr (4, [.int 0, .null, .null, .null, .null, .null, .null, .null, .null, .null])))) (n + 1) (cI 6)) n (.inr (.inr (4, [.int 0, .ref (n + 1), .null, .null, .null, .null, .null, .null, .null, .null])))) (n + 2) (cI 6)) n (.inr (.inr (4, [.int 0, .ref (n + 1), .ref (n + 2), .null, .null, .null, .null, .null, .null, .null])))) (n + 3) (cI 240)) n (.inr (.inr (4, [.int 0, .ref (n + 1), .ref (n + 2), .ref (n + 3), .null, .null, .null, .null, .null, .null])))) (n + 4) (cI 240)) n (.inr (.inr (4, [.int 0, .ref (n + 1), .ref (n + 2), .ref (n + 3), .ref (n + 4), .null, .null, .null, .null, .null])))) (n + 5) (cI 6)) n (.inr (.inr (4, [.int 0, .ref (n + 1), .ref (n + 2), .ref (n + 3), .ref (n + 4), .ref (n + 5), .null, .null, .null, .null])))) (n + 6) (cI 24)) n (.inr (.inr (4, [.int 0, .ref (n + 1), .ref (n + 2), .ref (n + 3), .ref (n + 4), .ref (n + 5), .ref (n + 6), .null, .null, .null])))) (n + 7) (cI 24)) n (.inr (.inr (4, [.int 0, .ref (n + 1), .ref (n + 2), .ref (n + 3), .ref (n + 4), .ref (n + 5), .ref (n + 6), .ref (n + 7), .null, .null])))) (n + 8) (cI 24)) n (.inr (.inr (4, [.int 0, .ref (n + 1), .ref (n + 2), .ref (n + 3), .ref (n + 4), .ref (n + 5), .ref (n + 6), .ref (n + 7), .ref (n + 8), .null])))) (n + 9) (cI 24)) n (.inr (.inr (4, [.int 0, .ref (n + 1), .ref (n + 2), .ref (n + 3), .ref (n + 4), .ref (n + 5), .ref (n + 6), .ref (n + 7), .ref (n + 8), .ref (n + 9)])))) b (.inr (.inr (3, [.ref n, .null])))) (n + 10) (.inr (.inr (1, [.null, .null, .null, .null, .int 0])))) (n + 11) (cI 32258)) (n + 10) (.inr (.inr (1, [.ref (n + 11), .null, .null, .null, .int 0])))) (n + 12) (cI 32258)) (n + 10) (.inr (.inr (1, [.ref (n + 11), .ref (n + 12), .null, .null, .int 0])))) (n + 13) (cI 32258)) (n + 10) (.inr (.inr (1, [.ref (n + 11), .ref (n + 12), .ref (n + 13), .null, .int 0])))) (n + 14) (cI 32258)) (n + 10) (.inr (.inr (1, [.ref (n + 11), .ref (n + 12), .ref (n + 13), .ref (n + 14), .int 0])))) (n + 10) (.inr (.inr (1, [.ref (n + 11), .ref (n + 12), .ref (n + 13), .ref (n + 14), .int 258])))) b (.inr (.inr (3, [.ref n, .ref (n + 10)]))))) : bm_M (d + 2) 46 [.ref b] (n, s, F) Q := by
  refine bw_enter rfl rfl rfl rfl ?_
  refine w_aload_n (p := 1) (pI pM_46 rfl) rfl rfl ?_
  refine w_objinit (p := 4) (pI pM_46 rfl) rfl rfl rfl rfl rfl ?_
  refine w_aload_n (p := 5) (pI pM_46 rfl) rfl rfl ?_
  refine z_new (p := 8) (x := .inr (.inr (4, [.int 0, .null, .null, .null, .null, .null, .null, .null, .null, .null]))) (pI pM_46 rfl) rfl rfl rfl rfl rfl ?_
  refine w_dup (p := 9) (pI pM_46 rfl) rfl rfl ?_
  refine z_special (p := 12) (mj := 72) (pI pM_46 rfl) rfl rfl rfl rfl rfl rfl rfl rfl rfl rfl (by omega) (by omega) up_here ?_
  refine k_Program _ (by omega) (by omega) up_here ?_
  refine z_putfield (p := 15) (fs := [.null, .null]) (fs2 := [.ref n, .null]) (pI pM_46 rfl) rfl rfl rfl h3 (by omega) rfl (up_old (up_old (up_old (up_old (up_old (up_old (up_old (up_old (up_old (up_old (up_old (up_old (up_old (up_old (up_old (up_old (up_old (up_old (up_old hc (by omega)) (by omega)) (by omega)) (by omega)) (by omega)) (by omega)) (by omega)) (by omega)) (by omega)) (by omega)) (by omega)) (by omega)) (by omega)) (by omega)) (by omega)) (by omega)) (by omega)) (by omega)) (by omega)) rfl rfl rfl rfl (Or.inr ⟨rfl, rfl, rfl⟩) rfl ?_
  refine w_aload_n (p := 16) (pI pM_46 rfl) rfl rfl ?_
  refine z_new (p := 19) (x := .inr (.inr (1, [.null, .null, .null, .null, .int 0]))) (pI pM_46 rfl) rfl rfl rfl rfl rfl ?_
  refine w_dup (p := 20) (pI pM_46 rfl) rfl rfl ?_
  refine z_special (p := 23) (mj := 22) (pI pM_46 rfl) rfl rfl rfl rfl rfl rfl rfl rfl rfl rfl (by omega) (by omega) up_here ?_
  refine k_Formulas _ (by omega) (by omega) up_here ?_
  refine z_putfield (p := 26) (fs := [.ref n, .null]) (fs2 := [.ref n, .ref (n + 10)]) (pI pM_46 rfl) rfl rfl rfl h3 (by omega) rfl (up_old (up_old (up_old (up_old (up_old (up_old (up_old (up_old (up_old (up_old up_here (by omega)) (by omega)) (by omega)) (by omega)) (by omega)) (by omega)) (by omega)) (by omega)) (by omega)) (by omega)) rfl rfl rfl rfl (Or.inr ⟨rfl, rfl, rfl⟩) rfl ?_
  exact w_return (pI pM_46 rfl) rfl hQ
