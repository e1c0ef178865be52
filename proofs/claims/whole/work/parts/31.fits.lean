/-! which number an operation takes: fits and mayBe -/
def rgP (k : Nat) (a : Int32) : Prop := match k with
  | 0 => (-128 : Int32) ≤ a ∧ a ≤ nI 127
  | 1 => nI 0 ≤ a ∧ a ≤ nI 5
  | 2 => nI 0 ≤ a ∧ a ≤ nI 5
  | 17 => nI 0 ≤ a ∧ a ≤ nI 39
  | 18 => nI 0 ≤ a ∧ a ≤ nI 39
  | 19 => nI 0 ≤ a ∧ a ≤ nI 39
  | 20 => nI 0 ≤ a ∧ a ≤ nI 39
  | 25 => nI 0 ≤ a ∧ a ≤ nI 5
  | 27 => nI 7 ≤ a ∧ a ≤ nI 12
  | 29 => nI 0 ≤ a ∧ a ≤ nI 3
  | _ => True
theorem sw_out {op : Int32} {d : Int} {offs : Array Int} (h : ¬ inR op 30) : bm_sw 0 29 d offs op = some d := by
  unfold bm_sw
  rw [if_pos]
  by_cases h0 : op < 0
  · exact Or.inl (by simpa [Int32.lt_iff_toInt_lt] using h0)
  · refine Or.inr (Int.not_le.mp fun z => h ?_)
    obtain ⟨j, hj, e⟩ := nI_of h0
    subst e
    rw [nI_toInt hj] at z
    exact ⟨j, by omega, rfl⟩
theorem in30 {k : Nat} (h : k < 30) : nI 0 ≤ nI k ∧ nI k ≤ nI 29 := ⟨nI_le (by omega) (by omega), nI_le (by omega) (by decide)⟩
theorem out30 {op : Int32} (h : ¬ inR op 30) : ¬ (nI 0 ≤ op ∧ op ≤ nI 29) := fun ⟨a, b⟩ => h (by
  obtain ⟨j, hj, e⟩ := nI_of (x := op) (Int32.not_lt.mpr a)
  subst e
  exact ⟨j, by have := (nI_leI hj (by decide)).mp b; omega, rfl⟩)
set_option maxRecDepth 100000 in
set_option maxHeartbeats 4000000 in
theorem c_fits (d : Nat) {h : bm_H} {Q : bm_Q} {op a : Int32} (h1 : ∀ k, k < 30 → op = nI k → rgP k a → Q (some (.int 1)) h) (h0 : (∀ k, k < 30 → op = nI k → ¬ rgP k a) → Q (some (.int 0)) h) : bm_M (d + 2) 75 [.int op, .int a] h Q := by
  refine bw_enter rfl rfl rfl rfl ?_
  refine w_iload_n (p := 1) (pI pM_75 rfl) rfl rfl ?_
  by_cases hop : inR op 30
  · obtain ⟨k, hk, rfl⟩ := hop
    have one : ∀ z : Prop, (rgP k a ↔ z) → ¬ z → ∀ j, j < 30 → nI k = nI j → ¬ rgP j a := fun z e nz j hj ej hr => by
      have := (nI_eq (by omega) (by omega)).mp ej
      subst this
      exact nz (e.mp hr)
    rcases (show k = 0 ∨ k = 1 ∨ k = 2 ∨ k = 3 ∨ k = 4 ∨ k = 5 ∨ k = 6 ∨ k = 7 ∨ k = 8 ∨ k = 9 ∨ k = 10 ∨ k = 11 ∨ k = 12 ∨ k = 13 ∨ k = 14 ∨ k = 15 ∨ k = 16 ∨ k = 17 ∨ k = 18 ∨ k = 19 ∨ k = 20 ∨ k = 21 ∨ k = 22 ∨ k = 23 ∨ k = 24 ∨ k = 25 ∨ k = 26 ∨ k = 27 ∨ k = 28 ∨ k = 29 by omega) with rfl | rfl | rfl | rfl | rfl | rfl | rfl | rfl | rfl | rfl | rfl | rfl | rfl | rfl | rfl | rfl | rfl | rfl | rfl | rfl | rfl | rfl | rfl | rfl | rfl | rfl | rfl | rfl | rfl | rfl
    · refine w_table (p := 136) (off := 135) (pI pM_75 rfl) (by decide) rfl rfl ?_
      refine w_iload_n (p := 137) (pI pM_75 rfl) rfl rfl ?_
      refine w_bipush (p := 139) (v := -128) (pI pM_75 rfl) rfl rfl ?_
      refine w_bipush (p := 141) (v := nI 127) (pI pM_75 rfl) rfl rfl ?_
      refine w_static (p := 144) (mj := 2) (pI pM_75 rfl) rfl rfl rfl rfl rfl rfl rfl rfl rfl ?_
      refine c_within _ (fun hw => ?_) (fun hw => ?_)
      · exact w_ireturn (pI pM_75 rfl) rfl rfl rfl (h1 0 (by decide) rfl hw)
      · exact w_ireturn (pI pM_75 rfl) rfl rfl rfl (h0 (one _ Iff.rfl hw))
    · refine w_table (p := 145) (off := 144) (pI pM_75 rfl) (by decide) rfl rfl ?_
      refine w_iload_n (p := 146) (pI pM_75 rfl) rfl rfl ?_
      refine w_iconst (p := 147) (v := nI 0) (pI pM_75 rfl) rfl rfl ?_
      refine w_iconst (p := 148) (v := nI 5) (pI pM_75 rfl) rfl rfl ?_
      refine w_static (p := 151) (mj := 2) (pI pM_75 rfl) rfl rfl rfl rfl rfl rfl rfl rfl rfl ?_
      refine c_within _ (fun hw => ?_) (fun hw => ?_)
      · exact w_ireturn (pI pM_75 rfl) rfl rfl rfl (h1 1 (by decide) rfl hw)
      · exact w_ireturn (pI pM_75 rfl) rfl rfl rfl (h0 (one _ Iff.rfl hw))
    · refine w_table (p := 145) (off := 144) (pI pM_75 rfl) (by decide) rfl rfl ?_
      refine w_iload_n (p := 146) (pI pM_75 rfl) rfl rfl ?_
      refine w_iconst (p := 147) (v := nI 0) (pI pM_75 rfl) rfl rfl ?_
      refine w_iconst (p := 148) (v := nI 5) (pI pM_75 rfl) rfl rfl ?_
      refine w_static (p := 151) (mj := 2) (pI pM_75 rfl) rfl rfl rfl rfl rfl rfl rfl rfl rfl ?_
      refine c_within _ (fun hw => ?_) (fun hw => ?_)
      · exact w_ireturn (pI pM_75 rfl) rfl rfl rfl (h1 2 (by decide) rfl hw)
      · exact w_ireturn (pI pM_75 rfl) rfl rfl rfl (h0 (one _ Iff.rfl hw))
    · refine w_table (p := 183) (off := 182) (pI pM_75 rfl) (by decide) rfl rfl ?_
      refine w_iload_n (p := 184) (pI pM_75 rfl) rfl rfl ?_
      refine w_iconst (p := 185) (v := nI 0) (pI pM_75 rfl) rfl rfl ?_
      refine w_bipush (p := 187) (v := nI 29) (pI pM_75 rfl) rfl rfl ?_
      refine w_static (p := 190) (mj := 2) (pI pM_75 rfl) rfl rfl rfl rfl rfl rfl rfl rfl rfl ?_
      refine c_within _ (fun hw => ?_) (fun hw => ?_)
      · exact w_ireturn (pI pM_75 rfl) rfl rfl rfl (h1 3 (by decide) rfl trivial)
      · exact absurd (in30 (k := 3) (by decide)) hw
    · refine w_table (p := 183) (off := 182) (pI pM_75 rfl) (by decide) rfl rfl ?_
      refine w_iload_n (p := 184) (pI pM_75 rfl) rfl rfl ?_
      refine w_iconst (p := 185) (v := nI 0) (pI pM_75 rfl) rfl rfl ?_
      refine w_bipush (p := 187) (v := nI 29) (pI pM_75 rfl) rfl rfl ?_
      refine w_static (p := 190) (mj := 2) (pI pM_75 rfl) rfl rfl rfl rfl rfl rfl rfl rfl rfl ?_
      refine c_within _ (fun hw => ?_) (fun hw => ?_)
      · exact w_ireturn (pI pM_75 rfl) rfl rfl rfl (h1 4 (by decide) rfl trivial)
      · exact absurd (in30 (k := 4) (by decide)) hw
    · refine w_table (p := 183) (off := 182) (pI pM_75 rfl) (by decide) rfl rfl ?_
      refine w_iload_n (p := 184) (pI pM_75 rfl) rfl rfl ?_
      refine w_iconst (p := 185) (v := nI 0) (pI pM_75 rfl) rfl rfl ?_
      refine w_bipush (p := 187) (v := nI 29) (pI pM_75 rfl) rfl rfl ?_
      refine w_static (p := 190) (mj := 2) (pI pM_75 rfl) rfl rfl rfl rfl rfl rfl rfl rfl rfl ?_
      refine c_within _ (fun hw => ?_) (fun hw => ?_)
      · exact w_ireturn (pI pM_75 rfl) rfl rfl rfl (h1 5 (by decide) rfl trivial)
      · exact absurd (in30 (k := 5) (by decide)) hw
    · refine w_table (p := 183) (off := 182) (pI pM_75 rfl) (by decide) rfl rfl ?_
      refine w_iload_n (p := 184) (pI pM_75 rfl) rfl rfl ?_
      refine w_iconst (p := 185) (v := nI 0) (pI pM_75 rfl) rfl rfl ?_
      refine w_bipush (p := 187) (v := nI 29) (pI pM_75 rfl) rfl rfl ?_
      refine w_static (p := 190) (mj := 2) (pI pM_75 rfl) rfl rfl rfl rfl rfl rfl rfl rfl rfl ?_
      refine c_within _ (fun hw => ?_) (fun hw => ?_)
      · exact w_ireturn (pI pM_75 rfl) rfl rfl rfl (h1 6 (by decide) rfl trivial)
      · exact absurd (in30 (k := 6) (by decide)) hw
    · refine w_table (p := 183) (off := 182) (pI pM_75 rfl) (by decide) rfl rfl ?_
      refine w_iload_n (p := 184) (pI pM_75 rfl) rfl rfl ?_
      refine w_iconst (p := 185) (v := nI 0) (pI pM_75 rfl) rfl rfl ?_
      refine w_bipush (p := 187) (v := nI 29) (pI pM_75 rfl) rfl rfl ?_
      refine w_static (p := 190) (mj := 2) (pI pM_75 rfl) rfl rfl rfl rfl rfl rfl rfl rfl rfl ?_
      refine c_within _ (fun hw => ?_) (fun hw => ?_)
      · exact w_ireturn (pI pM_75 rfl) rfl rfl rfl (h1 7 (by decide) rfl trivial)
      · exact absurd (in30 (k := 7) (by decide)) hw
    · refine w_table (p := 183) (off := 182) (pI pM_75 rfl) (by decide) rfl rfl ?_
      refine w_iload_n (p := 184) (pI pM_75 rfl) rfl rfl ?_
      refine w_iconst (p := 185) (v := nI 0) (pI pM_75 rfl) rfl rfl ?_
      refine w_bipush (p := 187) (v := nI 29) (pI pM_75 rfl) rfl rfl ?_
      refine w_static (p := 190) (mj := 2) (pI pM_75 rfl) rfl rfl rfl rfl rfl rfl rfl rfl rfl ?_
      refine c_within _ (fun hw => ?_) (fun hw => ?_)
      · exact w_ireturn (pI pM_75 rfl) rfl rfl rfl (h1 8 (by decide) rfl trivial)
      · exact absurd (in30 (k := 8) (by decide)) hw
    · refine w_table (p := 183) (off := 182) (pI pM_75 rfl) (by decide) rfl rfl ?_
      refine w_iload_n (p := 184) (pI pM_75 rfl) rfl rfl ?_
      refine w_iconst (p := 185) (v := nI 0) (pI pM_75 rfl) rfl rfl ?_
      refine w_bipush (p := 187) (v := nI 29) (pI pM_75 rfl) rfl rfl ?_
      refine w_static (p := 190) (mj := 2) (pI pM_75 rfl) rfl rfl rfl rfl rfl rfl rfl rfl rfl ?_
      refine c_within _ (fun hw => ?_) (fun hw => ?_)
      · exact w_ireturn (pI pM_75 rfl) rfl rfl rfl (h1 9 (by decide) rfl trivial)
      · exact absurd (in30 (k := 9) (by decide)) hw
    · refine w_table (p := 183) (off := 182) (pI pM_75 rfl) (by decide) rfl rfl ?_
      refine w_iload_n (p := 184) (pI pM_75 rfl) rfl rfl ?_
      refine w_iconst (p := 185) (v := nI 0) (pI pM_75 rfl) rfl rfl ?_
      refine w_bipush (p := 187) (v := nI 29) (pI pM_75 rfl) rfl rfl ?_
      refine w_static (p := 190) (mj := 2) (pI pM_75 rfl) rfl rfl rfl rfl rfl rfl rfl rfl rfl ?_
      refine c_within _ (fun hw => ?_) (fun hw => ?_)
      · exact w_ireturn (pI pM_75 rfl) rfl rfl rfl (h1 10 (by decide) rfl trivial)
      · exact absurd (in30 (k := 10) (by decide)) hw
    · refine w_table (p := 183) (off := 182) (pI pM_75 rfl) (by decide) rfl rfl ?_
      refine w_iload_n (p := 184) (pI pM_75 rfl) rfl rfl ?_
      refine w_iconst (p := 185) (v := nI 0) (pI pM_75 rfl) rfl rfl ?_
      refine w_bipush (p := 187) (v := nI 29) (pI pM_75 rfl) rfl rfl ?_
      refine w_static (p := 190) (mj := 2) (pI pM_75 rfl) rfl rfl rfl rfl rfl rfl rfl rfl rfl ?_
      refine c_within _ (fun hw => ?_) (fun hw => ?_)
      · exact w_ireturn (pI pM_75 rfl) rfl rfl rfl (h1 11 (by decide) rfl trivial)
      · exact absurd (in30 (k := 11) (by decide)) hw
    · refine w_table (p := 183) (off := 182) (pI pM_75 rfl) (by decide) rfl rfl ?_
      refine w_iload_n (p := 184) (pI pM_75 rfl) rfl rfl ?_
      refine w_iconst (p := 185) (v := nI 0) (pI pM_75 rfl) rfl rfl ?_
      refine w_bipush (p := 187) (v := nI 29) (pI pM_75 rfl) rfl rfl ?_
      refine w_static (p := 190) (mj := 2) (pI pM_75 rfl) rfl rfl rfl rfl rfl rfl rfl rfl rfl ?_
      refine c_within _ (fun hw => ?_) (fun hw => ?_)
      · exact w_ireturn (pI pM_75 rfl) rfl rfl rfl (h1 12 (by decide) rfl trivial)
      · exact absurd (in30 (k := 12) (by decide)) hw
    · refine w_table (p := 183) (off := 182) (pI pM_75 rfl) (by decide) rfl rfl ?_
      refine w_iload_n (p := 184) (pI pM_75 rfl) rfl rfl ?_
      refine w_iconst (p := 185) (v := nI 0) (pI pM_75 rfl) rfl rfl ?_
      refine w_bipush (p := 187) (v := nI 29) (pI pM_75 rfl) rfl rfl ?_
      refine w_static (p := 190) (mj := 2) (pI pM_75 rfl) rfl rfl rfl rfl rfl rfl rfl rfl rfl ?_
      refine c_within _ (fun hw => ?_) (fun hw => ?_)
      · exact w_ireturn (pI pM_75 rfl) rfl rfl rfl (h1 13 (by decide) rfl trivial)
      · exact absurd (in30 (k := 13) (by decide)) hw
    · refine w_table (p := 183) (off := 182) (pI pM_75 rfl) (by decide) rfl rfl ?_
      refine w_iload_n (p := 184) (pI pM_75 rfl) rfl rfl ?_
      refine w_iconst (p := 185) (v := nI 0) (pI pM_75 rfl) rfl rfl ?_
      refine w_bipush (p := 187) (v := nI 29) (pI pM_75 rfl) rfl rfl ?_
      refine w_static (p := 190) (mj := 2) (pI pM_75 rfl) rfl rfl rfl rfl rfl rfl rfl rfl rfl ?_
      refine c_within _ (fun hw => ?_) (fun hw => ?_)
      · exact w_ireturn (pI pM_75 rfl) rfl rfl rfl (h1 14 (by decide) rfl trivial)
      · exact absurd (in30 (k := 14) (by decide)) hw
    · refine w_table (p := 183) (off := 182) (pI pM_75 rfl) (by decide) rfl rfl ?_
      refine w_iload_n (p := 184) (pI pM_75 rfl) rfl rfl ?_
      refine w_iconst (p := 185) (v := nI 0) (pI pM_75 rfl) rfl rfl ?_
      refine w_bipush (p := 187) (v := nI 29) (pI pM_75 rfl) rfl rfl ?_
      refine w_static (p := 190) (mj := 2) (pI pM_75 rfl) rfl rfl rfl rfl rfl rfl rfl rfl rfl ?_
      refine c_within _ (fun hw => ?_) (fun hw => ?_)
      · exact w_ireturn (pI pM_75 rfl) rfl rfl rfl (h1 15 (by decide) rfl trivial)
      · exact absurd (in30 (k := 15) (by decide)) hw
    · refine w_table (p := 183) (off := 182) (pI pM_75 rfl) (by decide) rfl rfl ?_
      refine w_iload_n (p := 184) (pI pM_75 rfl) rfl rfl ?_
      refine w_iconst (p := 185) (v := nI 0) (pI pM_75 rfl) rfl rfl ?_
      refine w_bipush (p := 187) (v := nI 29) (pI pM_75 rfl) rfl rfl ?_
      refine w_static (p := 190) (mj := 2) (pI pM_75 rfl) rfl rfl rfl rfl rfl rfl rfl rfl rfl ?_
      refine c_within _ (fun hw => ?_) (fun hw => ?_)
      · exact w_ireturn (pI pM_75 rfl) rfl rfl rfl (h1 16 (by decide) rfl trivial)
      · exact absurd (in30 (k := 16) (by decide)) hw
    · refine w_table (p := 152) (off := 151) (pI pM_75 rfl) (by decide) rfl rfl ?_
      refine w_iload_n (p := 153) (pI pM_75 rfl) rfl rfl ?_
      refine w_iconst (p := 154) (v := nI 0) (pI pM_75 rfl) rfl rfl ?_
      refine w_bipush (p := 156) (v := nI 39) (pI pM_75 rfl) rfl rfl ?_
      refine w_static (p := 159) (mj := 2) (pI pM_75 rfl) rfl rfl rfl rfl rfl rfl rfl rfl rfl ?_
      refine c_within _ (fun hw => ?_) (fun hw => ?_)
      · exact w_ireturn (pI pM_75 rfl) rfl rfl rfl (h1 17 (by decide) rfl hw)
      · exact w_ireturn (pI pM_75 rfl) rfl rfl rfl (h0 (one _ Iff.rfl hw))
    · refine w_table (p := 152) (off := 151) (pI pM_75 rfl) (by decide) rfl rfl ?_
      refine w_iload_n (p := 153) (pI pM_75 rfl) rfl rfl ?_
      refine w_iconst (p := 154) (v := nI 0) (pI pM_75 rfl) rfl rfl ?_
      refine w_bipush (p := 156) (v := nI 39) (pI pM_75 rfl) rfl rfl ?_
      refine w_static (p := 159) (mj := 2) (pI pM_75 rfl) rfl rfl rfl rfl rfl rfl rfl rfl rfl ?_
      refine c_within _ (fun hw => ?_) (fun hw => ?_)
      · exact w_ireturn (pI pM_75 rfl) rfl rfl rfl (h1 18 (by decide) rfl hw)
      · exact w_ireturn (pI pM_75 rfl) rfl rfl rfl (h0 (one _ Iff.rfl hw))
    · refine w_table (p := 152) (off := 151) (pI pM_75 rfl) (by decide) rfl rfl ?_
      refine w_iload_n (p := 153) (pI pM_75 rfl) rfl rfl ?_
      refine w_iconst (p := 154) (v := nI 0) (pI pM_75 rfl) rfl rfl ?_
      refine w_bipush (p := 156) (v := nI 39) (pI pM_75 rfl) rfl rfl ?_
      refine w_static (p := 159) (mj := 2) (pI pM_75 rfl) rfl rfl rfl rfl rfl rfl rfl rfl rfl ?_
      refine c_within _ (fun hw => ?_) (fun hw => ?_)
      · exact w_ireturn (pI pM_75 rfl) rfl rfl rfl (h1 19 (by decide) rfl hw)
      · exact w_ireturn (pI pM_75 rfl) rfl rfl rfl (h0 (one _ Iff.rfl hw))
    · refine w_table (p := 152) (off := 151) (pI pM_75 rfl) (by decide) rfl rfl ?_
      refine w_iload_n (p := 153) (pI pM_75 rfl) rfl rfl ?_
      refine w_iconst (p := 154) (v := nI 0) (pI pM_75 rfl) rfl rfl ?_
      refine w_bipush (p := 156) (v := nI 39) (pI pM_75 rfl) rfl rfl ?_
      refine w_static (p := 159) (mj := 2) (pI pM_75 rfl) rfl rfl rfl rfl rfl rfl rfl rfl rfl ?_
      refine c_within _ (fun hw => ?_) (fun hw => ?_)
      · exact w_ireturn (pI pM_75 rfl) rfl rfl rfl (h1 20 (by decide) rfl hw)
      · exact w_ireturn (pI pM_75 rfl) rfl rfl rfl (h0 (one _ Iff.rfl hw))
    · refine w_table (p := 183) (off := 182) (pI pM_75 rfl) (by decide) rfl rfl ?_
      refine w_iload_n (p := 184) (pI pM_75 rfl) rfl rfl ?_
      refine w_iconst (p := 185) (v := nI 0) (pI pM_75 rfl) rfl rfl ?_
      refine w_bipush (p := 187) (v := nI 29) (pI pM_75 rfl) rfl rfl ?_
      refine w_static (p := 190) (mj := 2) (pI pM_75 rfl) rfl rfl rfl rfl rfl rfl rfl rfl rfl ?_
      refine c_within _ (fun hw => ?_) (fun hw => ?_)
      · exact w_ireturn (pI pM_75 rfl) rfl rfl rfl (h1 21 (by decide) rfl trivial)
      · exact absurd (in30 (k := 21) (by decide)) hw
    · refine w_table (p := 183) (off := 182) (pI pM_75 rfl) (by decide) rfl rfl ?_
      refine w_iload_n (p := 184) (pI pM_75 rfl) rfl rfl ?_
      refine w_iconst (p := 185) (v := nI 0) (pI pM_75 rfl) rfl rfl ?_
      refine w_bipush (p := 187) (v := nI 29) (pI pM_75 rfl) rfl rfl ?_
      refine w_static (p := 190) (mj := 2) (pI pM_75 rfl) rfl rfl rfl rfl rfl rfl rfl rfl rfl ?_
      refine c_within _ (fun hw => ?_) (fun hw => ?_)
      · exact w_ireturn (pI pM_75 rfl) rfl rfl rfl (h1 22 (by decide) rfl trivial)
      · exact absurd (in30 (k := 22) (by decide)) hw
    · refine w_table (p := 183) (off := 182) (pI pM_75 rfl) (by decide) rfl rfl ?_
      refine w_iload_n (p := 184) (pI pM_75 rfl) rfl rfl ?_
      refine w_iconst (p := 185) (v := nI 0) (pI pM_75 rfl) rfl rfl ?_
      refine w_bipush (p := 187) (v := nI 29) (pI pM_75 rfl) rfl rfl ?_
      refine w_static (p := 190) (mj := 2) (pI pM_75 rfl) rfl rfl rfl rfl rfl rfl rfl rfl rfl ?_
      refine c_within _ (fun hw => ?_) (fun hw => ?_)
      · exact w_ireturn (pI pM_75 rfl) rfl rfl rfl (h1 23 (by decide) rfl trivial)
      · exact absurd (in30 (k := 23) (by decide)) hw
    · refine w_table (p := 183) (off := 182) (pI pM_75 rfl) (by decide) rfl rfl ?_
      refine w_iload_n (p := 184) (pI pM_75 rfl) rfl rfl ?_
      refine w_iconst (p := 185) (v := nI 0) (pI pM_75 rfl) rfl rfl ?_
      refine w_bipush (p := 187) (v := nI 29) (pI pM_75 rfl) rfl rfl ?_
      refine w_static (p := 190) (mj := 2) (pI pM_75 rfl) rfl rfl rfl rfl rfl rfl rfl rfl rfl ?_
      refine c_within _ (fun hw => ?_) (fun hw => ?_)
      · exact w_ireturn (pI pM_75 rfl) rfl rfl rfl (h1 24 (by decide) rfl trivial)
      · exact absurd (in30 (k := 24) (by decide)) hw
    · refine w_table (p := 160) (off := 159) (pI pM_75 rfl) (by decide) rfl rfl ?_
      refine w_iload_n (p := 161) (pI pM_75 rfl) rfl rfl ?_
      refine w_iconst (p := 162) (v := nI 0) (pI pM_75 rfl) rfl rfl ?_
      refine w_iconst (p := 163) (v := nI 5) (pI pM_75 rfl) rfl rfl ?_
      refine w_static (p := 166) (mj := 2) (pI pM_75 rfl) rfl rfl rfl rfl rfl rfl rfl rfl rfl ?_
      refine c_within _ (fun hw => ?_) (fun hw => ?_)
      · exact w_ireturn (pI pM_75 rfl) rfl rfl rfl (h1 25 (by decide) rfl hw)
      · exact w_ireturn (pI pM_75 rfl) rfl rfl rfl (h0 (one _ Iff.rfl hw))
    · refine w_table (p := 183) (off := 182) (pI pM_75 rfl) (by decide) rfl rfl ?_
      refine w_iload_n (p := 184) (pI pM_75 rfl) rfl rfl ?_
      refine w_iconst (p := 185) (v := nI 0) (pI pM_75 rfl) rfl rfl ?_
      refine w_bipush (p := 187) (v := nI 29) (pI pM_75 rfl) rfl rfl ?_
      refine w_static (p := 190) (mj := 2) (pI pM_75 rfl) rfl rfl rfl rfl rfl rfl rfl rfl rfl ?_
      refine c_within _ (fun hw => ?_) (fun hw => ?_)
      · exact w_ireturn (pI pM_75 rfl) rfl rfl rfl (h1 26 (by decide) rfl trivial)
      · exact absurd (in30 (k := 26) (by decide)) hw
    · refine w_table (p := 167) (off := 166) (pI pM_75 rfl) (by decide) rfl rfl ?_
      refine w_iload_n (p := 168) (pI pM_75 rfl) rfl rfl ?_
      refine w_bipush (p := 170) (v := nI 7) (pI pM_75 rfl) rfl rfl ?_
      refine w_bipush (p := 172) (v := nI 12) (pI pM_75 rfl) rfl rfl ?_
      refine w_static (p := 175) (mj := 2) (pI pM_75 rfl) rfl rfl rfl rfl rfl rfl rfl rfl rfl ?_
      refine c_within _ (fun hw => ?_) (fun hw => ?_)
      · exact w_ireturn (pI pM_75 rfl) rfl rfl rfl (h1 27 (by decide) rfl hw)
      · exact w_ireturn (pI pM_75 rfl) rfl rfl rfl (h0 (one _ Iff.rfl hw))
    · refine w_table (p := 183) (off := 182) (pI pM_75 rfl) (by decide) rfl rfl ?_
      refine w_iload_n (p := 184) (pI pM_75 rfl) rfl rfl ?_
      refine w_iconst (p := 185) (v := nI 0) (pI pM_75 rfl) rfl rfl ?_
      refine w_bipush (p := 187) (v := nI 29) (pI pM_75 rfl) rfl rfl ?_
      refine w_static (p := 190) (mj := 2) (pI pM_75 rfl) rfl rfl rfl rfl rfl rfl rfl rfl rfl ?_
      refine c_within _ (fun hw => ?_) (fun hw => ?_)
      · exact w_ireturn (pI pM_75 rfl) rfl rfl rfl (h1 28 (by decide) rfl trivial)
      · exact absurd (in30 (k := 28) (by decide)) hw
    · refine w_table (p := 176) (off := 175) (pI pM_75 rfl) (by decide) rfl rfl ?_
      refine w_iload_n (p := 177) (pI pM_75 rfl) rfl rfl ?_
      refine w_iconst (p := 178) (v := nI 0) (pI pM_75 rfl) rfl rfl ?_
      refine w_iconst (p := 179) (v := nI 3) (pI pM_75 rfl) rfl rfl ?_
      refine w_static (p := 182) (mj := 2) (pI pM_75 rfl) rfl rfl rfl rfl rfl rfl rfl rfl rfl ?_
      refine c_within _ (fun hw => ?_) (fun hw => ?_)
      · exact w_ireturn (pI pM_75 rfl) rfl rfl rfl (h1 29 (by decide) rfl hw)
      · exact w_ireturn (pI pM_75 rfl) rfl rfl rfl (h0 (one _ Iff.rfl hw))
  · refine w_table (p := 183) (off := 182) (pI pM_75 rfl) (sw_out hop) rfl rfl ?_
    refine w_iload_n (p := 184) (pI pM_75 rfl) rfl rfl ?_
    refine w_iconst (p := 185) (v := nI 0) (pI pM_75 rfl) rfl rfl ?_
    refine w_bipush (p := 187) (v := nI 29) (pI pM_75 rfl) rfl rfl ?_
    refine w_static (p := 190) (mj := 2) (pI pM_75 rfl) rfl rfl rfl rfl rfl rfl rfl rfl rfl ?_
    refine c_within _ (fun hw => ?_) (fun hw => ?_)
    · exact absurd hw (out30 hop)
    · exact w_ireturn (pI pM_75 rfl) rfl rfl rfl (h0 (fun k hk e _ => hop ⟨k, hk, e⟩))
set_option maxRecDepth 100000 in
set_option maxHeartbeats 4000000 in
theorem c_mayBe (d : Nat) {h : bm_H} {Q : bm_Q} {op a : Int32} (hop : inR op 30) (h1 : ∀ k, k < 30 → op = nI k → rgP k a → Q (some (.int 1)) h) (h0 : (∀ k, k < 30 → op = nI k → ¬ rgP k a) → Q (some (.int 0)) h) : bm_M (d + 2) 151 [.int op, .int a] h Q := by
  refine bw_enter rfl rfl rfl rfl ?_
  refine w_iload_n (p := 1) (pI pM_151 rfl) rfl rfl ?_
  obtain ⟨k, hk, rfl⟩ := hop
  have one : ∀ z : Prop, (rgP k a ↔ z) → ¬ z → ∀ j, j < 30 → nI k = nI j → ¬ rgP j a := fun z e nz j hj ej hr => by
    have := (nI_eq (by omega) (by omega)).mp ej
    subst this
    exact nz (e.mp hr)
  rcases (show k = 0 ∨ k = 1 ∨ k = 2 ∨ k = 3 ∨ k = 4 ∨ k = 5 ∨ k = 6 ∨ k = 7 ∨ k = 8 ∨ k = 9 ∨ k = 10 ∨ k = 11 ∨ k = 12 ∨ k = 13 ∨ k = 14 ∨ k = 15 ∨ k = 16 ∨ k = 17 ∨ k = 18 ∨ k = 19 ∨ k = 20 ∨ k = 21 ∨ k = 22 ∨ k = 23 ∨ k = 24 ∨ k = 25 ∨ k = 26 ∨ k = 27 ∨ k = 28 ∨ k = 29 by omega) with rfl | rfl | rfl | rfl | rfl | rfl | rfl | rfl | rfl | rfl | rfl | rfl | rfl | rfl | rfl | rfl | rfl | rfl | rfl | rfl | rfl | rfl | rfl | rfl | rfl | rfl | rfl | rfl | rfl | rfl
  · refine w_table (p := 136) (off := 135) (pI pM_151 rfl) (by decide) rfl rfl ?_
    refine w_iload_n (p := 137) (pI pM_151 rfl) rfl rfl ?_
    refine w_bipush (p := 139) (v := -128) (pI pM_151 rfl) rfl rfl ?_
    refine w_bipush (p := 141) (v := nI 127) (pI pM_151 rfl) rfl rfl ?_
    refine w_static (p := 144) (mj := 149) (pI pM_151 rfl) rfl rfl rfl rfl rfl rfl rfl rfl rfl ?_
    refine c_isIn _ (fun hw => ?_) (fun hw => ?_)
    · exact w_ireturn (pI pM_151 rfl) rfl rfl rfl (h1 0 (by decide) rfl hw)
    · exact w_ireturn (pI pM_151 rfl) rfl rfl rfl (h0 (one _ Iff.rfl hw))
  · refine w_table (p := 145) (off := 144) (pI pM_151 rfl) (by decide) rfl rfl ?_
    refine w_iload_n (p := 146) (pI pM_151 rfl) rfl rfl ?_
    refine w_iconst (p := 147) (v := nI 0) (pI pM_151 rfl) rfl rfl ?_
    refine w_iconst (p := 148) (v := nI 5) (pI pM_151 rfl) rfl rfl ?_
    refine w_static (p := 151) (mj := 149) (pI pM_151 rfl) rfl rfl rfl rfl rfl rfl rfl rfl rfl ?_
    refine c_isIn _ (fun hw => ?_) (fun hw => ?_)
    · exact w_ireturn (pI pM_151 rfl) rfl rfl rfl (h1 1 (by decide) rfl hw)
    · exact w_ireturn (pI pM_151 rfl) rfl rfl rfl (h0 (one _ Iff.rfl hw))
  · refine w_table (p := 145) (off := 144) (pI pM_151 rfl) (by decide) rfl rfl ?_
    refine w_iload_n (p := 146) (pI pM_151 rfl) rfl rfl ?_
    refine w_iconst (p := 147) (v := nI 0) (pI pM_151 rfl) rfl rfl ?_
    refine w_iconst (p := 148) (v := nI 5) (pI pM_151 rfl) rfl rfl ?_
    refine w_static (p := 151) (mj := 149) (pI pM_151 rfl) rfl rfl rfl rfl rfl rfl rfl rfl rfl ?_
    refine c_isIn _ (fun hw => ?_) (fun hw => ?_)
    · exact w_ireturn (pI pM_151 rfl) rfl rfl rfl (h1 2 (by decide) rfl hw)
    · exact w_ireturn (pI pM_151 rfl) rfl rfl rfl (h0 (one _ Iff.rfl hw))
  · refine w_table (p := 183) (off := 182) (pI pM_151 rfl) (by decide) rfl rfl ?_
    refine w_iconst (p := 184) (v := nI 1) (pI pM_151 rfl) rfl rfl ?_
    exact w_ireturn (pI pM_151 rfl) rfl rfl rfl (h1 3 (by decide) rfl trivial)
  · refine w_table (p := 183) (off := 182) (pI pM_151 rfl) (by decide) rfl rfl ?_
    refine w_iconst (p := 184) (v := nI 1) (pI pM_151 rfl) rfl rfl ?_
    exact w_ireturn (pI pM_151 rfl) rfl rfl rfl (h1 4 (by decide) rfl trivial)
  · refine w_table (p := 183) (off := 182) (pI pM_151 rfl) (by decide) rfl rfl ?_
    refine w_iconst (p := 184) (v := nI 1) (pI pM_151 rfl) rfl rfl ?_
    exact w_ireturn (pI pM_151 rfl) rfl rfl rfl (h1 5 (by decide) rfl trivial)
  · refine w_table (p := 183) (off := 182) (pI pM_151 rfl) (by decide) rfl rfl ?_
    refine w_iconst (p := 184) (v := nI 1) (pI pM_151 rfl) rfl rfl ?_
    exact w_ireturn (pI pM_151 rfl) rfl rfl rfl (h1 6 (by decide) rfl trivial)
  · refine w_table (p := 183) (off := 182) (pI pM_151 rfl) (by decide) rfl rfl ?_
    refine w_iconst (p := 184) (v := nI 1) (pI pM_151 rfl) rfl rfl ?_
    exact w_ireturn (pI pM_151 rfl) rfl rfl rfl (h1 7 (by decide) rfl trivial)
  · refine w_table (p := 183) (off := 182) (pI pM_151 rfl) (by decide) rfl rfl ?_
    refine w_iconst (p := 184) (v := nI 1) (pI pM_151 rfl) rfl rfl ?_
    exact w_ireturn (pI pM_151 rfl) rfl rfl rfl (h1 8 (by decide) rfl trivial)
  · refine w_table (p := 183) (off := 182) (pI pM_151 rfl) (by decide) rfl rfl ?_
    refine w_iconst (p := 184) (v := nI 1) (pI pM_151 rfl) rfl rfl ?_
    exact w_ireturn (pI pM_151 rfl) rfl rfl rfl (h1 9 (by decide) rfl trivial)
  · refine w_table (p := 183) (off := 182) (pI pM_151 rfl) (by decide) rfl rfl ?_
    refine w_iconst (p := 184) (v := nI 1) (pI pM_151 rfl) rfl rfl ?_
    exact w_ireturn (pI pM_151 rfl) rfl rfl rfl (h1 10 (by decide) rfl trivial)
  · refine w_table (p := 183) (off := 182) (pI pM_151 rfl) (by decide) rfl rfl ?_
    refine w_iconst (p := 184) (v := nI 1) (pI pM_151 rfl) rfl rfl ?_
    exact w_ireturn (pI pM_151 rfl) rfl rfl rfl (h1 11 (by decide) rfl trivial)
  · refine w_table (p := 183) (off := 182) (pI pM_151 rfl) (by decide) rfl rfl ?_
    refine w_iconst (p := 184) (v := nI 1) (pI pM_151 rfl) rfl rfl ?_
    exact w_ireturn (pI pM_151 rfl) rfl rfl rfl (h1 12 (by decide) rfl trivial)
  · refine w_table (p := 183) (off := 182) (pI pM_151 rfl) (by decide) rfl rfl ?_
    refine w_iconst (p := 184) (v := nI 1) (pI pM_151 rfl) rfl rfl ?_
    exact w_ireturn (pI pM_151 rfl) rfl rfl rfl (h1 13 (by decide) rfl trivial)
  · refine w_table (p := 183) (off := 182) (pI pM_151 rfl) (by decide) rfl rfl ?_
    refine w_iconst (p := 184) (v := nI 1) (pI pM_151 rfl) rfl rfl ?_
    exact w_ireturn (pI pM_151 rfl) rfl rfl rfl (h1 14 (by decide) rfl trivial)
  · refine w_table (p := 183) (off := 182) (pI pM_151 rfl) (by decide) rfl rfl ?_
    refine w_iconst (p := 184) (v := nI 1) (pI pM_151 rfl) rfl rfl ?_
    exact w_ireturn (pI pM_151 rfl) rfl rfl rfl (h1 15 (by decide) rfl trivial)
  · refine w_table (p := 183) (off := 182) (pI pM_151 rfl) (by decide) rfl rfl ?_
    refine w_iconst (p := 184) (v := nI 1) (pI pM_151 rfl) rfl rfl ?_
    exact w_ireturn (pI pM_151 rfl) rfl rfl rfl (h1 16 (by decide) rfl trivial)
  · refine w_table (p := 152) (off := 151) (pI pM_151 rfl) (by decide) rfl rfl ?_
    refine w_iload_n (p := 153) (pI pM_151 rfl) rfl rfl ?_
    refine w_iconst (p := 154) (v := nI 0) (pI pM_151 rfl) rfl rfl ?_
    refine w_bipush (p := 156) (v := nI 39) (pI pM_151 rfl) rfl rfl ?_
    refine w_static (p := 159) (mj := 149) (pI pM_151 rfl) rfl rfl rfl rfl rfl rfl rfl rfl rfl ?_
    refine c_isIn _ (fun hw => ?_) (fun hw => ?_)
    · exact w_ireturn (pI pM_151 rfl) rfl rfl rfl (h1 17 (by decide) rfl hw)
    · exact w_ireturn (pI pM_151 rfl) rfl rfl rfl (h0 (one _ Iff.rfl hw))
  · refine w_table (p := 152) (off := 151) (pI pM_151 rfl) (by decide) rfl rfl ?_
    refine w_iload_n (p := 153) (pI pM_151 rfl) rfl rfl ?_
    refine w_iconst (p := 154) (v := nI 0) (pI pM_151 rfl) rfl rfl ?_
    refine w_bipush (p := 156) (v := nI 39) (pI pM_151 rfl) rfl rfl ?_
    refine w_static (p := 159) (mj := 149) (pI pM_151 rfl) rfl rfl rfl rfl rfl rfl rfl rfl rfl ?_
    refine c_isIn _ (fun hw => ?_) (fun hw => ?_)
    · exact w_ireturn (pI pM_151 rfl) rfl rfl rfl (h1 18 (by decide) rfl hw)
    · exact w_ireturn (pI pM_151 rfl) rfl rfl rfl (h0 (one _ Iff.rfl hw))
  · refine w_table (p := 152) (off := 151) (pI pM_151 rfl) (by decide) rfl rfl ?_
    refine w_iload_n (p := 153) (pI pM_151 rfl) rfl rfl ?_
    refine w_iconst (p := 154) (v := nI 0) (pI pM_151 rfl) rfl rfl ?_
    refine w_bipush (p := 156) (v := nI 39) (pI pM_151 rfl) rfl rfl ?_
    refine w_static (p := 159) (mj := 149) (pI pM_151 rfl) rfl rfl rfl rfl rfl rfl rfl rfl rfl ?_
    refine c_isIn _ (fun hw => ?_) (fun hw => ?_)
    · exact w_ireturn (pI pM_151 rfl) rfl rfl rfl (h1 19 (by decide) rfl hw)
    · exact w_ireturn (pI pM_151 rfl) rfl rfl rfl (h0 (one _ Iff.rfl hw))
  · refine w_table (p := 152) (off := 151) (pI pM_151 rfl) (by decide) rfl rfl ?_
    refine w_iload_n (p := 153) (pI pM_151 rfl) rfl rfl ?_
    refine w_iconst (p := 154) (v := nI 0) (pI pM_151 rfl) rfl rfl ?_
    refine w_bipush (p := 156) (v := nI 39) (pI pM_151 rfl) rfl rfl ?_
    refine w_static (p := 159) (mj := 149) (pI pM_151 rfl) rfl rfl rfl rfl rfl rfl rfl rfl rfl ?_
    refine c_isIn _ (fun hw => ?_) (fun hw => ?_)
    · exact w_ireturn (pI pM_151 rfl) rfl rfl rfl (h1 20 (by decide) rfl hw)
    · exact w_ireturn (pI pM_151 rfl) rfl rfl rfl (h0 (one _ Iff.rfl hw))
  · refine w_table (p := 183) (off := 182) (pI pM_151 rfl) (by decide) rfl rfl ?_
    refine w_iconst (p := 184) (v := nI 1) (pI pM_151 rfl) rfl rfl ?_
    exact w_ireturn (pI pM_151 rfl) rfl rfl rfl (h1 21 (by decide) rfl trivial)
  · refine w_table (p := 183) (off := 182) (pI pM_151 rfl) (by decide) rfl rfl ?_
    refine w_iconst (p := 184) (v := nI 1) (pI pM_151 rfl) rfl rfl ?_
    exact w_ireturn (pI pM_151 rfl) rfl rfl rfl (h1 22 (by decide) rfl trivial)
  · refine w_table (p := 183) (off := 182) (pI pM_151 rfl) (by decide) rfl rfl ?_
    refine w_iconst (p := 184) (v := nI 1) (pI pM_151 rfl) rfl rfl ?_
    exact w_ireturn (pI pM_151 rfl) rfl rfl rfl (h1 23 (by decide) rfl trivial)
  · refine w_table (p := 183) (off := 182) (pI pM_151 rfl) (by decide) rfl rfl ?_
    refine w_iconst (p := 184) (v := nI 1) (pI pM_151 rfl) rfl rfl ?_
    exact w_ireturn (pI pM_151 rfl) rfl rfl rfl (h1 24 (by decide) rfl trivial)
  · refine w_table (p := 160) (off := 159) (pI pM_151 rfl) (by decide) rfl rfl ?_
    refine w_iload_n (p := 161) (pI pM_151 rfl) rfl rfl ?_
    refine w_iconst (p := 162) (v := nI 0) (pI pM_151 rfl) rfl rfl ?_
    refine w_iconst (p := 163) (v := nI 5) (pI pM_151 rfl) rfl rfl ?_
    refine w_static (p := 166) (mj := 149) (pI pM_151 rfl) rfl rfl rfl rfl rfl rfl rfl rfl rfl ?_
    refine c_isIn _ (fun hw => ?_) (fun hw => ?_)
    · exact w_ireturn (pI pM_151 rfl) rfl rfl rfl (h1 25 (by decide) rfl hw)
    · exact w_ireturn (pI pM_151 rfl) rfl rfl rfl (h0 (one _ Iff.rfl hw))
  · refine w_table (p := 183) (off := 182) (pI pM_151 rfl) (by decide) rfl rfl ?_
    refine w_iconst (p := 184) (v := nI 1) (pI pM_151 rfl) rfl rfl ?_
    exact w_ireturn (pI pM_151 rfl) rfl rfl rfl (h1 26 (by decide) rfl trivial)
  · refine w_table (p := 167) (off := 166) (pI pM_151 rfl) (by decide) rfl rfl ?_
    refine w_iload_n (p := 168) (pI pM_151 rfl) rfl rfl ?_
    refine w_bipush (p := 170) (v := nI 7) (pI pM_151 rfl) rfl rfl ?_
    refine w_bipush (p := 172) (v := nI 12) (pI pM_151 rfl) rfl rfl ?_
    refine w_static (p := 175) (mj := 149) (pI pM_151 rfl) rfl rfl rfl rfl rfl rfl rfl rfl rfl ?_
    refine c_isIn _ (fun hw => ?_) (fun hw => ?_)
    · exact w_ireturn (pI pM_151 rfl) rfl rfl rfl (h1 27 (by decide) rfl hw)
    · exact w_ireturn (pI pM_151 rfl) rfl rfl rfl (h0 (one _ Iff.rfl hw))
  · refine w_table (p := 183) (off := 182) (pI pM_151 rfl) (by decide) rfl rfl ?_
    refine w_iconst (p := 184) (v := nI 1) (pI pM_151 rfl) rfl rfl ?_
    exact w_ireturn (pI pM_151 rfl) rfl rfl rfl (h1 28 (by decide) rfl trivial)
  · refine w_table (p := 176) (off := 175) (pI pM_151 rfl) (by decide) rfl rfl ?_
    refine w_iload_n (p := 177) (pI pM_151 rfl) rfl rfl ?_
    refine w_iconst (p := 178) (v := nI 0) (pI pM_151 rfl) rfl rfl ?_
    refine w_iconst (p := 179) (v := nI 3) (pI pM_151 rfl) rfl rfl ?_
    refine w_static (p := 182) (mj := 149) (pI pM_151 rfl) rfl rfl rfl rfl rfl rfl rfl rfl rfl ?_
    refine c_isIn _ (fun hw => ?_) (fun hw => ?_)
    · exact w_ireturn (pI pM_151 rfl) rfl rfl rfl (h1 29 (by decide) rfl hw)
    · exact w_ireturn (pI pM_151 rfl) rfl rfl rfl (h0 (one _ Iff.rfl hw))
