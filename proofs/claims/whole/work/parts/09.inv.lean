/-! what the plain machine's helpers say, taken apart -/
theorem bm_i1.inv {st : List Value} {k : Int32 → List Value → Prop} (h : bm_i1 st k) : ∃ x r, st = .int x :: r ∧ k x r := by
  unfold bm_i1 at h; split at h <;> first | exact h.elim | exact ⟨_, _, rfl, h⟩
theorem bm_i2.inv {st : List Value} {k : Int32 → Int32 → List Value → Prop} (h : bm_i2 st k) : ∃ x y r, st = .int y :: .int x :: r ∧ k x y r := by
  unfold bm_i2 at h; split at h <;> first | exact h.elim | exact ⟨_, _, _, rfl, h⟩
theorem bm_r1.inv {st : List Value} {k : Nat → List Value → Prop} (h : bm_r1 st k) : ∃ x r, st = .ref x :: r ∧ k x r := by
  unfold bm_r1 at h; split at h <;> first | exact h.elim | exact ⟨_, _, rfl, h⟩
theorem bm_ri.inv {st : List Value} {k : Nat → Int32 → List Value → Prop} (h : bm_ri st k) : ∃ a i r, st = .int i :: .ref a :: r ∧ k a i r := by
  unfold bm_ri at h; split at h <;> first | exact h.elim | exact ⟨_, _, _, rfl, h⟩
theorem bm_rii.inv {st : List Value} {k : Nat → Int32 → Int32 → List Value → Prop} (h : bm_rii st k) : ∃ a i x r, st = .int x :: .int i :: .ref a :: r ∧ k a i x r := by
  unfold bm_rii at h; split at h <;> first | exact h.elim | exact ⟨_, _, _, _, rfl, h⟩
theorem bm_rir.inv {st : List Value} {k : Nat → Int32 → Nat → List Value → Prop} (h : bm_rir st k) : ∃ a i v r, st = .ref v :: .int i :: .ref a :: r ∧ k a i v r := by
  unfold bm_rir at h; split at h <;> first | exact h.elim | exact ⟨_, _, _, _, rfl, h⟩
theorem bm_rv.inv {st : List Value} {k : Nat → Value → List Value → Prop} (h : bm_rv st k) : ∃ a v r, st = v :: .ref a :: r ∧ k a v r := by
  unfold bm_rv at h; split at h <;> first | exact h.elim | exact ⟨_, _, _, rfl, h⟩
theorem bm_v1.inv {st : List Value} {k : Value → List Value → Prop} (h : bm_v1 st k) : ∃ v r, st = v :: r ∧ bm_ok v = true ∧ k v r := by
  unfold bm_v1 at h; split at h <;> first | exact h.elim | exact ⟨_, _, rfl, h⟩
theorem bm_v2.inv {st : List Value} {k : Value → Value → List Value → Prop} (h : bm_v2 st k) : ∃ v w r, st = v :: w :: r ∧ bm_ok v = true ∧ bm_ok w = true ∧ k v w r := by
  unfold bm_v2 at h; split at h <;> first | exact h.elim | exact ⟨_, _, _, rfl, h⟩
theorem bm_lI.inv {ls : List Value} {i : Nat} {k : Int32 → Prop} (h : bm_lI ls i k) : ∃ x, ls[i]? = some (.int x) ∧ k x := by
  unfold bm_lI at h; split at h <;> first | exact h.elim | exact ⟨_, by assumption, h⟩
theorem bm_lR.inv {ls : List Value} {i : Nat} {k : Nat → Prop} (h : bm_lR ls i k) : ∃ x, ls[i]? = some (.ref x) ∧ k x := by
  unfold bm_lR at h; split at h <;> first | exact h.elim | exact ⟨_, by assumption, h⟩
theorem bm_opt.inv {α : Type} {x : Option α} {k : α → Prop} (h : bm_opt x k) : ∃ v, x = some v ∧ k v := by
  unfold bm_opt at h; split at h <;> first | exact h.elim | exact ⟨_, rfl, h⟩
theorem bm_ints.inv {x : bm_C} {k : Nat → Nat → (Nat → Int32) → Prop} (h : bm_ints x k) : ∃ t n f, x = .inl (t, n, f) ∧ k t n f := by
  unfold bm_ints at h; split at h <;> first | exact h.elim | exact ⟨_, _, _, rfl, h⟩
theorem bm_refs.inv {x : bm_C} {k : Nat → Nat → (Nat → Option Nat) → Prop} (h : bm_refs x k) : ∃ t n f, x = .inr (.inl (t, n, f)) ∧ k t n f := by
  unfold bm_refs at h; split at h <;> first | exact h.elim | exact ⟨_, _, _, rfl, h⟩
theorem bm_obj.inv {x : bm_C} {k : Nat → List Value → Prop} (h : bm_obj x k) : ∃ ci fs, x = .inr (.inr (ci, fs)) ∧ k ci fs := by
  unfold bm_obj at h; split at h <;> first | exact h.elim | exact ⟨_, _, rfl, h⟩
theorem bm_look {α : Type} {l : List (Nat × α)} {k : Nat} {v : α} (h : l.lookup k = some v) : (k, v) ∈ l := by
  induction l with
  | nil => cases h
  | cons q l ih =>
    obtain ⟨a, b⟩ := q
    rw [List.lookup_cons] at h
    split at h
    · rename_i e
      cases h
      rw [beq_iff_eq] at e
      subst e
      exact List.mem_cons_self
    · exact List.mem_cons_of_mem _ (ih h)
theorem pm_mse : pm_ms = pm_ms0 ++ [pm_m214] := rfl
theorem pm_big {i : Nat} (h : pm_ms0.length + 1 ≤ i) : (pm_M i).2.2.2.2.2.2.2.2.2 = [] := by
  have hl : pm_ms.length ≤ i := by rw [pm_mse, List.length_append, List.length_singleton]; exact h
  unfold pm_M
  rw [List.getD_eq_getElem?_getD, List.getElem?_eq_none hl]
  rfl
theorem pm_Mlaw {i : Nat} (h : i = pm_ms0.length) : pm_M i = pm_m214 := by
  unfold pm_M
  rw [pm_mse, List.getD_eq_getElem?_getD, h, List.getElem?_append_right (Nat.le_refl _), Nat.sub_self]
  rfl
theorem pm_lawdec2 : pm_m214.2.2.2.2.2.2.2.2.2.all (fun e => decide (decode pm_m214.2.2.2.1 e.1 = .ok e.2)) = true := by decide +kernel
theorem pm_dec {i pc : Nat} {x : Instr × Nat} (h : pm_ins i pc = some x) : decode (pm_b i) pc = .ok x := by
  have hm := bm_look h
  by_cases h1 : i < pm_ms0.length
  · have h2 := List.all_eq_true.mp (pm_ok (by rw [pm_len] at h1; exact h1)).2.2.2.2.2 _ hm
    exact of_decide_eq_true h2
  · by_cases h3 : i = pm_ms0.length
    · unfold pm_b
      rw [pm_Mlaw h3] at hm ⊢
      have h2 := List.all_eq_true.mp pm_lawdec2 _ hm
      exact of_decide_eq_true h2
    · rw [pm_big (by omega)] at hm
      cases hm
theorem bm_tg_eq {pc : Nat} {off : Int} (h : 0 ≤ (pc : Int) + off) : (pc : Int) + off = ((bm_tg pc off : Nat) : Int) := by
  unfold bm_tg; omega
theorem bm_updI (f : Nat → Int32) (k : Nat) (x : Int32) : updV (fun j => Value.int (f j)) k (.int x) = fun j => .int (upd f k x j) := by
  funext j; unfold updV upd; split <;> rfl
theorem bm_all_sum {st : List Value} (E : Nat → Nat) (base : Nat) (h : bm_all st = true) : ((st.map (bm_tr E base)).map fun v => v.category).sum ≤ 8 := by
  unfold bm_all at h
  rw [Bool.and_eq_true] at h
  have h2 := of_decide_eq_true h.2
  have key : ∀ l : List Value, l.all bm_ok = true → ((l.map (bm_tr E base)).map fun v => v.category).sum = l.length := by
    intro l
    induction l with
    | nil => intro _; rfl
    | cons v l ih =>
      intro hl
      rw [List.all_cons, Bool.and_eq_true] at hl
      rw [List.map_cons, List.map_cons, List.sum_cons, ih hl.2, bm_ok_cat hl.1, List.length_cons]
      omega
  rw [key st h.1]
  exact h2
theorem pm_nmcl : ∀ (ci : Nat) (q : vw_C), pm_cl[ci]? = some q → pm_nm ci = q.1 := by
  intro ci q hq
  match ci, hq with
  | 0, hq => cases hq; rfl
  | 1, hq => cases hq; rfl
  | 2, hq => cases hq; rfl
  | 3, hq => cases hq; rfl
  | 4, hq => cases hq; rfl
  | 5, hq => cases hq; rfl
  | 6, hq => cases hq; rfl
  | 7, hq => cases hq; rfl
  | 8, hq => cases hq; rfl
  | 9, hq => cases hq; rfl
  | 10, hq => cases hq; rfl
  | k + 11, hq => simp [pm_cl] at hq
