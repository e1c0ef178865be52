/-! HOW THE PLAIN HEAP LIES IN THE MACHINE's: the three old cells at E 0, E 1, E 2; the others one behind another from base on -/
def bm_ad (E : Nat → Nat) (base k : Nat) : Nat := if k < 3 then E k else base + (k - 3)
def bm_tr (E : Nat → Nat) (base : Nat) (v : Value) : Value := match v with
  | .ref k => .ref (bm_ad E base k)
  | v => v
def bm_rf (E : Nat → Nat) (base : Nat) (x : Option Nat) : Value := match x with
  | some k => .ref (bm_ad E base k)
  | none => .null
def bm_at (D : va_G) (E : Nat → Nat) (base : Nat) (U : State) (a : Nat) (x : bm_C) (H : Heap) : Prop := match x with
  | .inl (t, n, f) => ∃ cA : ClassId, ArrOfT U cA (bm_ty t) ∧ H[a]? = some (arrV cA n (fun j => .int (f j)))
  | .inr (.inl (ci, n, f)) => ∃ (cA : ClassId) (r : vw_C), pm_cl[ci]? = some r ∧ ArrOfT U cA (.object r.1) ∧ va_RA U cA (.object r.1) ∧ H[a]? = some (arrV cA n (fun j => bm_rf E base (f j)))
  | .inr (.inr (ci, fs)) => ∃ r : vw_C, pm_cl[ci]? = some r ∧ fs.length = r.2.2 ∧ t_OB a (D.1 ci) r.2.2 (D.2 ci) H (fun k => bm_tr E base (vp_V fs k))
/-- an array of ints at a: at least n long, its length reads as n, what its first n places hold -/
def bm_X (a n : Nat) (f : Nat → Int32) (U : State) (H : Heap) : Prop := ∃ cell : Cell, H[a]? = some cell ∧ U.isArrayOf cell .int ∧ cell.vm ≠ .unknown ∧ n ≤ cell.slots.size ∧ cell.slots.size.toInt32 = Int32.ofNat n ∧ ∀ j : Nat, j < n → cell.slots[j]? = some (.int (f j))
theorem bm_X.kept {a n : Nat} {f : Nat → Int32} {U : State} {H H1 : Heap} (h : bm_X a n f U H) (hq : H1[a]? = H[a]?) : bm_X a n f U H1 := by
  obtain ⟨cell, h1, h2⟩ := h
  exact ⟨cell, hq.trans h1, h2⟩
theorem bm_X.moved {a n : Nat} {f : Nat → Int32} {u U : State} {H : Heap} (hvm : u.vm.Alike U.vm) (h : bm_X a n f u H) : bm_X a n f U H := by
  obtain ⟨cell, h1, h2, h3⟩ := h
  exact ⟨cell, h1, State.isArrayOf_alike hvm h2, h3⟩
def bm_ext (U : State) (a : Nat) (x : bm_C) (H : Heap) : Prop := match x with
  | .inl (t, n, f) => t = 0 ∧ bm_X a n f U H
  | _ => False
def bm_R (D : va_G) (E : Nat → Nat) (base : Nat) (h : bm_H) (U : State) (H : Heap) : Prop :=
  3 ≤ h.1 ∧ H.size = base + (h.1 - 3) ∧ (∀ k, k < 3 → E k < base ∧ bm_ext U (E k) (h.2.2 k) H) ∧ ∀ k, 3 ≤ k → k < h.1 → bm_at D E base U (base + (k - 3)) (h.2.2 k) H
def bm_F (base : Nat) (H0 H : Heap) (locs : List Loc) : Prop := (∀ q, q < base → H[q]? = H0[q]?) ∧ (∀ q ∈ locs, base ≤ q.base) ∧ H0.size ≤ H.size
theorem bm_ad_ge {E : Nat → Nat} {base k : Nat} (h : 3 ≤ k) : bm_ad E base k = base + (k - 3) := by
  unfold bm_ad; rw [if_neg (by omega)]
theorem bm_ad_lt {E : Nat → Nat} {base k : Nat} (h : k < 3) : bm_ad E base k = E k := by
  unfold bm_ad; rw [if_pos h]
theorem bm_at.kept {D : va_G} {E : Nat → Nat} {base : Nat} {U : State} {a : Nat} {x : bm_C} {H H1 : Heap} (h : bm_at D E base U a x H) (hq : H1[a]? = H[a]?) : bm_at D E base U a x H1 := by
  match x, h with
  | .inl (t, n, f), ⟨cA, h1, h2⟩ => exact ⟨cA, h1, hq.trans h2⟩
  | .inr (.inl (ci, n, f)), ⟨cA, r, h1, h2, h3, h4⟩ => exact ⟨cA, r, h1, h2, h3, hq.trans h4⟩
  | .inr (.inr (ci, fs)), ⟨r, h1, h2, h3⟩ => exact ⟨r, h1, h2, h3.kept hq⟩
theorem bm_at.moved {D : va_G} {E : Nat → Nat} {base : Nat} {u U : State} (hvm : u.vm.Alike U.vm) {a : Nat} {x : bm_C} {H : Heap} (h : bm_at D E base u a x H) : bm_at D E base U a x H := by
  match x, h with
  | .inl (t, n, f), ⟨cA, h1, h2⟩ => exact ⟨cA, arrOfT_moved hvm h1, h2⟩
  | .inr (.inl (ci, n, f)), ⟨cA, r, h1, h2, h3, h4⟩ => exact ⟨cA, r, h1, arrOfT_moved hvm h2, h3.moved hvm, h4⟩
  | .inr (.inr (ci, fs)), h => exact h
theorem bm_ext.kept {U : State} {a : Nat} {x : bm_C} {H H1 : Heap} (h : bm_ext U a x H) (hq : H1[a]? = H[a]?) : bm_ext U a x H1 := by
  match x, h with
  | .inl (t, n, f), ⟨h1, h2⟩ => exact ⟨h1, h2.kept hq⟩
theorem bm_ext.moved {u U : State} (hvm : u.vm.Alike U.vm) {a : Nat} {x : bm_C} {H : Heap} (h : bm_ext u a x H) : bm_ext U a x H := by
  match x, h with
  | .inl (t, n, f), ⟨h1, h2⟩ => exact ⟨h1, h2.moved hvm⟩
theorem bm_R.moved {D : va_G} {E : Nat → Nat} {base : Nat} {h : bm_H} {u U : State} {H : Heap} (hvm : u.vm.Alike U.vm) (r : bm_R D E base h u H) : bm_R D E base h U H :=
  ⟨r.1, r.2.1, fun k hk => ⟨(r.2.2.1 k hk).1, (r.2.2.1 k hk).2.moved hvm⟩, fun k h1 h2 => (r.2.2.2 k h1 h2).moved hvm⟩
theorem bm_R.set {D : va_G} {E : Nat → Nat} {base : Nat} {h : bm_H} {U : State} {H H1 : Heap} (r : bm_R D E base h U H) {a : Nat} (ha : 3 ≤ a) {x : bm_C} (z : H1.size = H.size) (o : ∀ q, q ≠ base + (a - 3) → H1[q]? = H[q]?) (n : bm_at D E base U (base + (a - 3)) x H1) : bm_R D E base (bm_set h a x) U H1 := by
  refine ⟨r.1, z.trans r.2.1, fun k hk => ⟨(r.2.2.1 k hk).1, ?_⟩, fun k h1 h2 => ?_⟩
  · have e : (bm_set h a x).2.2 k = h.2.2 k := va_up_ne _ _ (by omega)
    rw [e]
    exact (r.2.2.1 k hk).2.kept (o _ (by have := (r.2.2.1 k hk).1; omega))
  · by_cases hk : k = a
    · subst hk
      have e : (bm_set h k x).2.2 k = x := va_up_self _ _ _
      rw [e]
      exact n
    · have e : (bm_set h a x).2.2 k = h.2.2 k := va_up_ne _ _ hk
      rw [e]
      exact (r.2.2.2 k h1 h2).kept (o _ (by omega))
theorem bm_R.new {D : va_G} {E : Nat → Nat} {base : Nat} {h : bm_H} {U : State} {H H1 : Heap} (r : bm_R D E base h U H) {m : Nat} {x : bm_C} (z : H1.size = H.size + 1) (o : ∀ q, q < H.size → H1[q]? = H[q]?) (n : bm_at D E base U H.size x H1) : bm_R D E base (bm_new h m x) U H1 := by
  have hs := r.2.1
  have h3 := r.1
  refine ⟨Nat.le_succ_of_le r.1, ?_, fun k hk => ⟨(r.2.2.1 k hk).1, ?_⟩, fun k h1 h2 => ?_⟩
  · show H1.size = base + (h.1 + 1 - 3)
    omega
  · have e : (bm_new h m x).2.2 k = h.2.2 k := va_up_ne _ _ (by omega)
    rw [e]
    exact (r.2.2.1 k hk).2.kept (o _ (by have := (r.2.2.1 k hk).1; omega))
  · have h2 : k < h.1 + 1 := h2
    by_cases hk : k = h.1
    · subst hk
      have e : (bm_new h m x).2.2 h.1 = x := va_up_self _ _ _
      rw [e, ← hs]
      exact n
    · have e : (bm_new h m x).2.2 k = h.2.2 k := va_up_ne _ _ hk
      rw [e]
      exact (r.2.2.2 k h1 (by omega)).kept (o _ (by omega))
theorem bm_F.rf {base : Nat} {H : Heap} : bm_F base H H [] := ⟨fun _ _ => rfl, (fun _ h => by cases h), Nat.le_refl _⟩
theorem bm_F.put {base : Nat} {H0 H H1 : Heap} {locs locs1 : List Loc} (f : bm_F base H0 H locs) {a : Nat} (ha : base ≤ a) (z : H1.size = H.size) (o : ∀ q, q ≠ a → H1[q]? = H[q]?) (hl : ∀ q ∈ locs1, q ∈ locs ∨ q.base = a) : bm_F base H0 H1 locs1 :=
  ⟨fun q hq => (o q (by omega)).trans (f.1 q hq), fun q hq => (hl q hq).elim (f.2.1 q) (fun e => by rw [e]; exact ha), by rw [z]; exact f.2.2⟩
theorem bm_F.new {base : Nat} {H0 H H1 : Heap} {locs : List Loc} (f : bm_F base H0 H locs) (hb : base ≤ H.size) (z : H.size ≤ H1.size) (o : ∀ q, q < H.size → H1[q]? = H[q]?) : bm_F base H0 H1 locs :=
  ⟨fun q hq => (o q (by omega)).trans (f.1 q hq), f.2.1, Nat.le_trans f.2.2 z⟩
theorem bm_one {locs : List Loc} {a i : Nat} : ∀ q ∈ locs ++ [(⟨a, i⟩ : Loc)], q ∈ locs ∨ q.base = a := fun q hq => (List.mem_append.mp hq).imp id (fun h => by cases List.mem_singleton.mp h; rfl)
/-! locals -/
def bm_lv (E : Nat → Nat) (base : Nat) (ls : List Value) : List (Nat × Value) := ls.zipIdx.filterMap fun q => if bm_ok q.1 = true then some (q.2, bm_tr E base q.1) else none
def bm_Ls (E : Nat → Nat) (base nL : Nat) (ls : List Value) (la : Array Slot) : Prop := ls.length = nL ∧ lv_has la nL (bm_lv E base ls)
theorem bm_lv_mem {E : Nat → Nat} {base : Nat} {ls : List Value} {q : Nat × Value} : q ∈ bm_lv E base ls ↔ ∃ v, ls[q.1]? = some v ∧ bm_ok v = true ∧ q.2 = bm_tr E base v := by
  unfold bm_lv
  rw [List.mem_filterMap]
  constructor
  · rintro ⟨⟨v, i⟩, hm, he⟩
    have hm := List.mem_zipIdx_iff_getElem?.mp hm
    split at he
    · rename_i hok
      cases he
      exact ⟨v, hm, hok, rfl⟩
    · cases he
  · rintro ⟨v, hv, hok, e⟩
    refine ⟨(v, q.1), List.mem_zipIdx_iff_getElem?.mpr hv, ?_⟩
    rw [if_pos hok, ← e]
theorem bm_ok_cat {E : Nat → Nat} {base : Nat} {v : Value} (h : bm_ok v = true) : (bm_tr E base v).category = 1 := by
  cases v <;> first | rfl | cases h
theorem bm_Ls.get {E : Nat → Nat} {base nL : Nat} {ls : List Value} {la : Array Slot} (h : bm_Ls E base nL ls la) {i : Nat} {v : Value} (hv : ls[i]? = some v) (hok : bm_ok v = true) : la[i]? = some (.val (bm_tr E base v)) :=
  h.2.2.2 (i, bm_tr E base v) (bm_lv_mem.mpr ⟨v, hv, hok, rfl⟩)
theorem bm_Ls.put {E : Nat → Nat} {base nL : Nat} {ls : List Value} {la lb : Array Slot} (h : bm_Ls E base nL ls la) {i : Nat} {v : Value} (hok : bm_ok v = true) (hb : lv_has lb nL ((i, bm_tr E base v) :: (bm_lv E base ls).filter (fun q => !(q.1 == i) && !(q.1 + 1 == i && q.2.category == 2)))) : bm_Ls E base nL (ls.set i v) lb := by
  refine ⟨by rw [List.length_set]; exact h.1, hb.1, hb.2.1, fun q hq => ?_⟩
  obtain ⟨w, hw, hwok, e⟩ := bm_lv_mem.mp hq
  obtain ⟨j, u⟩ := q
  dsimp only at hw e ⊢
  subst e
  by_cases hj : j = i
  · subst hj
    rw [List.getElem?_set_self' ] at hw
    cases hl : ls[j]? with
    | none => rw [hl] at hw; cases hw
    | some z =>
      rw [hl] at hw
      cases hw
      exact hb.2.2 (j, bm_tr E base v) List.mem_cons_self
  · rw [List.getElem?_set_ne (Ne.symm hj)] at hw
    refine hb.2.2 (j, bm_tr E base w) (List.mem_cons_of_mem _ (List.mem_filter.mpr ⟨bm_lv_mem.mpr ⟨w, hw, hwok, rfl⟩, ?_⟩))
    have hc := bm_ok_cat (E := E) (base := base) hwok
    simp [hj, hc]
/-! the frame that a method runs in -/
def bm_st (E : Nat → Nat) (base : Nat) (U : State) : Prop := ∀ k, k = 1 ∨ k = 2 → va_Z "PathRunner$Machine" (pm_sn k) "[I" (.ref (E k)) (fun q => base ≤ q) U U.heap
def bm_Cx (p : Program) (R : Room) (s : State) (m : MethodId) (args : Array Value) (meth : Method) (c : Code) (mi : Nat) (D : va_G) (E : Nat → Nat) (base : Nat) : Prop :=
  p.tables.exec = Jvm.exec ∧ c.code = pm_b mi ∧ c.maxLocals = pm_L mi ∧ s.vm.findClass (pm_nm (pm_own mi)) = some m.cls ∧ (∀ w ∈ lw_good, w.before args s = true) ∧ va_K D pm_cl [] s ∧ pm_nw s ∧ bm_st E base s ∧ ((pm_M mi).2.1 = "<init>" → meth.name = "<init>") ∧ pm_fr mi ≤ R.frames ∧ pm_lo mi ≤ R.locals
/-- the end of a run: at a return with r, in the heap h2, all is as it was to be -/
def bm_Re (p : Program) (l : Launch) (e : Env) (R : Room) (s : State) (m : MethodId) (args : Array Value) (below : List Frame) (meth : Method) (c : Code) (mi : Nat) (D : va_G) (E : Nat → Nat) (base c0 s0 : Nat) (Qf : State → Prop) (r : Option Value) (h2 : bm_H) : Prop :=
  ∀ (H : Heap) (locs : List Loc) (la : Array Slot) (pc : Nat), bm_R D E base h2 s H → bm_F base s.heap H locs →
    (match r with
      | none => pm_r mi = none ∧ decode (pm_b mi) pc = .ok (.return_, 1)
      | some (.int x) => ∃ ty, pm_r mi = some ty ∧ narrow ty (.int x) = .int x ∧ decode (pm_b mi) pc = .ok (.ireturn, 1)
      | some (.ref a) => bm_isRef (pm_r mi) = true ∧ decode (pm_b mi) pc = .ok (.areturn, 1)
      | _ => False) →
    W p l e R s m args below meth c H locs (h2.1 - c0) (h2.2.1 - s0) Qf (F0 m pc la (r.toList.map (bm_tr E base)))
/-- WHAT THE PLAIN RUN SAYS OF THE MACHINE's -/
def bm_P (l : Launch) (mi : Nat) (Q : bm_Q) (pc : Nat) (ls st : List Value) (h : bm_H) : Prop :=
  ∃ (r : Option Value) (h2 : bm_H), Q r h2 ∧ h.1 ≤ h2.1 ∧ h.2.1 ≤ h2.2.1 ∧
    ∀ (p : Program) (e : Env) (R : Room) (s : State) (m : MethodId) (args : Array Value) (below : List Frame) (meth : Method) (c : Code) (D : va_G) (E : Nat → Nat) (base c0 s0 : Nat) (Qf : State → Prop),
      bm_Cx p R s m args meth c mi D E base → c0 ≤ h.1 → s0 ≤ h.2.1 → h2.1 - c0 ≤ R.cells → h2.2.1 - s0 ≤ R.slots → bm_Re p l e R s m args below meth c mi D E base c0 s0 Qf r h2 →
      ∀ (H : Heap) (locs : List Loc) (la : Array Slot), bm_R D E base h s H → bm_F base s.heap H locs → bm_Ls E base (pm_L mi) ls la →
        W p l e R s m args below meth c H locs (h.1 - c0) (h.2.1 - s0) Qf (F0 m pc la (st.map (bm_tr E base)))
theorem bm_P.step {l : Launch} {mi : Nat} {Q : bm_Q} {pc pc2 : Nat} {ls st ls2 st2 : List Value} {h h2 : bm_H} (hc : h.1 ≤ h2.1) (hs : h.2.1 ≤ h2.2.1) (k : bm_P l mi Q pc2 ls2 st2 h2)
    (hW : ∀ (p : Program) (e : Env) (R : Room) (s : State) (m : MethodId) (args : Array Value) (below : List Frame) (meth : Method) (c : Code) (D : va_G) (E : Nat → Nat) (base c0 s0 : Nat) (Qf : State → Prop) (H : Heap) (locs : List Loc) (la : Array Slot),
      bm_Cx p R s m args meth c mi D E base → c0 ≤ h.1 → s0 ≤ h.2.1 → h2.1 - c0 ≤ R.cells → h2.2.1 - s0 ≤ R.slots → bm_R D E base h s H → bm_F base s.heap H locs → bm_Ls E base (pm_L mi) ls la →
      (∀ (H2 : Heap) (locs2 : List Loc) (lb : Array Slot), bm_R D E base h2 s H2 → bm_F base s.heap H2 locs2 → bm_Ls E base (pm_L mi) ls2 lb → W p l e R s m args below meth c H2 locs2 (h2.1 - c0) (h2.2.1 - s0) Qf (F0 m pc2 lb (st2.map (bm_tr E base)))) →
      W p l e R s m args below meth c H locs (h.1 - c0) (h.2.1 - s0) Qf (F0 m pc la (st.map (bm_tr E base)))) : bm_P l mi Q pc ls st h := by
  obtain ⟨r, h3, q1, q2, q3, q4⟩ := k
  refine ⟨r, h3, q1, Nat.le_trans hc q2, Nat.le_trans hs q3, ?_⟩
  intro p e R s m args below meth c D E base c0 s0 Qf hx g1 g2 g3 g4 hre H locs la hR hF hL
  exact hW p e R s m args below meth c D E base c0 s0 Qf H locs la hx g1 g2 (by omega) (by omega) hR hF hL (q4 p e R s m args below meth c D E base c0 s0 Qf hx (by omega) (by omega) g3 g4 hre)
