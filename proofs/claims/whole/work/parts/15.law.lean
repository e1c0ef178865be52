/-! THE CLAIM OUT OF ONE WALK OF THE LAW'S BODY. Your part is whole_start (and what it stands on); all else here is the same for every law, but numbers. -/
def R_law : String := "PathRunnerLaw"
def lw_P (b : Addr) (xs : List Int32) (args : Array Value) (s : State) : Prop := args = #[.ref b] ∧ s.IntsAt b xs ∧ xs.length ≤ 3073 ∧ (Jvm.Cond.and given_1 narrow_1).before args s = true
def lw_Q (_ : Array Value) (s : State) (o : Outcome) (t : State) : Prop := o = .returned (some (.int 1)) ∧ Framed s o t [] 600000 7302250
def lw_Z (below : List Frame) (a : Array Value) (s : State) : State → Prop := fun t => ∃ o, t.status = .running ∧ Ended t below o ∧ lw_Q a s o t
/-- the law's own end, with 1 on the stack, nothing written that was there before, its room as the claim has it -/
theorem lw_ret {p : Program} {l : Launch} {e : Env} {s : State} {m : MethodId} {below : List Frame} {meth : Method} {c : Code} {b : Nat} (hx : p.tables.exec = Jvm.exec) (hb : c.code = code) (hr : meth.sig.returnType = ret) (hlocks : meth.locks = false) {pc : Nat} {H : Heap} {ls : Array Slot} (hdg : decode code pc = .ok (.ireturn, 1)) : W p l e room_1 s m #[Value.ref b] below meth c H [] 600000 7302250 (lw_Z below #[Value.ref b] s) (F0 m pc ls [.int 1]) := by
  intro T hT X
  obtain ⟨fs, hret, hrun, hended, hW, hframe⟩ := X.leave (v := some (.int 1)) (hlocks := hlocks) (fun h => by rw [hr] at h; cases h)
  have hmeth' : T.vm.method? m = some meth := X.method'
  refine ⟨T.setFrames fs, ?_, .returned (some (.int 1)), hrun, hended, rfl, ⟨_, rfl⟩, hW, hframe⟩
  jvm_step X.here [X.here.top, hx, hb, hdg, hmeth', hr, ret, narrow_b1]
  (try refine ⟨rfl, ?_⟩); (try refine ⟨rfl, ?_⟩)
  first | (intro acts; rw [hret _ acts rfl rfl rfl]) | rw [hret _ _ rfl rfl rfl]
  exact Steps.refl _
/-- what holds at the law's entry: the machine, the code, the tables' words (any of lw_tbl by 'hts w (by decide +kernel)'), the script of L ints xs at the cell b, what the Statement gives of the start (any of its parts by flat_of_before) -/
def lw_At (p : Program) (s : State) (m : MethodId) (meth : Method) (c : Code) (b L : Nat) (xs : Nat → Int32) : Prop :=
  p.tables.exec = Jvm.exec ∧ c.code = code ∧ meth.sig.returnType = ret ∧ c.maxLocals = 4 ∧ s.vm.findClass R_law = some m.cls ∧ (∀ w ∈ lw_tbl, w.before #[Value.ref b] s = true) ∧ va_X b L xs s s.heap ∧ b < s.heap.size ∧ meth.locks = false ∧ (Jvm.Cond.and given_1 narrow_1).before #[Value.ref b] s = true
/-! THE LAW's PLAIN RUN: what is left to show, of the plain machine alone -/
def lw_takes : Nat → Int32 := fun j => ([0, 0, 1, 1, 1, 2, 2, 2, 2, 2, 2, 1, 2, 2, 2, 2, 2, 0, 2, 2, 1, 1, 2, 3, 1, 0, 1, 0, 0, 1] : List Int32).getD j 0
def lw_leaves : Nat → Int32 := fun j => ([1, 1, 0, 0, 2, 2, 1, 1, 1, 1, 1, 1, 1, 1, 1, 1, 1, 0, 0, 0, 0, 1, 1, 0, 1, 0, 0, 0, 1, 1] : List Int32).getD j 0
/-- the heap that the law begins with: the script, the two tables -/
def bm_h0 (L : Nat) (xs : Nat → Int32) : bm_H := (3, 0, fun k => if k = 0 then .inl (0, L, xs) else if k = 1 then .inl (0, 30, lw_takes) else .inl (0, 30, lw_leaves))
def bm_LQ : bm_Q := fun r h => r = some (.int 1) ∧ h.1 ≤ 600003 ∧ h.2.1 ≤ 7302250
/-- on every script the law's plain run comes to true, within its room -/
def bm_Law : Prop := ∀ (L : Nat) (xs : Nat → Int32), L ≤ 3073 → bm_W (bm_M 12) 214 bm_LQ 0 (bm_en 4 [.ref 0]) [] (bm_h0 L xs)
theorem pm_law : pm_M 214 = pm_m214 := pm_Mlaw pm_len.symm
theorem lw_static {args : Array Value} {s : State} {n : String} {f : Nat → Int32} {p : Nat} (hs : ∀ c ∈ flatC (Jvm.Cond.and given_1 narrow_1), c.before args s = true) (h1 : Cond.arrayOf (.static "PathRunner$Machine" n "[I") .int ∈ flatC (Jvm.Cond.and given_1 narrow_1)) (h2 : Cond.eq (.length (.static "PathRunner$Machine" n "[I")) (.int 30) ∈ flatC (Jvm.Cond.and given_1 narrow_1)) (h3 : (List.range 30).map (fun j => Cond.eq (.elem (.static "PathRunner$Machine" n "[I") (.int (Int32.ofNat j))) (.int (f j))) = ((flatC (Jvm.Cond.and given_1 narrow_1)).drop p).take 30) (hl : (Cond.laysStatic "PathRunner$Machine" n "[I").before args s = true) (hini : (Cond.initialized "PathRunner$Machine").before args s = true) :
    ∃ t : Nat, t < s.heap.size ∧ bm_X t 30 f s s.heap ∧ va_Z "PathRunner$Machine" n "[I" (.ref t) (fun q => s.heap.size ≤ q) s s.heap := by
  have hA : ∀ a : Nat, a < s.heap.size → ¬ (fun q => s.heap.size ≤ q) a := fun a ha hb => absurd hb (Nat.not_le.mpr ha)
  obtain ⟨t, ht, cell, g1, g2, g3, g4, g5, g6, g7⟩ := va_Tof (f := fun j => .int (f j)) (A := fun q => s.heap.size ≤ q) (by decide) (hs _ h1) (va_eqt (hs _ h2)) (fun j hj => va_eqt (hs _ (va_run h3 j hj))) hA
  exact ⟨t, (Array.getElem?_eq_some_iff.mp g1).1, ⟨cell, g1, g2, g3, g4, g5, g6⟩, va_Zref hl hini ht hA⟩
theorem lw_tk3 : (List.range 30).map (fun j => Cond.eq (.elem (.static "PathRunner$Machine" "TAKES" "[I") (.int (Int32.ofNat j))) (.int (lw_takes j))) = ((flatC (Jvm.Cond.and given_1 narrow_1)).drop 7).take 30 := by decide +kernel
theorem lw_lv3 : (List.range 30).map (fun j => Cond.eq (.elem (.static "PathRunner$Machine" "LEAVES" "[I") (.int (Int32.ofNat j))) (.int (lw_leaves j))) = ((flatC (Jvm.Cond.and given_1 narrow_1)).drop 40).take 30 := by decide +kernel
theorem lw_ls1 : Cond.laysStatic "PathRunner$Machine" "TAKES" "[I" ∈ lw_tbl := by decide +kernel
theorem lw_ls2 : Cond.laysStatic "PathRunner$Machine" "LEAVES" "[I" ∈ lw_tbl := by decide +kernel
theorem lw_nwF : ∀ q ∈ pm_nF, Cond.fieldLinkNest q.1 q.2.1 q.2.2.1 q.2.2.2.1 q.2.2.2.2 "PathRunner" ∈ lw_tbl := by decide +kernel
theorem lw_nwM : ∀ q ∈ pm_nM, Cond.methodLinkNest q.1 q.2.1 q.2.2 "PathRunner" ∈ lw_tbl := by decide +kernel
theorem lw_ao1 : Cond.arrayOver (.object "PathRunner$Way") ∈ lw_tbl := by decide +kernel
theorem lw_ao2 : Cond.arrayOver (.object "PathRunner$Inputs") ∈ lw_tbl := by decide +kernel
theorem lw_aT : Cond.arrayOf (.static "PathRunner$Machine" "TAKES" "[I") .int ∈ flatC (Jvm.Cond.and given_1 narrow_1) := by decide +kernel
theorem lw_lT : Cond.eq (.length (.static "PathRunner$Machine" "TAKES" "[I")) (.int 30) ∈ flatC (Jvm.Cond.and given_1 narrow_1) := by decide +kernel
theorem lw_aL : Cond.arrayOf (.static "PathRunner$Machine" "LEAVES" "[I") .int ∈ flatC (Jvm.Cond.and given_1 narrow_1) := by decide +kernel
theorem lw_lL : Cond.eq (.length (.static "PathRunner$Machine" "LEAVES" "[I")) (.int 30) ∈ flatC (Jvm.Cond.and given_1 narrow_1) := by decide +kernel
set_option maxHeartbeats 4000000 in
/-- THE LAW's WALK out of its plain run -/
theorem whole_of (hPl : bm_Law) {p : Program} {e : Env} {s : State} {m : MethodId} {below : List Frame} {meth : Method} {c : Code} (l : Launch) {b L : Nat} {xs : Nat → Int32} (hL : L ≤ 3073) (C0 : lw_At p s m meth c b L xs) : W p l e room_1 s m #[Value.ref b] below meth c s.heap [] 0 0 (lw_Z below #[Value.ref b] s) (entryFrame m ([Value.ref b] : List Value).toArray 4) := by
  obtain ⟨hx, hb, hr, hml, hown, hts, hX, hbl, hlocks, hgv⟩ := C0
  have hs := flat_of_before _ hgv
  have hgood : ∀ w ∈ lw_good, w.before #[Value.ref b] s = true := fun w hw => hts w (List.mem_filter.mp hw).1
  have hmini := hgood _ (pm_cls 3 _ rfl).2.2.2.2.2
  obtain ⟨t1, z1, X1, Z1⟩ := lw_static hs lw_aT lw_lT lw_tk3 (hts _ lw_ls1) hmini
  obtain ⟨t2, z2, X2, Z2⟩ := lw_static hs lw_aL lw_lL lw_lv3 (hts _ lw_ls2) hmini
  have hKe : ∀ ci : Nat, ∃ (cC : ClassId) (iS : Nat → Nat), ∀ q : vw_C, pm_cl[ci]? = some q → u_Kn s q.1 q.2.1 q.2.2 cC iS := by
    intro ci
    cases hq : pm_cl[ci]? with
    | none => exact ⟨0, fun _ => 0, fun q h => by cases h⟩
    | some q =>
      have hcok := pm_cls _ _ hq
      obtain ⟨cC, iS, hKn⟩ := u_known (C := q.1) (T := q.2.1) (N := q.2.2) (n := q.2.2) hgood hcok.2.2.2.1 (hgood _ hcok.2.2.2.2.1)
      exact ⟨cC, iS, fun q2 h2 => by cases h2; exact hKn⟩
  let D : va_G := (fun k => (hKe k).choose, fun k => (hKe k).choose_spec.choose)
  have hK : va_K D pm_cl [] s := ⟨fun ci q hq => (hKe ci).choose_spec.choose_spec q hq, fun k q h => by simp at h⟩
  have hnw : pm_nw s := ⟨fun q hq => va_Nw.of rfl (hts _ (lw_nwF q hq)), fun q hq => va_Nw.of rfl (hts _ (lw_nwM q hq)), va_AO.of (hts _ lw_ao1), va_AO.of (hts _ lw_ao2)⟩
  let E : Nat → Nat := fun k => if k = 0 then b else if k = 1 then t1 else t2
  have hR : bm_R D E s.heap.size (bm_h0 L xs) s s.heap := by
    refine ⟨Nat.le_refl 3, rfl, fun k hk => ?_, fun k h1 h2 => absurd h2 (by show ¬ k < 3; omega)⟩
    rcases (show k = 0 ∨ k = 1 ∨ k = 2 by omega) with rfl | rfl | rfl
    · obtain ⟨scr, h1, h2, h3, h4, h5⟩ := hX
      exact ⟨hbl, rfl, scr, h1, h2, h3, Nat.le_of_eq h4.symm, by rw [h4], h5⟩
    · exact ⟨z1, rfl, X1⟩
    · exact ⟨z2, rfl, X2⟩
  have hst : bm_st E s.heap.size s := fun k hk => by
    rcases hk with rfl | rfl
    · exact Z1
    · exact Z2
  have ey : (pm_M 214) = pm_m214 := pm_law
  have hCx : bm_Cx p room_1 s m #[Value.ref b] meth c 214 D E s.heap.size := by
    refine ⟨hx, ?_, ?_, ?_, hgood, hK, hnw, hst, ?_, ?_, ?_⟩
    · unfold pm_b; rw [ey]; exact hb
    · unfold pm_L; rw [ey]; exact hml
    · unfold pm_own; rw [ey]; exact hown
    · rw [ey]; intro h; exact absurd h (by decide)
    · unfold pm_fr; rw [ey]; decide
    · unfold pm_lo; rw [ey]; decide
  have hL4 : pm_L 214 = 4 := by unfold pm_L; rw [ey]; rfl
  obtain ⟨r, h2, ⟨rfl, hc1, hc2⟩, q2, q3, q4⟩ := bm_Pof (bm_OkM l 12) (hPl L xs hL)
  have e0 : ([Value.ref 0] : List Value).map (bm_tr E s.heap.size) = [Value.ref b] := rfl
  have hent := bm_entry (E := E) (base := s.heap.size) (L := 4) (as := [.ref 0]) (by decide) rfl
  rw [e0] at hent
  have k2 := q4 p e room_1 s m #[Value.ref b] below meth c D E s.heap.size 3 0 (lw_Z below #[Value.ref b] s) hCx (Nat.le_refl 3) (Nat.le_refl 0) (by show h2.1 - 3 ≤ 600000; omega) (by show h2.2.1 - 0 ≤ 7302250; omega) (by
      intro H locs la pc hR2 hF2 hm
      obtain ⟨ty, -, -, hd⟩ := hm
      unfold pm_b at hd
      rw [ey] at hd
      refine va_forget (fun q hq => hF2.2.1 q hq) ?_
      refine W.widen (k := 600000) (n := 7302250) (by omega) (by omega) ?_
      exact lw_ret hx hb hr hlocks hd) s.heap [] _ hR bm_F.rf (by rw [hL4]; exact hent)
  rw [lg_entry_eq]
  exact k2
