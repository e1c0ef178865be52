/-! EACH INPUT OF A WAY GOES ITS WAY: a plain run beside a way's run -/
theorem ev_fuel {F : zF} {x y : Int32} (hw : zfw F) (hN : F.1 < 2 ^ 31) : ∀ n m j, j < n → j < m → j < F.1 → ev F x y n j = ev F x y m j
  | 0, _, j, h, _, _ => absurd h (Nat.not_lt_zero j)
  | _, 0, j, _, h, _ => absurd h (Nat.not_lt_zero j)
  | n + 1, m + 1, j, h1, h2, hj => by
    unfold ev
    by_cases c1 : j < 256
    · rw [if_pos c1, if_pos c1]
    rw [if_neg c1, if_neg c1]
    by_cases c2 : j = 256
    · rw [if_pos c2, if_pos c2]
    rw [if_neg c2, if_neg c2]
    by_cases c3 : j = 257
    · rw [if_pos c3, if_pos c3]
    rw [if_neg c3, if_neg c3]
    obtain ⟨-, l, hl, el, h⟩ := hw j (by omega) hj
    rw [el, nI_clamp (by omega), ev_fuel hw hN n m l (by omega) (by omega) (by omega)]
    rcases h with ⟨-, er, -⟩ | ⟨k, r, -, hr, -, er, -⟩
    · rw [er, if_pos rfl, if_pos rfl]
    · rw [er, nI_clamp (by omega), ev_fuel hw hN n m r (by omega) (by omega) (by omega)]
/-- more formulas, the old ones as they were -/
def Fge (F F2 : zF) : Prop := F.1 ≤ F2.1 ∧ ∀ j, j < F.1 → F2.2.1 j = F.2.1 j ∧ F2.2.2.1 j = F.2.2.1 j ∧ F2.2.2.2.1 j = F.2.2.2.1 j ∧ F2.2.2.2.2 j = F.2.2.2.2 j
theorem Fext.ge {F F2 : zF} (h : Fext F F2) : Fge F F2 := ⟨h.1, h.2.2⟩
theorem Fge.rf {F : zF} : Fge F F := ⟨Nat.le_refl _, fun _ _ => ⟨rfl, rfl, rfl, rfl⟩⟩
theorem Fge.tr {F F2 F3 : zF} (h : Fge F F2) (g : Fge F2 F3) : Fge F F3 := ⟨Nat.le_trans h.1 g.1, fun j hj => by
  obtain ⟨a1, a2, a3, a4⟩ := h.2 j hj
  obtain ⟨b1, b2, b3, b4⟩ := g.2 j (Nat.lt_of_lt_of_le hj h.1)
  exact ⟨b1.trans a1, b2.trans a2, b3.trans a3, b4.trans a4⟩⟩
theorem ev_ext {F F2 : zF} {x y : Int32} (hw : zfw F) (hN : F.1 < 2 ^ 31) (he : Fge F F2) : ∀ n j, j < F.1 → ev F2 x y n j = ev F x y n j
  | 0, _, _ => rfl
  | n + 1, j, hj => by
    unfold ev
    by_cases c1 : j < 256
    · rw [if_pos c1, if_pos c1]
    rw [if_neg c1, if_neg c1]
    by_cases c2 : j = 256
    · rw [if_pos c2, if_pos c2]
    rw [if_neg c2, if_neg c2]
    by_cases c3 : j = 257
    · rw [if_pos c3, if_pos c3]
    rw [if_neg c3, if_neg c3]
    obtain ⟨e1, e2, e3, -⟩ := he.2 j hj
    obtain ⟨-, l, hl, el, h⟩ := hw j (by omega) hj
    rw [e1, e2, e3, el, nI_clamp (by omega), ev_ext hw hN he n l (by omega)]
    rcases h with ⟨-, er, -⟩ | ⟨k, r, -, hr, -, er, -⟩
    · rw [er, if_pos rfl, if_pos rfl]
    · rw [er, nI_clamp (by omega), ev_ext hw hN he n r (by omega)]
theorem evs_ext {F F2 : zF} {x y : Int32} (hw : zfw F) (hN : F.1 < 2 ^ 31) (he : Fge F F2) {j : Nat} (hj : j < F.1) : evs F2 x y j = evs F x y j := ev_ext hw hN he _ _ hj
theorem zsz_ext {F F2 : zF} (he : Fge F F2) (hN : F.1 < 2 ^ 31) {j : Nat} (hj : j < F.1) : zsz F2 (nI j) = zsz F (nI j) := by
  unfold zsz
  rw [nI_clamp (by omega), (he.2 j hj).2.2.2]
/-- a made formula keeps all -/
theorem zfw_mk {F : zF} {op a c : Int32} {s : Nat} (hw : zfw F) (h8 : 258 ≤ F.1) (hN : F.1 < 32258) (h : ∃ l, l < F.1 ∧ a = nI l ∧ (((op = nI 11 ∨ op = nI 29) ∧ c = -1 ∧ s = zsz F (nI l) + 1) ∨ ∃ k r, op2 k ∧ r < F.1 ∧ op = nI k ∧ c = nI r ∧ s = zsz F (nI l) + zsz F (nI r) + 1)) : zfw (zmk F op a c s).2 := by
  have hx : Fge F (zmk F op a c s).2 := zmk_ext.ge
  unfold zmk at hx ⊢
  by_cases c60 : 60 < s
  · rw [if_pos c60]; exact hw
  rw [if_neg c60] at hx ⊢
  intro j h1 h2
  have h2 : j < F.1 + 1 := h2
  by_cases e : j = F.1
  · subst e
    show un F.2.2.2.2 F.1 s F.1 ≤ 60 ∧ ∃ l, l < F.1 ∧ un F.2.2.1 F.1 a F.1 = nI l ∧ (((un F.2.1 F.1 op F.1 = nI 11 ∨ un F.2.1 F.1 op F.1 = nI 29) ∧ un F.2.2.2.1 F.1 c F.1 = -1 ∧ un F.2.2.2.2 F.1 s F.1 = _) ∨ ∃ k r, op2 k ∧ r < F.1 ∧ un F.2.1 F.1 op F.1 = nI k ∧ un F.2.2.2.1 F.1 c F.1 = nI r ∧ un F.2.2.2.2 F.1 s F.1 = _)
    rw [un_e, un_e, un_e, un_e]
    obtain ⟨l, hl, el, h⟩ := h
    refine ⟨by omega, l, hl, el, ?_⟩
    rcases h with ⟨g1, g2, g3⟩ | ⟨k, r, g1, g2, g3, g4, g5⟩
    · exact Or.inl ⟨g1, g2, g3.trans (congrArg (· + 1) (zsz_ext hx (by omega) hl).symm)⟩
    · exact Or.inr ⟨k, r, g1, g2, g3, g4, g5.trans (by rw [zsz_ext hx (by omega) hl, zsz_ext hx (by omega) g2])⟩
  · obtain ⟨b1, l, hl, el, h⟩ := hw j h1 (by omega)
    obtain ⟨e1, e2, e3, e4⟩ := hx.2 j (by omega)
    rw [e1, e2, e3, e4]
    refine ⟨b1, l, hl, el, ?_⟩
    rcases h with ⟨g1, g2, g3⟩ | ⟨k, r, g1, g2, g3, g4, g5⟩
    · exact Or.inl ⟨g1, g2, by rw [g3]; exact congrArg (· + 1) (zsz_ext hx (by omega) (by omega)).symm⟩
    · refine Or.inr ⟨k, r, g1, g2, g3, g4, ?_⟩
      rw [g5, ← zsz_ext hx (by omega) (show l < F.1 by omega), ← zsz_ext hx (by omega) (show r < F.1 by omega)]
theorem zfw_1 {F : zF} {op a : Int32} (hw : zfw F) (h8 : 258 ≤ F.1) (hN : F.1 < 32258) (ho : op = nI 11 ∨ op = nI 29) (ha : wdv F a) : zfw (z1 F op a).2 := by
  unfold z1
  split
  · exact hw
  · obtain ⟨l, hl, el⟩ := ha
    exact zfw_mk hw h8 hN ⟨l, hl, el, Or.inl ⟨ho, rfl, by rw [el]⟩⟩
theorem zfw_2 {F : zF} {n : Nat} {a c : Int32} (hw : zfw F) (h8 : 258 ≤ F.1) (hN : F.1 < 32258) (ho : op2 n) (ha : wdv F a) (hc : wdv F c) : zfw (z2 F n a c).2 := by
  unfold z2
  split
  · exact hw
  · obtain ⟨l, hl, el⟩ := ha
    obtain ⟨r, hr, er⟩ := hc
    exact zfw_mk hw h8 hN ⟨l, hl, el, Or.inr ⟨n, r, ho, hr, rfl, er, by rw [el, er]⟩⟩
/-- a value of a way, and what it is at an input -/
def vR (F : zF) (x y v p : Int32) : Prop := (v < 0 ∧ p = v) ∨ ∃ j i, j < F.1 ∧ v = nI j ∧ i < 256 ∧ p = nI i ∧ evs F x y j = some (nI i - nI 128)
theorem evs_num {F : zF} {x y : Int32} {j : Nat} (h : j < 256) : evs F x y j = some (nI j - nI 128) := by unfold evs ev; rw [if_pos h]
section VR
variable {F F2 : zF} {x y v p : Int32}
theorem vR.c {i : Nat} (hi : i < 256) (h8 : 258 ≤ F.1) : vR F x y (nI i) (nI i) := Or.inr ⟨i, i, by omega, rfl, hi, rfl, evs_num hi⟩
theorem vR.ng (h : v < 0) : vR F x y v v := Or.inl ⟨h, rfl⟩
theorem vR.up (h : vR F x y v p) (hw : zfw F) (hN : F.1 < 2 ^ 31) (he : Fge F F2) : vR F2 x y v p := by
  rcases h with h | ⟨j, i, h1, h2, h3, h4, h5⟩
  · exact Or.inl h
  · exact Or.inr ⟨j, i, Nat.lt_of_lt_of_le h1 he.1, h2, h3, h4, by rw [evs_ext hw hN he h1]; exact h5⟩
theorem vR.neg (h : vR F x y v p) (hN : F.1 < 2 ^ 31) : p < 0 ↔ v < 0 := by
  rcases h with ⟨h1, h2⟩ | ⟨j, i, h1, h2, h3, h4, h5⟩
  · rw [h2]
  · rw [h2, h4]
    exact ⟨fun z => absurd z (nI_pos (by omega)), fun z => absurd z (nI_pos (by omega))⟩
theorem vR.pos (h : vR F x y v p) (hv : ¬ v < 0) : ∃ j i, j < F.1 ∧ v = nI j ∧ i < 256 ∧ p = nI i ∧ evs F x y j = some (nI i - nI 128) := h.resolve_left (fun z => hv z.1)
theorem sub_inj {i j : Nat} (hi : i < 256) (hj : j < 256) (h : nI i - nI 128 = nI j - nI 128) : i = j := by
  have : nI i - nI 128 + nI 128 = nI j - nI 128 + nI 128 := by rw [h]
  rw [Int32.sub_add_cancel, Int32.sub_add_cancel] at this
  exact (nI_eq (by omega) (by omega)).mp this
theorem vR.eqn (h : vR F x y v p) (hv : ¬ v < 0) (hn : isn v) (hN : F.1 < 2 ^ 31) : p = v := by
  obtain ⟨j, i, h1, h2, h3, h4, h5⟩ := h.pos hv
  rw [h2] at hn
  have hj := (isn_nI (by omega)).mp hn
  rw [evs_num hj] at h5
  rw [h4, h2, sub_inj hj h3 (Option.some.inj h5)]
theorem vR.n1 (h : vR F x y v p) (hN : F.1 < 2 ^ 31) : p = -1 ↔ v = -1 := by
  rcases h with ⟨h1, h2⟩ | ⟨j, i, h1, h2, h3, h4, h5⟩
  · rw [h2]
  · rw [h2, h4]
    exact ⟨fun z => absurd (show nI i < 0 by rw [z]; decide) (nI_pos (by omega)), fun z => absurd (show nI j < 0 by rw [z]; decide) (nI_pos (by omega))⟩
theorem vR.n100 (h : vR F x y v p) (hN : F.1 < 2 ^ 31) : p = -100 ↔ v = -100 := by
  rcases h with ⟨h1, h2⟩ | ⟨j, i, h1, h2, h3, h4, h5⟩
  · rw [h2]
  · rw [h2, h4]
    exact ⟨fun z => absurd (show nI i < 0 by rw [z]; decide) (nI_pos (by omega)), fun z => absurd (show nI j < 0 by rw [z]; decide) (nI_pos (by omega))⟩
theorem vR.ref (h : vR F x y v p) (hv : v < 0) (hN : F.1 < 2 ^ 31) : p = v := by
  rcases h with ⟨h1, h2⟩ | ⟨j, i, h1, h2, h3, h4, h5⟩
  · exact h2
  · rw [h2] at hv; exact absurd hv (nI_pos (by omega))
end VR
def simV (F : zF) (x y : Int32) (V W : Nat → Nat → Int32) : Prop := ∀ f j, vR F x y (V f j) (W f j)
/-- a way's run and a plain run that is at the same place -/
def sim (F : zF) (x y : Int32) (S P : zW) : Prop := (zt P = zt S ∧ zM P = zM S ∧ zP P = zP S ∧ zH P = zH S ∧ simV F x y (zV S) (zV P)) ∧ (zn P = zn S ∧ zL P = zL S ∧ simV F x y (zE S) (zE P)) ∧ (zd P = zd S ∧ zo P = zo S ∧ zpl P = zpl S ∧ zk P = zk S)
def esim (F : zF) (x y : Int32) (S P : zW) : Prop := zd P = zd S ∧ zo P = zo S ∧ zpl P = zpl S ∧ zk P = zk S ∧ (zo S = nI 1 → vR F x y (zr S) (zr P))
section SM
variable {F F2 : zF} {x y : Int32} {S P : zW} {G : zG}
theorem sim.up (h : sim F x y S P) (hw : zfw F) (hN : F.1 < 2 ^ 31) (he : Fge F F2) : sim F2 x y S P := by
  obtain ⟨⟨a1, a2, a3, a4, a5⟩, ⟨b1, b2, b3⟩, c⟩ := h
  exact ⟨⟨a1, a2, a3, a4, fun f j => (a5 f j).up hw hN he⟩, ⟨b1, b2, fun f j => (b3 f j).up hw hN he⟩, c⟩
theorem sim.q (h : sim F x y S P) : zq P = zq S := by unfold zq; rw [h.1.1, h.1.2.1]
theorem sim.pc (h : sim F x y S P) : zpc P = zpc S := by unfold zpc; rw [h.1.1, h.1.2.2.1]
theorem sim.hh (h : sim F x y S P) : zh P = zh S := by unfold zh; rw [h.1.1, h.1.2.2.2.1]
theorem sim.place (h : sim F x y S P) : zplace P = zplace S := by unfold zplace; rw [h.q, h.pc]
theorem sim.pk (h : sim F x y S P) (b : Nat) : vR F x y (zpk S b) (zpk P b) := by unfold zpk; rw [h.hh, h.1.1]; exact h.1.2.2.2.2 _ _
theorem sim.lc (h : sim F x y S P) (b : Nat) : vR F x y (zV S (zt S) b) (zV P (zt P) b) := by rw [h.1.1]; exact h.1.2.2.2.2 _ _
theorem simV.u2 {V W : Nat → Nat → Int32} (h : simV F x y V W) {i j : Nat} {v p : Int32} (hv : vR F x y v p) : simV F x y (u2 V i j v) (u2 W i j p) := fun f k => by
  unfold Jvm.Pilot.CPathRunnerLaw_law_r2462_f22676.u2
  by_cases c : f = i ∧ k = j
  · rw [if_pos c, if_pos c]; exact hv
  · rw [if_neg c, if_neg c]; exact h f k
theorem sim.jump (h : sim F x y S P) {p : Nat} : sim F x y (zjump S p) (zjump P p) := by
  obtain ⟨⟨a1, a2, a3, a4, a5⟩, b, c⟩ := h
  exact ⟨⟨a1, a2, by show un (zP P) (zt P) p = un (zP S) (zt S) p; rw [a1, a3], a4, a5⟩, b, c⟩
theorem sim.next (h : sim F x y S P) : sim F x y (znext S) (znext P) := by unfold znext; rw [h.pc]; exact h.jump
theorem sim.drop (h : sim F x y S P) {c : Nat} : sim F x y (zdrop S c) (zdrop P c) := by
  have e := h.hh
  obtain ⟨⟨a1, a2, a3, a4, a5⟩, b, c1⟩ := h
  exact ⟨⟨a1, a2, a3, by show un (zH P) (zt P) (zh P - c) = un (zH S) (zt S) (zh S - c); rw [a1, a4, e], a5⟩, b, c1⟩
theorem sim.loc (h : sim F x y S P) {i : Nat} {v p : Int32} (hv : vR F x y v p) : sim F x y (zloc S i v) (zloc P i p) := by
  obtain ⟨⟨a1, a2, a3, a4, a5⟩, b, c⟩ := h
  refine ⟨⟨a1, a2, a3, a4, ?_⟩, b, c⟩
  show simV F x y (u2 (zV S) (zt S) i v) (u2 (zV P) (zt P) i p)
  rw [a1]; exact a5.u2 hv
theorem sim.push (h : sim F x y S P) {v p : Int32} (hv : vR F x y v p) : sim F x y (zpush S v) (zpush P p) := by
  have e := h.hh
  obtain ⟨⟨a1, a2, a3, a4, a5⟩, b, c⟩ := h
  refine ⟨⟨a1, a2, a3, by show un (zH P) (zt P) (zh P + 1) = un (zH S) (zt S) (zh S + 1); rw [a1, a4, e], ?_⟩, b, c⟩
  show simV F x y (u2 (zV S) (zt S) (6 + zh S) v) (u2 (zV P) (zt P) (6 + zh P) p)
  rw [a1, e]; exact a5.u2 hv
theorem sim.fin (h : sim F x y S P) {c : Nat} {v p : Int32} (hv : vR F x y v p) : sim F x y (zfin S c v) (zfin P c p) := ((h.drop (c := c)).push hv).next
theorem sim.leave (h : sim F x y S P) : sim F x y (zleave S) (zleave P) := by
  obtain ⟨⟨a1, a2, a3, a4, a5⟩, b, c⟩ := h
  exact ⟨⟨by show zt P - 1 = zt S - 1; rw [a1], a2, a3, a4, a5⟩, b, c⟩
theorem sim.set (h : sim F x y S P) {k i : Nat} {v p : Int32} (hv : vR F x y v p) : sim F x y (zset S k i v) (zset P k i p) := by
  obtain ⟨a, ⟨b1, b2, b3⟩, c⟩ := h
  exact ⟨a, ⟨b1, b2, b3.u2 hv⟩, c⟩
theorem sim.arr (h : sim F x y S P) {l : Nat} (h8 : 258 ≤ F.1) : sim F x y (zarr S l) (zarr P l) := by
  obtain ⟨a, ⟨b1, b2, b3⟩, c⟩ := h
  refine ⟨a, ⟨by show zn P + 1 = zn S + 1; rw [b1], by show un (zL P) (zn P) l = un (zL S) (zn S) l; rw [b1, b2], fun k i => ?_⟩, c⟩
  show vR F x y (if k = zn S then nI 128 else zE S k i) (if k = zn P then nI 128 else zE P k i)
  rw [b1]
  split
  · exact vR.c (by decide) h8
  · exact b3 k i
theorem sim.call (h : sim F x y S P) {q c : Nat} : sim F x y (zcall S q c) (zcall P q c) := by
  have e := h.hh
  obtain ⟨⟨a1, a2, a3, a4, a5⟩, b, c1⟩ := h
  refine ⟨⟨by show zt P + 1 = zt S + 1; rw [a1], by show un (zM P) (zt P + 1) q = un (zM S) (zt S + 1) q; rw [a1, a2], by show un (zP P) (zt P + 1) 0 = un (zP S) (zt S + 1) 0; rw [a1, a3], by show un (un (zH P) (zt P) (zh P - c)) (zt P + 1) 0 = un (un (zH S) (zt S) (zh S - c)) (zt S + 1) 0; rw [a1, a4, e], fun f j => ?_⟩, b, c1⟩
  show vR F x y (if f = zt S + 1 then (if j < c then zV S (zt S) (6 + (zh S - c) + j) else if j < 6 then -100 else zV S f j) else zV S f j) (if f = zt P + 1 then (if j < c then zV P (zt P) (6 + (zh P - c) + j) else if j < 6 then -100 else zV P f j) else zV P f j)
  rw [a1, e]
  split
  · split
    · exact a5 _ _
    · split
      · exact vR.ng (by decide)
      · exact a5 _ _
  · exact a5 _ _
theorem sim.dn (h : sim F x y S P) : sim F x y (zdone S) (zdone P) := by
  obtain ⟨a, b, c1, c2, c3, c4⟩ := h
  exact ⟨a, b, by show zd P + 1 = zd S + 1; rw [c1], c2, c3, c4⟩
theorem sim.en (h : sim F x y S P) {o pl : Int32} (ho : ¬ o = nI 1) : esim F x y (zend S o pl) (zend P o pl) := ⟨h.2.2.1, rfl, rfl, h.2.2.2.2.2, fun z => absurd z ho⟩
/-- what an operation comes to, on both -/
def sO (x y : Int32) (o : Nat × zW × zF) (f : zF → Nat × zW × zF) : Prop := (o.1 = 1 ∧ zo o.2.1 = nI 7) ∨ ∃ P', (∀ F0, f F0 = (o.1, P', F0)) ∧ (o.1 = 0 → sim o.2.2 x y o.2.1 P') ∧ (o.1 = 1 → esim o.2.2 x y o.2.1 P')
theorem sO.go {X X' : zW} (h : sim F x y X X') : sO x y (0, X, F) (fun F0 => (0, X', F0)) := Or.inr ⟨X', fun _ => rfl, fun _ => h, fun e => absurd e (by intro z; cases z)⟩
theorem sO.en {X X' : zW} (h : esim F x y X X') : sO x y (1, X, F) (fun F0 => (1, X', F0)) := Or.inr ⟨X', fun _ => rfl, fun e => absurd e (by intro z; cases z), fun _ => h⟩
theorem sO.brk (h : sim F x y S P) : sO x y (zbrk F S) (fun F0 => zbrk F0 P) := by
  unfold zbrk
  rw [h.place]
  exact sO.en (h.en (by decide))
theorem sO.rai (h8 : 258 ≤ F.1) {kd : Nat} (hk : kd ≤ 12) {pl : Int32} : ∀ (m : Nat) (S P : zW), sim F x y S P → sO x y ((zrai G kd pl m S).1, (zrai G kd pl m S).2, F) (fun F0 => ((zrai G kd pl m P).1, (zrai G kd pl m P).2, F0))
  | 0, S, P, h => by
    unfold zrai
    rw [h.q, h.pc]
    split
    · exact sO.go (((h.drop (c := 12)).push (by rw [nI_add]; exact vR.c (by omega) h8)).jump)
    · refine sO.en ⟨h.2.2.1, rfl, rfl, rfl, fun z => absurd z (by show ¬ nI 3 = nI 1; decide)⟩
  | m + 1, S, P, h => by
    unfold zrai
    rw [h.q, h.pc]
    split
    · exact sO.go (((h.drop (c := 12)).push (by rw [nI_add]; exact vR.c (by omega) h8)).jump)
    · exact sO.rai h8 hk m _ _ h.leave
theorem sO.thr (h : sim F x y S P) (h8 : 258 ≤ F.1) {kd : Nat} (hk : kd ≤ 12) : sO x y (zthr G F S kd) (fun F0 => zthr G F0 P kd) := by
  unfold zthr
  rw [h.place, h.1.1]
  exact sO.rai h8 hk _ S P h
theorem nI_n1 {j : Nat} (h : j < 2 ^ 31) : ¬ nI j = -1 := fun z => nI_pos h (by rw [z]; decide)
theorem zcm_go {c : Nat} {v : Int32} (h : ¬ v = -1) : zcm S c (v, F) = (0, zfin S c v, F) := by unfold zcm; rw [if_neg h]
/-- a word made of one -/
theorem sO.one (h : sim F x y S P) (hw : zfw F) (h8 : 258 ≤ F.1) (hN : F.1 < 32258) {c K : Nat} (hK : K = 11 ∨ K = 29) (hv : ¬ zpk S 0 < 0) : sO x y (zcm S c (z1 F (nI K) (zpk S 0))) (fun F0 => zcm P c (z1 F0 (nI K) (zpk P 0))) := by
  obtain ⟨j, i, h1, h2, h3, h4, h5⟩ := (h.pk 0).pos hv
  obtain ⟨n, hn, en⟩ := nbA (bR_w1 (op := nI K) (bR_num h3)).1 (bR_w1 (op := nI K) (bR_num h3)).2
  have eP : ∀ F0, zcm P c (z1 F0 (nI K) (zpk P 0)) = (0, zfin P c (nI n), F0) := fun F0 => by
    unfold z1
    rw [h4, if_pos ((isn_nI (by omega)).mpr h3), en, zcm_go (nI_n1 (by omega))]
  unfold z1
  rw [h2]
  by_cases c1 : isn (nI j)
  · rw [if_pos c1]
    have hj := (isn_nI (by omega)).mp c1
    rw [evs_num hj] at h5
    obtain rfl := sub_inj hj h3 (Option.some.inj h5)
    rw [en, zcm_go (nI_n1 (by omega))]
    exact Or.inr ⟨_, eP, fun _ => h.fin (vR.c hn h8), fun e => absurd e (by intro z; cases z)⟩
  · rw [if_neg c1]
    have hx : Fge F (zmk F (nI K) (nI j) (-1) (zsz F (nI j) + 1)).2 := zmk_ext.ge
    unfold zmk at hx ⊢
    by_cases c2 : 60 < zsz F (nI j) + 1
    · rw [if_pos c2]
      left
      unfold zcm
      rw [if_pos rfl]
      exact ⟨rfl, rfl⟩
    · rw [if_neg c2] at hx ⊢
      rw [zcm_go (nI_n1 (by omega))]
      refine Or.inr ⟨_, eP, fun _ => (h.up hw (by omega) hx).fin ?_, fun e => absurd e (by intro z; cases z)⟩
      refine Or.inr ⟨F.1, n, Nat.lt_succ_self _, rfl, hn, rfl, ?_⟩
      have ea := evs_ext (x := x) (y := y) hw (by omega) hx h1
      unfold evs ev
      rw [if_neg (by omega), if_neg (by omega), if_neg (by omega)]
      show (if un F.2.2.2.1 F.1 (-1) F.1 = -1 then (match ev _ x y F.1 (un F.2.2.1 F.1 (nI j) F.1).toNatClampNeg with | none => none | some a => some (w1F (un F.2.1 F.1 (nI K) F.1) a)) else _) = _
      rw [un_e, if_pos rfl, un_e, un_e, nI_clamp (by omega)]
      have ef : ev (F.1 + 1, un F.2.1 F.1 (nI K), un F.2.2.1 F.1 (nI j), un F.2.2.2.1 F.1 (-1), un F.2.2.2.2 F.1 (zsz F (nI j) + 1)) x y F.1 j = some (nI i - nI 128) := by
        rw [ev_ext hw (by omega) hx F.1 j h1, ev_fuel hw (by omega) F.1 (j + 1) j h1 (by omega) h1]
        exact h5
      rw [ef]
      show some (w1F (nI K) (nI i - nI 128)) = _
      rw [← en, Int32.add_sub_cancel]
/-- a word made of two -/
theorem sO.two (h : sim F x y S P) (hw : zfw F) (h8 : 258 ≤ F.1) (hN : F.1 < 32258) {c K : Nat} (hK : op2 K) (hv : ¬ zpk S 0 < 0) (hu : ¬ zpk S 1 < 0) (hd : (K = 9 ∨ K = 10) → ¬ zpk P 0 = nI 128) : sO x y (zcm S c (z2 F K (zpk S 1) (zpk S 0))) (fun F0 => zcm P c (z2 F0 K (zpk P 1) (zpk P 0))) := by
  obtain ⟨j, i, h1, h2, h3, h4, h5⟩ := (h.pk 0).pos hv
  obtain ⟨j', i', g1, g2, g3, g4, g5⟩ := (h.pk 1).pos hu
  obtain ⟨n, hn, en⟩ := nbA (bR_w2 (k := K) (bR_num g3) (bR_num h3)).1 (bR_w2 (k := K) (bR_num g3) (bR_num h3)).2
  have eP : ∀ F0, zcm P c (z2 F0 K (zpk P 1) (zpk P 0)) = (0, zfin P c (nI n), F0) := fun F0 => by
    unfold z2
    rw [h4, g4, if_pos ⟨(isn_nI (by omega)).mpr g3, (isn_nI (by omega)).mpr h3⟩, en, zcm_go (nI_n1 (by omega))]
  have hd' : (K = 9 ∨ K = 10) → ¬ nI i - nI 128 = 0 := fun z e => hd z (by
    rw [h4]
    have : nI i - nI 128 + nI 128 = 0 + nI 128 := by rw [e]
    rw [Int32.sub_add_cancel] at this
    rw [this]; rfl)
  unfold z2
  rw [h2, g2]
  by_cases c1 : isn (nI j') ∧ isn (nI j)
  · rw [if_pos c1]
    have hj := (isn_nI (by omega)).mp c1.2
    have hj' := (isn_nI (by omega)).mp c1.1
    rw [evs_num hj] at h5
    rw [evs_num hj'] at g5
    obtain rfl := sub_inj hj h3 (Option.some.inj h5)
    obtain rfl := sub_inj hj' g3 (Option.some.inj g5)
    rw [en, zcm_go (nI_n1 (by omega))]
    exact Or.inr ⟨_, eP, fun _ => h.fin (vR.c hn h8), fun e => absurd e (by intro z; cases z)⟩
  · rw [if_neg c1]
    have hx : Fge F (zmk F (nI K) (nI j') (nI j) (zsz F (nI j') + zsz F (nI j) + 1)).2 := zmk_ext.ge
    unfold zmk at hx ⊢
    by_cases c2 : 60 < zsz F (nI j') + zsz F (nI j) + 1
    · rw [if_pos c2]
      left
      unfold zcm
      rw [if_pos rfl]
      exact ⟨rfl, rfl⟩
    · rw [if_neg c2] at hx ⊢
      rw [zcm_go (nI_n1 (by omega))]
      refine Or.inr ⟨_, eP, fun _ => (h.up hw (by omega) hx).fin ?_, fun e => absurd e (by intro z; cases z)⟩
      refine Or.inr ⟨F.1, n, Nat.lt_succ_self _, rfl, hn, rfl, ?_⟩
      unfold evs ev
      rw [if_neg (by omega), if_neg (by omega), if_neg (by omega)]
      show (if un F.2.2.2.1 F.1 (nI j) F.1 = -1 then _ else (match ev _ x y F.1 (un F.2.2.1 F.1 (nI j') F.1).toNatClampNeg with | none => none | some a => match ev _ x y F.1 (un F.2.2.2.1 F.1 (nI j) F.1).toNatClampNeg with | none => none | some c => if (un F.2.1 F.1 (nI K) F.1 = nI 9 ∨ un F.2.1 F.1 (nI K) F.1 = nI 10) ∧ c = 0 then none else some (w2F (un F.2.1 F.1 (nI K) F.1).toNatClampNeg a c))) = _
      rw [un_e, if_neg (nI_n1 (by omega)), un_e, un_e, nI_clamp (by omega), nI_clamp (by omega)]
      have ef : ∀ k : Nat, k < F.1 → ev (F.1 + 1, un F.2.1 F.1 (nI K), un F.2.2.1 F.1 (nI j'), un F.2.2.2.1 F.1 (nI j), un F.2.2.2.2 F.1 (zsz F (nI j') + zsz F (nI j) + 1)) x y F.1 k = evs F x y k := fun k hk => by
        rw [ev_ext hw (by omega) hx F.1 k hk, ev_fuel hw (by omega) F.1 (k + 1) k hk (by omega) hk]
        rfl
      rw [ef j' g1, ef j h1, g5, h5]
      show (if (nI K = nI 9 ∨ nI K = nI 10) ∧ nI i - nI 128 = 0 then none else some (w2F (nI K).toNatClampNeg (nI i' - nI 128) (nI i - nI 128))) = _
      have hK16 : K ≤ 16 := hK.2.1
      rw [if_neg (fun z => hd' (z.1.elim (fun e => Or.inl ((nI_eq (by omega) (by omega)).mp e)) (fun e => Or.inr ((nI_eq (by omega) (by omega)).mp e))) z.2), nI_clamp (by omega), ← en, Int32.add_sub_cancel]
end SM
