/-! THE SEARCH, PURE; which way is taken out -/
/-- formulas, paths, ways that wait, times, comeTo, z, lost, pruned, the latest pruned, splits -/
abbrev zS : Type := zF × List zR × List zR × (Nat → Int32) × Int32 × Int32 × Int32 × Nat × (Nat → Nat × Nat) × Nat
def qF (s : zS) : zF := s.1
def qP (s : zS) : List zR := s.2.1
def qW (s : zS) : List zR := s.2.2.1
def qT (s : zS) : Nat → Int32 := s.2.2.2.1
def qC (s : zS) : Int32 := s.2.2.2.2.1
def qZ (s : zS) : Int32 := s.2.2.2.2.2.1
def qL (s : zS) : Int32 := s.2.2.2.2.2.2.1
def qN (s : zS) : Nat := s.2.2.2.2.2.2.2.1
def qK (s : zS) : Nat → Nat × Nat := s.2.2.2.2.2.2.2.2.1
def qG (s : zS) : Nat := s.2.2.2.2.2.2.2.2.2
def zgr (r : zR) : Nat := r.2.2.2.2
def z0R : zR := (zbeg 0 0 0, [], fun _ => none, none, 0)
def zbst (lt : Nat → Nat → Bool) : Nat → Nat
  | 0 => 0
  | n + 1 => if lt (n + 1) (zbst lt n) = true then n + 1 else zbst lt n
def znz (z : Int32) : Int32 := z * nI 1664525 + nI 1013904223
def zsc (z : Int32) (n : Nat) : Nat := z.toUInt32.toNat / 256 % n
def zlt (ord : Nat) (W : List zR) (T : Nat → Int32) (a b : Nat) : Bool := if ord = 0 then decide (zgr (W.getD b z0R) < zgr (W.getD a z0R)) else decide (T (zslot (W.getD a z0R).1) < T (zslot (W.getD b z0R).1))
def zpick (ord : Nat) (W : List zR) (T : Nat → Int32) (z : Int32) : Nat := if ord = 1 then 0 else if ord = 2 then zsc (znz z) W.length else zbst (zlt ord W T) (W.length - 1)
/-- numbers in an array -/
def rowA (f : Nat → Int32) (xs : List Nat) : Prop := ∀ (k x : Nat), xs[k]? = some x → f k = nI x
theorem zbst_le (lt : Nat → Nat → Bool) : ∀ n, zbst lt n ≤ n
  | 0 => Nat.le_refl _
  | n + 1 => by
    have := zbst_le lt n
    unfold zbst
    split <;> omega
theorem zbst_srt {g : Nat → Nat} : ∀ n, (∀ a b, a ≤ b → b ≤ n → g a ≤ g b) → g (zbst (fun a b => decide (g b < g a)) n) = g n ∧ ∀ i, i < zbst (fun a b => decide (g b < g a)) n → g i < g n
  | 0, _ => ⟨rfl, fun i hi => absurd hi (Nat.not_lt_zero i)⟩
  | n + 1, h => by
    obtain ⟨h1, h2⟩ := zbst_srt n (fun a b ha hb => h a b ha (by omega))
    have h3 := h n (n + 1) (by omega) (Nat.le_refl _)
    unfold zbst
    by_cases c : g (zbst (fun a b => decide (g b < g a)) n) < g (n + 1)
    · rw [if_pos (by simpa using c)]
      exact ⟨rfl, fun i hi => by have := h i n (by omega) (by omega); omega⟩
    · rw [if_neg (by simpa using c)]
      refine ⟨by omega, fun i hi => by have := h2 i hi; omega⟩
theorem zpick_lt {ord : Nat} {W : List zR} {T : Nat → Int32} {z : Int32} (h : 0 < W.length) : zpick ord W T z < W.length := by
  unfold zpick
  split
  · exact h
  · split
    · exact Nat.mod_lt _ h
    · exact Nat.lt_of_le_of_lt (zbst_le _ _) (by omega)
theorem shr8 (z : Int32) : (Int32.toUInt32 z >>> (Int32.toUInt32 (nI 8) &&& Int32.toUInt32 31)).toInt32 = nI (z.toUInt32.toNat / 256) := by
  have e : (Int32.toUInt32 z >>> (Int32.toUInt32 (nI 8) &&& Int32.toUInt32 31)).toNat = z.toUInt32.toNat / 256 := by
    rw [show Int32.toUInt32 (nI 8) &&& Int32.toUInt32 31 = 8 from by decide, UInt32.toNat_shiftRight]
    rw [show (8 : UInt32).toNat % 32 = 8 from rfl, Nat.shiftRight_eq_div_pow]
  have hz : z.toUInt32.toNat < 2 ^ 32 := z.toUInt32.toNat_lt
  apply Int32.toBitVec_inj.mp
  apply BitVec.eq_of_toNat_eq
  rw [nI_ofN (by omega)]
  exact e
theorem sc_e {z : Int32} {n : Nat} (h0 : 0 < n) (hn : n ≤ 60) : (Int32.toUInt32 z >>> (Int32.toUInt32 (nI 8) &&& Int32.toUInt32 31)).toInt32 - (Int32.toUInt32 z >>> (Int32.toUInt32 (nI 8) &&& Int32.toUInt32 31)).toInt32 / nI n * nI n = nI (zsc z n) := by
  have hz : z.toUInt32.toNat < 2 ^ 32 := z.toUInt32.toNat_lt
  rw [shr8, nI_rem (by omega) (by omega) h0]
  rfl
theorem m1_e {m : Nat} (h : 0 < m) (hm : m < 2 ^ 31) : nI m + (-1) = nI (m - 1) := by
  rw [show (-1 : Int32) = -(nI 1) from by decide, ← Int32.sub_eq_add_neg, pk_sub (by omega)]
section PK
variable {A I : HA} {W : List zR} {ws : List Nat} {T : Nat → Int32}
/-- what a waiting way at place k tells the class -/
def ckw (A I : HA) (ws : List Nat) (W : List zR) : Prop := ∀ (k i : Nat) (r : zR), ws[k]? = some i → W[k]? = some r → i < 161 ∧ zRepC (71 + 10 * i) A I r.1 ∧ zwf r.1 ∧ zpc r.1 < 40 ∧ I (71 + 10 * i) 17 = nI (zgr r) ∧ zgr r < 2 ^ 30
def srt (W : List zR) : Prop := ∀ a b, a ≤ b → b < W.length → zgr (W.getD a z0R) ≤ zgr (W.getD b z0R)
theorem ckw.at (h : ckw A I ws W) (hl : ws.length = W.length) {k : Nat} (hk : k < W.length) : ∃ i, ws[k]? = some i ∧ i < 161 ∧ zRepC (71 + 10 * i) A I (W.getD k z0R).1 ∧ zwf (W.getD k z0R).1 ∧ zpc (W.getD k z0R).1 < 40 ∧ I (71 + 10 * i) 17 = nI (zgr (W.getD k z0R)) ∧ zgr (W.getD k z0R) < 2 ^ 30 := by
  refine ⟨ws[k]'(by omega), List.getElem?_eq_getElem _, h k _ _ (List.getElem?_eq_getElem (by omega)) ?_⟩
  rw [List.getD_eq_getElem?_getD, List.getElem?_eq_getElem hk]
  rfl
theorem C_slotR {Q : Int32 → Prop} {w : Nat} {S : zW} (h : zRepC w A I S) (hz : zwf S) (k : Q (nI (zslot S))) : D118_slotNow w A I Q := by
  have h3 := hz.1
  have hq := hz.2.1 (zt S) (Nat.le_refl _)
  have hr := h.2.2.2.2.2.2.2.1 (zt S) (Nat.le_refl _)
  unfold D118_slotNow
  rw [h.1, vpT (by omega) (by decide), nI_clamp (by omega), hr.1, hr.2.1, pk_mul, nI_add]
  exact ⟨trivial, trivial, k⟩
theorem C_pick {Q : Int32 → HA → HA → Prop} {ord : Nat} {z : Int32} (ho : ord ≤ 3) (h0 : 0 < W.length) (h60 : W.length ≤ 60) (hl : ws.length = W.length) (h39 : I 39 1 = nI W.length) (hz : I 39 2 = z) (hrow : rowA (A 40) ws) (hT : A 42 = T) (hc : ckw A I ws W) (hs : srt W) (q : Q (nI (zpick ord W T z)) A (if ord = 2 then sI I 39 2 (znz z) else I)) : D90_choosePlace (nI ord) A I Q := by
  unfold D90_choosePlace
  unfold zpick at q
  rw [iEq (by omega) (by decide), iEq (by omega) (by decide), iEq (by omega) (by decide)]
  by_cases o0 : ord = 0
  · rw [if_pos o0]
    rw [if_neg (by omega), if_neg (by omega), if_neg (by omega)] at q
    have el : zlt ord W T = fun a b => decide (zgr (W.getD b z0R) < zgr (W.getD a z0R)) := by funext a b; unfold zlt; rw [if_pos o0]
    rw [el] at q
    have bs := zbst_srt (g := fun a => zgr (W.getD a z0R)) (W.length - 1) (fun a b ha hb => hs a b ha (by omega))
    have ble := zbst_le (fun a b => decide (zgr (W.getD b z0R) < zgr (W.getD a z0R))) (W.length - 1)
    generalize zbst (fun a b => decide (zgr (W.getD b z0R) < zgr (W.getD a z0R))) (W.length - 1) = j at q bs ble
    obtain ⟨il, wl, il161, -, -, -, gl, gl2⟩ := hc.at hl (k := W.length - 1) (by omega)
    unfold D91_firstOfLastSplit
    rw [h39, pk_sub (by omega), vpT (n := W.length - 1) (by omega) (by decide), nI_clamp (n := W.length - 1) (by omega), hrow _ _ wl, vpT (n := il) (by omega) (by decide), nI_clamp (n := il) (by omega), gl]
    refine ⟨trivial, trivial, ?_⟩
    intro P hP
    have step : ∀ (a : Int32) (m : Nat), m < W.length → ((if zgr (W.getD m z0R) = zgr (W.getD (W.length - 1) z0R) then P (nI m) (nI m + (-1)) else Q a A I) → P a (nI m)) := by
      intro a m hm hh
      obtain ⟨im, wm, im161, -, -, -, gm, gm2⟩ := hc.at hl hm
      refine hP _ _ ?_
      rw [iLt0 (by omega), vpT (n := m) (by omega) (by decide), nI_clamp (n := m) (by omega), hrow _ _ wm, vpT (n := im) (by omega) (by decide), nI_clamp (n := im) (by omega), gm, iEq (a := zgr (W.getD m z0R)) (by omega) (by omega)]
      exact ⟨trivial, trivial, hh⟩
    have key : ∀ d m, d + j = m → m ≤ W.length - 1 → P (nI m) (nI m + (-1)) := by
      intro d
      induction d with
      | zero =>
        intro m hm _
        obtain rfl : j = m := by omega
        by_cases j0 : j = 0
        · subst j0
          refine hP _ _ ?_
          rw [if_pos (by decide)]
          exact q
        · rw [m1_e (by omega) (by omega)]
          refine step _ _ (by omega) ?_
          rw [if_neg]
          · exact q
          · have := bs.2 (j - 1) (by omega)
            omega
      | succ d ih =>
        intro m hm hm2
        rw [m1_e (by omega) (by omega)]
        refine step _ _ (by omega) ?_
        rw [if_pos]
        · exact ih (m - 1) (by omega) (by omega)
        · have h1 := hs j (m - 1) (by omega) (by omega)
          have h2 := hs (m - 1) (W.length - 1) (by omega) (by omega)
          have := bs.1
          have : zgr (W.getD j z0R) = zgr (W.getD (W.length - 1) z0R) := bs.1
          omega
    refine step _ _ (by omega) ?_
    rw [if_pos rfl]
    exact key (W.length - 1 - j) _ (by omega) (Nat.le_refl _)
  · rw [if_neg o0]
    by_cases o2 : ord = 2
    · rw [if_pos o2]
      rw [if_neg (by omega), if_pos o2, if_pos o2] at q
      rw [sI_e, sI_n (by decide), h39, hz, if_pos (show (0 : Int32) < nI W.length from (nI_ltI (a := 0) (by decide) (by omega)).mpr h0)]
      refine ⟨fun e => absurd ((eq0T (by omega)).mp e) (by omega), ?_⟩
      show Q (_ - _ / nI W.length * nI W.length) A _
      rw [sc_e h0 h60]
      exact q
    · rw [if_neg o2]
      by_cases o3 : ord = 3
      · rw [if_pos o3]
        rw [if_neg (by omega), if_neg o2, if_neg o2] at q
        unfold D92_mostSeldom
        intro P hP
        have key : ∀ d m, d + (m + 1) = W.length → P (nI (zbst (zlt ord W T) m)) (nI (m + 1)) := by
          intro d
          induction d with
          | zero =>
            intro m hm
            refine hP _ _ ?_
            rw [h39, iLt (by omega) (by omega), if_neg (by omega)]
            rw [show W.length - 1 = m by omega] at q
            exact q
          | succ d ih =>
            intro m hm
            have ih := ih (m + 1) (by omega)
            have ble := zbst_le (zlt ord W T) m
            obtain ⟨ia, wa, ia161, ra, za, pa, -, -⟩ := hc.at hl (k := m + 1) (by omega)
            obtain ⟨ib, wb, ib161, rb, zb, pb, -, -⟩ := hc.at hl (k := zbst (zlt ord W T) m) (by omega)
            have sa : zslot (W.getD (m + 1) z0R).1 < 240 := by have := za.hi; unfold zslot; omega
            have sb : zslot (W.getD (zbst (zlt ord W T) m) z0R).1 < 240 := by have := zb.hi; unfold zslot; omega
            refine hP _ _ ?_
            rw [h39, iLt (by omega) (by omega), if_pos (by omega), vpT (n := m + 1) (by omega) (by decide), nI_clamp (n := m + 1) (by omega), hrow _ _ wa, vpT (n := ia) (by omega) (by decide), nI_clamp (n := ia) (by omega)]
            refine ⟨trivial, trivial, C_slotR ra za ?_⟩
            rw [vpT (n := zslot (W.getD (m + 1) z0R).1) (by omega) (by decide), vpT (n := zbst (zlt ord W T) m) (by omega) (by decide), nI_clamp (n := zbst (zlt ord W T) m) (by omega), hrow _ _ wb, vpT (n := ib) (by omega) (by decide), nI_clamp (n := ib) (by omega)]
            refine ⟨trivial, trivial, trivial, C_slotR rb zb ?_⟩
            rw [vpT (n := zslot (W.getD (zbst (zlt ord W T) m) z0R).1) (by omega) (by decide), nI_clamp (n := zslot (W.getD (m + 1) z0R).1) (by omega), nI_clamp (n := zslot (W.getD (zbst (zlt ord W T) m) z0R).1) (by omega), hT, nI_add]
            refine ⟨trivial, ?_⟩
            have el : zlt ord W T (m + 1) (zbst (zlt ord W T) m) = decide (T (zslot (W.getD (m + 1) z0R).1) < T (zslot (W.getD (zbst (zlt ord W T) m) z0R).1)) := by unfold zlt; rw [if_neg o0]
            have e2 : zbst (zlt ord W T) (m + 1) = if zlt ord W T (m + 1) (zbst (zlt ord W T) m) = true then m + 1 else zbst (zlt ord W T) m := rfl
            by_cases c : T (zslot (W.getD (m + 1) z0R).1) < T (zslot (W.getD (zbst (zlt ord W T) m) z0R).1)
            · rw [if_pos c]
              rw [e2, if_pos (by rw [el]; exact decide_eq_true c)] at ih
              exact ih
            · rw [if_neg c]
              rw [e2, if_neg (by rw [el]; exact fun z => c (of_decide_eq_true z))] at ih
              exact ih
        exact key (W.length - 1) 0 (by omega)
      · rw [if_neg o3]
        rw [if_pos (by omega), if_neg o2] at q
        exact q
/-- what a waiting way at place k tells the reference -/
def zRepN (b : Nat) (A : HA) (S : zW) : Prop := A 1688 b = nI (zt S + 1) ∧ A 1688 (b + 5) = nI (zn S) ∧ A 1688 (b + 1) = nI (zd S) ∧
  (∀ f, f ≤ zt S → A 1688 (b + 30 + 21 * f) = nI (zM S f) ∧ A 1688 (b + 30 + 21 * f + 1) = nI (zP S f) ∧ A 1688 (b + 30 + 21 * f + 2) = nI (zH S f) ∧ ∀ j, j < 6 + zH S f → A 1688 (b + 30 + 21 * f + (3 + j)) = zV S f j) ∧
  (∀ k, k < zn S → A 1688 (b + 6 + k) = nI (zL S k) ∧ ∀ i, i < zL S k → A 1688 (b + 10 + (k * 5 + i)) = zE S k i)
def mkw (A : HA) (ws : List Nat) (W : List zR) : Prop := ∀ (k s : Nat) (r : zR), ws[k]? = some s → W[k]? = some r → s < 170 ∧ zRepN (520 * s) A r.1 ∧ zwf r.1 ∧ zpc r.1 < 40 ∧ A 1688 (520 * s + 4) = nI (zgr r) ∧ zgr r < 2 ^ 30
theorem mkw.at (h : mkw A ws W) (hl : ws.length = W.length) {k : Nat} (hk : k < W.length) : ∃ i, ws[k]? = some i ∧ i < 170 ∧ zRepN (520 * i) A (W.getD k z0R).1 ∧ zwf (W.getD k z0R).1 ∧ zpc (W.getD k z0R).1 < 40 ∧ A 1688 (520 * i + 4) = nI (zgr (W.getD k z0R)) ∧ zgr (W.getD k z0R) < 2 ^ 30 := by
  refine ⟨ws[k]'(by omega), List.getElem?_eq_getElem _, h k _ _ (List.getElem?_eq_getElem (by omega)) ?_⟩
  rw [List.getD_eq_getElem?_getD, List.getElem?_eq_getElem hk]
  rfl
theorem M_timesAt {Q : Int32 → Prop} {s : Nat} {S : zW} (hs : s < 170) (h : zRepN (520 * s) A S) (hz : zwf S) (hp : zpc S < 40) (hT : ∀ i, i < 240 → A 1699 i = T i) (k : Q (T (zslot S))) : D161_timesAt (nI 520 * nI s) A I Q := by
  have h3 := hz.1
  have hh := hz.hi
  have hr := h.2.2.2.1 (zt S) (Nat.le_refl _)
  unfold D161_timesAt
  rw [pk_mul, nI_add, nI_add, show 520 * s + 0 = 520 * s from rfl, vpT (n := 520 * s) (by omega) (by decide), nI_clamp (n := 520 * s) (by omega), h.1, pk_sub (by omega), pk_mul, nI_add, nI_add, nI_add, show 520 * s + 30 + 21 * (zt S + 1 - 1) + 0 = 520 * s + 30 + 21 * zt S by omega, show 520 * s + 30 + 21 * (zt S + 1 - 1) + 1 = 520 * s + 30 + 21 * zt S + 1 by omega, vpT (n := 520 * s + 30 + 21 * zt S) (by omega) (by decide), vpT (n := 520 * s + 30 + 21 * zt S + 1) (by omega) (by decide), nI_clamp (n := 520 * s + 30 + 21 * zt S) (by omega), nI_clamp (n := 520 * s + 30 + 21 * zt S + 1) (by omega), hr.1, hr.2.1]
  have hp' : zP S (zt S) < 40 := hp
  have hq' : zM S (zt S) < 6 := hh.2.1
  rw [iLt (by omega) (by decide), if_pos hp', pk_mul, nI_add, vpT (n := 40 * zM S (zt S) + zP S (zt S)) (by omega) (by decide), nI_clamp (n := 40 * zM S (zt S) + zP S (zt S)) (by omega), hT _ (by omega)]
  refine ⟨trivial, trivial, trivial, trivial, trivial, ?_⟩
  have : zslot S = 40 * zM S (zt S) + zP S (zt S) := by unfold zslot zq zpc; omega
  rw [this] at k
  exact k
theorem M_pick {Q : Int32 → HA → HA → Prop} {ord : Nat} {z : Int32} (ho : ord ≤ 3) (h0 : 0 < W.length) (h60 : W.length ≤ 60) (hl : ws.length = W.length) (h17 : I 1681 17 = nI ord) (h21 : I 1681 21 = nI W.length) (hz : I 1681 19 = z) (hrow : rowA (A 1695) ws) (hT : ∀ i, i < 240 → A 1699 i = T i) (hc : mkw A ws W) (q : Q (nI (zpick ord W T z)) A (if ord = 2 then sI I 1681 19 (znz z) else I)) : D160_pick A I Q := by
  unfold D160_pick
  unfold zpick at q
  rw [h17, iEq (by omega) (by decide), iEq (by omega) (by decide)]
  by_cases o1 : ord = 1
  · rw [if_pos o1]
    rw [if_pos o1, if_neg (by omega)] at q
    exact q
  · rw [if_neg o1]
    by_cases o2 : ord = 2
    · rw [if_pos o2]
      rw [if_neg o1, if_pos o2, if_pos o2] at q
      rw [sI_e, sI_n (by decide), h21, hz]
      refine ⟨fun e => absurd ((eq0T (by omega)).mp e) (by omega), ?_⟩
      show Q (_ - _ / nI W.length * nI W.length) A _
      rw [sc_e h0 h60]
      exact q
    · rw [if_neg o2]
      rw [if_neg o1, if_neg o2, if_neg o2] at q
      intro P hP
      have key : ∀ d m, d + (m + 1) = W.length → P (nI (zbst (zlt ord W T) m)) (nI (m + 1)) := by
        intro d
        induction d with
        | zero =>
          intro m hm
          refine hP _ _ ?_
          rw [h21, iLt (by omega) (by omega), if_neg (by omega)]
          rw [show W.length - 1 = m by omega] at q
          exact q
        | succ d ih =>
          intro m hm
          have ih := ih (m + 1) (by omega)
          have ble := zbst_le (zlt ord W T) m
          obtain ⟨ia, wa, ia170, ra, za, pa, ga, ga2⟩ := hc.at hl (k := m + 1) (by omega)
          obtain ⟨ib, wb, ib170, rb, zb, pb, gb, gb2⟩ := hc.at hl (k := zbst (zlt ord W T) m) (by omega)
          have e2 : zbst (zlt ord W T) (m + 1) = if zlt ord W T (m + 1) (zbst (zlt ord W T) m) = true then m + 1 else zbst (zlt ord W T) m := rfl
          refine hP _ _ ?_
          rw [h21, iLt (by omega) (by omega), if_pos (by omega), vpT (n := m + 1) (by omega) (by decide), nI_clamp (n := m + 1) (by omega), hrow _ _ wa, vpT (n := zbst (zlt ord W T) m) (by omega) (by decide), nI_clamp (n := zbst (zlt ord W T) m) (by omega), hrow _ _ wb]
          refine ⟨trivial, trivial, ?_⟩
          rw [nI_add, iEq0 (by omega)]
          by_cases o0 : ord = 0
          · rw [if_pos o0, pk_mul, pk_mul, nI_add, nI_add, vpT (n := 520 * ia + 4) (by omega) (by decide), vpT (n := 520 * ib + 4) (by omega) (by decide), nI_clamp (n := 520 * ia + 4) (by omega), nI_clamp (n := 520 * ib + 4) (by omega), ga, gb, iLt (by omega) (by omega)]
            refine ⟨trivial, trivial, ?_⟩
            have el : zlt ord W T (m + 1) (zbst (zlt ord W T) m) = decide (zgr (W.getD (zbst (zlt ord W T) m) z0R) < zgr (W.getD (m + 1) z0R)) := by unfold zlt; rw [if_pos o0]
            by_cases c : zgr (W.getD (zbst (zlt ord W T) m) z0R) < zgr (W.getD (m + 1) z0R)
            · rw [if_pos c]
              rw [e2, if_pos (by rw [el]; exact decide_eq_true c)] at ih
              exact ih
            · rw [if_neg c]
              rw [e2, if_neg (by rw [el]; exact fun z => c (of_decide_eq_true z))] at ih
              exact ih
          · rw [if_neg o0]
            refine M_timesAt (T := T) ia170 ra za pa hT (M_timesAt (T := T) ib170 rb zb pb hT ?_)
            have el : zlt ord W T (m + 1) (zbst (zlt ord W T) m) = decide (T (zslot (W.getD (m + 1) z0R).1) < T (zslot (W.getD (zbst (zlt ord W T) m) z0R).1)) := by unfold zlt; rw [if_neg o0]
            by_cases c : T (zslot (W.getD (m + 1) z0R).1) < T (zslot (W.getD (zbst (zlt ord W T) m) z0R).1)
            · rw [if_pos c]
              rw [e2, if_pos (by rw [el]; exact decide_eq_true c)] at ih
              exact ih
            · rw [if_neg c]
              rw [e2, if_neg (by rw [el]; exact fun z => c (of_decide_eq_true z))] at ih
              exact ih
      exact key (W.length - 1) 0 (by omega)
end PK
