/-! EACH PAIR OF CALLS keeps the relation, with equal answers -/
section FN
variable {A I A' I' : HA} {G : zG} {q bd ord : Nat} {s : zS}
theorem SJ.SP (h : SJ G A I q bd ord s) : SP A I (qF s) (qP s).length := by
  obtain ⟨⟨hq, bd2, ord2⟩, -, ⟨ps, ws, sp, hR⟩, ⟨ps', ws', hR'⟩, hF, hFM, hz⟩ := h
  have n1 := hR.2.2.1.1
  have n1' := hR'.2.2.1.1
  refine ⟨hz.2.1.1, by rw [hR.2.2.1.2.2.2.2.2.1, n1], by rw [hR'.2.2.1.2.2.2.2.1, n1'], fun k hk => ?_⟩
  have hpr : (qP s)[k]? = some ((qP s).getD k z0R) := by rw [List.getD_eq_getElem?_getD, List.getElem?_eq_getElem hk]; rfl
  obtain ⟨i, ei⟩ : ∃ i, ps[k]? = some i := ⟨_, List.getElem?_eq_getElem (by omega)⟩
  obtain ⟨i', ei'⟩ : ∃ i, ps'[k]? = some i := ⟨_, List.getElem?_eq_getElem (by omega)⟩
  have hi : i < 161 := hR.1.2 i (by simp [List.mem_of_getElem? ei])
  have hi' : i' < 170 := hR'.1.2 i' (by simp [List.mem_of_getElem? ei'])
  have hc := hR.2.2.2.1 k i _ ei hpr
  have hm := hR'.2.2.2.1 k i' _ ei' hpr
  have pi := (hz.2.2.2.2.1 _ (gD_mem (l := qP s) hk)).1
  exact ⟨i, i', _, hR.2.2.1.2.2.1 k i ei, hR'.2.2.1.2.2.1 k i' ei', hi, hi', pi.2.1, hc.1, hm.2.1, ⟨hc.2.2.2.1, hc.2.2.2.2.1, hc.2.2.2.2.2.1, hc.2.2.2.2.2.2.1, hc.2.2.2.2.2.2.2.1⟩, hm.2.2, by have := pi.1; omega, pi.2.2.2.1⟩
theorem PR.mv (h : PR A I) (hA : ∀ a, 23 ≤ a ∧ a ≤ 31 ∨ 1682 ≤ a ∧ a ≤ 1687 → A' a = A a) (h1 : I' 22 0 = I 22 0) (h2 : I' 1681 1 = I 1681 1) : PR A' I' := by
  unfold PR prOp prHd at h ⊢
  rw [hA 23 (by omega), hA 24 (by omega), hA 25 (by omega), hA 26 (by omega), hA 27 (by omega), hA 28 (by omega), hA 29 (by omega), hA 30 (by omega), hA 31 (by omega), hA 1682 (by omega), hA 1683 (by omega), hA 1684 (by omega), hA 1685 (by omega), hA 1686 (by omega), hA 1687 (by omega), h1, h2]
  exact h
theorem SJ.XE (h : SJ G A I q bd ord s) (h1 : I 20 1 = I 1681 0) (h2 : I 1681 31 = nI 0) (hM : ∃ M, M ≤ 6 ∧ I 22 0 = nI M ∧ ∀ q, M ≤ q → q < 6 → A 24 q = nI 0) : XE A I := by
  obtain ⟨⟨hq, bd2, ord2⟩, -, -, ⟨ps', ws', hR'⟩, hF, hFM, hz⟩ := h
  refine ⟨h1, h2, ⟨qF s, hF, hFM, hz.1.1.fok, by have := hz.N bd2; omega⟩, ?_, hM⟩
  obtain ⟨l1, l2⟩ := hz.2.1
  have n1 := hR'.2.2.1.1
  have n2 := hR'.2.2.1.2.1
  obtain ⟨x, x1, x2, x3⟩ := free_slot (L := [] ++ (ps' ++ (ws' ++ []))) (by simp; omega)
  exact ⟨x, x1, (hR'.2.1 x x1).2 x2, fun i hi => (hR'.2.1 i (by omega)).1 (x3 i hi)⟩
theorem RelX.shF {xs : Nat → Int32} (h : RelX xs A I) (hf : shF A I A' I') (hC : gRC A I G) (hM : gRM A I G) (hJ : SJ G A' I' q bd ord s) : RelX xs A' I' := by
  obtain ⟨r0, r1, r2, hPR, hS, hE⟩ := h
  obtain ⟨fa, fi, fm, f1, f31, f3, f16⟩ := hf
  refine ⟨by rw [fa 0 (by omega)]; exact r0, by rw [fa 1 (by omega)]; exact r1, by rw [fa 2 (by omega)]; exact r2, hPR.mv (fun a h => fa a (by omega)) (fi 22 0 (by omega)) (fm 1 (by omega)), Or.inr ⟨f3, f16, G, q, bd, ord, s, hC.mv (fun a h => fa a (by omega)) (fi 22 0 (by omega)), hM.mv2 (fun a h1 h2 => fa a (by omega)) (fm 1 (by omega)), hJ⟩, hJ.XE (by rw [f1, fm 0 (by omega)]; exact hE.1) f31 ?_⟩
  obtain ⟨-, -, -, -, M, m1, m2, m3⟩ := hE
  exact ⟨M, m1, by rw [fi 22 0 (by omega)]; exact m2, fun q h1 h2 => by rw [fa 24 (by omega)]; exact m3 q h1 h2⟩
/-- cells that the relation reads are as they were, but for the two rows of formulas -/
theorem RelX.mv {xs : Nat → Int32} {G : zG} (h : RelX xs A I) (hC : gRC A I G) (hM : gRM A I G) (hA : ∀ a, a < 3 ∨ 23 ≤ a ∧ a ≤ 31 ∨ 1682 ≤ a ∧ a ≤ 1687 ∨ a = 1690 → A' a = A a) (hI : ∀ a j, a = 3 ∧ j = 7 ∨ a = 22 ∨ a = 20 ∨ a = 1681 ∧ (j ≤ 1 ∨ j = 16 ∨ j = 31) → I' a j = I a j) (hF : ∃ F, zFC A' I' F ∧ zFM A' I' F ∧ zfok F ∧ F.1 < 32258) (hS : srch I → ∃ q bd ord s, SJ G A' I' q bd ord s) : RelX xs A' I' := by
  obtain ⟨r0, r1, r2, hPR, hs, e1, e2, -, e4, M, m1, m2, m3⟩ := h
  have hC' : gRC A' I' G := by
    unfold gRC at hC ⊢
    rw [hA 1 (by omega), hA 2 (by omega), hA 23 (by omega), hA 24 (by omega), hA 25 (by omega), hA 26 (by omega), hA 27 (by omega), hA 28 (by omega), hA 29 (by omega), hA 30 (by omega), hA 31 (by omega), hI 22 0 (by omega)]
    exact hC
  have hM' : gRM A' I' G := by
    unfold gRM at hM ⊢
    rw [hA 1682 (by omega), hA 1683 (by omega), hA 1684 (by omega), hA 1685 (by omega), hA 1686 (by omega), hA 1687 (by omega), hI 1681 1 (by omega)]
    exact hM
  refine ⟨by rw [hA 0 (by omega)]; exact r0, by rw [hA 1 (by omega)]; exact r1, by rw [hA 2 (by omega)]; exact r2, hPR.mv (fun a h => hA a (by omega)) (hI 22 0 (by omega)) (hI 1681 1 (by omega)), ?_, by rw [hI 20 1 (by omega), hI 1681 0 (by omega)]; exact e1, by rw [hI 1681 31 (by omega)]; exact e2, hF, by rw [hA 1690 (by omega)]; exact e4, M, m1, by rw [hI 22 0 (by omega)]; exact m2, fun q h1 h2 => by rw [hA 24 (by omega)]; exact m3 q h1 h2⟩
  rw [hI 3 7 (by omega), hI 1681 16 (by omega)]
  rcases hs with z | ⟨z1, z2, -⟩
  · exact Or.inl z
  · obtain ⟨q, bd, ord, s, hJ⟩ := hS ⟨z1, z2⟩
    exact Or.inr ⟨z1, z2, G, q, bd, ord, s, hC', hM', hJ⟩
/-- the two cases -/
theorem RelX.cs {xs : Nat → Int32} (h : RelX xs A I) : (nsrch I ∧ ∃ G, gRC A I G ∧ gRM A I G) ∨ (srch I ∧ ∃ G q bd ord s, gRC A I G ∧ gRM A I G ∧ SJ G A I q bd ord s) := by
  obtain ⟨r0, r1, r2, hPR, hs, -⟩ := h
  rcases hs with z | ⟨z1, z2, z3⟩
  · exact Or.inl ⟨z, hPR.prog r1 r2⟩
  · exact Or.inr ⟨⟨z1, z2⟩, z3⟩
theorem XE.sz (h : XE A I) : ∀ j, j < 258 → A 1694 j = nI 1 := by
  obtain ⟨-, -, ⟨F, -, f2, -⟩, -⟩ := h
  exact f2.2.2.2.1
end FN
section OW
variable {L : Nat} {xs : Nat → Int32}

theorem okX_told : opW L (RelX xs) 7 194 1 := by
  intro A I as hR hlen
  match as, hlen with
  | [x], _ =>
    have key : D7_told x A I (fun r => D194_told x A I (fun r2 => r2 = r)) := by
      rcases hR.cs with ⟨h, G, hC, hM⟩ | ⟨h, G, q, bd, ord, s, hC, hM, hJ⟩
      · exact told_no h
      · obtain ⟨-, -, ⟨ps, ws, sp, hRc⟩, ⟨ps', ws', hRm⟩, -⟩ := hJ
        obtain ⟨n1, n2, n3, n4, n5, n6, n7, n8, n9, n10, n11, n12, n13, n14, n15⟩ := hRc.2.2.1
        obtain ⟨m1, m2, m3, m4, m5, m6, m7, m8, m9, m10, m11, m12, m13⟩ := hRm.2.2.1
        exact told_both h (by rw [n7, m6, n2, m2]) (by rw [n12, m10]) (by rw [n13, m11]) (by rw [n10, m8]) (by rw [n6, m5, n1, m1])
    refine d7_told (d := 11) (D7_told_mono key (fun r h => ⟨r, A, I, rfl, rfl, rfl, ?_⟩))
    exact d194_told (d := 11) (D194_told_mono h (fun r2 e => ⟨A, I, by rw [e], rfl, hR⟩))
theorem okX_path : opW L (RelX xs) 8 195 2 := by
  intro A I as hR hlen
  match as, hlen with
  | [x, y], _ =>
    have key : D8_path x y A I (fun r => D195_path x y A I (fun r2 => r2 = r)) := by
      rcases hR.cs with ⟨h, G, hC, hM⟩ | ⟨h, G, q, bd, ord, s, hC, hM, hJ⟩
      · exact path_no h
      · exact path_both h hJ.SP hJ.2.2.2.2.1 hJ.2.2.2.2.2.1
    refine d8_path (d := 8) (D8_path_mono key (fun r h => ⟨r, A, I, rfl, rfl, rfl, ?_⟩))
    exact d195_path (d := 9) (D195_path_mono h (fun r2 e => ⟨A, I, by rw [e], rfl, hR⟩))
theorem okX_condition : opW L (RelX xs) 10 198 3 := by
  intro A I as hR hlen
  match as, hlen with
  | [x, y, z], _ =>
    have key : D10_condition x y z A I (fun r => D198_condition x y z A I (fun r2 => r2 = r)) := by
      rcases hR.cs with ⟨h, G, hC, hM⟩ | ⟨h, G, q, bd, ord, s, hC, hM, hJ⟩
      · exact condition_no h
      · exact condition_both h hJ.SP
    refine d10_condition (d := 10) (D10_condition_mono key (fun r h => ⟨r, A, I, rfl, rfl, rfl, ?_⟩))
    exact d198_condition (d := 9) (D198_condition_mono h (fun r2 e => ⟨A, I, by rw [e], rfl, hR⟩))
theorem okX_along : opW L (RelX xs) 14 202 2 := by
  intro A I as hR hlen
  match as, hlen with
  | [x, y], _ =>
    have key : D14_along x y A I (fun r => D202_along x y A I (fun r2 => r2 = r)) := by
      rcases hR.cs with ⟨h, G, hC, hM⟩ | ⟨h, G, q, bd, ord, s, hC, hM, hJ⟩
      · exact along_no h
      · exact along_both h hJ.SP
    refine d14_along (d := 9) (D14_along_mono key (fun r h => ⟨r, A, I, rfl, rfl, rfl, ?_⟩))
    exact d202_along (d := 9) (D202_along_mono h (fun r2 e => ⟨A, I, by rw [e], rfl, hR⟩))
theorem okX_input : opW L (RelX xs) 15 203 2 := by
  intro A I as hR hlen
  match as, hlen with
  | [x, y], _ =>
    have key : D15_input x y A I (fun r => D203_input x y A I (fun r2 => r2 = r)) := by
      rcases hR.cs with ⟨h, G, hC, hM⟩ | ⟨h, G, q, bd, ord, s, hC, hM, hJ⟩
      · exact input_no h
      · exact input_both h hJ.SP
    refine d15_input (d := 9) (D15_input_mono key (fun r h => ⟨r, A, I, rfl, rfl, rfl, ?_⟩))
    exact d203_input (d := 9) (D203_input_mono h (fun r2 e => ⟨A, I, by rw [e], rfl, hR⟩))
theorem okX_flip : opW L (RelX xs) 16 204 2 := by
  intro A I as hR hlen
  match as, hlen with
  | [x, y], _ =>
    have key : D16_flip x y A I (fun r => D204_flip x y A I (fun r2 => r2 = r)) := by
      rcases hR.cs with ⟨h, G, hC, hM⟩ | ⟨h, G, q, bd, ord, s, hC, hM, hJ⟩
      · exact flip_no h
      · exact flip_both h hJ.SP
    refine d16_flip (d := 10) (D16_flip_mono key (fun r h => ⟨r, A, I, rfl, rfl, rfl, ?_⟩))
    exact d204_flip (d := 9) (D204_flip_mono h (fun r2 e => ⟨A, I, by rw [e], rfl, hR⟩))
theorem okX_pruned : opW L (RelX xs) 17 205 2 := by
  intro A I as hR hlen
  match as, hlen with
  | [x, y], _ =>
    have key : D17_pruned x y A I (fun r => D205_pruned x y A I (fun r2 => r2 = r)) := by
      rcases hR.cs with ⟨h, G, hC, hM⟩ | ⟨h, G, q, bd, ord, s, hC, hM, hJ⟩
      · exact pruned_no h
      · obtain ⟨⟨hq, bd2, -⟩, -, ⟨ps, ws, sp, hRc⟩, ⟨ps', ws', hRm⟩, -, -, hz⟩ := hJ
        obtain ⟨n1, n2, n3, n4, n5, n6, n7, n8, n9, n10, n11, n12, n13, n14, n15⟩ := hRc.2.2.1
        obtain ⟨m1, m2, m3, m4, m5, m6, m7, m8, m9, m10, m11, m12, m13⟩ := hRm.2.2.1
        obtain ⟨-, -, b3, b4⟩ := hz.bnd bd2
        obtain ⟨-, ⟨l1, l2⟩, -, -, -, -, z7, z8, z9, -⟩ := hz
        exact pruned_both h (pn := qN s) (by omega) n13 m11 (fun j h1 h2 => ⟨_, _, (z9 j h1 h2).2, (z9 j h1 h2).1, n14 j h1 h2, (m12 j h1 h2).1, (m12 j h1 h2).2⟩)
    refine d17_pruned (d := 10) (D17_pruned_mono key (fun r h => ⟨r, A, I, rfl, rfl, rfl, ?_⟩))
    exact d205_pruned (d := 10) (D205_pruned_mono h (fun r2 e => ⟨A, I, by rw [e], rfl, hR⟩))
theorem okX_times : opW L (RelX xs) 18 206 2 := by
  intro A I as hR hlen
  match as, hlen with
  | [x, y], _ =>
    have key : D18_times x y A I (fun r => D206_times x y A I (fun r2 => r2 = r)) := by
      rcases hR.cs with ⟨h, G, hC, hM⟩ | ⟨h, G, q, bd, ord, s, hC, hM, hJ⟩
      · exact times_no h
      · obtain ⟨-, -, ⟨ps, ws, sp, hRc⟩, ⟨ps', ws', hRm⟩, -⟩ := hJ
        exact times_both h hC hM (fun i hi => by rw [hRc.2.2.1.2.2.2.2.2.2.2.2.1, hRm.2.2.1.2.2.2.2.2.2.1 i hi])
    refine d18_times (d := 10) (D18_times_mono key (fun r h => ⟨r, A, I, rfl, rfl, rfl, ?_⟩))
    exact d206_times (d := 10) (D206_times_mono h (fun r2 e => ⟨A, I, by rw [e], rfl, hR⟩))
theorem RelX.tk {A I A2 I2 : HA} (hR : RelX xs A I) (h : tkF A I A2 I2) : RelX xs A2 I2 := by
  have hF := hR.2.2.2.2.2.2.2.1
  have zc : ∀ {F : zF}, zFC A I F → zFC A2 I2 F := fun f => f.mv (fun a h1 h2 => h.1 a (by omega) (by omega) (by omega)) (h.2 32 4 (by omega) (by omega))
  have zm : ∀ {F : zF}, zFM A I F → zFM A2 I2 F := fun f => f.mv (fun a h1 h2 => h.1 a (by omega) (by omega) (by omega)) (h.2 1681 15 (by omega) (by omega))
  have go : ∀ G, gRC A I G → gRM A I G → (srch I → ∃ q bd ord s, SJ G A I q bd ord s) → RelX xs A2 I2 := fun G hC hM hS => hR.mv hC hM (fun a z => h.1 a (by omega) (by omega) (by omega)) (fun a j z => h.2 a j (by omega) (by omega)) (by
    obtain ⟨F, f1, f2, f3⟩ := hF
    exact ⟨F, zc f1, zm f2, f3⟩) (fun z => by
    obtain ⟨q, bd, ord, s, hJ⟩ := hS z
    exact ⟨q, bd, ord, s, hJ.mv (fun a z => h.1 a (by omega) (by omega) (by omega)) (fun m _ _ j _ => by rw [h.1 1688 (by omega) (by omega) (by omega)]) (fun a j z => h.2 a j (by omega) (by omega)) (fun j z => h.2 1681 j (by omega) (by omega)) (zc hJ.2.2.2.2.1) (zm hJ.2.2.2.2.2.1)⟩)
  rcases hR.cs with ⟨hn, G, hC, hM⟩ | ⟨hs, G, q, bd, ord, s, hC, hM, hJ⟩
  · exact go G hC hM (fun z => absurd (z.1.symm.trans hn.1) (by decide))
  · exact go G hC hM (fun _ => ⟨q, bd, ord, s, hJ⟩)
theorem okX_token : opW L (RelX xs) 11 199 2 := by
  intro A I as hR hlen
  match as, hlen with
  | [x, y], _ =>
    have key : D11_token x y A I (fun r A1 I1 => A1 0 = A 0 ∧ D199_token x y A1 I1 (fun r2 A2 I2 => r2 = r ∧ RelX xs A2 I2)) := by
      have k2 : D11_token x y A I (fun r A1 I1 => A1 0 = A 0 ∧ D199_token x y A1 I1 (fun r2 A2 I2 => r2 = r ∧ tkF A I A2 I2)) := by
        rcases hR.cs with ⟨h, G, hC, hM⟩ | ⟨h, G, q, bd, ord, s, hC, hM, hJ⟩
        · exact token_no h
        · exact token_both h hJ.SP hJ.2.2.2.2.1 hJ.2.2.2.2.2.1 hJ.2.2.2.2.2.2.1.1
      exact D11_token_mono k2 (fun r A1 I1 h => ⟨h.1, D199_token_mono h.2 (fun r2 A2 I2 e => ⟨e.1, hR.tk e.2⟩)⟩)
    refine d11_token (d := 8) (D11_token_mono key (fun r A1 I1 h => ⟨r, A1, I1, rfl, rfl, h.1, ?_⟩))
    exact d199_token (d := 9) (D199_token_mono h.2 (fun r2 A2 I2 e => ⟨A2, I2, by rw [e.1], rfl, e.2⟩))
theorem okX_value : opW L (RelX xs) 12 200 3 := by
  intro A I as hR hlen
  match as, hlen with
  | [x, y, z], _ =>
    have key : D12_value x y z A I (fun r A1 I1 => A1 0 = A 0 ∧ D200_value x y z A1 I1 (fun r2 A2 I2 => r2 = r ∧ RelX xs A2 I2)) := by
      have k2 : D12_value x y z A I (fun r A1 I1 => A1 0 = A 0 ∧ D200_value x y z A1 I1 (fun r2 A2 I2 => r2 = r ∧ tkF A I A2 I2)) := by
        rcases hR.cs with ⟨h, G, hC, hM⟩ | ⟨h, G, q, bd, ord, s, hC, hM, hJ⟩
        · exact value_no h
        · exact value_both h hJ.SP hJ.2.2.2.2.1 hJ.2.2.2.2.2.1 hJ.2.2.2.2.2.2.1.1
      exact D12_value_mono k2 (fun r A1 I1 h => ⟨h.1, D200_value_mono h.2 (fun r2 A2 I2 e => ⟨e.1, hR.tk e.2⟩)⟩)
    refine d12_value (d := 8) (D12_value_mono key (fun r A1 I1 h => ⟨r, A1, I1, rfl, rfl, h.1, ?_⟩))
    exact d200_value (d := 8) (D200_value_mono h.2 (fun r2 A2 I2 e => ⟨A2, I2, by rw [e.1], rfl, e.2⟩))
theorem okX_search : opW L (RelX xs) 5 154 4 := by
  intro A I as hR hlen
  match as, hlen with
  | [x, y, z, u1], _ =>
    have key : D5_search x y z u1 A I (fun r A1 I1 => A1 0 = A 0 ∧ D154_search x y z u1 A1 I1 (fun r2 A2 I2 => r2 = r ∧ RelX xs A2 I2)) := by
      have go : ∀ G, gRC A I G → gRM A I G → D5_search x y z u1 A I (fun r A1 I1 => A1 0 = A 0 ∧ D154_search x y z u1 A1 I1 (fun r2 A2 I2 => r2 = r ∧ RelX xs A2 I2)) := fun G hC hM =>
        D5_search_mono (search_both hC hM hR.2.2.2.2.2.1 hR.2.2.2.2.2.sz) (fun r A1 I1 h => ⟨h.1, D154_search_mono h.2 (fun r2 A2 I2 e => ⟨e.1, by
          rcases e.2 with ⟨e1, e2⟩ | ⟨e1, q, bd, ord, s, e2⟩
          · rw [e1, e2]; exact hR
          · exact hR.shF e1 hC hM e2⟩)⟩)
      rcases hR.cs with ⟨h, G, hC, hM⟩ | ⟨h, G, q, bd, ord, s, hC, hM, hJ⟩
      · exact go G hC hM
      · exact go G hC hM
    refine d5_search (d := 4) (D5_search_mono key (fun r A1 I1 h => ⟨r, A1, I1, rfl, rfl, h.1, ?_⟩))
    exact d154_search (d := 3) (D154_search_mono h.2 (fun r2 A2 I2 e => ⟨A2, I2, by rw [e.1], rfl, e.2⟩))
theorem okX_more : opW L (RelX xs) 6 193 1 := by
  intro A I as hR hlen
  match as, hlen with
  | [x], _ =>
    have key : D6_more x A I (fun r A1 I1 => A1 0 = A 0 ∧ D193_more x A1 I1 (fun r2 A2 I2 => r2 = r ∧ RelX xs A2 I2)) := by
      rcases hR.cs with ⟨h, G, hC, hM⟩ | ⟨h, G, q, bd, ord, s, hC, hM, hJ⟩
      · exact D6_more_mono (more_no h) (fun r A1 I1 h => ⟨h.1, D193_more_mono h.2 (fun r2 A2 I2 e => ⟨e.1, by rw [e.2.1, e.2.2]; exact hR⟩)⟩)
      · exact D6_more_mono (more_both h hC hM hJ) (fun r A1 I1 h => ⟨h.1, D193_more_mono h.2 (fun r2 A2 I2 e => ⟨e.1, by
          rcases e.2 with ⟨e1, e2⟩ | ⟨e1, q, bd, ord, s, e2⟩
          · rw [e1, e2]; exact hR
          · exact hR.shF e1 hC hM e2⟩)⟩)
    refine d6_more (d := 4) (D6_more_mono key (fun r A1 I1 h => ⟨r, A1, I1, rfl, rfl, h.1, ?_⟩))
    exact d193_more (d := 3) (D193_more_mono h.2 (fun r2 A2 I2 e => ⟨A2, I2, by rw [e.1], rfl, e.2⟩))
theorem RelX.pl {A I A2 I2 : HA} {F : zF} {sl : Nat} {G : zG} (hR : RelX xs A I) (hC : gRC A I G) (hM : gRM A I G) (h0 : A 1690 sl = 0) (hf : zfok F) (hN : F.1 < 32258) (hS : srch I → ∃ q bd ord s, qF s = F ∧ SJ G A I q bd ord s) (h : plF A I A2 I2 sl F) : RelX xs A2 I2 := by
  obtain ⟨p1, p2, p3, p4, p5⟩ := h
  refine hR.mv hC hM (fun a z => p1 a (by omega) (by omega) (by omega) (by omega)) (fun a j z => p3 a j (by omega) (by omega) (by omega)) ⟨F, p4, p5, hf, hN⟩ (fun z => ?_)
  obtain ⟨q, bd, ord, s, e, hJ⟩ := hS z
  subst e
  exact ⟨q, bd, ord, s, hJ.mv (fun a z => p1 a (by omega) (by omega) (by omega) (by omega)) (fun m hm hn j hj => p2 _ (by
    have : m ≠ sl := fun y => hn (by rw [y]; exact h0)
    omega)) (fun a j z => p3 a j (by omega) (by omega) (by omega)) (fun j z => p3 1681 j (by omega) (by omega) (by omega)) p4 p5⟩
theorem okX_plain : opW L (RelX xs) 19 207 5 := by
  intro A I as hR hlen
  match as, hlen with
  | [x, y, z, u1, u2], _ =>
    have key : D19_plain x y z u1 u2 A I (fun r A1 I1 => A1 0 = A 0 ∧ D207_plain x y z u1 u2 A1 I1 (fun r2 A2 I2 => r2 = r ∧ RelX xs A2 I2)) := by
      obtain ⟨e1, e31, ⟨F0, f1, f2, f3, f4⟩, ⟨sl, s1, s2, s3⟩, -⟩ := hR.2.2.2.2.2
      rcases hR.cs with ⟨h, G, hC, hM⟩ | ⟨h, G, q, bd, ord, s, hC, hM, hJ⟩
      · exact D19_plain_mono (plain_both hC hM f1 f2 f3 f4 e31 s1 s2 s3 ⟨fun _ _ _ _ _ => rfl, fun _ _ => rfl, fun _ _ _ _ _ => rfl, f1, f2⟩) (fun r A1 I1 h2 => ⟨h2.1, D207_plain_mono h2.2 (fun r2 A2 I2 e => ⟨e.1, hR.pl hC hM s2 f3 f4 (fun z => absurd (z.1.symm.trans h.1) (by decide)) e.2⟩)⟩)
      · have hN := hJ.2.2.2.2.2.2.N hJ.1.2.1
        have hfk := hJ.2.2.2.2.2.2.1.1.fok
        exact D19_plain_mono (plain_both hC hM hJ.2.2.2.2.1 hJ.2.2.2.2.2.1 hfk (by omega) e31 s1 s2 s3 ⟨fun _ _ _ _ _ => rfl, fun _ _ => rfl, fun _ _ _ _ _ => rfl, hJ.2.2.2.2.1, hJ.2.2.2.2.2.1⟩) (fun r A1 I1 h2 => ⟨h2.1, D207_plain_mono h2.2 (fun r2 A2 I2 e => ⟨e.1, hR.pl hC hM s2 hfk (by omega) (fun _ => ⟨q, bd, ord, s, rfl, hJ⟩) e.2⟩)⟩)
    refine d19_plain (d := 5) (D19_plain_mono key (fun r A1 I1 h => ⟨r, A1, I1, rfl, rfl, h.1, ?_⟩))
    exact d207_plain (d := 4) (D207_plain_mono h.2 (fun r2 A2 I2 e => ⟨A2, I2, by rw [e.1], rfl, e.2⟩))
theorem okX_agrees : opW L (RelX xs) 20 208 0 := by
  intro A I as hR hlen
  match as, hlen with
  | [], _ =>
    have key : D20_agrees A I (fun r A1 I1 => A1 0 = A 0 ∧ D208_agrees A1 I1 (fun r2 => r2 = r ∧ RelX xs A1 I1)) := by
      rcases hR.cs with ⟨h, G, hC, hM⟩ | ⟨h, G, q, bd, ord, s, hC, hM, hJ⟩
      · exact D20_agrees_mono (agrees_no h) (fun r A1 I1 h => ⟨h.1, D208_agrees_mono h.2 (fun r2 e => ⟨e.1, by rw [e.2.1, e.2.2]; exact hR⟩)⟩)
      · exact D20_agrees_mono (agrees_both h hC hJ) (fun r A1 I1 h2 => ⟨h2.1, D208_agrees_mono h2.2 (fun r2 e => ⟨e.1, by
          obtain ⟨-, f, hF⟩ := e
          have hFM : zFM A1 I1 (qF s) := hJ.2.2.2.2.2.1.mv (fun a h1 h2 => f.1 a (by omega) (by omega) (by omega) (by omega)) (f.2 1681 15 (by omega) (by omega) (by omega))
          exact hR.mv hC hM (fun a z => f.1 a (by omega) (by omega) (by omega) (by omega)) (fun a j z => f.2 a j (by omega) (by omega) (by omega)) ⟨qF s, hF, hFM, hJ.2.2.2.2.2.2.1.1.fok, by have := hJ.2.2.2.2.2.2.N hJ.1.2.1; omega⟩ (fun _ => ⟨q, bd, ord, s, hJ.mv (fun a z => f.1 a (by omega) (by omega) (by omega) (by omega)) (fun m _ _ j _ => by rw [f.1 1688 (by omega) (by omega) (by omega) (by omega)]) (fun a j z => f.2 a j (by omega) (by omega) (by omega)) (fun j z => f.2 1681 j (by omega) (by omega) (by omega)) hF hFM⟩)⟩)⟩)
    refine d20_agrees (d := 4) (D20_agrees_mono key (fun r A1 I1 h => ⟨r, A1, I1, rfl, rfl, h.1, ?_⟩))
    exact d208_agrees (d := 11) (D208_agrees_mono h.2 (fun r2 e => ⟨A1, I1, by rw [e.1], rfl, e.2⟩))
theorem relX0 (x : Int32) : RelX xs (A0 xs) (I0 x) := by
  refine ⟨rfl, rfl, rfl, ⟨0, by decide, rfl, rfl, fun q hq => absurd hq (Nat.not_lt_zero q), fun q _ => ⟨0, by decide, rfl, rfl, fun j hj => absurd hj (Nat.not_lt_zero j)⟩, fun q _ => ⟨0, by decide, rfl, rfl, fun j hj => absurd hj (Nat.not_lt_zero j)⟩⟩, Or.inl ⟨rfl, rfl⟩, rfl, rfl, ⟨zF0, ⟨rfl, Nat.le_refl _, by decide, fun j h1 h2 => ?_⟩, ⟨rfl, Nat.le_refl _, by decide, fun j hj => ?_, fun j h1 h2 => ?_⟩, fun j h1 h2 => ?_, by decide⟩, ⟨0, by decide, rfl, fun i hi => absurd hi (Nat.not_lt_zero i)⟩, 0, by decide, rfl, fun q _ _ => rfl⟩
  · have h2 : j < 258 := h2
    omega
  · show md_1 258 j = nI 1
    unfold md_1
    rw [if_pos hj]; rfl
  · have h2 : j < 258 := h2
    omega
  · have h2 : j < 258 := h2
    omega
/-- THE LAW'S PLAIN RUN answers 1 -/
theorem law_plain : bm_Law := by
  refine lawW_of (fun _ xs A I => RelX xs A I) (fun L xs _ => relX0 _) (fun _ _ _ _ h => h.1) (fun L xs hL q hq => ?_)
  rcases List.mem_cons.mp hq with rfl | hq
  · exact (okX_method L xs).w
  rcases List.mem_cons.mp hq with rfl | hq
  · exact (okX_operation L xs).w
  rcases List.mem_cons.mp hq with rfl | hq
  · exact (okX_handler L xs).w
  rcases List.mem_cons.mp hq with rfl | hq
  · exact okX_search
  rcases List.mem_cons.mp hq with rfl | hq
  · exact okX_more
  rcases List.mem_cons.mp hq with rfl | hq
  · exact okX_told
  rcases List.mem_cons.mp hq with rfl | hq
  · exact okX_path
  rcases List.mem_cons.mp hq with rfl | hq
  · exact okX_condition
  rcases List.mem_cons.mp hq with rfl | hq
  · exact okX_token
  rcases List.mem_cons.mp hq with rfl | hq
  · exact okX_value
  rcases List.mem_cons.mp hq with rfl | hq
  · exact okX_along
  rcases List.mem_cons.mp hq with rfl | hq
  · exact okX_input
  rcases List.mem_cons.mp hq with rfl | hq
  · exact okX_flip
  rcases List.mem_cons.mp hq with rfl | hq
  · exact okX_pruned
  rcases List.mem_cons.mp hq with rfl | hq
  · exact okX_times
  rcases List.mem_cons.mp hq with rfl | hq
  · exact okX_plain
  rcases List.mem_cons.mp hq with rfl | hq
  · exact okX_agrees
  exact absurd hq (by simp)
end OW
