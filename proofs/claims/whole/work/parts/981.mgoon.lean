/-! A TURN OF THE REFERENCE'S SEARCH, and all of them -/
theorem upd_c {T1 T2 : Nat → Int32} {j : Nat} (h : ∀ i, i < 240 → T1 i = T2 i) : ∀ i, i < 240 → upd T1 j (T1 j + nI 1) i = upd T2 j (T2 j + nI 1) i := by
  intro i hi
  by_cases e : i = j
  · subst e; rw [pk_us, pk_us, h i hi]
  · rw [pk_un e, pk_un e]; exact h i hi
def eqU (u1 u2 : zU) : Prop := u1.1 = u2.1 ∧ u1.2.1 = u2.2.1 ∧ u1.2.2.1 = u2.2.2.1 ∧ u1.2.2.2.2 = u2.2.2.2.2 ∧ ∀ i, i < 240 → u1.2.2.2.1 i = u2.2.2.2.1 i
theorem zgo_T {G : zG} {bd : Nat} : ∀ (n : Nat) (S : zW) (F : zF) (T1 T2 : Nat → Int32) (C : Int32), (∀ i, i < 240 → T1 i = T2 i) → eqU (zgo G bd n S F T1 C) (zgo G bd n S F T2 C)
  | 0, S, F, T1, T2, C, h => ⟨rfl, rfl, rfl, rfl, h⟩
  | n + 1, S, F, T1, T2, C, h => by
    unfold zgo
    by_cases c1 : zd S = bd
    · rw [if_pos c1, if_pos c1]; exact ⟨rfl, rfl, rfl, rfl, h⟩
    rw [if_neg c1, if_neg c1]
    by_cases c2 : ¬ zpc S < gL G (zq S)
    · rw [if_pos c2, if_pos c2]; exact ⟨rfl, rfl, rfl, rfl, h⟩
    rw [if_neg c2, if_neg c2]
    by_cases c3 : (zoper G none F (zdone S)).1 = 0
    · rw [if_pos c3, if_pos c3]; exact zgo_T n _ _ _ _ _ (upd_c h)
    rw [if_neg c3, if_neg c3]
    exact ⟨rfl, rfl, rfl, rfl, upd_c h⟩
theorem zfr_T {G : zG} {bd : Nat} {o : Nat × zW × zF} {T1 T2 : Nat → Int32} {C : Int32} (h : ∀ i, i < 240 → T1 i = T2 i) : eqU (zfr G bd o T1 C) (zfr G bd o T2 C) := by
  unfold zfr
  split
  · exact zgo_T _ _ _ _ _ _ h
  · exact ⟨rfl, rfl, rfl, rfl, h⟩
theorem sA_id {A : HA} {a j : Nat} {x : Int32} (e : A a j = x) : sA A a j x = A := by
  funext b k
  by_cases z : b = a ∧ k = j
  · obtain ⟨rfl, rfl⟩ := z; rw [sA_e, e]
  · rw [sA_n (by omega)]
section MT
variable {A I : HA} {F : zF} {G : zG}
theorem R162_1 {Q : Int32 → HA → HA → Prop} (q : Q (nI 1) A I) : R162 (nI 1) A I Q := by
  unfold R162
  intro P hP
  refine hP _ _ _ ?_
  rw [i1]
  exact q
set_option maxRecDepth 100000 in
theorem M_goOn {Q : Int32 → HA → HA → Prop} {sl bd : Nat} {r : zR} {u : zU} (hs : sl < 170) (h35 : I 1681 35 = nI (520 * sl)) (hmw : mw A sl r) (hk0 : zk r.1 = 0) (hF : zFM A I F) (hg : gRM A I G) (hbd : bd ≤ 200) (hb18 : I 1681 18 = nI bd) (hcn : I 1681 31 = nI 1) (hok : zok r.1 F) (ho : zo r.1 = 0) (hd : zd r.1 ≤ bd) (hn0 : r.2.2.2.1 = none → F.1 + (bd - zd r.1) ≤ 32258) (hn1 : ∀ c, r.2.2.2.1 = some c → c < 8 ∧ c < (zsi (zK G r.1) r.1).1 ∧ zpc r.1 < gL G (zq r.1) ∧ (zoper G none F r.1).1 = 2 ∧ F.1 + 1 + (bd - zd r.1) ≤ 32258) (hu : u = zfr G bd (zre G F r) (A 1699) (I 1681 30))
    (k2 : u.1 = 2 → ∀ A' I', GA (520 * sl) (va_up (sA A 1688 (520 * sl + 3) (-1)) 1699 u.2.2.2.1) (sI (sI I 1681 36 (nI (520 * sl + 30 + 21 * zt r.1))) 1681 30 u.2.2.2.2) A' I' u.2.1 u.2.2.1 → I' 1681 37 = nI (zsi (zK G u.2.1) u.2.1).1 → I' 1681 38 = (zsi (zK G u.2.1) u.2.1).2.1 → I' 1681 39 = (zsi (zK G u.2.1) u.2.1).2.2 → Q (nI 2) A' I')
    (k1 : ¬ u.1 = 2 → ∀ A' I', GE (520 * sl) (va_up (sA A 1688 (520 * sl + 3) (-1)) 1699 u.2.2.2.1) (sI (sI I 1681 36 (nI (520 * sl + 30 + 21 * zt r.1))) 1681 30 u.2.2.2.2) A' I' u.2.1 u.2.2.1 → Q (nI 1) A' I') : D162_goOn A I Q := by
  have hz := hmw.2.1
  have rep := hmw.2.2.2
  have e3 : A 1688 (520 * sl + 3) = altv r.2.2.2.1 := hmw.2.2.1.2.2.2.1
  obtain ⟨J, hJ⟩ : ∃ J, J = sI I 1681 36 (nI (520 * sl + 30 + 21 * zt r.1)) := ⟨_, rfl⟩
  have J35 : J 1681 35 = nI (520 * sl) := by rw [hJ, sI_n (by decide)]; exact h35
  have J36 : J 1681 36 = nI (520 * sl + 30 + 21 * zt r.1) := by rw [hJ, sI_e]
  have Jo : ∀ a j, ¬ (a = 1681 ∧ j = 36) → J a j = I a j := fun a j h => by rw [hJ, sI_n (by omega)]
  have rm : ∀ {A' : HA}, zRepN (520 * sl) A' r.1 → zRepM (520 * sl) A' J r.1 := fun h => ⟨J35, J36, h⟩
  unfold D162_goOn
  refine M_frame (by omega) h35 hz.1 rep.1 ?_
  rw [← hJ, J35, nI_add, vpT (n := 520 * sl + 3) (by omega) (by decide), nI_clamp (n := 520 * sl + 3) (by omega), e3]
  refine ⟨trivial, ?_⟩
  rw [← hJ] at k1 k2
  have A0o : ∀ a, a ≠ 1688 → sA A 1688 (520 * sl + 3) (-1) a = A a := fun a h => sA_na h
  have g0 : gRM (sA A 1688 (520 * sl + 3) (-1)) J G := by
    unfold gRM at hg ⊢
    rw [A0o _ (by decide), A0o _ (by decide), A0o _ (by decide), A0o _ (by decide), A0o _ (by decide), A0o _ (by decide), Jo 1681 1 (by decide)]
    exact hg
  have F0 : zFM (sA A 1688 (520 * sl + 3) (-1)) J F := hF.mv (fun a h1 h2 => A0o a (by omega)) (Jo _ _ (by decide))
  have rep0 : zRepN (520 * sl) (sA A 1688 (520 * sl + 3) (-1)) r.1 := rep.cp hz (fun j hj => by rw [sA_n (by omega)])
  have G0 : GA (520 * sl) (sA A 1688 (520 * sl + 3) (-1)) J (sA A 1688 (520 * sl + 3) (-1)) J r.1 F := ⟨by omega, hz, hk0, rm rep0, F0, fun _ _ _ => rfl, fun _ _ => rfl, fun _ _ _ => rfl⟩
  have eT : sA A 1688 (520 * sl + 3) (-1) 1699 = A 1699 := A0o _ (by decide)
  have eC : J 1681 30 = I 1681 30 := Jo _ _ (by decide)
  have b18 : J 1681 18 = nI bd := by rw [Jo _ _ (by decide)]; exact hb18
  have c31 : J 1681 31 = nI 1 := by rw [Jo _ _ (by decide)]; exact hcn
  have upG : ∀ {A' I' : HA} {S : zW} {F' : zF}, GA (520 * sl) (sA A 1688 (520 * sl + 3) (-1)) J A' I' S F' → GA (520 * sl) (va_up (sA A 1688 (520 * sl + 3) (-1)) 1699 (A 1699)) (sI J 1681 30 (I 1681 30)) A' I' S F' := fun h => by rw [← eT, ← eC, va_up_id, sI_id]; exact h
  have upE : ∀ {A' I' : HA} {S : zW} {F' : zF}, GE (520 * sl) (sA A 1688 (520 * sl + 3) (-1)) J A' I' S F' → GE (520 * sl) (va_up (sA A 1688 (520 * sl + 3) (-1)) 1699 (A 1699)) (sI J 1681 30 (I 1681 30)) A' I' S F' := fun h => by rw [← eT, ← eC, va_up_id, sI_id]; exact h
  have go : ∀ {A' I' : HA} (S : zW) (F' : zF), GA (520 * sl) (sA A 1688 (520 * sl + 3) (-1)) J A' I' S F' → zok S F' → zo S = 0 → zd S ≤ bd → F'.1 + (bd - zd S) ≤ 32258 → u = zgo G bd 201 S F' (A 1699) (I 1681 30) → R162 (nI 0) A' I' Q := by
    intro A' I' S F' h h1 h2 h3 h4 e
    subst e
    exact M_go g0 hbd b18 c31 (upG h) h1 h2 h3 (by omega) h4 (fun e A2 I2 g f => k2 e A2 I2 g (f _ rfl).1 (f _ rfl).2.1 (f _ rfl).2.2) (fun e A2 I2 g => k1 (by omega) A2 I2 g)
  cases ha : r.2.2.2.1 with
  | none =>
    rw [ha] at e3
    rw [show altv none = -1 from rfl, if_pos rfl]
    have eo : zre G F r = (0, r.1, F) := by unfold zre; rw [ha]
    have eA : sA A 1688 (520 * sl + 3) (-1) = A := sA_id e3
    rw [eo] at hu
    have g1 := go r.1 F G0 hok ho hd (hn0 ha) (by rw [hu]; unfold zfr; rw [if_pos rfl])
    rw [eA] at g1
    exact g1
  | some c =>
    obtain ⟨c8, cz, q1, q2, q3⟩ := hn1 c ha
    rw [show altv (some c) = nI c from rfl, iNg (by omega) (by decide)]
    have eo : zre G F r = zoper G (some c) F r.1 := by unfold zre; rw [ha]
    refine ⟨trivial, trivial, ?_⟩
    have ok := zoper_ok (alt := some c) hg.1 hz hok hF.2.1 (by omega) q1
    obtain ⟨o1, o2, o3, o4, o5, o6, o7, o8⟩ := ok
    have n2' : ¬ (zoper G (some c) F r.1).1 = 2 := zop_n2 ((hg.1.2.2 _ hz.hi.2.1).2.2.1 _ q1).1 (fun _ => ⟨c, rfl⟩)
    refine M_step (alt := some c) G0 g0 hok (by omega) q1 (fun c' e => by rw [← Option.some.inj e]; exact cz) ⟨⟨fun e A2 I2 g => ?_, fun e A2 I2 g => ?_⟩, fun e => absurd e n2'⟩
    · rw [eo] at hu
      exact go _ _ g (o4 e) ((o3.2 e).trans ho) (by rw [o3.1]; exact hd) (by rw [o3.1]; have := o1.2.1; omega) (by rw [hu]; unfold zfr; rw [if_pos e])
    · rw [eo] at hu
      have hu : u = (1, (zoper G (some c) F r.1).2.1, (zoper G (some c) F r.1).2.2, A 1699, I 1681 30) := by rw [hu]; unfold zfr; rw [if_neg (by omega)]
      refine R162_1 (k1 (by rw [hu]; show ¬ 1 = 2; decide) _ _ ?_)
      rw [hu]
      exact upE g
theorem take_mem {k i x : Nat} {ps ws : List Nat} (e : ws[k]? = some i) : x ∈ [i] ++ (ps ++ (ws.eraseIdx k ++ [])) ↔ x ∈ [] ++ (ps ++ (ws ++ [])) := by
  obtain ⟨hk, ek⟩ := List.getElem?_eq_some_iff.mp e
  subst ek
  have p1 : (ws[k] :: ws.eraseIdx k).Perm ws := er_perm hk
  have := p1.mem_iff (a := x)
  simp only [List.append_nil, List.nil_append, List.mem_append, List.mem_cons, List.not_mem_nil, or_false] at this ⊢
  rw [← this]
  constructor
  · rintro (z | z | z)
    · exact Or.inr (Or.inl z)
    · exact Or.inl z
    · exact Or.inr (Or.inr z)
  · rintro (z | z | z)
    · exact Or.inr (Or.inl z)
    · exact Or.inl z
    · exact Or.inr (Or.inr z)
theorem M_take {X : Int32 → HA → HA → Prop} {ord : Nat} {s : zS} {ps ws : List Nat} (ho : ord ≤ 3) (h0 : 0 < (qW s).length) (h60 : (qW s).length ≤ 60) (h17 : I 1681 17 = nI ord) (h : RMl A I [] ps ws s) (hw : ∀ r, r ∈ qW s → zwf r.1 ∧ zpc r.1 < 40 ∧ zgr r < 2 ^ 30)
    (q : ∀ i A' I', RMl A' I' [i] ps (ws.eraseIdx (zpick ord (qW s) (qT s) (qZ s))) (qTake ord s) → mw A' i (zpr ord s) → i < 170 → (∀ a, a ≠ 1695 → A' a = A a) → (∀ a j, ¬ (a = 1681 ∧ (j = 19 ∨ j = 21)) → I' a j = I a j) → X (nI i) A' I') : D160_pick A I (fun v8 A9 I10 => vp_in v8 60 ∧ ((∀ P12 : Int32 → HA → HA → Prop, (∀ (a13 : Int32) (A15 I16 : HA), (if a13 < (I16 1681 21) then vp_in (a13 + (nI 1)) 60 ∧ (vp_in a13 60 ∧ (P12 (a13 + nI 1) (sA A15 1695 a13.toNatClampNeg (A15 1695 (a13 + (nI 1)).toNatClampNeg)) I16)) else X (A9 1695 v8.toNatClampNeg) A15 I16) → P12 a13 A15 I16) → P12 v8 A9 (sI I10 1681 21 ((I10 1681 21) - (nI 1)))))) := by
  obtain ⟨hown, htk, ⟨n1, n2, n3, n4, n5, n6, n7, n8, n9, n10, n11, n12, n13⟩, hP, hW⟩ := h
  have hc : mkw A ws (qW s) := by
    intro k i r e1 e2
    have c := hW k i r e1 e2
    have d := hw r (List.mem_of_getElem? e2)
    exact ⟨hown.2 i (by simp [List.mem_of_getElem? e1]), c.2.2.2, d.1, d.2.1, c.2.2.1.2.2.2.2, d.2.2⟩
  have hk := zpick_lt (ord := ord) (T := qT s) (z := qZ s) h0
  obtain ⟨i, wi, i170, -⟩ := hc.at n2 hk
  have hr : (qW s)[zpick ord (qW s) (qT s) (qZ s)]? = some (zpr ord s) := by unfold zpr; rw [List.getD_eq_getElem?_getD, List.getElem?_eq_getElem hk]; rfl
  have hmw := hW _ _ _ wi hr
  refine M_pick (T := qT s) ho h0 h60 n2 h17 (by rw [n6, n2]) n9 n4 n7 hc ?_
  generalize hkk : zpick ord (qW s) (qT s) (qZ s) = k at q hk wi hr hmw
  rw [vpT (n := k) (by omega) (by decide), nI_clamp (n := k) (by omega), n4 _ _ wi]
  have e21 : (if ord = 2 then sI I 1681 19 (znz (qZ s)) else I) 1681 21 = nI (qW s).length := by
    split
    · rw [sI_n (by decide), n6, n2]
    · rw [n6, n2]
  have eI : ∀ a j, ¬ (a = 1681 ∧ j = 19) → (if ord = 2 then sI I 1681 19 (znz (qZ s)) else I) a j = I a j := by
    intro a j ha
    split
    · rw [sI_n (by omega)]
    · rfl
  have ez : (if ord = 2 then sI I 1681 19 (znz (qZ s)) else I) 1681 19 = if ord = 2 then znz (qZ s) else qZ s := by
    split
    · rw [sI_e]
    · exact n9
  generalize (if ord = 2 then sI I 1681 19 (znz (qZ s)) else I) = I1 at e21 eI ez
  refine ⟨trivial, ?_⟩
  intro P hPl
  rw [e21, pk_sub (by omega)]
  have hE : ∀ a j, ¬ (a = 1681 ∧ (j = 19 ∨ j = 21)) → sI I1 1681 21 (nI ((qW s).length - 1)) a j = I a j := fun a j ha => by rw [sI_n (by omega)]; exact eI a j (by omega)
  refine shift (a := 1695) (ob := 1681) (fl := 21) (n := (qW s).length - 1) (ws := ws) (Q := fun A' I' => X (nI i) A' I') hPl sI_e (by omega) (by omega) (by omega) n4 (fun A' a1 a2 => ?_)
  have le : (ws.eraseIdx k).length = ws.length - 1 := by rw [List.length_eraseIdx, if_pos (by omega)]
  have off : ∀ i, offM A A' i := fun i => ⟨fun j hj => by rw [a1 _ (by decide)], fun j hj => by rw [a1 _ (by decide)]⟩
  refine q i _ _ ⟨hown.take wi, fun x hx => by rw [take_mem wi, a1 _ (by decide)]; exact htk x hx, ⟨n1, ?_, by rw [a1 _ (by decide)]; exact n3, a2, by rw [hE _ _ (by decide)]; exact n5, by rw [sI_e, le, n2], by rw [a1 _ (by decide)]; exact n7, by rw [hE _ _ (by decide)]; exact n8, ?_, by rw [hE _ _ (by decide)]; exact n10, by rw [hE _ _ (by decide)]; exact n11, by rw [a1 _ (by decide), a1 _ (by decide)]; exact n12, by rw [hE _ _ (by decide)]; exact n13⟩, hP.off (fun s r => mp.off) (fun i _ => off i), ?_⟩ (hmw.off (off i)) i170 a1 hE
  · show _ = ((qW s).eraseIdx _).length
    rw [hkk, le, List.length_eraseIdx, if_pos hk]; omega
  · rw [sI_n (by decide)]; exact ez
  · show wsM mw _ _ ((qW s).eraseIdx _)
    rw [hkk]
    exact (hW.off (fun s r => mw.off) (fun i _ => off i)).erase k
end MT
