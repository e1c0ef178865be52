/-! THE REFERENCE: a turn, and goTill -/
def frT (A I A' I' : HA) : Prop := (∀ a, a < 1688 ∨ 1703 < a → A' a = A a) ∧ (∀ a j, a ≠ 1681 → I' a j = I a j) ∧ (∀ j, j = 0 ∨ j = 1 ∨ j = 16 ∨ j = 17 ∨ j = 18 ∨ j = 31 → I' 1681 j = I 1681 j)
theorem frT.rf {A I : HA} : frT A I A I := ⟨fun _ _ => rfl, fun _ _ _ => rfl, fun _ _ => rfl⟩
theorem frT.tr {A I A1 I1 A2 I2 : HA} (h : frT A I A1 I1) (g : frT A1 I1 A2 I2) : frT A I A2 I2 := ⟨fun a e => (g.1 a e).trans (h.1 a e), fun a j e => (g.2.1 a j e).trans (h.2.1 a j e), fun j e => (g.2.2 j e).trans (h.2.2 j e)⟩
theorem frT.fr {A I A' I' : HA} (h : frT A I A' I') : frM A I A' I' := ⟨h.1, h.2.1, fun j e => h.2.2 j (by omega)⟩
def MX1 (P : HA → HA → Prop) (v : Int32) (A15 I16 : HA) : Prop := D162_goOn A15 (sI I16 1681 35 ((nI 520) * v)) (fun v18 A19 I20 => if v18 = (nI 2) then D187_divide v A19 I20 (fun A22 I23 => P A22 I23) else vp_in (I20 1681 24) 100 ∧ (P (sA A19 1696 (I20 1681 24).toNatClampNeg v) (sI I20 1681 24 ((I20 1681 24) + (nI 1)))))
def MB (P : HA → HA → Prop) (A5 I6 : HA) : Prop := D160_pick A5 I6 (fun v8 A9 I10 => vp_in v8 60 ∧ ((∀ P12 : Int32 → HA → HA → Prop, (∀ (a13 : Int32) (A15 I16 : HA), (if a13 < (I16 1681 21) then vp_in (a13 + (nI 1)) 60 ∧ (vp_in a13 60 ∧ (P12 (a13 + nI 1) (sA A15 1695 a13.toNatClampNeg (A15 1695 (a13 + (nI 1)).toNatClampNeg)) I16)) else MX1 P (A9 1695 v8.toNatClampNeg) A15 I16) → P12 a13 A15 I16) → P12 v8 A9 (sI I10 1681 21 ((I10 1681 21) - (nI 1))))))
section MU
variable {A I : HA} {S : zW} {F : zF} {G : zG}
theorem GA.self {b : Nat} {A0 I0 : HA} (h : GA b A0 I0 A I S F) : GA b A I A I S F := ⟨h.1, h.2.1, h.2.2.1, h.2.2.2.1, h.2.2.2.2.1, fun _ _ _ => rfl, fun _ _ => rfl, fun _ _ _ => rfl⟩
theorem gRM.mv {A' I' : HA} (h : gRM A I G) (hA : ∀ a, a < 1688 → A' a = A a) (hI : I' 1681 1 = I 1681 1) : gRM A' I' G := by
  unfold gRM at h ⊢
  rw [hA _ (by decide), hA _ (by decide), hA _ (by decide), hA _ (by decide), hA _ (by decide), hA _ (by decide), hI]
  exact h
/-- what a run of the way at hand leaves of the search -/
theorem RMl.run {sl : Nat} {A' I' : HA} {ps ws : List Nat} {s : zS} {T : Nat → Int32} {C X : Int32} (h : RMl A I [sl] ps ws s) (hg : gmO (520 * sl) (va_up (sA A 1688 (520 * sl + 3) (-1)) 1699 T) (sI (sI (sI I 1681 35 (nI (520 * sl))) 1681 36 X) 1681 30 C) A' I') {T' : Nat → Int32} (hT : ∀ i, i < 240 → T i = T' i) : RMl A' I' [sl] ps ws (qRun s F T' C) := by
  obtain ⟨hown, htk, ⟨n1, n2, n3, n4, n5, n6, n7, n8, n9, n10, n11, n12, n13⟩, hPs, hWs⟩ := h
  have gA : ∀ a, a ≠ 1688 → ¬ (1691 ≤ a ∧ a ≤ 1694) → a ≠ 1699 → A' a = A a := fun a h1 h2 h3 => by rw [hg.1 a h1 h2, va_up_ne _ _ h3, sA_na h1]
  have gI : ∀ j, ¬ (j = 15 ∨ j = 30 ∨ 35 ≤ j ∧ j ≤ 39) → I' 1681 j = I 1681 j := fun j h => by rw [hg.2.2 1681 j (by omega), sI_n (by omega), sI_n (by omega), sI_n (by omega)]
  have nd := hown.1
  rw [List.singleton_append, List.nodup_cons] at nd
  have ne : ∀ m, m ∈ ps ∨ m ∈ ws → m ≠ sl := fun m hm e => nd.1 (by rw [← e]; simp; exact hm)
  have off : ∀ m, m ∈ ps ∨ m ∈ ws → offM A A' m := fun m hm => by
    have := ne m hm
    refine ⟨fun j hj => ?_, fun j hj => by rw [gA _ (by decide) (by decide) (by decide)]⟩
    rw [hg.2.1 _ (by unfold zMI; omega), va_up_ne _ _ (by decide), sA_n (by omega)]
  refine ⟨hown, fun x hx => by rw [gA _ (by decide) (by decide) (by decide)]; exact htk x hx, ⟨n1, n2, by rw [gA _ (by decide) (by decide) (by decide)]; exact n3, by rw [gA _ (by decide) (by decide) (by decide)]; exact n4, by rw [gI _ (by decide)]; exact n5, by rw [gI _ (by decide)]; exact n6, fun i hi => by rw [hg.1 1699 (by decide) (by decide), va_up_self]; exact hT i hi, by rw [hg.2.2 _ _ (by decide), sI_e]; rfl, by rw [gI _ (by decide)]; exact n9, by rw [gI _ (by decide)]; exact n10, by rw [gI _ (by decide)]; exact n11, by rw [gA _ (by decide) (by decide) (by decide), gA _ (by decide) (by decide) (by decide)]; exact n12, by rw [gI _ (by decide)]; exact n13⟩, hPs.off (fun s r => mp.off) (fun m hm => off m (Or.inl hm)), hWs.off (fun s r => mw.off) (fun m hm => off m (Or.inr hm))⟩
theorem cur_run {sl : Nat} {A' I' I0 : HA} {r : zR} {T : Nat → Int32} (hr : recW r) (h : recM A sl r) (hg : gmO (520 * sl) (va_up (sA A 1688 (520 * sl + 3) (-1)) 1699 T) I0 A' I') : curM A' sl r ∧ A' 1688 (520 * sl + 3) = -1 ∧ A' 1688 (520 * sl + 4) = nI r.2.2.2.2 := by
  have row : ∀ j, (2 ≤ j ∧ j ≤ 4 ∨ 114 ≤ j ∧ j < 514) → A' 1688 (520 * sl + j) = sA A 1688 (520 * sl + 3) (-1) 1688 (520 * sl + j) := fun j hj => by rw [hg.2.1 _ (by unfold zMI; omega), va_up_ne _ _ (by decide)]
  have h200 := hr.1
  refine ⟨⟨by rw [row 2 (by omega), sA_n (by omega)]; exact h.1, fun c p e => ?_, fun k hk => by rw [hg.1 1689 (by decide) (by decide), va_up_ne _ _ (by decide), sA_na (by decide)]; exact h.2.2.1 k hk⟩, by rw [row 3 (by omega), sA_e], by rw [row 4 (by omega), sA_n (by omega)]; exact h.2.2.2.2⟩
  have hc := (List.getElem?_eq_some_iff.mp e).1
  have := h.2.1 c p e
  rw [show 520 * sl + 114 + 2 * c + 1 = 520 * sl + (114 + 2 * c + 1) by omega, show 520 * sl + 114 + 2 * c = 520 * sl + (114 + 2 * c) by omega] at this ⊢
  rw [row _ (by omega), row _ (by omega), sA_n (by omega), sA_n (by omega)]
  exact this
theorem own.pthM {N i : Nat} {ps ws : List Nat} (h : own N [i] ps ws []) : own N [] (ps ++ [i]) ws [] := h.pth
theorem mem_pth {x i : Nat} {ps ws : List Nat} : x ∈ [] ++ ((ps ++ [i]) ++ (ws ++ [])) ↔ x ∈ [i] ++ (ps ++ (ws ++ [])) := by
  simp only [List.append_nil, List.nil_append, List.mem_append, List.mem_cons, List.not_mem_nil, or_false]
  constructor
  · rintro ((z | z) | z)
    · exact Or.inr (Or.inl z)
    · exact Or.inl z
    · exact Or.inr (Or.inr z)
  · rintro (z | z | z)
    · exact Or.inl (Or.inr z)
    · exact Or.inl (Or.inl z)
    · exact Or.inr z
theorem M_turn {P : HA → HA → Prop} {bd ord : Nat} {ps ws : List Nat} {s : zS} (h : RMl A I [] ps ws s) (hg : gRM A I G) (hF : zFM A I (qF s)) (hbd : bd ≤ 200) (hb : I 1681 18 = nI bd) (ho : ord ≤ 3) (h17 : I 1681 17 = nI ord) (h31 : I 1681 31 = nI 1) (ht : tpr G bd ord s (zpr ord s) (zur G bd ord s))
    (k : ∀ A2 I2 ps' ws', RMl A2 I2 [] ps' ws' (zturn G bd ord s) → zFM A2 I2 (qF (zturn G bd ord s)) → frT A I A2 I2 → P A2 I2) : MB P A I := by
  have eF : qF (zturn G bd ord s) = (zur G bd ord s).2.2.1 := by unfold zturn zst; split <;> rfl
  rw [eF] at k
  unfold MB
  refine M_take (X := MX1 P) ho ht.1.1 ht.1.2.1 h17 h ht.1.2.2.2.2 (fun sl A1 I1 hR hmw s170 a1 i1 => ?_)
  unfold MX1
  rw [pk_mul]
  have hmem : zpr ord s ∈ qW s := by
    have := zpick_lt (ord := ord) (T := qT s) (z := qZ s) ht.1.1
    refine List.mem_of_getElem? (i := zpick ord (qW s) (qT s) (qZ s)) ?_
    unfold zpr
    rw [List.getD_eq_getElem?_getD, List.getElem?_eq_getElem this]; rfl
  obtain ⟨p1, p2, p3, p4, p5⟩ := ht.2.1
  have g1 : gRM A1 (sI I1 1681 35 (nI (520 * sl))) G := hg.mv (fun a ha => a1 a (by omega)) (by rw [sI_n (by decide)]; exact i1 _ _ (by decide))
  have f1 : zFM A1 (sI I1 1681 35 (nI (520 * sl))) (qF s) := hF.mv (fun a h1 h2 => a1 a (by omega)) (by rw [sI_n (by decide)]; exact i1 _ _ (by decide))
  have iC : sI I1 1681 35 (nI (520 * sl)) 1681 30 = qC s := by rw [sI_n (by decide)]; exact hR.2.2.1.2.2.2.2.2.2.2.1
  have ij : ∀ j, j ≠ 35 → sI I1 1681 35 (nI (520 * sl)) 1681 j = I1 1681 j := fun j hj => sI_n (by omega)
  have fr1 : frT A I A1 I1 := ⟨fun a e => a1 a (by omega), fun a j e => i1 a j (by omega), fun j e => i1 _ j (by omega)⟩
  have hps : ps.length = (qP s).length := hR.2.2.1.1
  have h100 := ht.1.2.2.1
  have equ : eqU (zfr G bd (zre G (qF s) (zpr ord s)) (A1 1699) (sI I1 1681 35 (nI (520 * sl)) 1681 30)) (zur G bd ord s) := by
    rw [iC]
    exact zfr_T hR.2.2.1.2.2.2.2.2.2.1
  obtain ⟨um, hum⟩ : ∃ um, um = zfr G bd (zre G (qF s) (zpr ord s)) (A1 1699) (sI I1 1681 35 (nI (520 * sl)) 1681 30) := ⟨_, rfl⟩
  rw [← hum] at equ
  obtain ⟨e1, e2, e3, e4, e5⟩ := equ
  have gfr : ∀ {A' I' : HA} {T : Nat → Int32} {C X : Int32}, gmO (520 * sl) (va_up (sA A1 1688 (520 * sl + 3) (-1)) 1699 T) (sI (sI (sI I1 1681 35 (nI (520 * sl))) 1681 36 X) 1681 30 C) A' I' → frT A I A' I' := fun g => fr1.tr ⟨fun a e => by rw [g.1 a (by omega) (by omega), va_up_ne _ _ (by omega), sA_na (by omega)], fun a j e => by rw [g.2.2 a j (by omega), sI_na (by omega), sI_na (by omega), sI_na (by omega)], fun j e => by rw [g.2.2 1681 j (by omega), sI_n (by omega), sI_n (by omega), sI_n (by omega)]⟩
  refine M_goOn (sl := sl) (bd := bd) (r := zpr ord s) (u := um) s170 sI_e hmw p3 f1 g1 hbd (by rw [ij _ (by decide), i1 _ _ (by decide)]; exact hb) (by rw [ij _ (by decide), i1 _ _ (by decide)]; exact h31) p1 p2 p4 ht.2.2.1 ht.2.2.2.1 hum (fun c A2 I2 g h37 h38 h39 => ?_) (fun c A2 I2 g => ?_)
  · rw [if_pos rfl]
    rw [e2] at h37 h38 h39
    rw [e1] at c
    obtain ⟨t1, t2, t3, t4, t5, t6⟩ := ht.2.2.2.2.2.2 c
    have gm := g.2.2.2.2.2
    rw [e2, e3] at g
    rw [e4] at gm
    have hR2 := hR.run (F := (zur G bd ord s).2.2.1) gm e5
    have hcur := (cur_run (hmw.1) hmw.2.2.1 gm).1
    have hsp : spl G (zur G bd ord s).2.2.1 (zur G bd ord s).2.1 (zK G (zur G bd ord s).2.1) := spl_of hg.1 g.wf t3 g.2.2.2.2.1.2.1 (by have := g.2.2.2.2.1.2.2.1; omega) t4 t5
    have fr2 := gfr gm
    refine M_divide hR2 (hg.mv (fun a ha => fr2.1 a (by omega)) (fr2.2.2 1 (by omega))) (by omega) ?_ g.self t4 rfl hsp h37 h38 h39 t2 hcur p5 t1 t6 ht.2.2.2.2.1 (fun A3 I3 ws3 hR3 f3 fd => ?_)
    · show ((qW s).eraseIdx _).length ≤ 59
      rw [List.length_eraseIdx, if_pos (zpick_lt ht.1.1)]
      have := ht.1.2.1
      omega
    · have e : zturn G bd ord s = qSet (qRun (qTake ord s) (zur G bd ord s).2.2.1 (zur G bd ord s).2.2.2.1 (zur G bd ord s).2.2.2.2) (zspl (zpr ord s) (zur G bd ord s).2.1 (zchk (zur G bd ord s).2.2.1 (zK G (zur G bd ord s).2.1) (zur G bd ord s).2.1) (qG s + 1) (zsi (zK G (zur G bd ord s).2.1) (zur G bd ord s).2.1).1 (qGet (qTake ord s))) (qG s + 1) := by unfold zturn zst; rw [if_pos c]
      refine k A3 I3 ps ws3 ?_ f3 (fr2.tr ⟨fun a ea => fd.1 a (by omega), fun a j ea => fd.2 a j (by omega), fun j ea => fd.2 _ j (by omega)⟩)
      rw [e]
      exact hR3
  · rw [if_neg (show ¬ nI 1 = nI 2 by decide)]
    rw [e1] at c
    have gm := g.2.2.2
    have gF := g.2.2.1
    have ge := g.2.1
    rw [e4] at gm
    rw [e3] at gF
    rw [e2] at ge
    have hR2 := hR.run (F := (zur G bd ord s).2.2.1) gm e5
    obtain ⟨hcur, h3, h4⟩ := cur_run (hmw.1) hmw.2.2.1 gm
    have fr2 := gfr gm
    obtain ⟨hown, htk, ⟨n1, n2, n3, n4, n5, n6, n7, n8, n9, n10, n11, n12, n13⟩, hPs, hWs⟩ := hR2
    rw [n5, vpT (n := ps.length) (by omega) (by decide), nI_clamp (n := ps.length) (by omega), nI_add]
    refine ⟨trivial, ?_⟩
    have e : zturn G bd ord s = qEnd (qRun (qTake ord s) (zur G bd ord s).2.2.1 (zur G bd ord s).2.2.2.1 (zur G bd ord s).2.2.2.2) ((zur G bd ord s).2.1, (zpr ord s).2.1, (zpr ord s).2.2.1, none, (zpr ord s).2.2.2.2) := by unfold zturn zst; rw [if_neg c]
    have off : ∀ m, offM A2 (sA A2 1696 ps.length (nI sl)) m := fun m => ⟨fun j hj => by rw [sA_na (by decide)], fun j hj => by rw [sA_na (by decide)]⟩
    have hmp : mp A2 sl ((zur G bd ord s).2.1, (zpr ord s).2.1, (zpr ord s).2.2.1, none, (zpr ord s).2.2.2.2) := ⟨p5, ⟨hcur.1, hcur.2.1, hcur.2.2, h3, h4⟩, ⟨ge.2.1, ge.2.2.1, ge.2.2.2.1, ge.2.2.2.2.1, ge.2.2.2.2.2⟩⟩
    refine k _ _ (ps ++ [sl]) (ws.eraseIdx (zpick ord (qW s) (qT s) (qZ s))) ?_ (gF.mv (fun a h1 h2 => by rw [sA_na (by omega)]) (by rw [sI_n (by decide)])) (fr2.tr ⟨fun a ea => by rw [sA_na (by omega)], fun a j ea => by rw [sI_na (by omega)], fun j ea => by rw [sI_n (by omega)]⟩)
    rw [e]
    refine ⟨hown.pth, fun x hx => by rw [mem_pth, sA_na (by decide)]; exact htk x hx, ⟨?_, n2, rowA.app (f := A2 1696) n3, by rw [sA_na (by decide)]; exact n4, by rw [sI_e, List.length_append]; rfl, by rw [sI_n (by decide)]; exact n6, by rw [sA_na (by decide)]; exact n7, by rw [sI_n (by decide)]; exact n8, by rw [sI_n (by decide)]; exact n9, by rw [sI_n (by decide)]; exact n10, by rw [sI_n (by decide)]; exact n11, by rw [sA_na (by decide), sA_na (by decide)]; exact n12, by rw [sI_n (by decide)]; exact n13⟩, ?_, hWs.off (fun s r => mw.off) (fun m _ => off m)⟩
    · show (ps ++ [sl]).length = (qP s ++ [_]).length
      rw [List.length_append, List.length_append, hps]; rfl
    · exact wsM.app (hPs.off (fun s r => mp.off) (fun m _ => off m)) n1 (hmp.off (off sl))
theorem M_goTill {Q : HA → HA → Prop} {Inv : zS → Prop} {bd ord most n : Nat} {ps ws : List Nat} {s : zS} (h : RMl A I [] ps ws s) (hg : gRM A I G) (hF : zFM A I (qF s)) (hbd : bd ≤ 200) (hb : I 1681 18 = nI bd) (ho : ord ≤ 3) (h17 : I 1681 17 = nI ord) (hm : most ≤ 100) (hk : tki G bd ord Inv) (hi : Inv s) (hn : 40000 < (qP s).length + qG s + n)
    (k : ∀ A2 I2 ps' ws', RMl A2 I2 [] ps' ws' (zlp G bd ord most n s) → zFM A2 I2 (qF (zlp G bd ord most n s)) → frM A I A2 I2 → I2 1681 31 = nI 0 → I2 1681 24 = nI (qP (zlp G bd ord most n s)).length → Q A2 I2) : D159_goTill (nI most) A I Q := by
  unfold D159_goTill
  intro P hP
  have fin : ∀ {A1 I1 : HA} {ps ws : List Nat} {s : zS}, RMl A1 I1 [] ps ws s → RMl A1 (sI I1 1681 31 (nI 0)) [] ps ws s := by
    intro A1 I1 ps ws s ⟨hown, htk, ⟨n1, n2, n3, n4, n5, n6, n7, n8, n9, n10, n11, n12, n13⟩, hPs, hWs⟩
    exact ⟨hown, htk, ⟨n1, n2, n3, n4, by rw [sI_n (by decide)]; exact n5, by rw [sI_n (by decide)]; exact n6, n7, by rw [sI_n (by decide)]; exact n8, by rw [sI_n (by decide)]; exact n9, by rw [sI_n (by decide)]; exact n10, by rw [sI_n (by decide)]; exact n11, n12, by rw [sI_n (by decide)]; exact n13⟩, hPs, hWs⟩
  have key : ∀ (n : Nat) (A1 I1 : HA) (ps ws : List Nat) (s : zS), RMl A1 I1 [] ps ws s → zFM A1 I1 (qF s) → Inv s → frT A (sI I 1681 31 (nI 1)) A1 I1 → 40000 < (qP s).length + qG s + n →
      (∀ A2 I2 ps' ws', RMl A2 I2 [] ps' ws' (zlp G bd ord most n s) → zFM A2 I2 (qF (zlp G bd ord most n s)) → frM A I A2 I2 → I2 1681 31 = nI 0 → I2 1681 24 = nI (qP (zlp G bd ord most n s)).length → Q A2 I2) → P A1 I1 := by
    intro n
    induction n with
    | zero => intro A1 I1 ps ws s _ _ hi _ hn; have := (hk.2 s hi).1; omega
    | succ n ih =>
      intro A1 I1 ps ws s h hF hi fr hn k
      have h4 := hk.2 s hi
      have n5 := h.2.2.1.2.2.2.2.1
      have n6 := h.2.2.1.2.2.2.2.2.1
      have n1 : ps.length = (qP s).length := h.2.2.1.1
      have n2 : ws.length = (qW s).length := h.2.2.1.2.1
      have f0 : ∀ j, j = 0 ∨ j = 1 ∨ j = 16 ∨ j = 17 ∨ j = 18 → I1 1681 j = I 1681 j := fun j hj => by rw [fr.2.2 j (by omega), sI_n (by omega)]
      have e : zlp G bd ord most (n + 1) s = if (qP s).length < most ∧ 0 < (qW s).length then zlp G bd ord most n (zturn G bd ord s) else s := rfl
      have stop : ¬ ((qP s).length < most ∧ 0 < (qW s).length) → Q A1 (sI I1 1681 31 (nI 0)) := fun c => by
        rw [e, if_neg c] at k
        exact k _ _ ps ws (fin h) (hF.mv (fun _ _ _ => rfl) (by rw [sI_n (by decide)])) ⟨fr.1, fun a j ea => by rw [sI_na ea, fr.2.1 a j ea, sI_na ea], fun j ej => by rw [sI_n (by omega)]; exact f0 j ej⟩ sI_e (by rw [sI_n (by decide), n5, n1])
      refine hP _ _ ?_
      rw [n6, n2, n5, n1, iLt (by omega) (by omega)]
      by_cases c2 : 0 < (qW s).length
      · rw [if_pos (show (0 : Int32) < nI (qW s).length from (nI_ltI (a := 0) (by decide) (by omega)).mpr c2)]
        by_cases c1 : (qP s).length < most
        · rw [if_pos c1]
          rw [e, if_pos ⟨c1, c2⟩] at k
          obtain ⟨t1, t2⟩ := hk.1 s hi (by omega) c2
          have mu := zturn_mu (G := G) (bd := bd) (ord := ord) (s := s)
          have tb : MB P A1 I1 := M_turn h (hg.mv (fun a ha => fr.1 a (by omega)) (f0 1 (by omega))) hF hbd (by rw [f0 18 (by omega)]; exact hb) ho (by rw [f0 17 (by omega)]; exact h17) (by rw [fr.2.2 31 (by omega), sI_e]) t1 (fun A2 I2 ps' ws' h2 f2 fr2 => ih A2 I2 ps' ws' _ h2 f2 t2 (fr.tr fr2) (by omega) k)
          exact tb
        · rw [if_neg c1]
          exact stop (fun z => c1 z.1)
      · rw [if_neg (show ¬ (0 : Int32) < nI (qW s).length from fun z => c2 ((nI_ltI (a := 0) (by decide) (by omega)).mp z))]
        exact stop (fun z => c2 z.2)
  have fin1 : RMl A (sI I 1681 31 (nI 1)) [] ps ws s := by
    obtain ⟨hown, htk, ⟨n1, n2, n3, n4, n5, n6, n7, n8, n9, n10, n11, n12, n13⟩, hPs, hWs⟩ := h
    exact ⟨hown, htk, ⟨n1, n2, n3, n4, by rw [sI_n (by decide)]; exact n5, by rw [sI_n (by decide)]; exact n6, n7, by rw [sI_n (by decide)]; exact n8, by rw [sI_n (by decide)]; exact n9, by rw [sI_n (by decide)]; exact n10, by rw [sI_n (by decide)]; exact n11, n12, by rw [sI_n (by decide)]; exact n13⟩, hPs, hWs⟩
  exact key n A _ ps ws s fin1 (hF.mv (fun _ _ _ => rfl) (by rw [sI_n (by decide)])) hi frT.rf hn k
end MU
