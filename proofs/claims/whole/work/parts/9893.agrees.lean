/-! AGREES: the class's own check comes out true -/
theorem sm_two {f : zR → Nat} : ∀ (l : List zR) (m p : Nat), m < p → p < l.length → f (l.getD m z0R) + f (l.getD p z0R) ≤ sm f l
  | [], m, p, _, h => absurd h (Nat.not_lt_zero p)
  | r :: l, m, 0, h, _ => absurd h (Nat.not_lt_zero m)
  | r :: l, 0, p + 1, _, h => by
    have h : p + 1 < l.length + 1 := h
    have := sm_mem (f := f) l (gD_mem (l := l) (a := p) (by omega))
    show f r + f (l.getD p z0R) ≤ f r + sm f l
    omega
  | r :: l, m + 1, p + 1, h1, h => by
    have h : p + 1 < l.length + 1 := h
    have := sm_two (f := f) l m p (by omega) (by omega)
    show f (l.getD m z0R) + f (l.getD p z0R) ≤ f r + sm f l
    omega
def agH (A I A' I' : HA) : Prop := (∀ a, ¬ (5 ≤ a ∧ a ≤ 13) → a ≠ 17 → ¬ (33 ≤ a ∧ a ≤ 36) → A' a = A a) ∧ ∀ a j, a ≠ 4 → ¬ (a = 32 ∧ j = 4) → I' a j = I a j
def agF (A I A' I' : HA) : Prop := (∀ a, ¬ (5 ≤ a ∧ a ≤ 13) → ¬ (15 ≤ a ∧ a ≤ 17) → a ≠ 19 → ¬ (33 ≤ a ∧ a ≤ 36) → A' a = A a) ∧ ∀ a j, a ≠ 4 → ¬ (a = 14 ∧ j = 3) → ¬ (a = 32 ∧ j = 4) → I' a j = I a j
/-- the tokens of what a path returned lie in the class's row -/
def agT (A I : HA) (F : zF) (S : zW) : Prop := zo S = nI 1 → ∃ j, j < F.1 ∧ zr S = nI j ∧ I 14 3 = nI (tks F j).length ∧ ∀ i, i < (tks F j).length → A 15 i = (tks F j).getD i 0
section AG
variable {A I : HA} {G : zG} {F : zF} {q bd : Nat} {r : zR}
theorem endC.mv {A' I' : HA} {w : Nat} {S : zW} (h : endC A I w S) (e : ∀ j, I' w j = I w j) : endC A' I' w S := by
  unfold endC
  rw [e, e, e, e, e]
  exact h
theorem C_holds {Q : Int32 → HA → HA → Prop} {i k : Nat} (hi : i < 161) (hg : gRC A I G) (hF : zFC A I F) (hw : zfw F) (hN : F.1 < 32258) (hq : q < 6) (hbd : bd ≤ 200) (e14 : I 20 14 = nI q) (e15 : I 20 15 = nI bd) (he : endC A I (71 + 10 * i) r.1) (hk : k < 1024)
    (hs : zo r.1 = nI 7 ∨ ∃ P, (∀ F0, zrp G bd 201 (zp0 q k) F0 = P) ∧ esim F (xk k) (yk k) r.1 P) (ht : agT A I F r.1) (kk : ∀ A' I', agH A I A' I' → zFC A' I' F → Q (nI 1) A' I') : D21_inputHolds (71 + 10 * i) (nI k) A I Q := by
  unfold D21_inputHolds
  rw [he.2.1]
  by_cases c7 : zo r.1 = nI 7
  · rw [if_pos c7]
    exact kk A I ⟨fun _ _ _ _ => rfl, fun _ _ _ _ => rfl⟩ hF
  rw [if_neg c7]
  obtain ⟨P, eP, s1, s2, s3, s4, s5⟩ := hs.resolve_left c7
  have m32 : k % 32 < 32 := Nat.mod_lt _ (by decide)
  unfold D39_xOf D40_yOf
  rw [nI_rem (by omega) (by decide) (by decide), nI_div (by omega) (by decide) (by decide)]
  show D71_runPlain 4 (I 20 14) (xk k) (yk k) (I 20 15) A I _
  rw [e14, e15]
  unfold D71_runPlain D27_number
  rw [subE, subE, ← xk_e, ← yk_e, Int32.sub_add_cancel, Int32.sub_add_cancel]
  refine C_begin isW4 hq hF (fun A1 I1 h1 => ?_)
  have g4 : gRC (sF A (4 + 9) (-1) 32) (sI (sI (sI I 4 9 (nI 0)) 4 16 (-1)) 4 17 (nI 0)) G := by
    unfold gRC at hg ⊢
    rw [sF_n (by decide), sF_n (by decide), sF_n (by decide), sF_n (by decide), sF_n (by decide), sF_n (by decide), sF_n (by decide), sF_n (by decide), sF_n (by decide), sF_n (by decide), sF_n (by decide), sI_na (by decide), sI_na (by decide), sI_na (by decide)]
    exact hg
  refine C_runP g4 hbd h1 hw.fok (zbeg_nm (by omega) (by omega)) rfl (Nat.zero_le _) (n := 201) (by show bd < 0 + 201; omega) hN (fun A2 I2 h2 => ?_)
  have h2 : GC 4 (sF A (4 + 9) (-1) 32) (sI (sI (sI I 4 9 (nI 0)) 4 16 (-1)) 4 17 (nI 0)) A2 I2 (zrp G bd 201 (zp0 q k) F) F := h2
  rw [eP F] at h2
  have o2 : ∀ a, ¬ (5 ≤ a ∧ a ≤ 13) → ¬ (33 ≤ a ∧ a ≤ 36) → A2 a = A a := fun a n1 n2 => by rw [h2.2.2.2.2.1 a (by omega) n2, sF_n (by omega)]
  have oi : ∀ a j, a ≠ 4 → ¬ (a = 32 ∧ j = 4) → I2 a j = I a j := fun a j n1 n2 => by rw [h2.2.2.2.2.2 a j (by omega) n2, sI_na n1, sI_na n1, sI_na n1]
  obtain ⟨-, -, c11, c12, c13, c14, c15, -, -⟩ := h2.2.2.1
  have he2 : endC A2 I2 (71 + 10 * i) r.1 := he.mv (fun j => oi _ j (by omega) (by omega))
  obtain ⟨d11, d12, d13, d14, d15⟩ := he2
  have hF2 := h2.2.2.2.1
  show if I2 4 12 = I2 (71 + 10 * i) 12 then _ else _
  rw [c12, d12, if_pos s2, c13, d13, if_pos s3, c14, d14, if_pos s4, c11, d11, if_pos (by rw [s1])]
  by_cases c1 : zo r.1 = nI 1
  · rw [if_pos c1]
    obtain ⟨j, hj, ej, t3, t15⟩ := ht c1
    obtain ⟨j', i', v1, v2, v3, v4, v5⟩ := (s5 c1).pos (by rw [ej]; exact nI_pos (by omega))
    have : j' = j := (nI_eq (by omega) (by omega)).mp (v2.symm.trans ej)
    subst this
    unfold D26_numberIn
    rw [addE, c15, v4]
    refine C_wordFor (t := 14) (j := j') hw (by omega) hj (by rw [oi 14 3 (by decide) (by decide)]; exact t3) (fun i hi => by rw [o2 15 (by omega) (by omega)]; exact t15 i hi) (fun v e A3 h3 => ?_) (fun e => by
      have e : evs F (xk k) (yk k) j' = none := e
      rw [v5] at e; cases e)
    have e : evs F (xk k) (yk k) j' = some v := e
    rw [v5] at e
    rw [if_pos (Option.some.inj e)]
    exact kk _ _ ⟨fun a n1 n2 n3 => by rw [h3 a n2, o2 a n1 n3], oi⟩ (hF2.mv (fun a a1 a2 => h3 a (by omega)) rfl)
  · rw [if_neg c1]
    exact kk _ _ ⟨fun a n1 n2 n3 => o2 a n1 n3, oi⟩ hF2
end AG
theorem gRC.mvA {A I A' I' : HA} {G : zG} (h : gRC A I G) (f : agF A I A' I') : gRC A' I' G := by
  unfold gRC at h ⊢
  rw [f.1 1 (by decide) (by decide) (by decide) (by decide), f.1 2 (by decide) (by decide) (by decide) (by decide), f.1 23 (by decide) (by decide) (by decide) (by decide), f.1 24 (by decide) (by decide) (by decide) (by decide), f.1 25 (by decide) (by decide) (by decide) (by decide), f.1 26 (by decide) (by decide) (by decide) (by decide), f.1 27 (by decide) (by decide) (by decide) (by decide), f.1 28 (by decide) (by decide) (by decide) (by decide), f.1 29 (by decide) (by decide) (by decide) (by decide), f.1 30 (by decide) (by decide) (by decide) (by decide), f.1 31 (by decide) (by decide) (by decide) (by decide), f.2 22 0 (by decide) (by decide) (by decide)]
  exact h
section AL
variable {A I : HA} {G : zG} {s : zS} {q bd : Nat} {ps ws sp : List Nat}
/-- which inputs are seen: those of the paths before -/
def agS (A : HA) (s : zS) (p : Nat) : Prop := ∀ k, k < 1024 → inA A 19 k = true → ∃ m, m < p ∧ (((qP s).getD m z0R).2.2.1 k).isNone = true
theorem C_agLoop {Q0 : Int32 → HA → HA → Prop} {K : HA → HA → Prop} {i p : Nat} {A1 I1 : HA} (hg : gRC A I G) (hR : RCl A I [] ps ws sp s) (hz : zInv G q bd s) (hbd : bd ≤ 200) (hq : q < 6) (e14 : I 20 14 = nI q) (e15 : I 20 15 = nI bd) (hp : p < (qP s).length) (hi : i < 161) (hc : cw A I i ((qP s).getD p z0R))
    (f1 : agF A I A1 I1) (hF1 : zFC A1 I1 (qF s)) (ht1 : agT A1 I1 (qF s) ((qP s).getD p z0R).1) (hs1 : agS A1 s p) (kk : ∀ A2 I2, agF A I A2 I2 → zFC A2 I2 (qF s) → agS A2 s (p + 1) → K A2 I2) :
    (∀ P26 : Int32 → HA → HA → Prop, (∀ (a27 : Int32) (A28 I29 : HA), (if a27 < (nI 1024) then D38_has (71 + 10 * i + 8) a27 A28 I29 (fun v31 => if v31 = 0 then P26 (a27 + nI 1) A28 I29 else D38_has 18 a27 A28 I29 (fun v32 => if v32 = 0 then D21_inputHolds (71 + 10 * i) a27 A28 I29 (fun v33 A34 I35 => if v33 = 0 then Q0 (nI 0) A34 I35 else D41_add 18 a27 A34 I35 (fun A36 I37 => P26 (a27 + nI 1) A36 I37)) else Q0 (nI 0) A28 I29)) else K A28 I29) → P26 a27 A28 I29) → P26 (nI 0) A1 I1) := by
  intro P hP
  have hN := hz.N hbd
  have hdis := hz.2.2.2.2.2.2.2.2.2
  have hmem := gD_mem (l := qP s) hp
  obtain ⟨pi, pthS⟩ := hz.2.2.2.2.1 _ hmem
  have two := fun k m (h : m < p) => sm_two (f := fi k) (qP s) m p h hp
  generalize hr : (qP s).getD p z0R = r at *
  have he : endC A I (71 + 10 * i) r.1 := ⟨hc.2.2.2.1, hc.2.2.2.2.1, hc.2.2.2.2.2.1, hc.2.2.2.2.2.2.1, hc.2.2.2.2.2.2.2.1⟩
  have key : ∀ d k A1 I1, d + k = 1024 → agF A I A1 I1 → zFC A1 I1 (qF s) → agT A1 I1 (qF s) r.1 → (∀ k', k' < 1024 → inA A1 19 k' = true → (∃ m, m < p ∧ (((qP s).getD m z0R).2.2.1 k').isNone = true) ∨ k' < k ∧ (r.2.2.1 k').isNone = true) → P (nI k) A1 I1 := by
    intro d
    induction d with
    | zero =>
      intro k A1 I1 hk f hF ht hs
      refine hP _ _ _ ?_
      rw [iLt (by omega) (by decide), if_neg (by omega)]
      refine kk _ _ f hF (fun k' hk' e => ?_)
      rcases hs k' hk' e with ⟨m, h1, h2⟩ | ⟨-, h2⟩
      · exact ⟨m, by omega, h2⟩
      · exact ⟨p, Nat.lt_succ_self p, by rw [hr]; exact h2⟩
    | succ d ih =>
      intro k A1 I1 hk f hF ht hs
      have k1024 : k < 1024 := by omega
      refine hP _ _ _ ?_
      rw [iLt (by omega) (by decide), if_pos k1024]
      have i10 : inA A1 (71 + 10 * i + 8 + 1) k = (r.2.2.1 k).isNone := by
        rw [← hc.1.2.2.1 k k1024]
        unfold inA
        rw [f.1 _ (by omega) (by omega) (by omega) (by omega)]
      refine C_has k1024 (fun h1 => ?_) (fun h0 => ?_)
      · rw [i1]
        have hin : (r.2.2.1 k).isNone = true := i10.symm.trans h1
        refine C_has k1024 (fun g1 => ?_) (fun g0 => ?_)
        · exfalso
          rcases hs k k1024 g1 with ⟨m, m1, m2⟩ | ⟨m1, -⟩
          · have t2 := two k m m1
            have t1 := hdis k k1024
            have e1 : fi k ((qP s).getD m z0R) = 1 := by unfold fi; rw [if_pos m2]
            have e2 : fi k r = 1 := by unfold fi; rw [if_pos hin]
            omega
          · omega
        · rw [i0]
          refine C_holds (q := q) (bd := bd) (F := qF s) (r := r) hi (hg.mvA f) hF hz.1.1 (by omega) hq hbd (by rw [f.2 20 14 (by omega) (by omega) (by omega)]; exact e14) (by rw [f.2 20 15 (by omega) (by omega) (by omega)]; exact e15) (he.mv (fun j => f.2 _ j (by omega) (by omega) (by omega))) k1024 (pthS k k1024 hin) ht (fun A2 I2 h2 hF2 => ?_)
          rw [i1]
          refine C_addI k1024 (fun A3 h3 h3i => ?_)
          rw [nI_add]
          refine ih (k + 1) A3 I2 (by omega) ⟨fun a n1 n2 n3 n4 => by rw [h3 a n3, h2.1 a n1 (by omega) n4, f.1 a n1 n2 n3 n4], fun a j n1 n2 n3 => by rw [h2.2 a j n1 n3, f.2 a j n1 n2 n3]⟩ (hF2.mv (fun a a1 a2 => h3 a (by omega)) rfl) (fun z => ?_) (fun k' hk' e => ?_)
          · obtain ⟨j, t1, t2, t3, t4⟩ := ht z
            exact ⟨j, t1, t2, by rw [h2.2 14 3 (by decide) (by decide)]; exact t3, fun i hi => by rw [h3 15 (by decide), h2.1 15 (by decide) (by decide) (by decide)]; exact t4 i hi⟩
          · rw [h3i k' hk'] at e
            have e2 : inA A2 19 k' = inA A1 19 k' := by unfold inA; rw [h2.1 19 (by decide) (by decide) (by decide)]
            have e2' : inA A2 (18 + 1) k' = inA A1 19 k' := e2
            rw [e2'] at e
            by_cases ek : k' = k
            · rw [ek]; exact Or.inr ⟨by omega, hin⟩
            · have : inA A1 19 k' = true := by simpa [ek] using e
              exact (hs k' hk' this).imp id (fun z => ⟨by omega, z.2⟩)
      · rw [i0, nI_add]
        exact ih (k + 1) A1 I1 (by omega) f hF ht (fun k' hk' e => (hs k' hk' e).imp id (fun z => ⟨by omega, z.2⟩))
  exact key 1024 0 A1 I1 rfl f1 hF1 ht1 (fun k' hk' e => Or.inl (hs1 k' hk' e))
end AL
section AB
variable {A I : HA} {G : zG} {s : zS} {q bd ord : Nat}
theorem agrees_both (h : srch I) (hC : gRC A I G) (hJ : SJ G A I q bd ord s) : D20_agrees A I (fun r A1 I1 => A1 0 = A 0 ∧ D208_agrees A1 I1 (fun r2 => r2 = r ∧ agF A I A1 I1 ∧ zFC A1 I1 (qF s))) := by
  obtain ⟨⟨hq, bd2, ord2⟩, ⟨e14, e15, e16, e18, e17⟩, ⟨ps, ws, sp, hR⟩, -, hF, -, hz⟩ := hJ
  have c7 : I 20 7 = nI (qP s).length := by rw [hR.2.2.1.2.2.2.2.2.1, hR.2.2.1.1]
  have hp := hz.2.1.1
  have hN := hz.N bd2
  have f0 : agF A I (sF A 19 (nI 0) 32) I := ⟨fun a _ _ n3 _ => sF_n n3, fun _ _ _ _ _ => rfl⟩
  unfold D20_agrees
  refine srch_c h ?_
  unfold D37_clear
  intro P hP
  have key : ∀ d p A1 I1, d + p = (qP s).length → agF A I A1 I1 → zFC A1 I1 (qF s) → agS A1 s p → P (nI p) A1 I1 := by
    intro d
    induction d with
    | zero =>
      intro p A1 I1 hp f hF1 hs
      refine hP _ _ _ ?_
      rw [f.2 20 7 (by decide) (by decide) (by decide), c7, iLt (by omega) (by omega), if_neg (by omega)]
      refine ⟨f.1 0 (by decide) (by decide) (by decide) (by decide), ?_⟩
      unfold D208_agrees
      rw [f.2 1681 16 (by decide) (by decide) (by decide), h.2]
      exact ⟨rfl, rfl, f, hF1⟩
    | succ d ih =>
      intro p A1 I1 hpd f hF1 hs
      have hpl : p < (qP s).length := by omega
      have n1 := hR.2.2.1.1
      have hpr : (qP s)[p]? = some ((qP s).getD p z0R) := by rw [List.getD_eq_getElem?_getD, List.getElem?_eq_getElem hpl]; rfl
      obtain ⟨i, ei⟩ : ∃ i, ps[p]? = some i := ⟨_, List.getElem?_eq_getElem (by omega)⟩
      have hi : i < 161 := hR.1.2 i (by simp [List.mem_of_getElem? ei])
      have hc := hR.2.2.2.1 p i _ ei hpr
      have e41 : A1 41 p = nI i := by rw [f.1 41 (by decide) (by decide) (by decide) (by decide)]; exact hR.2.2.1.2.2.1 p i ei
      have pi := (hz.2.2.2.2.1 _ (gD_mem (l := qP s) hpl)).1
      refine hP _ _ _ ?_
      rw [f.2 20 7 (by decide) (by decide) (by decide), c7, iLt (by omega) (by omega), if_pos hpl]
      refine D_pathAt (by omega) hi e41 ⟨isW_mk hi, ?_⟩
      have w12 : I1 (71 + 10 * i) 12 = zo ((qP s).getD p z0R).1 := by rw [f.2 _ 12 (by omega) (by omega) (by omega)]; exact hc.2.2.2.2.1
      have w15 : I1 (71 + 10 * i) 15 = zr ((qP s).getD p z0R).1 := by rw [f.2 _ 15 (by omega) (by omega) (by omega)]; exact hc.2.2.2.2.2.2.2.1
      have nx : ∀ A2 I2, agF A I A2 I2 → zFC A2 I2 (qF s) → agS A2 s (p + 1) → P (nI p + nI 1) A2 I2 := fun A2 I2 g1 g2 g3 => by
        rw [nI_add]; exact ih (p + 1) A2 I2 (by omega) g1 g2 g3
      rw [w12, w15]
      by_cases c1 : zo ((qP s).getD p z0R).1 = nI 1
      · rw [if_pos c1]
        obtain ⟨j, hj, ej⟩ := pi.2.2.2.1 c1
        rw [ej]
        refine C_write (Or.inl rfl) hF1 hz.1.1 hj (fun A2 h2 t2 => ?_)
        refine C_agLoop (Q0 := fun r A1 I1 => A1 0 = A 0 ∧ D208_agrees A1 I1 (fun r2 => r2 = r ∧ agF A I A1 I1 ∧ zFC A1 I1 (qF s))) (K := fun A2 I2 => P (nI p + nI 1) A2 I2) (i := i) (p := p) hC hR hz bd2 hq e14 e15 hpl hi hc ⟨fun a n1 n2 n3 n4 => by rw [h2 a (by omega) (by omega), f.1 a n1 n2 n3 n4], fun a j n1 n2 n3 => by rw [sI_n (by omega), f.2 a j n1 n2 n3]⟩ (hF1.mv (fun a a1 a2 => h2 a (by omega) (by omega)) (by rw [sI_na (by decide)])) (fun _ => ⟨j, hj, ej, sI_e, t2⟩) (fun k hk e => hs k hk (by
          have : inA A1 19 k = inA A2 19 k := by unfold inA; rw [h2 19 (by omega) (by omega)]
          rw [this]; exact e)) nx
      · rw [if_neg c1]
        exact C_agLoop (Q0 := fun r A1 I1 => A1 0 = A 0 ∧ D208_agrees A1 I1 (fun r2 => r2 = r ∧ agF A I A1 I1 ∧ zFC A1 I1 (qF s))) (K := fun A2 I2 => P (nI p + nI 1) A2 I2) (i := i) (p := p) hC hR hz bd2 hq e14 e15 hpl hi hc f hF1 (fun z => absurd z c1) hs nx
  refine key _ 0 _ _ rfl f0 (hF.mv (fun a a1 a2 => sF_n (by omega)) rfl) (fun k hk e => ?_)
  exfalso
  unfold inA at e
  rw [sF_at, if_pos (by omega)] at e
  have : (nI 0).toBitVec.toNat = 0 := rfl
  rw [this] at e
  simp at e
theorem agrees_no (h : nsrch I) : D20_agrees A I (fun r A1 I1 => A1 0 = A 0 ∧ D208_agrees A1 I1 (fun r2 => r2 = r ∧ (A1 = A ∧ I1 = I))) := by
  unfold D20_agrees
  refine nsrch_c h ⟨rfl, ?_⟩
  unfold D208_agrees
  rw [h.2]
  exact ⟨rfl, rfl, rfl, rfl⟩
end AB
