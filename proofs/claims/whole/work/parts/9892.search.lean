/-! SEARCH AND MORE, on both sides -/
theorem zlp_I {G : zG} {bd ord most : Nat} {Inv : zS → Prop} (hk : tki G bd ord Inv) (hm : most ≤ 100) : ∀ (n : Nat) (s : zS), Inv s → Inv (zlp G bd ord most n s)
  | 0, s, h => h
  | n + 1, s, h => by
    show Inv (if (qP s).length < most ∧ 0 < (qW s).length then zlp G bd ord most n (zturn G bd ord s) else s)
    by_cases c : (qP s).length < most ∧ 0 < (qW s).length
    · rw [if_pos c]; exact zlp_I hk hm n _ (hk.1 s h (by omega) c.2).2
    · rw [if_neg c]; exact h
section SJs
variable {A I A' I' : HA} {G : zG} {s : zS} {ps ws sp cur : List Nat}
theorem RCl.mv (h : RCl A I cur ps ws sp s) (hA : ∀ a, a = 38 ∨ 40 ≤ a ∧ a ≤ 43 ∨ 71 ≤ a ∧ a < 1681 → A' a = A a) (hI : ∀ a j, a = 20 ∧ j ≠ 1 ∨ a = 39 ∨ 71 ≤ a ∧ a < 1681 → I' a j = I a j) : RCl A' I' cur ps ws sp s := by
  obtain ⟨hown, hlen, ⟨n1, n2, n3, n4, n5, n6, n7, n8, n9, n10, n11, n12, n13, n14, n15⟩, hPs, hWs⟩ := h
  have off : ∀ m, m ∈ cur ++ (ps ++ (ws ++ sp)) → offW A I A' I' m := fun m hm => by
    have := hown.2 m hm
    exact ⟨fun a a1 a2 => hA a (by omega), fun j => hI _ j (by omega)⟩
  exact ⟨hown, hlen, ⟨n1, n2, by rw [hA 41 (by omega)]; exact n3, by rw [hA 40 (by omega)]; exact n4, by rw [hA 38 (by omega)]; exact n5, by rw [hI 20 _ (by omega)]; exact n6, by rw [hI 39 _ (by omega)]; exact n7, by rw [hI 20 _ (by omega)]; exact n8, by rw [hA 42 (by omega)]; exact n9, by rw [hI 20 _ (by omega)]; exact n10, by rw [hI 39 _ (by omega)]; exact n11, by rw [hI 20 _ (by omega)]; exact n12, by rw [hI 20 _ (by omega)]; exact n13, by rw [hA 43 (by omega)]; exact n14, by rw [hI 20 _ (by omega)]; exact n15⟩, hPs.off (fun m hm => off m (by simp [hm])), hWs.off (fun m hm => off m (by simp [hm]))⟩
theorem RMl.mv (h : RMl A I cur ps ws s) (hA : ∀ a, a = 1689 ∨ a = 1690 ∨ 1695 ≤ a ∧ a ≤ 1699 → A' a = A a) (hB : ∀ m, m < 170 → ¬ A 1690 m = 0 → ∀ j, j < 520 → A' 1688 (520 * m + j) = A 1688 (520 * m + j)) (hI : ∀ j, j = 19 ∨ j = 21 ∨ j = 22 ∨ j = 24 ∨ j = 25 ∨ j = 26 ∨ j = 30 → I' 1681 j = I 1681 j) : RMl A' I' cur ps ws s := by
  obtain ⟨hown, htk, ⟨n1, n2, n3, n4, n5, n6, n7, n8, n9, n10, n11, n12, n13⟩, hPs, hWs⟩ := h
  have off : ∀ m, m ∈ cur ++ (ps ++ (ws ++ [])) → offM A A' m := fun m hm => by
    have h170 := hown.2 m hm
    exact ⟨fun j hj => hB m h170 ((htk m h170).1 hm) j hj, fun k hk => by rw [hA 1689 (by omega)]⟩
  exact ⟨hown, fun x hx => by rw [hA 1690 (by omega)]; exact htk x hx, ⟨n1, n2, by rw [hA 1696 (by omega)]; exact n3, by rw [hA 1695 (by omega)]; exact n4, by rw [hI _ (by omega)]; exact n5, by rw [hI _ (by omega)]; exact n6, by rw [hA 1699 (by omega)]; exact n7, by rw [hI _ (by omega)]; exact n8, by rw [hI _ (by omega)]; exact n9, by rw [hI _ (by omega)]; exact n10, by rw [hI _ (by omega)]; exact n11, by rw [hA 1697 (by omega), hA 1698 (by omega)]; exact n12, by rw [hI _ (by omega)]; exact n13⟩, hPs.off (fun s r h o => h.off o) (fun m hm => off m (by simp [hm])), hWs.off (fun s r h o => h.off o) (fun m hm => off m (by simp [hm]))⟩
theorem gRM.mv2 (h : gRM A I G) (hA : ∀ a, 1681 ≤ a → a < 1688 → A' a = A a) (hI : I' 1681 1 = I 1681 1) : gRM A' I' G := by
  unfold gRM at h ⊢
  rw [hA _ (by decide) (by decide), hA _ (by decide) (by decide), hA _ (by decide) (by decide), hA _ (by decide) (by decide), hA _ (by decide) (by decide), hA _ (by decide) (by decide), hI]
  exact h
theorem RMl.T0 {q : Nat} {T T2 : Nat → Int32} {sd : Int32} (h : RMl A I cur ps ws (zs0 q T sd)) (e : ∀ i, i < 240 → T i = T2 i) : RMl A I cur ps ws (zs0 q T2 sd) := by
  obtain ⟨hown, htk, ⟨n1, n2, n3, n4, n5, n6, n7, n8⟩, hPs, hWs⟩ := h
  exact ⟨hown, htk, ⟨n1, n2, n3, n4, n5, n6, fun i hi => (n7 i hi).trans (e i hi), n8⟩, hPs, hWs⟩
/-- a search, as it lies on both sides -/
def SJ (G : zG) (A I : HA) (q bd ord : Nat) (s : zS) : Prop := (q < 6 ∧ bd ≤ 200 ∧ ord ≤ 3) ∧ (I 20 14 = nI q ∧ I 20 15 = nI bd ∧ I 20 16 = nI ord ∧ I 1681 18 = nI bd ∧ I 1681 17 = nI ord) ∧ (∃ ps ws sp, RCl A I [] ps ws sp s) ∧ (∃ ps ws, RMl A I [] ps ws s) ∧ zFC A I (qF s) ∧ zFM A I (qF s) ∧ zInv G q bd s
/-- what a search leaves alone -/
def shF (A I A' I' : HA) : Prop := (∀ a, a < 33 ∨ 1681 ≤ a ∧ a < 1688 → A' a = A a) ∧ (∀ a j, a < 3 ∨ 20 < a ∧ a < 32 → I' a j = I a j) ∧ (∀ j, j = 0 ∨ j = 1 → I' 1681 j = I 1681 j) ∧ I' 20 1 = I 20 1 ∧ I' 1681 31 = nI 0 ∧ I' 3 7 = nI 1 ∧ I' 1681 16 = nI 1
/-- the reference refuses -/
theorem M_searchNo {x y z u1 : Int32} {Q : Int32 → HA → HA → Prop} (hM : gRM A I G) (hno : ¬ ((∃ q, q < G.1 ∧ x = nI q ∧ gA G q = 2) ∧ ¬ y < nI 1 ∧ ¬ nI 200 < y ∧ ¬ z < nI 0 ∧ ¬ nI 3 < z ∧ ¬ u1 < nI 1 ∧ ¬ nI 100 < u1)) (k : Q (-2) A I) : D154_search x y z u1 A I Q := by
  have hG := hM.1.1
  unfold D154_search
  rw [hM.2.1]
  refine D_inM (by omega) (fun q hq e => ?_) (fun n0 => by rw [i0]; exact k)
  subst e
  have ha := hM.1.2.1 q hq
  rw [i1, vpT (by omega) (by decide), nI_clamp (n := q) (by omega), hM.2.2.1 q hq]
  refine ⟨trivial, ?_⟩
  rw [iEq (by omega) (by decide)]
  by_cases a2 : gA G q = 2
  · rw [if_pos a2]
    refine D_isIn (fun y1 y2 => ?_) (fun _ => by rw [i0]; exact k)
    rw [i1]
    refine D_isIn (fun z1 z2 => ?_) (fun _ => by rw [i0]; exact k)
    rw [i1]
    refine D_isIn (fun u1a u1b => ?_) (fun _ => by rw [i0]; exact k)
    exact absurd ⟨⟨q, hq, rfl, a2⟩, y1, y2, z1, z2, u1a, u1b⟩ hno
  · rw [if_neg a2]; exact k
theorem nI_not {a b : Nat} (h : a ≤ b) (hb : b < 2 ^ 31) : ¬ nI b < nI a := fun z => by have := (nI_ltI hb (by omega)).mp z; omega
theorem search_both {x y z u1 : Int32} (hC : gRC A I G) (hM : gRM A I G) (hsd : I 20 1 = I 1681 0) (hsz : ∀ j, j < 258 → A 1694 j = nI 1) :
    D5_search x y z u1 A I (fun r A1 I1 => A1 0 = A 0 ∧ D154_search x y z u1 A1 I1 (fun r2 A2 I2 => r2 = r ∧ ((A2 = A ∧ I2 = I) ∨ (shF A I A2 I2 ∧ ∃ q bd ord s, SJ G A2 I2 q bd ord s)))) := by
  have hG := hC.1.1
  have no : ¬ ((∃ q, q < G.1 ∧ x = nI q ∧ gA G q = 2) ∧ ¬ y < nI 1 ∧ ¬ nI 200 < y ∧ ¬ z < nI 0 ∧ ¬ nI 3 < z ∧ ¬ u1 < nI 1 ∧ ¬ nI 100 < u1) → A 0 = A 0 ∧ D154_search x y z u1 A I (fun r2 A2 I2 => r2 = -2 ∧ ((A2 = A ∧ I2 = I) ∨ (shF A I A2 I2 ∧ ∃ q bd ord s, SJ G A2 I2 q bd ord s))) := fun h => ⟨rfl, M_searchNo hM h ⟨rfl, Or.inl ⟨rfl, rfl⟩⟩⟩
  unfold D5_search D79_canBegin
  refine D_hasM (by omega) hC.2.2.2.1 (fun q hq e => ?_) (fun n0 => ?_)
  · subst e
    rw [i1, vpT (by omega) (by decide), nI_clamp (n := q) (by omega), hC.2.2.2.2.1 q hq]
    have ha := hC.1.2.1 q hq
    refine ⟨trivial, ?_⟩
    rw [iEq (by omega) (by decide)]
    by_cases a2 : gA G q = 2
    · rw [if_pos a2]
      show if nI 1 = 0 then _ else _
      rw [i1]
      refine D_within (fun y1 y2 => ?_) (fun yb => ?_)
      · rw [i1]
        refine D_within (fun z1 z2 => ?_) (fun zb => ?_)
        · rw [i1]
          refine D_within (fun u1a u1b => ?_) (fun ub => ?_)
          · rw [i1]
            clear no
            obtain ⟨bd, bd1, bd2, rfl⟩ := rg2 y1 y2 (by decide) (by decide)
            obtain ⟨ord, -, ord2, rfl⟩ := rg2 (lo := 0) z1 z2 (by decide) (by decide)
            obtain ⟨most, m1, m2, rfl⟩ := rg2 u1a u1b (by decide) (by decide)
            refine C_beginS (bd := bd) (ord := ord) (by omega) hC (fun A1 I1 T hR hF hT fa fi e1 e14 e15 e16 => ?_)
            have hk := zInv.tki (q := q) (ord := ord) hC.1 bd2
            have hz0 : zInv G q bd (zs0 q T (I 20 1)) := zInv0 (by omega)
            have hz := zlp_I hk m2 40001 _ hz0
            have hR1 : RCl A1 (sI I1 3 7 (nI 1)) [] [] [160] (List.range 160) (zs0 q T (I 20 1)) := hR.mv (fun _ _ => rfl) (fun a j h => by rw [sI_na (by omega)])
            refine C_goOn (Inv := zInv G q bd) (bd := bd) (ord := ord) (most := most) (n := 40001) (s := zs0 q T (I 20 1)) hR1 (hC.mv (fun a h => fa a (by omega)) (by rw [sI_na (by decide)]; exact fi _ _ (by omega))) (hF.mv (fun _ _ _ => rfl) (by rw [sI_na (by decide)])) bd2 (by rw [sI_na (by decide)]; exact e15) ord2 (by rw [sI_na (by decide)]; exact e16) (by rw [if_neg (nI_not m2 (by decide))]) m2 hk hz0 (by show 40000 < 0 + 0 + 40001; decide) (fun A2 I2 ps2 ws2 sp2 hR2 hF2 fr2 => ?_)
            have gA2 : ∀ a, a < 33 ∨ 1681 ≤ a → A2 a = A a := fun a h => by rw [fr2.1 a h, fa a h]
            have gI2 : ∀ a j, a < 3 ∨ 20 < a ∧ a < 32 ∨ 1681 ≤ a → I2 a j = I a j := fun a j h => by rw [fr2.2.1 a j (by omega), sI_na (by omega), fi a j (by omega)]
            refine ⟨gA2 0 (by omega), ?_⟩
            have hM2 : gRM A2 I2 G := hM.mv2 (fun a h1 h2 => gA2 a (by omega)) (gI2 _ _ (by omega))
            unfold D154_search
            rw [hM2.2.1]
            refine D_inM (by omega) (fun q' hq' e => ?_) (fun n0 => absurd rfl (n0 q hq))
            obtain rfl := (nI_eq (by omega) (by omega)).mp e
            rw [i1, vpT (n := q) (by omega) (by decide), nI_clamp (n := q) (by omega), hM2.2.2.1 q hq]
            refine ⟨trivial, ?_⟩
            rw [iEq (by omega) (by decide), if_pos a2]
            refine D_isIn (fun _ _ => ?_) (fun z => absurd z (fun z => z.elim y1 y2))
            rw [i1]
            refine D_isIn (fun _ _ => ?_) (fun z => absurd z (fun z => z.elim z1 z2))
            rw [i1]
            refine D_isIn (fun _ _ => ?_) (fun z => absurd z (fun z => z.elim u1a u1b))
            rw [i1]
            refine M_beginS (Q := fun r2 A2 I2 => r2 = nI (qP (zlp G bd ord most 40001 (zs0 q T (I 20 1)))).length ∧ ((A2 = A ∧ I2 = I) ∨ (shF A I A2 I2 ∧ ∃ q bd ord s, SJ G A2 I2 q bd ord s))) (A := A2) (I := I2) (q := q) (bd := bd) (ord := ord) (u1 := nI most) (by omega) (fun A3 I3 T3 hR3 hF3 hT3 fr3 => ?_) (fun j hj => by rw [gA2 1694 (by omega)]; exact hsz j hj)
            rw [gI2 1681 0 (by omega), ← hsd] at hR3
            have hR3' : RMl A3 I3 [] [] [0] (zs0 q T (I 20 1)) := hR3.T0 (fun i hi => (hT3 i hi).trans (hT i hi).symm)
            have j3 : ∀ j, j = 0 ∨ j = 1 → I3 1681 j = I2 1681 j := fun j h => by rw [fr3.2.2 j (by omega), sI_n (by omega), sI_n (by omega), sI_n (by omega)]
            refine M_goTill (Inv := zInv G q bd) (bd := bd) (ord := ord) (most := most) (n := 40001) (s := zs0 q T (I 20 1)) hR3' (hM2.mv (fun a h => fr3.1 a (by omega)) (j3 1 (by omega))) hF3 bd2 (by rw [fr3.2.2 18 (by omega), sI_n (by decide), sI_e]) ord2 (by rw [fr3.2.2 17 (by omega), sI_e]) m2 hk hz0 (by show 40000 < 0 + 0 + 40001; decide) (fun A4 I4 ps4 ws4 hR4 hF4 fr4 h31 h24 => ?_)
            have kA : ∀ a, a < 1688 → A4 a = A2 a := fun a h => by rw [fr4.1 a (by omega), fr3.1 a (by omega)]
            have kI : ∀ a j, a ≠ 1681 → I4 a j = I2 a j := fun a j h => by rw [fr4.2.1 a j h, fr3.2.1 a j h, sI_na h, sI_na h, sI_na h]
            have k16 : I4 1681 16 = nI 1 := by rw [fr4.2.2 16 (by omega), fr3.2.2 16 (by omega), sI_n (by decide), sI_n (by decide), sI_e]
            have k17 : I4 1681 17 = nI ord := by rw [fr4.2.2 17 (by omega), fr3.2.2 17 (by omega), sI_e]
            have k18 : I4 1681 18 = nI bd := by rw [fr4.2.2 18 (by omega), fr3.2.2 18 (by omega), sI_n (by decide), sI_e]
            have p20 : ∀ j, j = 1 ∨ j = 14 ∨ j = 15 ∨ j = 16 → I4 20 j = I1 20 j := fun j h => by rw [kI 20 j (by decide), fr2.2.2 j h, sI_na (by decide)]
            refine ⟨h24, Or.inr ⟨⟨fun a h => by rw [kA a (by omega), gA2 a (by omega)], fun a j h => by rw [kI a j (by omega), gI2 a j (by omega)], fun j h => by rw [fr4.2.2 j (by omega), j3 j h, gI2 1681 j (by omega)], by rw [p20 1 (by omega), e1], h31, by rw [kI 3 7 (by decide), fr2.2.1 3 7 (by omega), sI_e], k16⟩, q, bd, ord, _, ⟨by omega, bd2, ord2⟩, ⟨by rw [p20 14 (by omega), e14], by rw [p20 15 (by omega), e15], by rw [p20 16 (by omega), e16], k18, k17⟩, ⟨ps2, ws2, sp2, hR2.mv (fun a h => kA a (by omega)) (fun a j h => kI a j (by omega))⟩, ⟨ps4, ws4, hR4⟩, hF2.mv (fun a h1 h2 => kA a (by omega)) (kI 32 4 (by decide)), hF4, hz⟩⟩
          · rw [i0]; exact no fun z => ub.elim z.2.2.2.2.2.1 z.2.2.2.2.2.2
        · rw [i0]; exact no fun z => zb.elim z.2.2.2.1 z.2.2.2.2.1
      · rw [i0]; exact no fun z => yb.elim z.2.1 z.2.2.1
    · rw [if_neg a2]
      show if nI 0 = 0 then _ else _
      rw [i0]
      exact no fun z => by
        obtain ⟨q', hq', e, a⟩ := z.1
        obtain rfl := (nI_eq (by omega) (by omega)).mp e
        exact a2 a
  · rw [i0]
    show if nI 0 = 0 then _ else _
    rw [i0]
    exact no fun z => by
      obtain ⟨q', hq', e, a⟩ := z.1
      exact n0 q' hq' e
theorem more_both {x : Int32} {q bd ord : Nat} (h : srch I) (hC : gRC A I G) (hM : gRM A I G) (hJ : SJ G A I q bd ord s) :
    D6_more x A I (fun r A1 I1 => A1 0 = A 0 ∧ D193_more x A1 I1 (fun r2 A2 I2 => r2 = r ∧ ((A2 = A ∧ I2 = I) ∨ (shF A I A2 I2 ∧ ∃ q bd ord s, SJ G A2 I2 q bd ord s)))) := by
  obtain ⟨⟨hq, bd2, ord2⟩, ⟨e14, e15, e16, e18, e17⟩, ⟨ps, ws, sp, hR⟩, ⟨ps', ws', hR'⟩, hF, hFM, hz⟩ := hJ
  have hp := hz.2.1.1
  have c7 : I 20 7 = nI (qP s).length := by rw [hR.2.2.1.2.2.2.2.2.1, hR.2.2.1.1]
  have m24 : I 1681 24 = nI (qP s).length := by rw [hR'.2.2.1.2.2.2.2.1, hR'.2.2.1.1]
  unfold D6_more
  refine srch_c h ?_
  by_cases c1 : x < nI 1
  · rw [if_pos c1]
    refine ⟨rfl, ?_⟩
    unfold D193_more
    refine srch_m h ?_
    rw [if_pos c1]
    exact ⟨rfl, Or.inl ⟨rfl, rfl⟩⟩
  rw [if_neg c1]
  obtain ⟨j, hj, rfl⟩ := nI_of (x := x) (fun z => c1 (Int32.lt_trans z (by decide)))
  have hj1 : 1 ≤ j := Nat.not_lt.mp fun z => c1 ((nI_ltI hj (by decide)).mpr z)
  have hk := zInv.tki (q := q) (ord := ord) hC.1 bd2
  have key : ∀ most, most ≤ 100 → (if 100 - (qP s).length < j then most = 100 else most = (qP s).length + j) → D96_goOn (nI most) A I (fun v1 A2 I3 => A2 0 = A 0 ∧ D193_more (nI j) A2 I3 (fun r2 A2' I2' => r2 = v1 ∧ ((A2' = A ∧ I2' = I) ∨ (shF A I A2' I2' ∧ ∃ q bd ord s, SJ G A2' I2' q bd ord s)))) := by
    intro most m2 hmost
    have hz2 := zlp_I hk m2 40001 _ hz
    refine C_goOn (Inv := zInv G q bd) (bd := bd) (ord := ord) (most := most) (n := 40001) hR hC hF bd2 e15 ord2 e16 (by rw [if_neg (nI_not m2 (by decide))]) m2 hk hz (by omega) (fun A2 I2 ps2 ws2 sp2 hR2 hF2 fr2 => ?_)
    refine ⟨fr2.1 0 (by omega), ?_⟩
    have hM2 : gRM A2 I2 G := hM.mv2 (fun a h1 h2 => fr2.1 a (by omega)) (fr2.2.1 _ _ (by omega))
    have h2 : I2 1681 16 = nI 1 := by rw [fr2.2.1 1681 16 (by omega)]; exact h.2
    have hRM2 : RMl A2 I2 [] ps' ws' s := hR'.mv (fun a h => fr2.1 a (by omega)) (fun m _ _ j hj => by rw [fr2.1 1688 (by omega)]) (fun j h => fr2.2.1 1681 j (by omega))
    have hFM2 : zFM A2 I2 (qF s) := hFM.mv (fun a h1 h2 => fr2.1 a (by omega)) (fr2.2.1 _ _ (by omega))
    have go : D159_goTill (nI most) A2 I2 (fun A3 I4 => I4 1681 24 = nI (qP (zlp G bd ord most 40001 s)).length ∧ ((A3 = A ∧ I4 = I) ∨ (shF A I A3 I4 ∧ ∃ q bd ord s, SJ G A3 I4 q bd ord s))) := by
      refine M_goTill (Inv := zInv G q bd) (bd := bd) (ord := ord) (most := most) (n := 40001) hRM2 hM2 hFM2 bd2 (by rw [fr2.2.1 1681 18 (by omega)]; exact e18) ord2 (by rw [fr2.2.1 1681 17 (by omega)]; exact e17) m2 hk hz (by omega) (fun A4 I4 ps4 ws4 hR4 hF4 fr4 h31 h24 => ?_)
      have p20 : ∀ j, j = 1 ∨ j = 14 ∨ j = 15 ∨ j = 16 → I4 20 j = I 20 j := fun j h => by rw [fr4.2.1 20 j (by decide), fr2.2.2 j h]
      exact ⟨h24, Or.inr ⟨⟨fun a h => by rw [fr4.1 a (by omega), fr2.1 a (by omega)], fun a j h => by rw [fr4.2.1 a j (by omega), fr2.2.1 a j (by omega)], fun j h => by rw [fr4.2.2 j (by omega), fr2.2.1 1681 j (by omega)], p20 1 (by omega), h31, by rw [fr4.2.1 3 7 (by decide), fr2.2.1 3 7 (by omega)]; exact h.1, by rw [fr4.2.2 16 (by omega)]; exact h2⟩, q, bd, ord, _, ⟨hq, bd2, ord2⟩, ⟨by rw [p20 14 (by omega), e14], by rw [p20 15 (by omega), e15], by rw [p20 16 (by omega), e16], by rw [fr4.2.2 18 (by omega), fr2.2.1 1681 18 (by omega), e18], by rw [fr4.2.2 17 (by omega), fr2.2.1 1681 17 (by omega), e17]⟩, ⟨ps2, ws2, sp2, hR2.mv (fun a h => fr4.1 a (by omega)) (fun a j h => fr4.2.1 a j (by omega))⟩, ⟨ps4, ws4, hR4⟩, hF2.mv (fun a h1 h2 => fr4.1 a (by omega)) (fr4.2.1 32 4 (by decide)), hF4, hz2⟩⟩
    unfold D193_more
    rw [h2, i1, if_neg c1, fr2.2.1 1681 24 (by omega), m24, pk_sub (by omega), iLt (by omega) hj]
    by_cases c : 100 - (qP s).length < j
    · rw [if_pos c] at hmost ⊢
      rw [hmost] at go
      rw [hmost]
      exact go
    · rw [if_neg c] at hmost ⊢
      rw [nI_add, ← hmost]
      exact go
  rw [c7, pk_sub (by omega)]
  by_cases c : 100 - (qP s).length < j
  · rw [if_pos ((nI_ltI (by omega) hj).mpr c), nI_add, show (qP s).length + (100 - (qP s).length) = 100 by omega]
    exact key 100 (by omega) (by rw [if_pos c])
  · rw [if_neg (fun z => c ((nI_ltI (by omega) hj).mp z)), nI_add]
    exact key _ (by omega) (by rw [if_neg c])
theorem more_no {x : Int32} (h : nsrch I) : D6_more x A I (fun r A1 I1 => A1 0 = A 0 ∧ D193_more x A1 I1 (fun r2 A2 I2 => r2 = r ∧ (A2 = A ∧ I2 = I))) := by
  unfold D6_more
  refine nsrch_c h ⟨rfl, ?_⟩
  unfold D193_more
  exact nsrch_m h ⟨rfl, rfl, rfl⟩
end SJs
