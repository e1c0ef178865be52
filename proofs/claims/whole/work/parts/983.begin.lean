/-! A SEARCH BEGINS, on both sides -/
def zF0 : zF := (258, fun _ => 0, fun _ => 0, fun _ => 0, fun _ => 0)
def zr0 (q : Nat) : zR := (zbeg q (nI 256) (nI 257), [], fun _ => none, none, 0)
def zs0 (q : Nat) (T : Nat → Int32) (sd : Int32) : zS := (zF0, [], [zr0 q], T, nI 0, sd, nI 0, 0, fun _ => (0, 0), 0)
theorem own0 : own 161 [] [] [160] (List.range 160) := by
  refine ⟨?_, fun i hi => ?_⟩
  · show (160 :: List.range 160).Nodup
    rw [List.nodup_cons]
    exact ⟨by simp, List.nodup_range⟩
  · have hi : i ∈ 160 :: List.range 160 := hi
    rcases List.mem_cons.mp hi with z | z
    · omega
    · have := List.mem_range.mp z; omega
section BG
variable {A I : HA} {G : zG}
theorem sF_at {a n j : Nat} {v : Int32} : sF A a v n a j = if j < n then v else A a j := by unfold sF; rw [va_up_self]; rfl
set_option maxRecDepth 100000 in
theorem C_beginS {Q : HA → HA → Prop} {q bd ord : Nat} (hq : q < 6) (hg : gRC A I G)
    (k : ∀ A' I' T, RCl A' I' [] [] [160] (List.range 160) (zs0 q T (I 20 1)) → zFC A' I' zF0 → (∀ i, i < 240 → T i = nI 0) → (∀ a, a < 33 ∨ 1681 ≤ a → A' a = A a) → (∀ a j, a < 20 ∨ 20 < a ∧ a < 32 ∨ 1681 ≤ a → I' a j = I a j) → I' 20 1 = I 20 1 → I' 20 14 = nI q → I' 20 15 = nI bd → I' 20 16 = nI ord → Q A' I') : D95_begin (nI q) (nI bd) (nI ord) A I Q := by
  unfold D95_begin
  intro P hP
  obtain ⟨J, hJ⟩ : ∃ J, J = sI (sI (sI I 20 14 (nI q)) 20 15 (nI bd)) 20 16 (nI ord) := ⟨_, rfl⟩
  rw [← hJ]
  have J0 : ∀ a, a ≠ 20 → J a = I a := fun a ha => by rw [hJ, sI_na ha, sI_na ha, sI_na ha]
  have J1 : J 20 1 = I 20 1 := by rw [hJ, sI_n (by decide), sI_n (by decide), sI_n (by decide)]
  have J14 : J 20 14 = nI q := by rw [hJ, sI_n (by decide), sI_n (by decide), sI_e]
  have J15 : J 20 15 = nI bd := by rw [hJ, sI_n (by decide), sI_e]
  have J16 : J 20 16 = nI ord := by rw [hJ, sI_e]
  clear hJ
  have key : ∀ d i A', d + i = 161 → (∀ a, a ≠ 38 → A' a = A a) → (∀ j, j < i → A' 38 j = nI j) → P (nI i) A' J := by
    intro d
    induction d with
    | succ d ih =>
      intro i A' hi h1 h2
      refine hP _ _ _ ?_
      rw [iLt (by omega) (by decide), if_pos (by omega), vpT (n := i) (by omega) (by decide), nI_clamp (n := i) (by omega), nI_add]
      refine ⟨trivial, ih (i + 1) _ (by omega) (fun a ha => by rw [sA_na ha]; exact h1 a ha) (fun j hj => ?_)⟩
      by_cases e : j = i
      · subst e; rw [sA_e]
      · rw [sA_n (Or.inr e)]; exact h2 j (by omega)
    | zero =>
      intro i A1 hi h1 h2
      obtain rfl : i = 161 := by omega
      refine hP _ _ _ ?_
      rw [iLt (by decide) (by decide), if_neg (by decide)]
      unfold D23_forget D87_begin
      obtain ⟨K, hK⟩ : ∃ K, K = sI (sI (sI (sI (sI (sI J 20 4 (nI 161)) 20 7 (nI 0)) 20 9 (nI 0)) 20 10 (nI 0)) 20 12 (nI 0)) 20 17 (nI 0) := ⟨_, rfl⟩
      rw [← hK]
      have K0 : ∀ a, a ≠ 20 → K a = I a := fun a ha => by rw [hK, sI_na ha, sI_na ha, sI_na ha, sI_na ha, sI_na ha, sI_na ha, J0 a ha]
      have Kj : ∀ j, j = 1 ∨ j = 14 ∨ j = 15 ∨ j = 16 → K 20 j = J 20 j := fun j hj => by rw [hK, sI_n (by omega), sI_n (by omega), sI_n (by omega), sI_n (by omega), sI_n (by omega), sI_n (by omega)]
      have K4 : K 20 4 = nI 161 := by rw [hK, sI_n (by decide), sI_n (by decide), sI_n (by decide), sI_n (by decide), sI_n (by decide), sI_e]
      have K7 : K 20 7 = nI 0 := by rw [hK, sI_n (by decide), sI_n (by decide), sI_n (by decide), sI_n (by decide), sI_e]
      have K9 : K 20 9 = nI 0 := by rw [hK, sI_n (by decide), sI_n (by decide), sI_n (by decide), sI_e]
      have K10 : K 20 10 = nI 0 := by rw [hK, sI_n (by decide), sI_n (by decide), sI_e]
      have K12 : K 20 12 = nI 0 := by rw [hK, sI_n (by decide), sI_e]
      have K17 : K 20 17 = nI 0 := by rw [hK, sI_e]
      clear hK
      obtain ⟨M, hM⟩ : ∃ M, M = sI (sI (sI (sI K 32 4 (nI 258)) 39 1 (nI 0)) 39 2 (sI K 32 4 (nI 258) 20 1)) 20 4 (nI 160) := ⟨_, rfl⟩
      have e4 : sI (sI (sI K 32 4 (nI 258)) 39 1 (nI 0)) 39 2 (sI K 32 4 (nI 258) 20 1) 20 4 = nI 161 := by rw [sI_na (by decide), sI_na (by decide), sI_na (by decide)]; exact K4
      rw [e4, pk_sub (by omega)]
      show vp_in (sI _ 20 4 (nI 160) 20 4) 161 ∧ _
      rw [show nI (161 - 1) = nI 160 from rfl, ← hM]
      have Mj : ∀ j, j ≠ 4 → M 20 j = K 20 j := fun j hj => by rw [hM, sI_n (by omega), sI_na (by decide), sI_na (by decide), sI_na (by decide)]
      have M4 : M 20 4 = nI 160 := by rw [hM, sI_e]
      have M0 : ∀ a, a ≠ 20 → a ≠ 32 → a ≠ 39 → M a = I a := fun a h1 h2 h3 => by rw [hM, sI_na h1, sI_na h3, sI_na h3, sI_na h2, K0 a h1]
      have M32 : M 32 4 = nI 258 := by rw [hM, sI_na (by decide), sI_na (by decide), sI_na (by decide), sI_e]
      have M391 : M 39 1 = nI 0 := by rw [hM, sI_na (by decide), sI_n (by decide), sI_e]
      have M392 : M 39 2 = I 20 1 := by rw [hM, sI_na (by decide), sI_e, sI_na (by decide), Kj 1 (by omega), J1]
      clear hM
      unfold D88_add
      have a38 : sF A1 42 (nI 0) 240 38 = A1 38 := sF_n (by decide)
      rw [M4, M391, vpT (n := 160) (by decide) (by decide), nI_clamp (n := 160) (by decide), a38, h2 160 (by decide), iLt (by decide) (by decide), if_pos (by decide), vpT (n := 0) (by decide) (by decide), nI_clamp (n := 0) (by decide), nI_add]
      refine ⟨trivial, trivial, ?_⟩
      show vp_in ((sI M 39 1 (nI (0 + 1))) 20 4) 161 ∧ (vp_in ((sA (sF A1 42 (nI 0) 240) 40 0 (nI 160)) 38 ((sI M 39 1 (nI (0 + 1))) 20 4).toNatClampNeg) 161 ∧ D116_begin (71 + 10 * ((sA (sF A1 42 (nI 0) 240) 40 0 (nI 160)) 38 ((sI M 39 1 (nI (0 + 1))) 20 4).toNatClampNeg).toNatClampNeg) ((sI M 39 1 (nI (0 + 1))) 20 14) (nI 256) (nI 257) (sA (sF A1 42 (nI 0) 240) 40 0 (nI 160)) (sI M 39 1 (nI (0 + 1))) (fun A18 I19 => Q A18 I19))
      rw [sI_n (show 20 ≠ 39 ∨ 4 ≠ 1 by decide), M4, vpT (n := 160) (by decide) (by decide), nI_clamp (n := 160) (by decide), sA_na (show 38 ≠ 40 by decide), a38, h2 160 (by decide), vpT (n := 160) (by decide) (by decide), nI_clamp (n := 160) (by decide), sI_n (show 20 ≠ 39 ∨ 14 ≠ 1 by decide), Mj 14 (by decide), Kj 14 (by omega), J14]
      refine ⟨trivial, trivial, ?_⟩
      have fz : zFC (sA (sF A1 42 (nI 0) 240) 40 0 (nI 160)) (sI M 39 1 (nI (0 + 1))) zF0 := by
        refine ⟨?_, Nat.le_refl _, by show 258 ≤ 32258; decide, fun j h1 h2 => absurd h2 (by have h2 : j < 258 := h2; omega)⟩
        rw [sI_na (by decide)]
        exact M32
      refine C_begin (isW_mk (i := 160) (by decide)) hq fz (fun A2 I2 G2 => ?_)
      have gA : ∀ a, a < 33 ∨ 36 < a ∧ a < 1671 ∨ 1681 ≤ a → A2 a = sA (sF A1 42 (nI 0) 240) 40 0 (nI 160) a := fun a ha => by rw [G2.2.2.2.2.1 a (by omega) (by omega), sF_n (by omega)]
      have gI : ∀ a j, a ≠ 1671 → ¬ (a = 32 ∧ j = 4) → I2 a j = sI M 39 1 (nI (0 + 1)) a j := fun a j h1 h2 => by rw [G2.2.2.2.2.2 a j (by omega) h2, sI_na h1, sI_na h1, sI_na h1]
      have gN : ∀ j, I2 20 j = M 20 j := fun j => by rw [gI 20 j (by omega) (by omega), sI_na (by decide)]
      refine k A2 I2 (A2 42) ?_ G2.2.2.2.1 (fun i hi => by rw [gA 42 (by omega), sA_na (by decide), sF_at, if_pos hi]) (fun a ha => by rw [gA a (by omega), sA_na (by omega), sF_n (by omega)]; exact h1 a (by omega)) (fun a j ha => by rw [gI a j (by omega) (by omega), sI_na (by omega), M0 a (by omega) (by omega) (by omega)]) (by rw [gN, Mj _ (by decide), Kj _ (by omega), J1]) (by rw [gN, Mj _ (by decide), Kj _ (by omega), J14]) (by rw [gN, Mj _ (by decide), Kj _ (by omega), J15]) (by rw [gN, Mj _ (by decide), Kj _ (by omega), J16])
      refine ⟨own0, by simp, ⟨rfl, rfl, fun k x e => by simp at e, ?_, ?_, by rw [gN, Mj _ (by decide)]; exact K7, ?_, by rw [gN, M4, List.length_range], rfl, by rw [gN, Mj _ (by decide)]; exact K9, ?_, by rw [gN, Mj _ (by decide)]; exact K10, by rw [gN, Mj _ (by decide)]; exact K12, fun j _ h => absurd h (Nat.not_lt_zero j), by rw [gN, Mj _ (by decide)]; exact K17⟩, fun k i r e => by simp at e, ?_⟩
      · intro k x e
        have hk : k = 0 ∧ x = 160 := by
          cases k with
          | zero => exact ⟨rfl, (Option.some.inj e).symm⟩
          | succ k => simp at e
        rw [hk.1, hk.2, gA 40 (by omega), sA_e]
      · intro k x e
        have hk := (List.getElem?_eq_some_iff.mp e)
        obtain ⟨hk, ek⟩ := hk
        rw [List.length_range] at hk
        rw [List.getElem_range] at ek
        rw [← ek, gA 38 (by omega), sA_na (by decide), a38]
        exact h2 k (by omega)
      · rw [gI 39 1 (by decide) (by decide), sI_e]; rfl
      · rw [gI 39 2 (by decide) (by decide), sI_n (by decide)]; exact M392
      · intro k i r e1 e2
        have hk : k = 0 ∧ i = 160 := by
          cases k with
          | zero => exact ⟨rfl, (Option.some.inj e1).symm⟩
          | succ k => simp at e1
        obtain ⟨rfl, rfl⟩ := hk
        have e2 : zr0 q = r := Option.some.inj e2
        subst e2
        have w9 : A2 (71 + 10 * 160 + 9) = sF (sA (sF A1 42 (nI 0) 240) 40 0 (nI 160)) (71 + 10 * 160 + 9) (-1) 32 (71 + 10 * 160 + 9) := G2.2.2.2.2.1 _ (by omega) (by omega)
        refine ⟨⟨?_, fun c p e => by simp [zr0] at e, fun k hk => ?_, ?_, ?_⟩, G2.2.2.1⟩
        · rw [G2.2.2.2.2.2 _ 9 (by omega) (by omega), sI_n (by decide), sI_n (by decide), sI_e]; rfl
        · unfold inA
          rw [w9]
          exact in_all (A := sA (sF A1 42 (nI 0) 240) 40 0 (nI 160)) hk
        · rw [G2.2.2.2.2.2 _ 16 (by omega) (by omega), sI_n (by decide), sI_e]; rfl
        · rw [G2.2.2.2.2.2 _ 17 (by omega) (by omega), sI_e]; rfl
  exact key 161 0 A (by omega) (fun _ _ => rfl) (fun j hj => absurd hj (Nat.not_lt_zero j))
set_option maxRecDepth 100000 in
theorem M_beginS {Q : Int32 → HA → HA → Prop} {q bd ord : Nat} {u1 : Int32} (hq : q < 6)
    (k : ∀ A' I' T, RMl A' I' [] [] [0] (zs0 q T (I 1681 0)) → zFM A' I' zF0 → (∀ i, i < 240 → T i = nI 0) → frM A (sI (sI (sI I 1681 16 (nI 1)) 1681 18 (nI bd)) 1681 17 (nI ord)) A' I' → D159_goTill u1 A' I' (fun A36 I37 => Q (I37 1681 24) A36 I37)) (hsz : ∀ j, j < 258 → A 1694 j = nI 1) :
    (∀ P6 : Int32 → HA → HA → Prop, (∀ (a7 : Int32) (A11 I12 : HA), (if a7 < (nI 170) then vp_in a7 170 ∧ (P6 (a7 + nI 1) (sA A11 1690 a7.toNatClampNeg (vp_nar (bm_ty 2) (nI 0))) I12) else (∀ P14 : Int32 → HA → HA → Prop, (∀ (a15 : Int32) (A19 I20 : HA), (if a15 < (nI 240) then vp_in a15 240 ∧ (P14 (a15 + nI 1) (sA A19 1699 a15.toNatClampNeg (nI 0)) I20) else D155_slot A19 (sI (sI (sI (sI (sI I20 1681 30 (nI 0)) 1681 24 (nI 0)) 1681 25 (nI 0)) 1681 26 (nI 0)) 1681 22 (nI 0)) (fun v22 A23 I24 => D156_begin (nI q) (nI 256) (nI 257) A23 (sI I24 1681 35 ((nI 520) * v22)) (fun A25 I26 => (∀ P27 : Int32 → HA → HA → Prop, (∀ (a28 : Int32) (A32 I33 : HA), (if a28 < (nI 1024) then vp_in (((nI 1024) * v22) + a28) 174080 ∧ (P27 (a28 + nI 1) (sA A32 1689 (((nI 1024) * v22) + a28).toNatClampNeg (vp_nar (bm_ty 1) (-1))) I33) else vp_in (nI 0) 60 ∧ (D159_goTill u1 (sA A32 1695 (nI 0).toNatClampNeg v22) (sI I33 1681 21 (nI 1)) (fun A36 I37 => Q (I37 1681 24) A36 I37))) → P27 a28 A32 I33) → P27 (nI 0) A25 I26)))) → P14 a15 A19 I20) → P14 (nI 0) A11 I12)) → P6 a7 A11 I12) → P6 (nI 0) A (sI (sI (sI (sI (sI I 1681 16 (nI 1)) 1681 18 (nI bd)) 1681 17 (nI ord)) 1681 19 ((sI (sI (sI I 1681 16 (nI 1)) 1681 18 (nI bd)) 1681 17 (nI ord)) 1681 0)) 1681 15 (nI 258))) := by
  intro P hP
  obtain ⟨J, hJ⟩ : ∃ J, J = sI (sI (sI I 1681 16 (nI 1)) 1681 18 (nI bd)) 1681 17 (nI ord) := ⟨_, rfl⟩
  rw [← hJ] at k ⊢
  have J0 : J 1681 0 = I 1681 0 := by rw [hJ, sI_n (by decide), sI_n (by decide), sI_n (by decide)]
  clear hJ
  obtain ⟨K, hK⟩ : ∃ K, K = sI (sI J 1681 19 (J 1681 0)) 1681 15 (nI 258) := ⟨_, rfl⟩
  rw [← hK]
  have K0 : ∀ a j, ¬ (a = 1681 ∧ (j = 19 ∨ j = 15)) → K a j = J a j := fun a j h => by rw [hK, sI_n (by omega), sI_n (by omega)]
  have K19 : K 1681 19 = I 1681 0 := by rw [hK, sI_n (by decide), sI_e, J0]
  have K15 : K 1681 15 = nI 258 := by rw [hK, sI_e]
  clear hK
  have key : ∀ d i A', d + i = 170 → (∀ a, a ≠ 1690 → A' a = A a) → (∀ j, j < i → A' 1690 j = 0) → P (nI i) A' K := by
    intro d
    induction d with
    | succ d ih =>
      intro i A' hi h1 h2
      refine hP _ _ _ ?_
      rw [iLt (by omega) (by decide), if_pos (by omega), vpT (n := i) (by omega) (by decide), nI_clamp (n := i) (by omega), nI_add]
      refine ⟨trivial, ih (i + 1) _ (by omega) (fun a ha => by rw [sA_na ha]; exact h1 a ha) (fun j hj => ?_)⟩
      by_cases e : j = i
      · subst e; rw [sA_e]; rfl
      · rw [sA_n (Or.inr e)]; exact h2 j (by omega)
    | zero =>
      intro i A1 hi h1 h2
      obtain rfl : i = 170 := by omega
      refine hP _ _ _ ?_
      rw [iLt (by decide) (by decide), if_neg (by decide)]
      intro P14 hP14
      have key2 : ∀ d i A', d + i = 240 → (∀ a, a ≠ 1699 → A' a = A1 a) → (∀ j, j < i → A' 1699 j = nI 0) → P14 (nI i) A' K := by
        intro d
        induction d with
        | succ d ih =>
          intro i A' hi h1 h2
          refine hP14 _ _ _ ?_
          rw [iLt (by omega) (by decide), if_pos (by omega), vpT (n := i) (by omega) (by decide), nI_clamp (n := i) (by omega), nI_add]
          refine ⟨trivial, ih (i + 1) _ (by omega) (fun a ha => by rw [sA_na ha]; exact h1 a ha) (fun j hj => ?_)⟩
          by_cases e : j = i
          · subst e; rw [sA_e]
          · rw [sA_n (Or.inr e)]; exact h2 j (by omega)
        | zero =>
          intro i A2 hi g1 g2
          obtain rfl : i = 240 := by omega
          refine hP14 _ _ _ ?_
          rw [iLt (by decide) (by decide), if_neg (by decide)]
          have A2o : ∀ a, a ≠ 1690 → a ≠ 1699 → A2 a = A a := fun a n1 n2 => by rw [g1 a n2]; exact h1 a n1
          have A290 : ∀ j, j < 170 → A2 1690 j = 0 := fun j hj => by rw [g1 _ (by decide)]; exact h2 j hj
          obtain ⟨N, hN⟩ : ∃ N, N = sI (sI (sI (sI (sI K 1681 30 (nI 0)) 1681 24 (nI 0)) 1681 25 (nI 0)) 1681 26 (nI 0)) 1681 22 (nI 0) := ⟨_, rfl⟩
          rw [← hN]
          have N0 : ∀ a j, ¬ (a = 1681 ∧ (j = 30 ∨ j = 24 ∨ j = 25 ∨ j = 26 ∨ j = 22)) → N a j = K a j := fun a j h => by rw [hN, sI_n (by omega), sI_n (by omega), sI_n (by omega), sI_n (by omega), sI_n (by omega)]
          have N30 : N 1681 30 = nI 0 := by rw [hN, sI_n (by decide), sI_n (by decide), sI_n (by decide), sI_n (by decide), sI_e]
          have N24 : N 1681 24 = nI 0 := by rw [hN, sI_n (by decide), sI_n (by decide), sI_n (by decide), sI_e]
          have N25 : N 1681 25 = nI 0 := by rw [hN, sI_n (by decide), sI_n (by decide), sI_e]
          have N26 : N 1681 26 = nI 0 := by rw [hN, sI_n (by decide), sI_e]
          have N22 : N 1681 22 = nI 0 := by rw [hN, sI_e]
          clear hN
          refine M_slot (s := 0) (by decide) (A290 0 (by decide)) (fun i hi => absurd hi (Nat.not_lt_zero i)) ?_
          rw [pk_mul]
          have fz : zFM (sA A2 1690 0 (nI 1)) (sI N 1681 35 (nI (520 * 0))) zF0 := by
            refine ⟨?_, Nat.le_refl _, by show 258 ≤ 32258; decide, fun j hj => ?_, fun j h1 h2 => absurd h2 (by have h2 : j < 258 := h2; omega)⟩
            · rw [sI_n (by decide), N0 _ _ (by decide)]; exact K15
            · rw [sA_na (by decide), A2o _ (by decide) (by decide)]; exact hsz j hj
          refine M_begin (b := 520 * 0) (by decide) sI_e hq fz (fun A3 I3 G3 => ?_)
          intro P27 hP27
          have key3 : ∀ d i A', d + i = 1024 → (∀ a, a ≠ 1689 → A' a = A3 a) → (∀ j, j < i → A' 1689 (1024 * 0 + j) = -1) → P27 (nI i) A' I3 := by
            intro d
            induction d with
            | succ d ih =>
              intro i A' hi h1 h2
              refine hP27 _ _ _ ?_
              rw [iLt (by omega) (by decide), if_pos (by omega), pk_mul, nI_add, vpT (n := 1024 * 0 + i) (by omega) (by decide), nI_clamp (n := 1024 * 0 + i) (by omega), nI_add]
              refine ⟨trivial, ih (i + 1) _ (by omega) (fun a ha => by rw [sA_na ha]; exact h1 a ha) (fun j hj => ?_)⟩
              by_cases e : j = i
              · subst e; rw [sA_e]; rfl
              · rw [sA_n (by omega)]; exact h2 j (by omega)
            | zero =>
              intro i A4 hi m1 m2
              obtain rfl : i = 1024 := by omega
              refine hP27 _ _ _ ?_
              rw [iLt (by decide) (by decide), if_neg (by decide), vpT (n := 0) (by decide) (by decide), nI_clamp (n := 0) (by decide)]
              refine ⟨trivial, ?_⟩
              have gm := G3.2.2.2.2.2
              have A3o : ∀ a, a ≠ 1688 → ¬ (1691 ≤ a ∧ a ≤ 1694) → A3 a = sA A2 1690 0 (nI 1) a := fun a n1 n2 => by
                rw [gm.1 a n1 n2]
                unfold mB
                rw [sA_na n1, sA_na n1, sA_na n1]
              have I3o : ∀ a j, ¬ (a = 1681 ∧ (j = 15 ∨ 36 ≤ j ∧ j ≤ 39)) → I3 a j = sI N 1681 35 (nI (520 * 0)) a j := fun a j n => gm.2.2 a j n
              have I3n : ∀ j, ¬ (j = 15 ∨ 35 ≤ j ∧ j ≤ 39) → I3 1681 j = N 1681 j := fun j n => by rw [I3o _ j (by omega), sI_n (by omega)]
              have row : ∀ j, (2 ≤ j ∧ j ≤ 4) → A3 1688 (520 * 0 + j) = mB (sA A2 1690 0 (nI 1)) (520 * 0) 1688 (520 * 0 + j) := fun j hj => gm.2.1 _ (by unfold zMI; omega)
              have rep : zRepN (520 * 0) A3 (zbeg q (nI 256) (nI 257)) := G3.2.2.2.1.2.2
              have f3 := G3.2.2.2.2.1
              have A5o : ∀ a, a ≠ 1695 → a ≠ 1689 → sA A4 1695 0 (nI 0) a = A3 a := fun a n1 n2 => by rw [sA_na n1]; exact m1 a n2
              refine k _ _ (A2 1699) ?_ (f3.mv (fun a h1 h2 => A5o a (by omega) (by omega)) (by rw [sI_n (by decide)])) g2 ⟨fun a ha => ?_, fun a j ha => ?_, fun j hj => ?_⟩
              · refine ⟨⟨by simp, fun i hi => ?_⟩, fun x hx => ?_, ⟨rfl, rfl, fun k x e => by simp at e, ?_, by rw [sI_n (by decide), I3n _ (by decide)]; exact N24, by rw [sI_e]; rfl, fun i hi => ?_, by rw [sI_n (by decide), I3n _ (by decide)]; exact N30, by rw [sI_n (by decide), I3n _ (by decide), N0 _ _ (by decide)]; exact K19, by rw [sI_n (by decide), I3n _ (by decide)]; exact N25, by rw [sI_n (by decide), I3n _ (by decide)]; exact N26, fun j _ h => absurd h (Nat.not_lt_zero j), by rw [sI_n (by decide), I3n _ (by decide)]; exact N22⟩, fun k i r e => by simp at e, ?_⟩
                · have hi : i ∈ [0] := hi
                  rw [List.mem_singleton.mp hi]; decide
                · have e90 : sA A4 1695 0 (nI 0) 1690 = sA A2 1690 0 (nI 1) 1690 := by rw [A5o _ (by decide) (by decide), A3o _ (by decide) (by decide)]
                  rw [e90]
                  show (x ∈ [0] → _) ∧ (x ∉ [0] → _)
                  rw [List.mem_singleton]
                  by_cases e : x = 0
                  · subst e; exact ⟨fun _ => by rw [sA_e]; decide, fun z => absurd rfl z⟩
                  · exact ⟨fun z => absurd z e, fun _ => by rw [sA_n (Or.inr e)]; exact A290 x hx⟩
                · intro k x e
                  have hk : k = 0 ∧ x = 0 := by
                    cases k with
                    | zero => exact ⟨rfl, (Option.some.inj e).symm⟩
                    | succ k => simp at e
                  rw [hk.1, hk.2, sA_e]
                · show sA A4 1695 0 (nI 0) 1699 i = A2 1699 i
                  rw [A5o _ (by decide) (by decide), A3o _ (by decide) (by decide), sA_na (by decide)]
                · intro k i r e1 e2
                  have hk : k = 0 ∧ i = 0 := by
                    cases k with
                    | zero => exact ⟨rfl, (Option.some.inj e1).symm⟩
                    | succ k => simp at e1
                  obtain ⟨rfl, rfl⟩ := hk
                  have e2 : zr0 q = r := Option.some.inj e2
                  subst e2
                  refine ⟨⟨Nat.zero_le _, fun p hp => by simp [zr0] at hp, fun k c e => by simp [zr0] at e⟩, zbeg_wf hq, ⟨?_, fun c p e => by simp [zr0] at e, fun k hk => ?_, ?_, ?_⟩, rep.cp (zbeg_wf hq) (fun j hj => by rw [A5o _ (by decide) (by decide)])⟩
                  · rw [A5o _ (by decide) (by decide), row 2 (by omega)]; unfold mB; rw [sA_n (by decide), sA_n (by decide), sA_e]; rfl
                  · rw [sA_na (by decide)]; exact m2 k hk
                  · rw [A5o _ (by decide) (by decide), row 3 (by omega)]; unfold mB; rw [sA_n (by decide), sA_e]; rfl
                  · rw [A5o _ (by decide) (by decide), row 4 (by omega)]; unfold mB; rw [sA_e]; rfl
              · rw [A5o _ (by omega) (by omega), A3o _ (by omega) (by omega), sA_na (by omega), A2o _ (by omega) (by omega)]
              · rw [sI_na ha, I3o a j (by omega), sI_na ha, N0 a j (by omega), K0 a j (by omega)]
              · rw [sI_n (by omega), I3n _ (by omega), N0 _ _ (by omega), K0 _ _ (by omega)]
          exact key3 1024 0 A3 (by omega) (fun _ _ => rfl) (fun j hj => absurd hj (Nat.not_lt_zero j))
      exact key2 240 0 A1 (by omega) (fun _ _ => rfl) (fun j hj => absurd hj (Nat.not_lt_zero j))
  exact key 170 0 A (by omega) (fun _ _ => rfl) (fun j hj => absurd hj (Nat.not_lt_zero j))
end BG
