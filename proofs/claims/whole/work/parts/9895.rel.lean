/-! THE RELATION of the two sides; method, operation and handler keep it -/
/-- what always holds -/
def XE (A I : HA) : Prop := I 20 1 = I 1681 0 ∧ I 1681 31 = nI 0 ∧ (∃ F, zFC A I F ∧ zFM A I F ∧ zfok F ∧ F.1 < 32258) ∧ (∃ s, s < 170 ∧ A 1690 s = 0 ∧ ∀ i, i < s → ¬ A 1690 i = 0) ∧ ∃ M, M ≤ 6 ∧ I 22 0 = nI M ∧ ∀ q, M ≤ q → q < 6 → A 24 q = nI 0
def SRx (A I : HA) : Prop := ∃ G q bd ord s, gRC A I G ∧ gRM A I G ∧ SJ G A I q bd ord s
def RelX (xs : Nat → Int32) (A I : HA) : Prop := A 0 = xs ∧ A 1 = lw_takes ∧ A 2 = lw_leaves ∧ PR A I ∧ ((I 3 7 = nI 0 ∧ I 1681 16 = nI 0) ∨ (I 3 7 = nI 1 ∧ I 1681 16 = nI 1 ∧ SRx A I)) ∧ XE A I
section RX
variable {A I A' I' : HA} {G : zG}
theorem XE.mv (h : XE A I) (h1 : I' 20 1 = I 20 1) (h2 : I' 1681 0 = I 1681 0) (h3 : I' 1681 31 = I 1681 31) (h4 : I' 32 4 = I 32 4) (h5 : I' 1681 15 = I 1681 15) (a33 : A' 33 = A 33) (a34 : A' 34 = A 34) (a35 : A' 35 = A 35) (a36 : A' 36 = A 36) (a90 : A' 1690 = A 1690) (a91 : A' 1691 = A 1691) (a92 : A' 1692 = A 1692) (a93 : A' 1693 = A 1693) (a94 : A' 1694 = A 1694) (hM : ∃ M, M ≤ 6 ∧ I' 22 0 = nI M ∧ ∀ q, M ≤ q → q < 6 → A' 24 q = nI 0) : XE A' I' := by
  obtain ⟨e1, e2, ⟨F, f1, f2, f3, f4⟩, e4, -⟩ := h
  refine ⟨by rw [h1, h2]; exact e1, by rw [h3]; exact e2, ⟨F, ?_, ?_, f3, f4⟩, by rw [a90]; exact e4, hM⟩
  · unfold zFC at f1 ⊢; rw [a33, a34, a35, a36, h4]; exact f1
  · unfold zFM at f2 ⊢; rw [a91, a92, a93, a94, h5]; exact f2
theorem XE.z (h : XE A I) {M : Nat} (hM : M ≤ 6) (e : I 22 0 = nI M) : ∀ q, M ≤ q → q < 6 → A 24 q = nI 0 := by
  obtain ⟨-, -, -, -, M', h1, h2, h3⟩ := h
  have : M' = M := (nI_eq (by omega) (by omega)).mp (h2.symm.trans e)
  subst this
  exact h3
/-- the program of both, pure -/
theorem PR.prog (h : PR A I) (a1 : A 1 = lw_takes) (a2 : A 2 = lw_leaves) : ∃ G, gRC A I G ∧ gRM A I G := by
  obtain ⟨M, hM6, m1, m2, hargs, hops, hhds⟩ := h
  let G : zG := (M, fun q => (A 23 q).toNatClampNeg, fun q => (A 24 q).toNatClampNeg, fun q j => (A 25 (q * 40 + j)).toNatClampNeg, fun q j => A 26 (q * 40 + j), fun q => (A 27 q).toNatClampNeg, fun q j => (A 28 (q * 4 + j)).toNatClampNeg, fun q j => (A 29 (q * 4 + j)).toNatClampNeg, fun q j => (A 30 (q * 4 + j)).toNatClampNeg, fun q j => (A 31 (q * 4 + j)).toNatClampNeg)
  have cl : ∀ {v : Int32} {n : Nat}, v = nI n → n < 1000 → v = nI v.toNatClampNeg ∧ v.toNatClampNeg = n := fun e h => by rw [e, nI_clamp (by omega)]; exact ⟨rfl, rfl⟩
  have ar : ∀ q, q < M → A 23 q = nI (gA G q) ∧ gA G q ≤ 3 ∧ A 1682 q = nI (gA G q) := fun q hq => by
    obtain ⟨h1, a, ha, ea⟩ := hargs q hq
    obtain ⟨c1, c2⟩ := cl ea (by omega)
    exact ⟨c1, by show (A 23 q).toNatClampNeg ≤ 3; omega, by rw [← h1]; exact c1⟩
  have op : ∀ q, q < 6 → (gL G q ≤ 40 ∧ A 24 q = nI (gL G q) ∧ A 1683 q = nI (gL G q)) ∧ ∀ j, j < gL G q → (gO G q j < 30 ∧ rgP (gO G q j) (gU G q j)) ∧ A 25 (q * 40 + j) = nI (gO G q j) ∧ A 1684 (40 * q + j) = nI (gO G q j) ∧ A 1685 (40 * q + j) = gU G q j := fun q hq => by
    obtain ⟨n, hn, e1, e2, h3⟩ := hops q hq
    obtain ⟨c1, c2⟩ := cl e1 (by omega)
    have gl : gL G q = n := c2
    refine ⟨by rw [gl]; exact ⟨hn, e1, e2⟩, fun j hj => ?_⟩
    obtain ⟨p1, p2, k, hk, ek, hr⟩ := h3 j (by omega)
    obtain ⟨d1, d2⟩ := cl ek (by omega)
    have go : gO G q j = k := d2
    rw [go]
    exact ⟨⟨hk, hr⟩, ek, by rw [← p1]; exact ek, by rw [← p2]; rfl⟩
  have hd : ∀ q, q < 6 → (gC G q ≤ 4 ∧ A 27 q = nI (gC G q) ∧ A 1686 q = nI (gC G q)) ∧ ∀ j, j < gC G q → (gF G q j ≤ 40 ∧ gT G q j ≤ 40 ∧ gG G q j ≤ 39 ∧ gK G q j ≤ 12) ∧ (A 28 (q * 4 + j) = nI (gF G q j) ∧ A 29 (q * 4 + j) = nI (gT G q j) ∧ A 30 (q * 4 + j) = nI (gG G q j) ∧ A 31 (q * 4 + j) = nI (gK G q j)) ∧ A 1687 (16 * q + 4 * j) = nI (gF G q j) ∧ A 1687 (16 * q + 4 * j + 1) = nI (gT G q j) ∧ A 1687 (16 * q + 4 * j + 2) = nI (gG G q j) ∧ A 1687 (16 * q + 4 * j + 3) = nI (gK G q j) := fun q hq => by
    obtain ⟨n, hn, e1, e2, h3⟩ := hhds q hq
    obtain ⟨c1, c2⟩ := cl e1 (by omega)
    have gl : gC G q = n := c2
    refine ⟨by rw [gl]; exact ⟨hn, e1, e2⟩, fun j hj => ?_⟩
    obtain ⟨p1, p2, p3, p4, b1, b2, -, b3, b4⟩ := h3 j (by omega)
    obtain ⟨i1, -, l1, x1⟩ := rg_nat (lo := 0) b1 (by decide) (by decide)
    obtain ⟨i2, -, l2, x2⟩ := rg_nat (lo := 0) b2 (by decide) (by decide)
    obtain ⟨i3, -, l3, x3⟩ := rg_nat (lo := 0) b3 (by decide) (by decide)
    obtain ⟨i4, -, l4, x4⟩ := rg_nat (lo := 0) b4 (by decide) (by decide)
    have g1 : gF G q j = i1 := (cl x1 (by omega)).2
    have g2 : gT G q j = i2 := (cl x2 (by omega)).2
    have g3 : gG G q j = i3 := (cl x3 (by omega)).2
    have g4 : gK G q j = i4 := (cl x4 (by omega)).2
    rw [g1, g2, g3, g4, ← p1, ← p2, ← p3, ← p4]
    exact ⟨⟨l1, l2, l3, l4⟩, ⟨x1, x2, x3, x4⟩, x1, x2, x3, x4⟩
  have wf : gwf G := ⟨hM6, fun q hq => (ar q hq).2.1, fun q hq => ⟨(op q hq).1.1, (hd q hq).1.1, fun j hj => ((op q hq).2 j hj).1, fun k hk => ((hd q hq).2 k hk).1⟩⟩
  refine ⟨G, ⟨wf, a1, a2, m1, fun q hq => (ar q hq).1, fun q hq => ⟨(op q hq).1.2.1, (hd q hq).1.2.1, fun j hj => ⟨((op q hq).2 j hj).2.1, rfl⟩, fun k hk => ((hd q hq).2 k hk).2.1⟩⟩, wf, m2, fun q hq => (ar q hq).2.2, fun q hq => ⟨(op q hq).1.2.2, (hd q hq).1.2.2, fun j hj => ((op q hq).2 j hj).2.2, fun k hk => ((hd q hq).2 k hk).2.2⟩⟩
end RX
/-! A METHOD MORE changes no run -/
section GX
variable {G : zG} {n : Nat} {F : zF} {S : zW}
def zGm (G : zG) (n : Nat) : zG := (G.1 + 1, un (gA G) G.1 n, G.2.2)
theorem zhd_G {q pc kd : Nat} : ∀ m k, zhd (zGm G n) q pc kd m k = zhd G q pc kd m k
  | 0, _ => rfl
  | m + 1, k => by
    unfold zhd
    rw [zhd_G m (k + 1)]
    rfl
theorem zrai_G {kd : Nat} {pl : Int32} : ∀ (m : Nat) (S : zW), zrai (zGm G n) kd pl m S = zrai G kd pl m S
  | 0, S => by
    unfold zrai
    rw [zhd_G]
    rfl
  | m + 1, S => by
    unfold zrai
    rw [zhd_G, zrai_G m (zleave S)]
    rfl
theorem zthr_G {kd : Nat} : zthr (zGm G n) F S kd = zthr G F S kd := by
  unfold zthr
  rw [zrai_G]
theorem zoper_G {alt : Option Nat} (h0 : gL G G.1 = 0) : zoper (zGm G n) alt F S = zoper G alt F S := by
  have h25 : ∀ m, (if ¬ m < (zGm G n).1 ∨ gL (zGm G n) m = 0 ∨ zh S < gA (zGm G n) m ∨ 12 ≤ zh S - gA (zGm G n) m then zbrk F S else if zt S = 3 then zthr G F S 6 else (0, zcall S m (gA (zGm G n) m), F)) = (if ¬ m < G.1 ∨ gL G m = 0 ∨ zh S < gA G m ∨ 12 ≤ zh S - gA G m then zbrk F S else if zt S = 3 then zthr G F S 6 else (0, zcall S m (gA G m), F)) := fun m => by
    show (if ¬ m < G.1 + 1 ∨ gL G m = 0 ∨ zh S < un (gA G) G.1 n m ∨ 12 ≤ zh S - un (gA G) G.1 n m then zbrk F S else if zt S = 3 then zthr G F S 6 else (0, zcall S m (un (gA G) G.1 n m), F)) = _
    by_cases c : m < G.1
    · rw [un_n (by omega)]
      by_cases z : gL G m = 0 ∨ zh S < gA G m ∨ 12 ≤ zh S - gA G m
      · rw [if_pos (Or.inr z), if_pos (Or.inr z)]
      · rw [if_neg (show ¬ (¬ m < G.1 + 1 ∨ gL G m = 0 ∨ zh S < gA G m ∨ 12 ≤ zh S - gA G m) from fun y => y.elim (fun y => y (by omega)) z), if_neg (show ¬ (¬ m < G.1 ∨ gL G m = 0 ∨ zh S < gA G m ∨ 12 ≤ zh S - gA G m) from fun y => y.elim (fun y => y c) z)]
    · rw [if_pos (show ¬ m < G.1 ∨ _ from Or.inl c)]
      by_cases e : m = G.1
      · rw [e, if_pos (Or.inr (Or.inl h0))]
      · rw [if_pos (Or.inl (by omega))]
  have e0 : gO (zGm G n) = gO G := rfl
  have e1 : gU (zGm G n) = gU G := rfl
  unfold zoper
  simp only [zthr_G, e0, e1]
  simp only [h25]
theorem zrp_G {bd : Nat} (h0 : gL G G.1 = 0) : ∀ (m : Nat) (S : zW), zrp (zGm G n) bd m S F = zrp G bd m S F
  | 0, S => rfl
  | m + 1, S => by
    unfold zrp
    rw [zoper_G h0, zrp_G h0 m]
    rfl
theorem zct_G {bd m : Nat} (h0 : gL G G.1 = 0) : zct (zGm G n) bd m S F = zct G bd m S F := by
  unfold zct
  rw [zoper_G h0, zrp_G h0]
theorem zcn_G {bd m : Nat} {a : Option Nat} (h0 : gL G G.1 = 0) : zcn (zGm G n) bd a m S F = zcn G bd a m S F := by
  cases a with
  | none => exact zrp_G h0 m S
  | some c => exact zct_G h0
theorem zInv_G {q bd : Nat} {s : zS} (h0 : gL G G.1 = 0) (h : zInv G q bd s) : zInv (zGm G n) q bd s := by
  obtain ⟨h1, h2, h3, h4, h5, h6⟩ := h
  refine ⟨h1, h2, h3, fun r hr => ?_, fun r hr => ?_, h6⟩
  · obtain ⟨⟨a1, a2, a3, a4, a5, a6, a7, a8, a9, a10⟩, b⟩ := h4 r hr
    refine ⟨⟨a1, a2, a3, a4, a5, a6, a7, a8, a9, fun c e => ?_⟩, fun k hk hi => ?_⟩
    · obtain ⟨b1, b2, b3, b4, b5⟩ := a10 c e
      exact ⟨b1, b2, b3, by rw [zoper_G h0]; exact b4, b5⟩
    · obtain ⟨P, p1, p2, p3⟩ := b k hk hi
      exact ⟨P, p1, p2, fun F0 => by rw [zrp_G h0, zcn_G h0]; exact p3 F0⟩
  · obtain ⟨a, b⟩ := h5 r hr
    refine ⟨a, fun k hk hi => (b k hk hi).imp id (fun ⟨P, p1, p2⟩ => ⟨P, fun F0 => by rw [zrp_G h0]; exact p1 F0, p2⟩)⟩
theorem SJ.mv {A I A' I' : HA} {q bd ord : Nat} {s : zS} (h : SJ G A I q bd ord s) (hA : ∀ a, a = 38 ∨ 40 ≤ a ∧ a ≤ 43 ∨ 71 ≤ a ∧ a < 1681 ∨ a = 1689 ∨ a = 1690 ∨ 1695 ≤ a ∧ a ≤ 1699 → A' a = A a) (hB : ∀ m, m < 170 → ¬ A 1690 m = 0 → ∀ j, j < 520 → A' 1688 (520 * m + j) = A 1688 (520 * m + j)) (hI : ∀ a j, a = 20 ∨ a = 39 ∨ 71 ≤ a ∧ a < 1681 → I' a j = I a j) (hI1 : ∀ j, 17 ≤ j ∧ j ≤ 19 ∨ 21 ≤ j ∧ j ≤ 26 ∨ j = 30 → I' 1681 j = I 1681 j) (hF : zFC A' I' (qF s)) (hFM : zFM A' I' (qF s)) : SJ G A' I' q bd ord s := by
  obtain ⟨h1, ⟨e14, e15, e16, e18, e17⟩, ⟨ps, ws, sp, hR⟩, ⟨ps', ws', hR'⟩, -, -, hz⟩ := h
  exact ⟨h1, ⟨by rw [hI 20 _ (by omega)]; exact e14, by rw [hI 20 _ (by omega)]; exact e15, by rw [hI 20 _ (by omega)]; exact e16, by rw [hI1 _ (by omega)]; exact e18, by rw [hI1 _ (by omega)]; exact e17⟩, ⟨ps, ws, sp, hR.mv (fun a h => hA a (by omega)) (fun a j h => hI a j (by omega))⟩, ⟨ps', ws', hR'.mv (fun a h => hA a (by omega)) hB (fun j h => hI1 j (by omega))⟩, hF, hFM, hz⟩
theorem SRx.meth {A I : HA} {M : Nat} {j : Nat} (h : SRx A I) (hx : XE A I) (m1 : I 22 0 = nI M) (m2 : I 1681 1 = nI M) (hM : M < 6) (hj : j ≤ 3) : SRx (va_up (va_up A 23 (upd (A 23) M (nI j))) 1682 (upd (A 1682) M (nI j))) (va_up (va_up I 22 (upd (I 22) 0 (nI (M + 1)))) 1681 (upd (I 1681) 1 (nI (M + 1)))) := by
  obtain ⟨G, q, bd, ord, s, hC, hR, hJ⟩ := h
  have hGM : G.1 = M := (nI_eq (by have := hC.1.1; omega) (by omega)).mp (hC.2.2.2.1.symm.trans m1)
  have h0 : gL G G.1 = 0 := by
    have e1 := hx.z (M := M) (by omega) m1 M (Nat.le_refl _) hM
    have e2 := (hC.2.2.2.2.2 M hM).1
    have e3 := (hC.1.2.2 M hM).1
    rw [hGM]
    exact (nI_eq (by omega) (by omega)).mp (e2.symm.trans e1)
  have wf : gwf (zGm G j) := by
    refine ⟨by show G.1 + 1 ≤ 6; omega, fun q hq => ?_, hC.1.2.2⟩
    have hq : q < G.1 + 1 := hq
    show un (gA G) G.1 j q ≤ 3
    by_cases e : q = G.1
    · rw [e, un_e]; exact hj
    · rw [un_n e]; exact hC.1.2.1 q (by omega)
  have aA : ∀ a, a ≠ 23 → a ≠ 1682 → (va_up (va_up A 23 (upd (A 23) M (nI j))) 1682 (upd (A 1682) M (nI j))) a = A a := fun a h1 h2 => by rw [va_up_ne _ _ h2, va_up_ne _ _ h1]
  have aI : ∀ a i, ¬ (a = 22 ∧ i = 0) → ¬ (a = 1681 ∧ i = 1) → (va_up (va_up I 22 (upd (I 22) 0 (nI (M + 1)))) 1681 (upd (I 1681) 1 (nI (M + 1)))) a i = I a i := fun a i h1 h2 => by
    by_cases e : a = 1681
    · subst e; rw [va_up_self, pk_un (by omega)]
    · rw [va_up_ne _ _ e]
      by_cases e2 : a = 22
      · subst e2; rw [va_up_self, pk_un (by omega)]
      · rw [va_up_ne _ _ e2]
  have a23 : (va_up (va_up A 23 (upd (A 23) M (nI j))) 1682 (upd (A 1682) M (nI j))) 23 = upd (A 23) M (nI j) := by rw [va_up_ne _ _ (by decide), va_up_self]
  have a82 : (va_up (va_up A 23 (upd (A 23) M (nI j))) 1682 (upd (A 1682) M (nI j))) 1682 = upd (A 1682) M (nI j) := va_up_self _ _ _
  have i22 : (va_up (va_up I 22 (upd (I 22) 0 (nI (M + 1)))) 1681 (upd (I 1681) 1 (nI (M + 1)))) 22 0 = nI (M + 1) := by rw [va_up_ne _ _ (by decide), va_up_self, pk_us]
  have i81 : (va_up (va_up I 22 (upd (I 22) 0 (nI (M + 1)))) 1681 (upd (I 1681) 1 (nI (M + 1)))) 1681 1 = nI (M + 1) := by rw [va_up_self, pk_us]
  have args : ∀ (f : Nat → Int32), (∀ q, q < G.1 → f q = nI (gA G q)) → ∀ q, q < G.1 + 1 → upd f M (nI j) q = nI (un (gA G) G.1 j q) := fun f hf q hq => by
    by_cases e : q = G.1
    · rw [e, un_e, hGM, pk_us]
    · rw [un_n e, pk_un (by omega)]; exact hf q (by omega)
  refine ⟨zGm G j, q, bd, ord, s, ?_, ?_, ?_⟩
  · obtain ⟨-, g1, g2, g3, g4, g5⟩ := hC
    refine ⟨wf, by rw [aA 1 (by decide) (by decide)]; exact g1, by rw [aA 2 (by decide) (by decide)]; exact g2, by rw [i22, ← hGM]; rfl, fun q hq => by rw [a23]; exact args _ g4 q hq, ?_⟩
    rw [aA 24 (by decide) (by decide), aA 25 (by decide) (by decide), aA 26 (by decide) (by decide), aA 27 (by decide) (by decide), aA 28 (by decide) (by decide), aA 29 (by decide) (by decide), aA 30 (by decide) (by decide), aA 31 (by decide) (by decide)]
    exact g5
  · obtain ⟨-, g3, g4, g5⟩ := hR
    refine ⟨wf, by rw [i81, ← hGM]; rfl, fun q hq => by rw [a82]; exact args _ g4 q hq, ?_⟩
    rw [aA 1683 (by decide) (by decide), aA 1684 (by decide) (by decide), aA 1685 (by decide) (by decide), aA 1686 (by decide) (by decide), aA 1687 (by decide) (by decide)]
    exact g5
  · have hJ2 := hJ.mv (A' := va_up (va_up A 23 (upd (A 23) M (nI j))) 1682 (upd (A 1682) M (nI j))) (I' := va_up (va_up I 22 (upd (I 22) 0 (nI (M + 1)))) 1681 (upd (I 1681) 1 (nI (M + 1)))) (fun a h => aA a (by omega) (by omega)) (fun m _ _ j _ => by rw [aA 1688 (by decide) (by decide)]) (fun a j h => aI a j (by omega) (by omega)) (fun j h => aI 1681 j (by omega) (by omega)) (hJ.2.2.2.2.1.mv (fun a h1 h2 => aA a (by omega) (by omega)) (aI 32 4 (by omega) (by omega))) (hJ.2.2.2.2.2.1.mv (fun a h1 h2 => aA a (by omega) (by omega)) (aI 1681 15 (by omega) (by omega)))
    obtain ⟨k1, k2, k3, k4, k5, k6, k7⟩ := hJ2
    exact ⟨k1, k2, k3, k4, k5, k6, zInv_G h0 k7⟩
end GX

set_option maxHeartbeats 4000000 in
theorem okX_operation (L : Nat) (xs : Nat → Int32) : opOK L (RelX xs) 3 150 3 := by
  intro A I as hR hlen
  match as, hlen with
  | [m, op, a], _ =>
    obtain ⟨r0, r1, r2, hPR, hS, hE⟩ := id hR
    obtain ⟨M, hM6, m1, m2, hargs, hops, hhds⟩ := id hPR
    have hl1 : ∀ q, q < 6 → ∃ n, n ≤ 40 ∧ A 24 q = nI n := fun q hq => by obtain ⟨n, h1, h2, -⟩ := hops q hq; exact ⟨n, h1, h2⟩
    have hl2 : ∀ q, q < 6 → ∃ n, n ≤ 40 ∧ A 1683 q = nI n := fun q hq => by obtain ⟨n, h1, -, h2, -⟩ := hops q hq; exact ⟨n, h1, h2⟩
    by_cases hok : inR m M ∧ fitsQ op a
    · obtain ⟨⟨q, hq, rfl⟩, hfit⟩ := hok
      obtain ⟨n, hn, n1, n2, -⟩ := hops q (by omega)
      have qe : ∀ p, p < M → nI q = nI p → p = q := fun p hp e => ((nI_eq (by omega) (by omega)).mp e).symm
      by_cases h40 : n = 40
      · subst h40
        refine ⟨-4, A, I, A, I, fun Q hQ => c_operation 9 m1 hM6 hl1 (fun z => absurd ⟨⟨q, hq, rfl⟩, hfit⟩ z) (fun _ _ _ _ _ => hQ) (fun p k hp e _ hk hlt => ?_), rfl, fun Q hQ => c_moperation 9 m2 hM6 hl2 (fun z => absurd ⟨⟨q, hq, rfl⟩, hfit⟩ z) (fun _ _ _ _ _ => hQ) (fun p k hp e _ hk hlt => ?_), hR⟩
        · have := qe p hp e
          subst this
          have := (nI_eq (by omega) (by omega)).mp (hk.symm.trans n1)
          omega
        · have := qe p hp e
          subst this
          have := (nI_eq (by omega) (by omega)).mp (hk.symm.trans n2)
          omega
      · have hlt : n < 40 := by omega
        let A1 := va_up (va_up (va_up A 25 (upd (A 25) (q * 40 + n) op)) 26 (upd (A 26) (q * 40 + n) a)) 24 (upd (A 24) q (nI (n + 1)))
        let I1 := va_up I 3 (upd (I 3) 7 (nI 0))
        have a1683 : A1 1683 = A 1683 := by simp [A1, va_up]
        have i1681 : I1 1681 = I 1681 := by simp [I1, va_up]
        refine ⟨nI (n + 1), A1, I1, va_up (va_up (va_up A1 1684 (upd (A1 1684) (40 * q + n) op)) 1685 (upd (A1 1685) (40 * q + n) a)) 1683 (upd (A1 1683) q (nI (n + 1))), va_up I1 1681 (upd (I1 1681) 16 (nI 0)), fun Q hQ => c_operation 9 m1 hM6 hl1 (fun z => absurd ⟨⟨q, hq, rfl⟩, hfit⟩ z) (fun p hp e _ h4 => ?_) (fun p k hp e _ hk hlt => ?_), by simp [A1, va_up], fun Q hQ => c_moperation 9 (by rw [i1681]; exact m2) hM6 (by rw [a1683]; exact hl2) (fun z => absurd ⟨⟨q, hq, rfl⟩, hfit⟩ z) (fun p hp e _ h4 => ?_) (fun p k hp e _ hk hlt => ?_), ?_⟩
        · have := qe p hp e
          subst this
          have := (nI_eq (by omega) (by omega)).mp (h4.symm.trans n1)
          omega
        · have := qe p hp e
          subst this
          have := (nI_eq (by omega) (by omega)).mp (hk.symm.trans n1)
          subst this
          exact hQ
        · have := qe p hp e
          subst this
          rw [a1683] at h4
          have := (nI_eq (by omega) (by omega)).mp (h4.symm.trans n2)
          omega
        · have := qe p hp e
          subst this
          rw [a1683] at hk
          have := (nI_eq (by omega) (by omega)).mp (hk.symm.trans n2)
          subst this
          exact hQ
        · refine ⟨by simp [A1, va_up]; exact r0, by simp [A1, va_up]; exact r1, by simp [A1, va_up]; exact r2, PR_op (q := q) (n := n) (op := op) (a := a) hPR (by omega) hlt n1 hfit (by simp [A1, va_up]) (by simp [A1, va_up]) (by simp [A1, va_up]) (by simp [A1, va_up]) (by simp [A1, va_up]) (by simp [A1, va_up]) (by simp [A1, va_up]) (by simp [A1, va_up]) (by simp [A1, va_up]) (by simp [A1, va_up]) (by simp [A1, va_up]) (by simp [A1, va_up]) (by simp [A1, va_up]) (by simp [A1, va_up]) (by simp [A1, va_up]) (by simp [I1, va_up]) (by simp [I1, va_up, upd]), Or.inl ⟨?_, ?_⟩, hE.mv (by simp [I1, va_up, upd]) (by simp [I1, va_up, upd]) (by simp [I1, va_up, upd]) (by simp [I1, va_up, upd]) (by simp [I1, va_up, upd]) (by simp [A1, va_up]) (by simp [A1, va_up]) (by simp [A1, va_up]) (by simp [A1, va_up]) (by simp [A1, va_up]) (by simp [A1, va_up]) (by simp [A1, va_up]) (by simp [A1, va_up]) (by simp [A1, va_up]) ⟨M, hM6, by simp [I1, va_up]; exact m1, fun p h1 h2 => by simp [A1, va_up]; rw [pk_un (by omega)]; exact hE.z hM6 m1 p h1 h2⟩⟩
          · simp [I1, va_up, upd]
          · simp [va_up, upd]
    · exact ⟨-2, A, I, A, I, fun Q hQ => c_operation 9 m1 hM6 hl1 (fun _ => hQ) (fun p hp e hf _ => absurd ⟨⟨p, hp, e⟩, hf⟩ hok) (fun p k hp e hf _ _ => absurd ⟨⟨p, hp, e⟩, hf⟩ hok), rfl, fun Q hQ => c_moperation 9 m2 hM6 hl2 (fun _ => hQ) (fun p hp e hf _ => absurd ⟨⟨p, hp, e⟩, hf⟩ hok) (fun p k hp e hf _ _ => absurd ⟨⟨p, hp, e⟩, hf⟩ hok), hR⟩

set_option maxHeartbeats 4000000 in
theorem okX_handler (L : Nat) (xs : Nat → Int32) : opOK L (RelX xs) 4 153 5 := by
  intro A I as hR hlen
  match as, hlen with
  | [m, f, t, g, k], _ =>
    obtain ⟨r0, r1, r2, hPR, hS, hE⟩ := id hR
    obtain ⟨M, hM6, m1, m2, hargs, hops, hhds⟩ := id hPR
    have hl1 : ∀ q, q < 6 → ∃ n, n ≤ 4 ∧ A 27 q = nI n := fun q hq => by obtain ⟨n, h1, h2, -⟩ := hhds q hq; exact ⟨n, h1, h2⟩
    have hl2 : ∀ q, q < 6 → ∃ n, n ≤ 4 ∧ A 1686 q = nI n := fun q hq => by obtain ⟨n, h1, -, h2, -⟩ := hhds q hq; exact ⟨n, h1, h2⟩
    by_cases hok : inR m M ∧ hdP f t g k
    · obtain ⟨⟨q, hq, rfl⟩, hfit⟩ := hok
      obtain ⟨n, hn, n1, n2, -⟩ := hhds q (by omega)
      have qe : ∀ p, p < M → nI q = nI p → p = q := fun p hp e => ((nI_eq (by omega) (by omega)).mp e).symm
      by_cases h40 : n = 4
      · subst h40
        refine ⟨-4, A, I, A, I, fun Q hQ => c_handler 10 m1 hM6 hl1 (fun z => absurd ⟨⟨q, hq, rfl⟩, hfit⟩ z) (fun _ _ _ _ _ => hQ) (fun p z hp e _ hk hlt => ?_), rfl, fun Q hQ => c_mhandler 10 m2 hM6 hl2 (fun z => absurd ⟨⟨q, hq, rfl⟩, hfit⟩ z) (fun _ _ _ _ _ => hQ) (fun p z hp e _ hk hlt => ?_), hR⟩
        · have := qe p hp e
          subst this
          have := (nI_eq (by omega) (by omega)).mp (hk.symm.trans n1)
          omega
        · have := qe p hp e
          subst this
          have := (nI_eq (by omega) (by omega)).mp (hk.symm.trans n2)
          omega
      · have hlt : n < 4 := by omega
        let A1 := va_up (va_up (va_up (va_up (va_up A 28 (upd (A 28) (q * 4 + n) f)) 29 (upd (A 29) (q * 4 + n) t)) 30 (upd (A 30) (q * 4 + n) g)) 31 (upd (A 31) (q * 4 + n) k)) 27 (upd (A 27) q (nI (n + 1)))
        let I1 := va_up I 3 (upd (I 3) 7 (nI 0))
        have a1686 : A1 1686 = A 1686 := by simp [A1, va_up]
        have i1681 : I1 1681 = I 1681 := by simp [I1, va_up]
        refine ⟨nI (n + 1), A1, I1, va_up (va_up A1 1687 (upd (upd (upd (upd (A1 1687) (16 * q + 4 * n) f) (16 * q + 4 * n + 1) t) (16 * q + 4 * n + 2) g) (16 * q + 4 * n + 3) k)) 1686 (upd (A1 1686) q (nI (n + 1))), va_up I1 1681 (upd (I1 1681) 16 (nI 0)), fun Q hQ => c_handler 10 m1 hM6 hl1 (fun z => absurd ⟨⟨q, hq, rfl⟩, hfit⟩ z) (fun p hp e _ h4 => ?_) (fun p z hp e _ hk hlt => ?_), by simp [A1, va_up], fun Q hQ => c_mhandler 10 (by rw [i1681]; exact m2) hM6 (by rw [a1686]; exact hl2) (fun z => absurd ⟨⟨q, hq, rfl⟩, hfit⟩ z) (fun p hp e _ h4 => ?_) (fun p z hp e _ hk hlt => ?_), ?_⟩
        · have := qe p hp e
          subst this
          have := (nI_eq (by omega) (by omega)).mp (h4.symm.trans n1)
          omega
        · have := qe p hp e
          subst this
          have := (nI_eq (by omega) (by omega)).mp (hk.symm.trans n1)
          subst this
          exact hQ
        · have := qe p hp e
          subst this
          rw [a1686] at h4
          have := (nI_eq (by omega) (by omega)).mp (h4.symm.trans n2)
          omega
        · have := qe p hp e
          subst this
          rw [a1686] at hk
          have := (nI_eq (by omega) (by omega)).mp (hk.symm.trans n2)
          subst this
          exact hQ
        · refine ⟨by simp [A1, va_up]; exact r0, by simp [A1, va_up]; exact r1, by simp [A1, va_up]; exact r2, PR_hd (q := q) (n := n) (f := f) (t := t) (g := g) (k := k) hPR (by omega) hlt n1 hfit (by simp [A1, va_up]) (by simp [A1, va_up]) (by simp [A1, va_up]) (by simp [A1, va_up]) (by simp [A1, va_up]) (by simp [A1, va_up]) (by simp [A1, va_up]) (by simp [A1, va_up]) (by simp [A1, va_up]) (by simp [A1, va_up]) (by simp [A1, va_up]) (by simp [A1, va_up]) (by simp [A1, va_up]) (by simp [A1, va_up]) (by simp [A1, va_up]) (by simp [I1, va_up]) (by simp [I1, va_up, upd]), Or.inl ⟨?_, ?_⟩, hE.mv (by simp [I1, va_up, upd]) (by simp [I1, va_up, upd]) (by simp [I1, va_up, upd]) (by simp [I1, va_up, upd]) (by simp [I1, va_up, upd]) (by simp [A1, va_up]) (by simp [A1, va_up]) (by simp [A1, va_up]) (by simp [A1, va_up]) (by simp [A1, va_up]) (by simp [A1, va_up]) (by simp [A1, va_up]) (by simp [A1, va_up]) (by simp [A1, va_up]) ⟨M, hM6, by simp [I1, va_up]; exact m1, fun p h1 h2 => by simp [A1, va_up]; exact hE.z hM6 m1 p h1 h2⟩⟩
          · simp [I1, va_up, upd]
          · simp [va_up, upd]
    · exact ⟨-2, A, I, A, I, fun Q hQ => c_handler 10 m1 hM6 hl1 (fun _ => hQ) (fun p hp e hf _ => absurd ⟨⟨p, hp, e⟩, hf⟩ hok) (fun p z hp e hf _ _ => absurd ⟨⟨p, hp, e⟩, hf⟩ hok), rfl, fun Q hQ => c_mhandler 10 m2 hM6 hl2 (fun _ => hQ) (fun p hp e hf _ => absurd ⟨⟨p, hp, e⟩, hf⟩ hok) (fun p z hp e hf _ _ => absurd ⟨⟨p, hp, e⟩, hf⟩ hok), hR⟩

set_option maxHeartbeats 4000000 in
theorem okX_method (L : Nat) (xs : Nat → Int32) : opOK L (RelX xs) 1 148 1 := by
  intro A I as hR hlen
  match as, hlen with
  | [n], _ =>
    obtain ⟨r0, r1, r2, hPR, hS, hE⟩ := id hR
    obtain ⟨M, hM6, m1, m2, hargs, hops, hhds⟩ := id hPR
    by_cases hok : nI 0 ≤ n ∧ n ≤ nI 3
    · by_cases h6 : M = 6
      · subst h6
        exact ⟨-4, A, I, A, I, fun Q hQ => c_method 10 m1 hM6 (fun z => absurd hok z) (fun _ _ => hQ) (fun _ z => absurd z (by decide)), rfl, fun Q hQ => c_mmethod 10 m2 hM6 (fun z => absurd hok z) (fun _ _ => hQ) (fun _ z => absurd z (by decide)), hR⟩
      · have hlt : M < 6 := by omega
        have a1682 : (va_up A 23 (upd (A 23) M n)) 1682 = A 1682 := by simp [va_up]
        have i1681 : (va_up I 22 (upd (I 22) 0 (nI (M + 1)))) 1681 = I 1681 := by simp [va_up]
        refine ⟨nI M, va_up A 23 (upd (A 23) M n), va_up I 22 (upd (I 22) 0 (nI (M + 1))), va_up (va_up A 23 (upd (A 23) M n)) 1682 (upd (A 1682) M n), va_up (va_up I 22 (upd (I 22) 0 (nI (M + 1)))) 1681 (upd (I 1681) 1 (nI (M + 1))), fun Q hQ => c_method 10 m1 hM6 (fun z => absurd hok z) (fun _ z => absurd z h6) (fun _ _ => hQ), by simp [va_up], fun Q hQ => c_mmethod 10 (M := M) (by rw [i1681]; exact m2) hM6 (fun z => absurd hok z) (fun _ z => absurd z h6) (fun _ _ => by rw [a1682, i1681]; exact hQ), by simp [va_up]; exact r0, by simp [va_up]; exact r1, by simp [va_up]; exact r2, ⟨M + 1, by omega, by simp [va_up, upd], by simp [va_up, upd], ?_, ?_, ?_⟩, ?_, hE.mv (by simp [va_up, upd]) (by simp [va_up, upd]) (by simp [va_up, upd]) (by simp [va_up, upd]) (by simp [va_up, upd]) (by simp [va_up]) (by simp [va_up]) (by simp [va_up]) (by simp [va_up]) (by simp [va_up]) (by simp [va_up]) (by simp [va_up]) (by simp [va_up]) (by simp [va_up]) ⟨M + 1, by omega, by simp [va_up, upd], fun p h1 h2 => by simp [va_up]; exact hE.z hM6 m1 p (by omega) h2⟩⟩
        · intro q hq
          have e23 : (va_up (va_up A 23 (upd (A 23) M n)) 1682 (upd (A 1682) M n)) 23 = upd (A 23) M n := by simp [va_up]
          have e82 : (va_up (va_up A 23 (upd (A 23) M n)) 1682 (upd (A 1682) M n)) 1682 = upd (A 1682) M n := by simp [va_up]
          rw [e23, e82]
          by_cases hqM : q = M
          · subst hqM
            rw [pk_us, pk_us]
            obtain ⟨j, hj, e⟩ := nI_of (x := n) (Int32.not_lt.mpr hok.1)
            subst e
            exact ⟨rfl, j, by have := (nI_leI hj (by decide)).mp hok.2; omega, rfl⟩
          · rw [pk_un hqM, pk_un hqM]
            exact hargs q (by omega)
        · intro q hq
          obtain ⟨z, hz, k1, k2, k3⟩ := hops q hq
          refine ⟨z, hz, by simp [va_up]; exact k1, by simp [va_up]; exact k2, fun j hj => ?_⟩
          have := k3 j hj
          unfold prOp at this ⊢
          simpa [va_up] using this
        · intro q hq
          obtain ⟨z, hz, k1, k2, k3⟩ := hhds q hq
          refine ⟨z, hz, by simp [va_up]; exact k1, by simp [va_up]; exact k2, fun j hj => ?_⟩
          have := k3 j hj
          unfold prHd at this ⊢
          simpa [va_up] using this
        · rcases hS with ⟨s1, s2⟩ | ⟨s1, s2, s3⟩
          · exact Or.inl ⟨by simp [va_up]; exact s1, by simp [va_up, upd]; exact s2⟩
          · exact Or.inr ⟨by simp [va_up]; exact s1, by simp [va_up, upd]; exact s2, by
              obtain ⟨j, hj, e⟩ := nI_of (x := n) (Int32.not_lt.mpr hok.1)
              subst e
              exact s3.meth hE m1 m2 hlt (by have := (nI_leI hj (by decide)).mp hok.2; omega)⟩
    · exact ⟨-2, A, I, A, I, fun Q hQ => c_method 10 m1 hM6 (fun _ => hQ) (fun z => absurd z hok) (fun z => absurd z hok), rfl, fun Q hQ => c_mmethod 10 m2 hM6 (fun _ => hQ) (fun z => absurd z hok) (fun z => absurd z hok), hR⟩

