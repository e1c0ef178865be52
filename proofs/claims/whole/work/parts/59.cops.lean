/-! THE CLASS: what an operation does to a way that bears it -/
abbrev rC (w : Nat) (A0 I0 : HA) (r : Nat × zW × zF) (Q : HA → HA → Prop) : Prop := ∀ A' I', GC w A0 I0 A' I' r.2.1 r.2.2 → Q A' I'
theorem okv.word {N n : Nat} {v : Int32} (h : okv N n v) (hv : ¬ v < 0) (hn : n ≤ 4) : ∃ j, j < N ∧ v = nI j := by
  rcases h with h | rfl | ⟨k, hk, rfl⟩
  · exact h
  · exact absurd (by decide) hv
  · exact absurd (ar_neg k (by omega)) hv
theorem okv.ref {N n : Nat} {v : Int32} (h : okv N n v) (hv : v < 0) (hN : N < 2 ^ 31) : v = -1 ∨ ∃ k, k < n ∧ v = -2 - nI k := by
  rcases h with ⟨j, hj, rfl⟩ | h | h
  · exact absurd hv (nI_pos (by omega))
  · exact Or.inl h
  · exact Or.inr h
section CX
variable {w : Nat} {A0 I0 A I : HA} {S : zW} {F : zF} {G : zG} {Q : HA → HA → Prop}
theorem zok.pk (h : zok S F) {b : Nat} (hb : b < zh S) : okv F.1 (zn S) (zpk S b) := by
  rcases h.2.1 (zt S) (Nat.le_refl _) (6 + (zh S - 1 - b)) (by unfold zh at hb ⊢; omega) with z | z
  · exact z
  · exact absurd z.1 (by omega)
theorem zok.wd (h : zok S F) (hz : zwf S) {b : Nat} (hb : b < zh S) (hv : ¬ zpk S b < 0) : wdv F (zpk S b) := (h.pk hb).word hv hz.2.2.2.1
theorem C_tk {K : Nat} (h : GC w A0 I0 A I S F) (hg : gRC A0 I0 G) (hK : K < 30) : A 1 (nI K).toNatClampNeg = nI (tkN K) := by
  rw [(h.low hg).2.1, nI_clamp (by omega)]
  exact (tk_e K hK).1
theorem C_cm {v : Int32} {c : Nat} {F' : zF} (h : GC w A0 I0 A I S F') (hc : c < 100) (hh : zh S - c < 12) (hp : zpc S < 40) (k : rC w A0 I0 (zcm S c (v, F')) Q) : if v = -1 then D123_placeNow w A I (fun v18 => D124_end w (nI 7) v18 A I (fun A19 I20 => Q A19 I20)) else D125_finish w (nI c) v A I (fun A16 I17 => Q A16 I17) := by
  unfold rC zcm at k
  by_cases e : v = -1
  · rw [if_pos e] at k ⊢
    exact C_placeNow h (C_end h (fun I' h' => k _ _ h'))
  · rw [if_neg e] at k ⊢
    exact C_finish h hc hh hp (fun A' h' => k _ _ h')
theorem C_compute1 {K : Nat} (h : GC w A0 I0 A I S F) (hg : gRC A0 I0 G) (hok : zok S F) (hN : F.1 < 32258) (hK : K = 11 ∨ K = 29) (hh : 1 ≤ zh S) (hv : ¬ zpk S 0 < 0) (hp : zpc S < 40) (k : rC w A0 I0 (zcm S 1 (z1 F (nI K) (zpk S 0))) Q) : D50_compute w (nI K) A I Q := by
  have hz := h.wf.hi
  have e1 : tkN K = 1 := by rcases hK with rfl | rfl <;> rfl
  unfold D50_compute
  rw [vpT (by omega) (by decide), C_tk h hg (by omega), e1, if_pos rfl]
  refine ⟨trivial, C_peek h (by omega) (C_one h hok.1 hN (hok.wd h.wf (by omega) hv) (fun A' I' h' => ?_))⟩
  exact C_cm h' (by omega) (by omega) hp k
theorem C_compute2 {K : Nat} (h : GC w A0 I0 A I S F) (hg : gRC A0 I0 G) (hok : zok S F) (hN : F.1 < 32258) (hK : op2 K) (hh : 2 ≤ zh S) (hv : ¬ zpk S 0 < 0) (hu : ¬ zpk S 1 < 0) (hp : zpc S < 40) (k : rC w A0 I0 (zcm S 2 (z2 F K (zpk S 1) (zpk S 0))) Q) : D50_compute w (nI K) A I Q := by
  have hz := h.wf.hi
  have hK2 := hK
  obtain ⟨n1, n2, n3⟩ := hK2
  have e1 : tkN K = 2 := by
    rcases (show K = 6 ∨ K = 7 ∨ K = 8 ∨ K = 9 ∨ K = 10 ∨ K = 12 ∨ K = 13 ∨ K = 14 ∨ K = 15 ∨ K = 16 by omega) with rfl | rfl | rfl | rfl | rfl | rfl | rfl | rfl | rfl | rfl <;> rfl
  unfold D50_compute
  rw [vpT (by omega) (by decide), C_tk h hg (by omega), e1, if_neg (by decide)]
  refine ⟨trivial, C_peek h (by omega) (C_peek h (by omega) (C_two h hok.1 hN hK (hok.wd h.wf (by omega) hu) (hok.wd h.wf (by omega) hv) (fun A' I' h' => ?_)))⟩
  exact C_cm h' (by omega) (by omega) hp k
theorem C_thr {kd : Nat} (h : GC w A0 I0 A I S F) (hg : gRC A0 I0 G) (hkd : kd ≤ 12) (k : rC w A0 I0 (zthr G F S kd) Q) : D51_raise w (nI kd) A I Q := C_raise h hg hkd k
theorem C_peekA {Q : Int32 → Prop} {b : Nat} (h : GC w A0 I0 A I S F) (hb : b < 100) (k : ∀ v, (b < zh S → v = zpk S b) → Q v) : D122_peek w (nI b) A I Q := by
  by_cases e : b < zh S
  · exact C_peek h e (k _ (fun _ => rfl))
  · exact C_peekE h (by omega) hb (k _ (fun z => absurd z e))
theorem C_move {K : Nat} {a : Int32} (h : GC w A0 I0 A I S F) (hg : gRC A0 I0 G) (hK : K < 30) (k : ∀ v1 v2 A', (0 < zh S → v1 = zpk S 0) → (1 < zh S → v2 = zpk S 1) → GC w A0 I0 A' I (zdrop S (tkN K)) F → (fun A4 I5 => if nI K = nI 0 then D27_number a (fun v6 => D126_push w v6 A4 I5 (fun A7 I8 => D134_next w A7 I8 (fun A9 I10 => Q A9 I10))) else if nI K = nI 1 then D137_localAt w a A4 I5 (fun v11 => D126_push w v11 A4 I5 (fun A12 I13 => D134_next w A12 I13 (fun A14 I15 => Q A14 I15))) else if nI K = nI 2 then D138_keepLocal w a v1 A4 I5 (fun A16 I17 => D134_next w A16 I17 (fun A18 I19 => Q A18 I19)) else if nI K = nI 4 then D126_push w v1 A4 I5 (fun A20 I21 => D126_push w v1 A20 I21 (fun A22 I23 => D134_next w A22 I23 (fun A24 I25 => Q A24 I25))) else if nI K = nI 5 then D126_push w v1 A4 I5 (fun A26 I27 => D126_push w v2 A26 I27 (fun A28 I29 => D134_next w A28 I29 (fun A30 I31 => Q A30 I31))) else if nI K = nI 28 then D126_push w (-1) A4 I5 (fun A32 I33 => D134_next w A32 I33 (fun A34 I35 => Q A34 I35)) else D134_next w A4 I5 (fun A36 I37 => Q A36 I37)) A' I) : D67_moveValues w (nI K) a A I Q := by
  have t := tk_e K hK
  unfold D67_moveValues
  refine C_peekA h (by decide) (fun v1 e1 => C_peekA h (by decide) (fun v2 e2 => ?_))
  rw [vpT (by omega) (by decide), C_tk h hg hK]
  exact ⟨trivial, C_drop h (by omega) (fun A' h' => k v1 v2 A' e1 e2 h')⟩
theorem zh_drop {c : Nat} : zh (zdrop S c) = zh S - c := un_e
theorem zh_push {x : Int32} : zh (zpush S x) = zh S + 1 := un_e
theorem zpc_drop {c : Nat} : zpc (zdrop S c) = zpc S := rfl
theorem zpc_push {x : Int32} : zpc (zpush S x) = zpc S := rfl
/-- the cases of the sorts -/
theorem zb_w2 {K : Nat} {a : Int32} (hh : zh S ≤ 12) (t : tkN K = 2) (l : lvN K ≤ 2) (n1 : ¬ (K ≤ 5 ∨ K = 26)) (n2 : ¬ rfo K) (n3 : K ≠ 1) : zbad K S a ↔ (zh S < 2 ∨ zpk S 0 < 0 ∨ zpk S 1 < 0) := by
  unfold zbad
  rw [t, zws2]
  constructor
  · rintro (z | z | z | z)
    · exact Or.inl z
    · exact absurd z (by omega)
    · exact absurd z.1 n3
    · rcases z.2 with y | y
      · exact Or.inr (Or.inl y)
      · exact Or.inr (Or.inr (Decidable.byContradiction fun x => y ⟨fun u => absurd u x, fun u => absurd u n2⟩))
  · rintro (z | z | z)
    · exact Or.inl z
    · exact Or.inr (Or.inr (Or.inr ⟨n1, Or.inl z⟩))
    · exact Or.inr (Or.inr (Or.inr ⟨n1, Or.inr fun x => n2 (x.mp z)⟩))
theorem zb_w1 {K : Nat} {a : Int32} (hh : zh S ≤ 12) (t : tkN K = 1) (l : lvN K ≤ 1) (n1 : ¬ (K ≤ 5 ∨ K = 26)) (n2 : ¬ rfo K) (n3 : K ≠ 1) : zbad K S a ↔ (zh S < 1 ∨ zpk S 0 < 0) := by
  unfold zbad
  rw [t, zws1]
  constructor
  · rintro (z | z | z | z)
    · exact Or.inl z
    · exact absurd z (by omega)
    · exact absurd z.1 n3
    · exact Or.inr (Decidable.byContradiction fun x => z.2 ⟨fun u => absurd u x, fun u => absurd u n2⟩)
  · rintro (z | z)
    · exact Or.inl z
    · exact Or.inr (Or.inr (Or.inr ⟨n1, fun x => n2 (x.mp z)⟩))
theorem zb_r1 {K : Nat} {a : Int32} (hh : zh S ≤ 12) (t : tkN K = 1) (l : lvN K ≤ 1) (n1 : ¬ (K ≤ 5 ∨ K = 26)) (n2 : rfo K) (n3 : K ≠ 1) : zbad K S a ↔ (zh S < 1 ∨ ¬ zpk S 0 < 0) := by
  unfold zbad
  rw [t, zws1]
  constructor
  · rintro (z | z | z | z)
    · exact Or.inl z
    · exact absurd z (by omega)
    · exact absurd z.1 n3
    · exact Or.inr fun x => z.2 ⟨fun _ => n2, fun _ => x⟩
  · rintro (z | z)
    · exact Or.inl z
    · exact Or.inr (Or.inr (Or.inr ⟨n1, fun x => z (x.mpr n2)⟩))
theorem zb_22 {a : Int32} (hh : zh S ≤ 12) : zbad 22 S a ↔ (zh S < 2 ∨ zpk S 0 < 0 ∨ ¬ zpk S 1 < 0) := by
  unfold zbad
  have n2 : rfo 22 := by unfold rfo; decide
  show zh S < 2 ∨ 12 < zh S - 2 + 1 ∨ (22 = 1 ∧ _) ∨ (_ ∧ zws S (rfo 22) 2) ↔ _
  rw [zws2]
  constructor
  · rintro (z | z | z | z)
    · exact Or.inl z
    · exact absurd z (by omega)
    · exact absurd z.1 (by decide)
    · rcases z.2 with y | y
      · exact Or.inr (Or.inl y)
      · exact Or.inr (Or.inr fun x => y ⟨fun _ => n2, fun _ => x⟩)
  · rintro (z | z | z)
    · exact Or.inl z
    · exact Or.inr (Or.inr (Or.inr ⟨by decide, Or.inl z⟩))
    · exact Or.inr (Or.inr (Or.inr ⟨by decide, Or.inr fun x => z (x.mpr n2)⟩))
theorem zb_23 {a : Int32} (hh : zh S ≤ 12) : zbad 23 S a ↔ (zh S < 3 ∨ zpk S 0 < 0 ∨ zpk S 1 < 0 ∨ ¬ zpk S 2 < 0) := by
  unfold zbad
  have n2 : rfo 23 := by unfold rfo; decide
  show zh S < 3 ∨ 12 < zh S - 3 + 0 ∨ (23 = 1 ∧ _) ∨ (_ ∧ zws S (rfo 23) 3) ↔ _
  rw [zws3]
  constructor
  · rintro (z | z | z | z)
    · exact Or.inl z
    · exact absurd z (by omega)
    · exact absurd z.1 (by decide)
    · rcases z.2 with y | y | y
      · exact Or.inr (Or.inl y)
      · exact Or.inr (Or.inr (Or.inl y))
      · exact Or.inr (Or.inr (Or.inr fun x => y ⟨fun _ => n2, fun _ => x⟩))
  · rintro (z | z | z | z)
    · exact Or.inl z
    · exact Or.inr (Or.inr (Or.inr ⟨by decide, Or.inl z⟩))
    · exact Or.inr (Or.inr (Or.inr ⟨by decide, Or.inr (Or.inl z)⟩))
    · exact Or.inr (Or.inr (Or.inr ⟨by decide, Or.inr (Or.inr fun x => z (x.mpr n2))⟩))
/-- operations of any sort -/
theorem zb_any {K : Nat} {a : Int32} (n1 : K ≤ 5 ∨ K = 26) (n3 : K ≠ 1) : zbad K S a ↔ (zh S < tkN K ∨ 12 < zh S - tkN K + lvN K) := by
  unfold zbad
  constructor
  · rintro (z | z | z | z)
    · exact Or.inl z
    · exact Or.inr z
    · exact absurd z.1 n3
    · exact absurd n1 z.1
  · rintro (z | z)
    · exact Or.inl z
    · exact Or.inr (Or.inl z)
theorem zb_no {K : Nat} {a : Int32} (t : tkN K = 0) (n3 : K ≠ 1) : zbad K S a ↔ 12 < zh S + lvN K := by
  unfold zbad
  rw [t]
  constructor
  · rintro (z | z | z | z)
    · exact absurd z (by omega)
    · exact z
    · exact absurd z.1 n3
    · obtain ⟨b, hb, -⟩ := z.2; exact absurd hb (by omega)
  · intro z; exact Or.inr (Or.inl z)
end CX
