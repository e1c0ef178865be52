/-! THE REFERENCE: what a word comes to; a throw -/
theorem z1_wd {F : zF} {op v : Int32} (hN : F.1 < 32258) (h8 : 258 ≤ F.1) (hv : wdv F v) : (z1 F op v).1 = -1 ∨ wdv (z1 F op v).2 (z1 F op v).1 := by
  obtain ⟨j, hj, rfl⟩ := hv
  unfold z1
  by_cases e : isn (nI j)
  · rw [if_pos e]
    have j6 := (isn_nI (by omega)).mp e
    obtain ⟨i, hi, ei⟩ := nbA (bR_w1 (op := op) (bR_num j6)).1 (bR_w1 (op := op) (bR_num j6)).2
    exact Or.inr ⟨i, by show i < F.1; omega, ei⟩
  · rw [if_neg e]
    unfold zmk
    split
    · exact Or.inl rfl
    · exact Or.inr ⟨F.1, Nat.lt_succ_self _, rfl⟩
theorem z2_wd {F : zF} {n : Nat} {v u : Int32} (hN : F.1 < 32258) (h8 : 258 ≤ F.1) (hv : wdv F v) (hu : wdv F u) : (z2 F n v u).1 = -1 ∨ wdv (z2 F n v u).2 (z2 F n v u).1 := by
  obtain ⟨j, hj, rfl⟩ := hv
  obtain ⟨k, hk, rfl⟩ := hu
  unfold z2
  by_cases e : isn (nI j) ∧ isn (nI k)
  · rw [if_pos e]
    have j6 := (isn_nI (by omega)).mp e.1
    have k6 := (isn_nI (by omega)).mp e.2
    obtain ⟨i, hi, ei⟩ := nbA (bR_w2 (k := n) (bR_num j6) (bR_num k6)).1 (bR_w2 (k := n) (bR_num j6) (bR_num k6)).2
    exact Or.inr ⟨i, by show i < F.1; omega, ei⟩
  · rw [if_neg e]
    unfold zmk
    split
    · exact Or.inl rfl
    · exact Or.inr ⟨F.1, Nat.lt_succ_self _, rfl⟩
section RT
variable {b : Nat} {A0 I0 A I : HA} {S : zW} {F : zF} {G : zG}
theorem M_endsW {Q : Int32 → HA → HA → Prop} {x y z : Int32} {dn : Nat} (hb : b + 520 ≤ 88400) (hw : I 1681 35 = nI b) (hd : A 1688 (b + 1) = nI dn) (hF : zFM A I F) (hO : gmO b A0 I0 A I) (k : ∀ A' I', (∀ (S' : zW), zd S' = dn → zo S' = x → zpl S' = y → zk S' = z → (x = nI 1 → A 1688 (b + 517) = zr S') → GE b A0 I0 A' I' S' F) → Q (nI 1) A' I') : D167_ends x y z A I Q := by
  unfold D167_ends
  rw [hw, nI_add, nI_add, nI_add, vpT (by omega) (by decide), vpT (by omega) (by decide), vpT (by omega) (by decide), nI_clamp (by omega), nI_clamp (by omega), nI_clamp (by omega)]
  refine ⟨trivial, trivial, trivial, k _ _ (fun S' e1 e2 e3 e4 e5 => ⟨hb, ⟨hw, ?_, ?_, ?_, ?_, ?_⟩, hF.sa.sa.sa, ((hO.sa ?_).sa ?_).sa ?_⟩)⟩
  · rw [sA_n (by omega), sA_n (by omega), sA_n (by omega), e1]; exact hd
  · rw [sA_n (by omega), sA_n (by omega), sA_e, e2]
  · rw [sA_n (by omega), sA_e, e3]
  · rw [sA_e, e4]
  · intro e; rw [sA_n (by omega), sA_n (by omega), sA_n (by omega)]; exact e5 (e2 ▸ e)
  · unfold zMI; omega
  · unfold zMI; omega
  · unfold zMI; omega
theorem M_cm {Q : Int32 → HA → HA → Prop} {v : Int32 × zF} {c : Nat} (h : GA b A0 I0 A I S v.2) (hv : v.1 = -1 ∨ wdv v.2 v.1) (hc : c ≤ zh S) (hh : zh S - c < 12) (hp : zpc S < 40) (k : rM b A0 I0 (zcm S c v) Q) : if v.1 = (-1) then D166_place A I (fun v7 => D167_ends (nI 7) v7 (nI 0) A I (fun v8 A9 I10 => Q v8 A9 I10)) else D170_next (nI c) v.1 A I (fun v4 A5 I6 => Q v4 A5 I6) := by
  unfold rM zcm at k
  by_cases e : v.1 = -1
  · rw [if_pos e] at k ⊢
    exact M_place h (M_ends (S' := S) h (fun A' I' f => k.2 rfl _ _ (f _ rfl rfl rfl (h.2.2.1.trans nI_0.symm) (fun y => absurd y (by decide)))))
  · rw [if_neg e] at k ⊢
    obtain ⟨j, hj, ej⟩ := hv.resolve_left e
    have := h.2.2.2.2.1.2.2.1
    refine M_next1 h (by rw [ej]; exact fun y => nI_pos (n := j) (by omega) (by rw [y]; decide)) hc hh hp (fun A' h' => k.1 rfl _ _ h')
theorem M_reckons1 {Q : Int32 → HA → HA → Prop} {n : Nat} {v : Int32} (hn : n = 11 ∨ n = 29) (h : GA b A0 I0 A I S F) (hf : zfok F) (hN : F.1 < 32258) (hv : wdv F v) (hc : 1 ≤ zh S) (hp : zpc S < 40) (k : rM b A0 I0 (zcm S 1 (z1 F (nI n) v)) Q) : D175_reckons (nI n) v (-1) (nI 1) A I Q := by
  have hz := h.wf.hi
  unfold D175_reckons
  exact M_one hn h hf hN hv (fun A' I' h' => M_cm h' (z1_wd hN h.2.2.2.2.1.2.1 hv) hc (by omega) hp k)
theorem M_reckons2 {Q : Int32 → HA → HA → Prop} {n : Nat} {v u : Int32} (hn : op2 n) (h : GA b A0 I0 A I S F) (hf : zfok F) (hN : F.1 < 32258) (hv : wdv F v) (hu : wdv F u) (h0 : n = 9 ∨ n = 10 → ¬ u = nI 128) (hc : 2 ≤ zh S) (hp : zpc S < 40) (k : rM b A0 I0 (zcm S 2 (z2 F n v u)) Q) : D175_reckons (nI n) v u (nI 2) A I Q := by
  have hz := h.wf.hi
  unfold D175_reckons
  exact M_two hn h hf hN hv hu h0 (fun A' I' h' => M_cm h' (z2_wd hN h.2.2.2.2.1.2.1 hv hu) hc (by omega) hp k)
theorem GA.ff (h : GA b A0 I0 A I S F) : sI I 1681 36 (nI (b + 30 + 21 * zt S)) = I := by
  unfold sI
  funext x
  by_cases e : x = 1681
  · subst e
    rw [va_up_self]
    funext j
    by_cases e2 : j = 36
    · subst e2; rw [pk_us]; exact h.f.symm
    · rw [pk_un e2]
  · rw [va_up_ne _ _ e]
theorem sI_sI {I : HA} {a j : Nat} {x y : Int32} : sI (sI I a j x) a j y = sI I a j y := by
  unfold sI
  funext c
  by_cases e : c = a
  · subst e
    rw [va_up_self, va_up_self, va_up_self]
    funext i
    by_cases e2 : i = j
    · subst e2; rw [pk_us, pk_us]
    · rw [pk_un e2, pk_un e2, pk_un e2]
  · rw [va_up_ne _ _ e, va_up_ne _ _ e, va_up_ne _ _ e]
theorem bR_nI {n : Nat} (h : n ≤ 127) : bR (nI n) := by
  unfold bR
  rw [nI_toInt (by omega)]
  omega
/-- the handlers of one frame, in a throw -/
def R181 (x : Int32) (A14 I15 : HA) (P2 : HA → HA → Prop) (Q : Int32 → HA → HA → Prop) : Prop := vp_in ((I15 1681 36) + (nI 0)) 88400 ∧ ((∀ P17 : Int32 → HA → HA → Prop, (∀ (a18 : Int32) (A21 I22 : HA), (vp_in (A14 1688 ((I15 1681 36) + (nI 0)).toNatClampNeg) 6 ∧ (if a18 < (A21 1686 (A14 1688 ((I15 1681 36) + (nI 0)).toNatClampNeg).toNatClampNeg) then vp_in ((I22 1681 36) + (nI 1)) 88400 ∧ (vp_in (((nI 16) * (A14 1688 ((I15 1681 36) + (nI 0)).toNatClampNeg)) + ((nI 4) * a18)) 96 ∧ (if (A21 1688 ((I22 1681 36) + (nI 1)).toNatClampNeg) < (A21 1687 (((nI 16) * (A14 1688 ((I15 1681 36) + (nI 0)).toNatClampNeg)) + ((nI 4) * a18)).toNatClampNeg) then P17 (a18 + nI 1) A21 I22 else vp_in ((I22 1681 36) + (nI 1)) 88400 ∧ (vp_in ((((nI 16) * (A14 1688 ((I15 1681 36) + (nI 0)).toNatClampNeg)) + ((nI 4) * a18)) + (nI 1)) 96 ∧ (if (A21 1688 ((I22 1681 36) + (nI 1)).toNatClampNeg) < (A21 1687 ((((nI 16) * (A14 1688 ((I15 1681 36) + (nI 0)).toNatClampNeg)) + ((nI 4) * a18)) + (nI 1)).toNatClampNeg) then vp_in ((((nI 16) * (A14 1688 ((I15 1681 36) + (nI 0)).toNatClampNeg)) + ((nI 4) * a18)) + (nI 3)) 96 ∧ (if (A21 1687 ((((nI 16) * (A14 1688 ((I15 1681 36) + (nI 0)).toNatClampNeg)) + ((nI 4) * a18)) + (nI 3)).toNatClampNeg) = 0 then vp_in ((I22 1681 36) + (nI 2)) 88400 ∧ (D168_node x (fun v33 => D171_push v33 (sA A21 1688 ((I22 1681 36) + (nI 2)).toNatClampNeg (nI 0)) I22 (fun A34 I35 => vp_in ((((nI 16) * (A14 1688 ((I15 1681 36) + (nI 0)).toNatClampNeg)) + ((nI 4) * a18)) + (nI 2)) 96 ∧ (vp_in ((I35 1681 36) + (nI 1)) 88400 ∧ (Q (nI 0) (sA A34 1688 ((I35 1681 36) + (nI 1)).toNatClampNeg (A34 1687 ((((nI 16) * (A14 1688 ((I15 1681 36) + (nI 0)).toNatClampNeg)) + ((nI 4) * a18)) + (nI 2)).toNatClampNeg)) I35))))) else vp_in ((((nI 16) * (A14 1688 ((I15 1681 36) + (nI 0)).toNatClampNeg)) + ((nI 4) * a18)) + (nI 3)) 96 ∧ (if (A21 1687 ((((nI 16) * (A14 1688 ((I15 1681 36) + (nI 0)).toNatClampNeg)) + ((nI 4) * a18)) + (nI 3)).toNatClampNeg) = x then vp_in ((I22 1681 36) + (nI 2)) 88400 ∧ (D168_node x (fun v40 => D171_push v40 (sA A21 1688 ((I22 1681 36) + (nI 2)).toNatClampNeg (nI 0)) I22 (fun A41 I42 => vp_in ((((nI 16) * (A14 1688 ((I15 1681 36) + (nI 0)).toNatClampNeg)) + ((nI 4) * a18)) + (nI 2)) 96 ∧ (vp_in ((I42 1681 36) + (nI 1)) 88400 ∧ (Q (nI 0) (sA A41 1688 ((I42 1681 36) + (nI 1)).toNatClampNeg (A41 1687 ((((nI 16) * (A14 1688 ((I15 1681 36) + (nI 0)).toNatClampNeg)) + ((nI 4) * a18)) + (nI 2)).toNatClampNeg)) I42))))) else P17 (a18 + nI 1) A21 I22)) else P17 (a18 + nI 1) A21 I22)))) else vp_in ((I22 1681 35) + (nI 0)) 88400 ∧ (vp_in ((I22 1681 35) + (nI 0)) 88400 ∧ (P2  (sA A21 1688 ((I22 1681 35) + (nI 0)).toNatClampNeg ((A21 1688 ((I22 1681 35) + (nI 0)).toNatClampNeg) - (nI 1))) I22)))) → P17 a18 A21 I22) → P17 (nI 0) A14 I15))
theorem M_hand {Q : Int32 → HA → HA → Prop} {N : HA → HA → Prop} {kd : Nat} (h : GA b A0 I0 A I S F) (hg : gRM A0 I0 G) (hkd : kd ≤ 12)
    (ks : ∀ g, zhd G (zq S) (zpc S) kd (gC G (zq S)) 0 = some g → ∀ A', GA b A0 I0 A' I (zjump (zpush (zdrop S 12) (nI kd + nI 128)) g) F → Q (nI 0) A' I) (kn : zhd G (zq S) (zpc S) kd (gC G (zq S)) 0 = none → N (sA A 1688 b (nI (zt S))) I) : R181 (nI kd) A I N Q := by
  have hb := h.hb
  have hz := h.wf.hi
  have g := h.loM hg
  obtain ⟨hL, hC, hO, hH⟩ := g.1.2.2 (zq S) hz.2.1
  obtain ⟨r1, r2, r3, r4⟩ := g.2.2.2 (zq S) hz.2.1
  unfold R181
  rw [h.f, nI_add, Nat.add_zero, vpT (by omega) (by decide), nI_clamp (n := b + 30 + 21 * zt S) (by omega), h.fr.1]
  refine ⟨trivial, ?_⟩
  intro P2 hP2
  have inner : ∀ m2 i, m2 + i = gC G (zq S) → zhd G (zq S) (zpc S) kd (gC G (zq S)) 0 = zhd G (zq S) (zpc S) kd m2 i → P2 (nI i) A I := by
    intro m2
    induction m2 with
    | zero =>
      intro i hi e
      refine hP2 _ _ _ ?_
      rw [vpT (by omega) (by decide), nI_clamp (n := zq S) (by omega), r2, iLt (by omega) (by omega), if_neg (by omega), h.w, nI_add, Nat.add_zero, vpT (by omega) (by decide), nI_clamp (by omega), h.t, pk_sub (by omega)]
      exact ⟨trivial, trivial, trivial, kn e⟩
    | succ m2 ih2 =>
      intro i hi e
      obtain ⟨b1, b2, b3, b4⟩ := hH i (by omega)
      obtain ⟨e1, e2, e3, e4⟩ := r4 i (by omega)
      have ih2 := ih2 (i + 1) (by omega)
      refine hP2 _ _ _ ?_
      rw [vpT (by omega) (by decide), nI_clamp (n := zq S) (by omega), r2, iLt (by omega) (by omega), if_pos (by omega), h.f, nI_add, nI_add, nI_add, pk_mul, pk_mul, nI_add, nI_add, nI_add, nI_add]
      rw [vpT (by omega) (by decide), vpT (n := 16 * zq S + 4 * i) (by omega) (by decide), vpT (n := 16 * zq S + 4 * i + 1) (by omega) (by decide), vpT (n := 16 * zq S + 4 * i + 2) (by omega) (by decide), vpT (n := 16 * zq S + 4 * i + 3) (by omega) (by decide), vpT (n := b + 30 + 21 * zt S + 2) (by omega) (by decide)]
      rw [nI_clamp (n := b + 30 + 21 * zt S + 1) (by omega), nI_clamp (n := b + 30 + 21 * zt S + 2) (by omega), nI_clamp (n := 16 * zq S + 4 * i) (by omega), nI_clamp (n := 16 * zq S + 4 * i + 1) (by omega), nI_clamp (n := 16 * zq S + 4 * i + 2) (by omega), nI_clamp (n := 16 * zq S + 4 * i + 3) (by omega), h.fr.2.1, e1, e2, e4]
      have mat : zhm G (zq S) (zpc S) kd i → D168_node (nI kd) (fun v33 => D171_push v33 (sA A 1688 (b + 30 + 21 * zt S + 2) (nI 0)) I (fun A34 I35 => True ∧ (vp_in ((I35 1681 36) + (nI 1)) 88400 ∧ (Q (nI 0) (sA A34 1688 ((I35 1681 36) + (nI 1)).toNatClampNeg (A34 1687 (16 * zq S + 4 * i + 2))) I35)))) := by
        intro c
        have ez : zhd G (zq S) (zpc S) kd (gC G (zq S)) 0 = some (gG G (zq S) i) := by rw [e]; unfold zhd; rw [if_pos c]
        refine M_node (bR_nI (by omega)) ?_
        have hd := h.drop (c := 12)
        rw [show zh S - 12 = 0 by omega] at hd
        refine M_pushX hd (by rw [zh_drop]; omega) (fun A1 h1 => ?_)
        have hf : I 1681 36 = nI (b + 30 + 21 * zt S) := h.f
        have a87 : A1 1687 (16 * zq S + 4 * i + 2) = nI (gG G (zq S) i) := ((h1.loM hg).2.2.2 (zq S) hz.2.1).2.2.2 i (by omega) |>.2.2.1
        rw [hf, nI_add, vpT (by omega) (by decide), nI_clamp (by omega), a87]
        exact ⟨trivial, trivial, ks _ ez _ (h1.jump (by omega))⟩
      refine ⟨trivial, trivial, trivial, ?_⟩
      rw [iLt (by omega) (by omega)]
      by_cases c1 : zpc S < gF G (zq S) i
      · rw [if_pos c1]
        exact ih2 (by rw [e]; conv => { lhs; unfold zhd }; rw [if_neg (fun y => by have := y.2.1; omega)])
      · rw [if_neg c1, iLt (by omega) (by omega)]
        refine ⟨trivial, trivial, ?_⟩
        by_cases c2 : zpc S < gT G (zq S) i
        · rw [if_pos c2, iEq0 (by omega), iEq (by omega) (by omega)]
          refine ⟨trivial, ?_⟩
          by_cases c3 : gK G (zq S) i = 0
          · rw [if_pos c3]
            exact ⟨trivial, mat ⟨Or.inl c3, by omega, c2⟩⟩
          · rw [if_neg c3]
            refine ⟨trivial, ?_⟩
            by_cases c4 : gK G (zq S) i = kd
            · rw [if_pos c4]
              exact ⟨trivial, mat ⟨Or.inr c4, by omega, c2⟩⟩
            · rw [if_neg c4]
              exact ih2 (by rw [e]; conv => { lhs; unfold zhd }; rw [if_neg (fun y => y.1.elim c3 c4)])
        · rw [if_neg c2]
          exact ih2 (by rw [e]; conv => { lhs; unfold zhd }; rw [if_neg (fun y => c2 y.2.2)])
  exact inner (gC G (zq S)) 0 (by omega) rfl
theorem M_throwing {Q : Int32 → HA → HA → Prop} {kd : Nat} (h : GA b A0 I0 A I S F) (hg : gRM A0 I0 G) (hkd : kd ≤ 12) (k : rM b A0 I0 (zthr G F S kd) Q) : D181_throwing (nI kd) A I Q := by
  have hb := h.hb
  unfold D181_throwing
  refine M_place h ?_
  unfold zthr at k
  revert k
  generalize zplace S = pl
  intro k P hP
  have key : ∀ (m : Nat) (A I : HA) (S : zW), GA b A0 I0 A (sI I 1681 36 (nI (b + 30 + 21 * zt S))) S F → zt S = m → rM b A0 I0 ((zrai G kd pl m S).1, (zrai G kd pl m S).2, F) Q → P A I := by
    intro m
    induction m with
    | zero =>
      intro A I S h ht k
      have hz := h.wf.hi
      have hw : I 1681 35 = nI b := by have := h.w; rw [sI_n (by decide)] at this; exact this
      refine hP _ _ ?_
      rw [hw, nI_add, Nat.add_zero, vpT (by omega) (by decide), nI_clamp (by omega), h.t, ← nI_0, iLt (by omega) (by omega), if_pos (by omega)]
      refine ⟨trivial, M_frame hb hw (by omega) h.t ?_⟩
      show R181 _ _ _ _ _
      generalize hI : sI I 1681 36 (nI (b + 30 + 21 * zt S)) = I1 at h ⊢
      unfold zrai at k
      refine M_hand h hg hkd (fun g e A' h' => ?_) (fun e => ?_)
      · rw [e] at k; exact k.1 rfl _ _ h'
      · rw [e] at k
        have hw1 : I1 1681 35 = nI b := h.w
        refine hP _ _ ?_
        rw [hw1, nI_add, Nat.add_zero, vpT (by omega) (by decide), nI_clamp (by omega), sA_e, ← nI_0, iLt (by omega) (by omega), if_neg (by omega)]
        refine ⟨trivial, M_endsW (dn := zd S) (F := F) (A0 := A0) (I0 := I0) hb hw1 (by rw [sA_n (by omega)]; exact h.2.2.2.1.2.2.2.2.1) h.2.2.2.2.1.sa (h.2.2.2.2.2.sa (by unfold zMI; omega)) (fun A' I' f => k.2 rfl _ _ (f _ rfl rfl rfl rfl (fun y => absurd y (by decide))))⟩
    | succ m ih =>
      intro A I S h ht k
      have hz := h.wf.hi
      have hw : I 1681 35 = nI b := by have := h.w; rw [sI_n (by decide)] at this; exact this
      refine hP _ _ ?_
      rw [hw, nI_add, Nat.add_zero, vpT (by omega) (by decide), nI_clamp (by omega), h.t, ← nI_0, iLt (by omega) (by omega), if_pos (by omega)]
      refine ⟨trivial, M_frame hb hw (by omega) h.t ?_⟩
      show R181 _ _ _ _ _
      generalize hI : sI I 1681 36 (nI (b + 30 + 21 * zt S)) = I1 at h ⊢
      unfold zrai at k
      refine M_hand h hg hkd (fun g e A' h' => ?_) (fun e => ?_)
      · rw [e] at k; exact k.1 rfl _ _ h'
      · rw [e] at k
        exact ih _ _ (zleave S) (h.leave (by omega)) (by show zt S - 1 = m; omega) k
  refine key (zt S) A I S ?_ rfl k
  rw [h.ff]
  exact h
theorem M_thr {Q : Int32 → HA → HA → Prop} {kd : Nat} (h : GA b A0 I0 A I S F) (hg : gRM A0 I0 G) (hkd : kd ≤ 12) (k : rM b A0 I0 (zthr G F S kd) Q) : D181_throwing (nI kd) A I (fun v A I => Q v A I) := M_throwing h hg hkd k
end RT
