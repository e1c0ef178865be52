/-! THE REFERENCE: the operations that may split -/
section RP
variable {b : Nat} {A0 I0 A I : HA} {S : zW} {F : zF} {G : zG} {alt : Option Nat} {Q : Int32 → HA → HA → Prop}
theorem mN1 {Q : Int32 → Prop} {v : Int32} (h : isn v) (k : Q (nI 1)) : D177_isNumber v Q := M_isNumber (fun _ => k) (fun z => absurd h z)
theorem mN0 {Q : Int32 → Prop} {v : Int32} (h : ¬ isn v) (k : Q (nI 0)) : D177_isNumber v Q := M_isNumber (fun z => absurd z h) (fun _ => k)
theorem GA.arr (h : GA b A0 I0 A I S F) {k : Nat} (hk : k < zn S) : A 1688 (b + 6 + k) = nI (zL S k) ∧ ∀ i, i < zL S k → A 1688 (b + 10 + (k * 5 + i)) = zE S k i := h.2.2.2.1.2.2.2.2.2.2 k hk
theorem GA.n (h : GA b A0 I0 A I S F) : A 1688 (b + 5) = nI (zn S) := h.2.2.2.1.2.2.2.1
theorem alt_n {c : Nat} (h : c < 100) {x y : Prop} : (if nI c = (-1 : Int32) then x else y) = y := iNg (by omega) (by decide)
theorem ar_i {x : Int32} {k : Nat} (h : k < 4) : x - (-2 - nI k) = x + nI (k + 2) := by
  rw [Int32.sub_eq_add_neg, (by decide : ∀ k, k < 4 → -(-2 - nI k : Int32) = nI (k + 2)) k h]
theorem M_elem {K c j : Nat} {v : Int32} (hK : K = 22 ∨ K = 23) (h : GA b A0 I0 A I S F) (hg : gRM A0 I0 G) (hok : zok S F) (hN : F.1 < 32258) (hc : c < 1000) (hj : j < zn S) (hv : v = -2 - nI j) (hh : tkN K ≤ zh S) (hp : zpc S < 40) (k : rM b A0 I0 (if c < zL S j then (if K = 22 then (0, zfin S 2 (zE S j c), F) else (0, znext (zdrop (zset S j c (zpk S 0)) 3), F)) else zthr G F S 2) Q) : if (nI c) < 0 then D181_throwing (nI 2) A I (fun v A I => Q v A I) else if (nI c) < (A 1688 (((I 1681 35) + (nI 6)) + ((-2) - v)).toNatClampNeg) then if (nI K) = (nI 22) then vp_in ((((I 1681 35) + (nI 10)) + ((nI 5) * ((-2) - v))) + (nI c)) 88400 ∧ (D170_next (nI 2) (A 1688 ((((I 1681 35) + (nI 10)) + ((nI 5) * ((-2) - v))) + (nI c)).toNatClampNeg) A I (fun v A I => Q v A I)) else D172_top (nI 0) A I (fun v53 => vp_in ((((I 1681 35) + (nI 10)) + ((nI 5) * ((-2) - v))) + (nI c)) 88400 ∧ (D170_next (nI 3) (-100) (sA A 1688 ((((I 1681 35) + (nI 10)) + ((nI 5) * ((-2) - v))) + (nI c)).toNatClampNeg v53) I (fun v A I => Q v A I))) else D181_throwing (nI 2) A I (fun v A I => Q v A I) := by
  have hz := h.wf.hi
  have hb := h.hb
  have hn := h.wf.2.2.2.1
  have hl := h.wf.2.2.2.2.1 j hj
  rw [iLt0 (by omega), hv, ar_s j (by omega), h.w, nI_add, nI_add, nI_add, pk_mul, nI_add, nI_add, nI_clamp (n := b + 6 + j) (by omega), (h.arr hj).1, iLt (by omega) (by omega)]
  by_cases c1 : c < zL S j
  · rw [if_pos c1] at k ⊢
    rw [iEq (by omega) (by decide), vpT (by omega) (by decide), nI_clamp (by omega), show b + 10 + 5 * j + c = b + 10 + (j * 5 + c) by omega]
    by_cases c2 : K = 22
    · rw [if_pos c2] at k ⊢
      subst c2
      have hh : 2 ≤ zh S := hh
      obtain ⟨i, hi, ei⟩ := hok.2.2 j hj c c1
      rw [(h.arr hj).2 c c1]
      exact ⟨trivial, M_next1 h (by rw [ei]; exact fun y => nI_pos (n := i) (by omega) (by rw [y]; decide)) hh (by omega) hp (fun A' h' => k.1 rfl _ _ h')⟩
    · rw [if_neg c2] at k ⊢
      obtain rfl : K = 23 := by omega
      have hh : 3 ≤ zh S := hh
      refine M_top h (by omega) ⟨trivial, ?_⟩
      have g : GA b A0 I0 (sA A 1688 (b + 10 + (j * 5 + c)) (zpk S 0)) I (zset S j c (zpk S 0)) F := h.set (by unfold zMI; omega) h.wf h.2.2.1 (repM_set h.2.2.2.1 h.wf _ _ _ (by omega) (by omega))
      exact M_next0 g (by show 3 ≤ zh S; omega) hp (fun A' h' => k.1 rfl _ _ h')
  · rw [if_neg c1] at k ⊢
    exact M_thr h hg (by decide) k
set_option maxRecDepth 100000 in
theorem ms_24 {K : Nat} (hK : K = 24) (h : GA b A0 I0 A I S F) (hg : gRM A0 I0 G) (hok : zok S F) (hN : F.1 < 32258) (hp : zpc S < gL G (zq S)) (ho : gO G (zq S) (zpc S) = K) (ha : ∀ c, alt = some c → c < (zsi K S).1) (k : RMk b A0 I0 (zoper G alt F S) K S F A Q) : D163_operate (altv alt) A I Q := by
  have hz := h.wf.hi
  have hb := h.hb
  have h40 := m_pc hg h.wf hp
  have hr := m_num hg h.wf hp (ho.trans hK)
  have e := zo_24 (alt := alt) (F := F) (ho.trans hK)
  refine M_pre h hg hp ho (by omega) (fun _ => absurd hK (by omega)) (fun _ _ => absurd hK (by omega)) (fun _ _ => absurd hK (by omega)) (fun _ _ => ?_) (fun _ => absurd hK (by omega))
  unfold D184_arrays
  rw [iEq (by omega) (by decide), if_neg (by omega), iEq (by omega) (by decide), if_pos hK]
  rw [iLt (by omega) (by decide)]
  by_cases c : zh S < 1
  · rw [if_pos (Or.inl c)] at e
    rw [if_pos c]
    exact k.bk h e
  · rw [if_neg c]
    refine M_isRef h (by omega) (fun c2 => ?_) (fun c2 => ?_)
    · rw [if_neg (by rintro (y | y); exact c y; exact y c2)] at e
      rw [i1]
      refine M_top h (by omega) ?_
      rcases (hok.pk (b := 0) (by omega)).ref c2 (by omega) with y | ⟨j, hj, y⟩
      · rw [if_pos y] at e ⊢
        exact M_thr h hg (by decide) (k.go e)
      · have hn := h.wf.2.2.2.1
        have hl := h.wf.2.2.2.2.1 j hj
        have y0 : ¬ zpk S 0 = -1 := by rw [y]; exact ar_n1 j (by omega)
        rw [if_neg y0] at e ⊢
        rw [y, zar_nI (by omega)] at e
        refine M_top h (by omega) ?_
        rw [y, h.w, nI_add, pk_sub (by omega), ar_i (by omega), nI_add, vpT (by omega) (by decide), nI_clamp (by omega), show b + 6 - 2 + (j + 2) = b + 6 + j by omega, (h.arr hj).1]
        refine ⟨trivial, M_node (bR_nI (by omega)) ?_⟩
        have k := (k.go e).1 rfl
        rw [nI_add] at k ⊢
        exact M_next1 h (fun y => nI_pos (n := zL S j + 128) (by omega) (by rw [y]; decide)) (by omega) (by omega) h40 (fun A' h' => k _ _ h')
    · rw [if_pos (Or.inr c2)] at e
      rw [i0]
      exact k.bk h e
set_option maxRecDepth 100000 in
theorem ms_9 {K : Nat} (hK : K = 9) (h : GA b A0 I0 A I S F) (hg : gRM A0 I0 G) (hok : zok S F) (hN : F.1 < 32258) (hp : zpc S < gL G (zq S)) (ho : gO G (zq S) (zpc S) = K) (ha : ∀ c, alt = some c → c < (zsi K S).1) (k : RMk b A0 I0 (zoper G alt F S) K S F A Q) : D163_operate (altv alt) A I Q := by
  have hz := h.wf.hi
  have hb := h.hb
  have h40 := m_pc hg h.wf hp
  have hr := m_num hg h.wf hp (ho.trans hK)
  have e := zo_9 (alt := alt) (F := F) (ho.trans hK)
  refine M_pre h hg hp ho (by omega) (fun _ => absurd hK (by omega)) (fun _ _ => ?_) (fun _ _ => absurd hK (by omega)) (fun _ _ => absurd hK (by omega)) (fun _ => absurd hK (by omega))
  unfold D173_words
  rw [iEq (by omega) (by decide), if_neg (by omega)]
  rw [iLt (by omega) (by decide)]
  by_cases c : zh S < 2
  · rw [if_pos (Or.inl c)] at e
    rw [if_pos c]
    exact k.bk h e
  · rw [if_neg c]
    refine M_isWord h (by omega) (fun c2 => ?_) (fun c2 => ?_)
    · rw [i1]
      refine M_isWord h (by omega) (fun c3 => ?_) (fun c3 => ?_)
      · rw [if_neg (by rintro (y | y | y); exact c y; exact c2 y; exact c3 y)] at e
        rw [i1]
        refine M_top h (by omega) ?_
        rw [iEq (by omega) (by decide), if_pos hK]
        have w0 := hok.wd h.wf (b := 0) (by omega) c2
        have w1 := hok.wd h.wf (b := 1) (by omega) c3
        have cmp : (¬ zpk S 0 = nI 128) → rM b A0 I0 (zcm S 2 (z2 F 9 (zpk S 1) (zpk S 0))) Q → D172_top (nI 1) A I (fun v28 => D175_reckons (nI K) v28 (zpk S 0) (nI 2) A I (fun v29 A30 I31 => Q v29 A30 I31)) := fun n0 kk => M_top h (by omega) (by rw [hK]; exact M_reckons2 ⟨by decide, by decide, by decide⟩ h hok.1 hN w1 w0 (fun _ => n0) (by omega) h40 kk)
        by_cases c4 : isn (zpk S 0)
        · rw [if_pos c4] at e
          refine mN1 c4 ?_
          rw [i1]
          refine mN1 c4 ?_
          rw [i1]
          unfold D178_number
          have n0 := @nb0 (zpk S 0)
          rw [addE] at n0
          generalize zpk S 0 - nI 128 = y0 at n0 ⊢
          by_cases c5 : zpk S 0 = nI 128
          · rw [if_pos c5] at e
            show if y0 = 0 then _ else _
            rw [if_pos (n0.mpr c5)]
            exact M_thr h hg (by decide) (k.go e)
          · rw [if_neg c5] at e
            show if y0 = 0 then _ else _
            rw [if_neg (fun y => c5 (n0.mp y))]
            exact cmp c5 (k.go e)
        · have n5 : ¬ zpk S 0 = nI 128 := fun y => c4 (by rw [y]; decide)
          rw [if_neg c4] at e
          refine mN0 c4 ?_
          rw [i0]
          cases alt with
          | none =>
            show if (-1 : Int32) = -1 then _ else _
            rw [if_pos rfl]
            exact k.sp h e (by unfold zsi; rw [if_pos (by omega)])
          | some c =>
            have hc := ha c rfl
            have hc : c < 2 := by unfold zsi at hc; rw [if_pos (by omega)] at hc; exact hc
            have e : zoper G (some c) F S = if c = 0 then zcm S 2 (z2 F 9 (zpk S 1) (zpk S 0)) else zthr G F S 1 := e
            show if nI c = -1 then _ else _
            rw [alt_n (by omega)]
            refine mN0 c4 ?_
            rw [i0]
            show if nI c = nI 1 then _ else _
            rw [iEq (by omega) (by decide)]
            by_cases c6 : c = 0
            · rw [if_pos c6] at e
              rw [if_neg (by omega)]
              exact cmp n5 (k.go e)
            · rw [if_neg c6] at e
              rw [if_pos (by omega)]
              exact M_thr h hg (by decide) (k.go e)
      · rw [if_pos (Or.inr (Or.inr c3))] at e
        rw [i0]
        exact k.bk h e
    · rw [if_pos (Or.inr (Or.inl c2))] at e
      rw [i0]
      exact k.bk h e
set_option maxRecDepth 100000 in
theorem ms_10 {K : Nat} (hK : K = 10) (h : GA b A0 I0 A I S F) (hg : gRM A0 I0 G) (hok : zok S F) (hN : F.1 < 32258) (hp : zpc S < gL G (zq S)) (ho : gO G (zq S) (zpc S) = K) (ha : ∀ c, alt = some c → c < (zsi K S).1) (k : RMk b A0 I0 (zoper G alt F S) K S F A Q) : D163_operate (altv alt) A I Q := by
  have hz := h.wf.hi
  have hb := h.hb
  have h40 := m_pc hg h.wf hp
  have hr := m_num hg h.wf hp (ho.trans hK)
  have e := zo_10 (alt := alt) (F := F) (ho.trans hK)
  refine M_pre h hg hp ho (by omega) (fun _ => absurd hK (by omega)) (fun _ _ => ?_) (fun _ _ => absurd hK (by omega)) (fun _ _ => absurd hK (by omega)) (fun _ => absurd hK (by omega))
  unfold D173_words
  rw [iEq (by omega) (by decide), if_neg (by omega)]
  rw [iLt (by omega) (by decide)]
  by_cases c : zh S < 2
  · rw [if_pos (Or.inl c)] at e
    rw [if_pos c]
    exact k.bk h e
  · rw [if_neg c]
    refine M_isWord h (by omega) (fun c2 => ?_) (fun c2 => ?_)
    · rw [i1]
      refine M_isWord h (by omega) (fun c3 => ?_) (fun c3 => ?_)
      · rw [if_neg (by rintro (y | y | y); exact c y; exact c2 y; exact c3 y)] at e
        rw [i1]
        refine M_top h (by omega) ?_
        rw [iEq (by omega) (by decide), if_neg (by omega), iEq (by omega) (by decide), if_pos hK]
        have w0 := hok.wd h.wf (b := 0) (by omega) c2
        have w1 := hok.wd h.wf (b := 1) (by omega) c3
        have cmp : (¬ zpk S 0 = nI 128) → rM b A0 I0 (zcm S 2 (z2 F 10 (zpk S 1) (zpk S 0))) Q → D172_top (nI 1) A I (fun v28 => D175_reckons (nI K) v28 (zpk S 0) (nI 2) A I (fun v29 A30 I31 => Q v29 A30 I31)) := fun n0 kk => M_top h (by omega) (by rw [hK]; exact M_reckons2 ⟨by decide, by decide, by decide⟩ h hok.1 hN w1 w0 (fun _ => n0) (by omega) h40 kk)
        by_cases c4 : isn (zpk S 0)
        · rw [if_pos c4] at e
          refine mN1 c4 ?_
          rw [i1]
          refine mN1 c4 ?_
          rw [i1]
          unfold D178_number
          have n0 := @nb0 (zpk S 0)
          rw [addE] at n0
          generalize zpk S 0 - nI 128 = y0 at n0 ⊢
          by_cases c5 : zpk S 0 = nI 128
          · rw [if_pos c5] at e
            show if y0 = 0 then _ else _
            rw [if_pos (n0.mpr c5)]
            exact M_thr h hg (by decide) (k.go e)
          · rw [if_neg c5] at e
            show if y0 = 0 then _ else _
            rw [if_neg (fun y => c5 (n0.mp y))]
            exact cmp c5 (k.go e)
        · have n5 : ¬ zpk S 0 = nI 128 := fun y => c4 (by rw [y]; decide)
          rw [if_neg c4] at e
          refine mN0 c4 ?_
          rw [i0]
          cases alt with
          | none =>
            show if (-1 : Int32) = -1 then _ else _
            rw [if_pos rfl]
            exact k.sp h e (by unfold zsi; rw [if_pos (by omega)])
          | some c =>
            have hc := ha c rfl
            have hc : c < 2 := by unfold zsi at hc; rw [if_pos (by omega)] at hc; exact hc
            have e : zoper G (some c) F S = if c = 0 then zcm S 2 (z2 F 10 (zpk S 1) (zpk S 0)) else zthr G F S 1 := e
            show if nI c = -1 then _ else _
            rw [alt_n (by omega)]
            refine mN0 c4 ?_
            rw [i0]
            show if nI c = nI 1 then _ else _
            rw [iEq (by omega) (by decide)]
            by_cases c6 : c = 0
            · rw [if_pos c6] at e
              rw [if_neg (by omega)]
              exact cmp n5 (k.go e)
            · rw [if_neg c6] at e
              rw [if_pos (by omega)]
              exact M_thr h hg (by decide) (k.go e)
      · rw [if_pos (Or.inr (Or.inr c3))] at e
        rw [i0]
        exact k.bk h e
    · rw [if_pos (Or.inr (Or.inl c2))] at e
      rw [i0]
      exact k.bk h e
set_option maxRecDepth 100000 in
theorem ms_18 {K : Nat} (hK : K = 18) (h : GA b A0 I0 A I S F) (hg : gRM A0 I0 G) (hok : zok S F) (hN : F.1 < 32258) (hp : zpc S < gL G (zq S)) (ho : gO G (zq S) (zpc S) = K) (ha : ∀ c, alt = some c → c < (zsi K S).1) (k : RMk b A0 I0 (zoper G alt F S) K S F A Q) : D163_operate (altv alt) A I Q := by
  have hz := h.wf.hi
  have hb := h.hb
  have h40 := m_pc hg h.wf hp
  have hr := m_num hg h.wf hp (ho.trans hK)
  have e := zo_18 (alt := alt) (F := F) (ho.trans hK)
  refine M_pre h hg hp ho (by omega) (fun _ => absurd hK (by omega)) (fun _ _ => absurd hK (by omega)) (fun _ _ => ?_) (fun _ _ => absurd hK (by omega)) (fun _ => absurd hK (by omega))
  unfold D182_jumps
  rw [iEq (by omega) (by decide), if_neg (by omega), iEq (by omega) (by decide), if_neg (by omega)]
  rw [iLt (by omega) (by decide)]
  obtain ⟨i, -, i2, ei⟩ := rg_nat hr (by decide) (by decide)
  rw [ei] at e ⊢
  rw [nI_clamp (by omega)] at e
  by_cases c : zh S < 2
  · rw [if_pos (Or.inl c)] at e
    rw [if_pos c]
    exact k.bk h e
  · rw [if_neg c]
    refine M_isWord h (by omega) (fun c2 => ?_) (fun c2 => ?_)
    · rw [i1]
      refine M_isWord h (by omega) (fun c3 => ?_) (fun c3 => ?_)
      · rw [if_neg (by rintro (y | y | y); exact c y; exact c2 y; exact c3 y)] at e
        rw [i1]
        refine M_top h (by omega) (M_top h (by omega) ?_)
        have jy : rM b A0 I0 (0, zjump (zdrop S 2) i, F) Q → vp_in ((I 1681 36) + (nI 2)) 88400 ∧ (vp_in ((I 1681 36) + (nI 2)) 88400 ∧ (vp_in ((I 1681 36) + (nI 1)) 88400 ∧ (Q (nI 0) (sA (sA A 1688 ((I 1681 36) + (nI 2)).toNatClampNeg ((A 1688 ((I 1681 36) + (nI 2)).toNatClampNeg) - (nI 2))) 1688 ((I 1681 36) + (nI 1)).toNatClampNeg (nI i)) I))) := by
          intro k
          rw [h.f, nI_add, nI_add, vpT (n := b + 30 + 21 * zt S + 2) (by omega) (by decide), vpT (n := b + 30 + 21 * zt S + 1) (by omega) (by decide), nI_clamp (n := b + 30 + 21 * zt S + 2) (by omega), nI_clamp (n := b + 30 + 21 * zt S + 1) (by omega), h.fr.2.2.1, pk_sub (by omega)]
          exact ⟨trivial, trivial, trivial, k.1 rfl _ _ ((h.drop (c := 2)).jump (by omega))⟩
        have jn : rM b A0 I0 (0, zjump (zdrop S 2) (zpc S + 1), F) Q → vp_in ((I 1681 36) + (nI 2)) 88400 ∧ (vp_in ((I 1681 36) + (nI 2)) 88400 ∧ (vp_in ((I 1681 36) + (nI 1)) 88400 ∧ (vp_in ((I 1681 36) + (nI 1)) 88400 ∧ (Q (nI 0) (sA (sA A 1688 ((I 1681 36) + (nI 2)).toNatClampNeg ((A 1688 ((I 1681 36) + (nI 2)).toNatClampNeg) - (nI 2))) 1688 ((I 1681 36) + (nI 1)).toNatClampNeg (((sA A 1688 ((I 1681 36) + (nI 2)).toNatClampNeg ((A 1688 ((I 1681 36) + (nI 2)).toNatClampNeg) - (nI 2))) 1688 ((I 1681 36) + (nI 1)).toNatClampNeg) + (nI 1))) I)))) := by
          intro k
          rw [h.f, nI_add, nI_add, vpT (n := b + 30 + 21 * zt S + 2) (by omega) (by decide), vpT (n := b + 30 + 21 * zt S + 1) (by omega) (by decide), nI_clamp (n := b + 30 + 21 * zt S + 2) (by omega), nI_clamp (n := b + 30 + 21 * zt S + 1) (by omega), h.fr.2.2.1, pk_sub (by omega), sA_n (by omega), h.fr.2.1, nI_add]
          exact ⟨trivial, trivial, trivial, trivial, k.1 rfl _ _ ((h.drop (c := 2)).jump (p := zpc S + 1) (by omega))⟩
        have sp : ¬ (isn (zpk S 1) ∧ isn (zpk S 0)) → (if altv alt = (-1) then D180_splits (nI 2) (zpk S 1) (zpk S 0) A I (fun v19 A20 I21 => Q v19 A20 I21) else if altv alt = 0 then vp_in ((I 1681 36) + (nI 2)) 88400 ∧ (vp_in ((I 1681 36) + (nI 2)) 88400 ∧ (vp_in ((I 1681 36) + (nI 1)) 88400 ∧ (Q (nI 0) (sA (sA A 1688 ((I 1681 36) + (nI 2)).toNatClampNeg ((A 1688 ((I 1681 36) + (nI 2)).toNatClampNeg) - (nI 2))) 1688 ((I 1681 36) + (nI 1)).toNatClampNeg (nI i)) I))) else vp_in ((I 1681 36) + (nI 2)) 88400 ∧ (vp_in ((I 1681 36) + (nI 2)) 88400 ∧ (vp_in ((I 1681 36) + (nI 1)) 88400 ∧ (vp_in ((I 1681 36) + (nI 1)) 88400 ∧ (Q (nI 0) (sA (sA A 1688 ((I 1681 36) + (nI 2)).toNatClampNeg ((A 1688 ((I 1681 36) + (nI 2)).toNatClampNeg) - (nI 2))) 1688 ((I 1681 36) + (nI 1)).toNatClampNeg (((sA A 1688 ((I 1681 36) + (nI 2)).toNatClampNeg ((A 1688 ((I 1681 36) + (nI 2)).toNatClampNeg) - (nI 2))) 1688 ((I 1681 36) + (nI 1)).toNatClampNeg) + (nI 1))) I))))) := by
          intro n0
          rw [if_neg n0] at e
          cases alt with
          | none =>
            show if (-1 : Int32) = -1 then _ else _
            rw [if_pos rfl]
            exact k.sp h e (by unfold zsi; rw [if_neg (by omega), if_pos (by omega)])
          | some c =>
            have hc := ha c rfl
            have hc : c < 2 := by unfold zsi at hc; rw [if_neg (by omega), if_pos (by omega)] at hc; exact hc
            show if nI c = -1 then _ else if nI c = 0 then _ else _
            rw [alt_n (by omega), iEq0 (by omega)]
            have k := k.go e
            by_cases c6 : c = 0
            · rw [if_pos c6]; exact jy (by simpa only [if_pos c6] using k)
            · rw [if_neg c6]; exact jn (by simpa only [if_neg c6] using k)
        refine M_isNumber (fun c4 => ?_) (fun c4 => ?_)
        · rw [i1]
          refine M_isNumber (fun c5 => ?_) (fun c5 => ?_)
          · rw [i1]
            rw [if_pos ⟨c4, c5⟩] at e
            have k := k.go e
            rw [iEq (by omega) (by decide), if_pos hK]
            obtain ⟨p, hp1, pp⟩ := c4.nat
            obtain ⟨q, hq1, qq⟩ := c5.nat
            have cc : zpk S 1 - nI 128 < zpk S 0 - nI 128 ↔ zpk S 1 < zpk S 0 := by rw [pp, qq, ← addE, ← addE]; exact nbL hp1 hq1
            unfold D178_number
            generalize zpk S 1 - nI 128 = y0 at cc ⊢
            generalize zpk S 0 - nI 128 = y1 at cc ⊢
            show if y0 < y1 then _ else _
            by_cases c6 : zpk S 1 < zpk S 0
            · rw [if_pos (cc.mpr c6)]; exact jy (by simpa only [if_pos c6] using k)
            · rw [if_neg (fun y => c6 (cc.mp y))]; exact jn (by simpa only [if_neg c6] using k)
          · rw [i0]; exact sp fun y => c5 y.2
        · rw [i0]; exact sp fun y => c4 y.1
      · rw [if_pos (Or.inr (Or.inr c3))] at e
        rw [i0]
        exact k.bk h e
    · rw [if_pos (Or.inr (Or.inl c2))] at e
      rw [i0]
      exact k.bk h e
set_option maxRecDepth 100000 in
theorem ms_19 {K : Nat} (hK : K = 19) (h : GA b A0 I0 A I S F) (hg : gRM A0 I0 G) (hok : zok S F) (hN : F.1 < 32258) (hp : zpc S < gL G (zq S)) (ho : gO G (zq S) (zpc S) = K) (ha : ∀ c, alt = some c → c < (zsi K S).1) (k : RMk b A0 I0 (zoper G alt F S) K S F A Q) : D163_operate (altv alt) A I Q := by
  have hz := h.wf.hi
  have hb := h.hb
  have h40 := m_pc hg h.wf hp
  have hr := m_num hg h.wf hp (ho.trans hK)
  have e := zo_19 (alt := alt) (F := F) (ho.trans hK)
  refine M_pre h hg hp ho (by omega) (fun _ => absurd hK (by omega)) (fun _ _ => absurd hK (by omega)) (fun _ _ => ?_) (fun _ _ => absurd hK (by omega)) (fun _ => absurd hK (by omega))
  unfold D182_jumps
  rw [iEq (by omega) (by decide), if_neg (by omega), iEq (by omega) (by decide), if_neg (by omega)]
  rw [iLt (by omega) (by decide)]
  obtain ⟨i, -, i2, ei⟩ := rg_nat hr (by decide) (by decide)
  rw [ei] at e ⊢
  rw [nI_clamp (by omega)] at e
  by_cases c : zh S < 2
  · rw [if_pos (Or.inl c)] at e
    rw [if_pos c]
    exact k.bk h e
  · rw [if_neg c]
    refine M_isWord h (by omega) (fun c2 => ?_) (fun c2 => ?_)
    · rw [i1]
      refine M_isWord h (by omega) (fun c3 => ?_) (fun c3 => ?_)
      · rw [if_neg (by rintro (y | y | y); exact c y; exact c2 y; exact c3 y)] at e
        rw [i1]
        refine M_top h (by omega) (M_top h (by omega) ?_)
        have jy : rM b A0 I0 (0, zjump (zdrop S 2) i, F) Q → vp_in ((I 1681 36) + (nI 2)) 88400 ∧ (vp_in ((I 1681 36) + (nI 2)) 88400 ∧ (vp_in ((I 1681 36) + (nI 1)) 88400 ∧ (Q (nI 0) (sA (sA A 1688 ((I 1681 36) + (nI 2)).toNatClampNeg ((A 1688 ((I 1681 36) + (nI 2)).toNatClampNeg) - (nI 2))) 1688 ((I 1681 36) + (nI 1)).toNatClampNeg (nI i)) I))) := by
          intro k
          rw [h.f, nI_add, nI_add, vpT (n := b + 30 + 21 * zt S + 2) (by omega) (by decide), vpT (n := b + 30 + 21 * zt S + 1) (by omega) (by decide), nI_clamp (n := b + 30 + 21 * zt S + 2) (by omega), nI_clamp (n := b + 30 + 21 * zt S + 1) (by omega), h.fr.2.2.1, pk_sub (by omega)]
          exact ⟨trivial, trivial, trivial, k.1 rfl _ _ ((h.drop (c := 2)).jump (by omega))⟩
        have jn : rM b A0 I0 (0, zjump (zdrop S 2) (zpc S + 1), F) Q → vp_in ((I 1681 36) + (nI 2)) 88400 ∧ (vp_in ((I 1681 36) + (nI 2)) 88400 ∧ (vp_in ((I 1681 36) + (nI 1)) 88400 ∧ (vp_in ((I 1681 36) + (nI 1)) 88400 ∧ (Q (nI 0) (sA (sA A 1688 ((I 1681 36) + (nI 2)).toNatClampNeg ((A 1688 ((I 1681 36) + (nI 2)).toNatClampNeg) - (nI 2))) 1688 ((I 1681 36) + (nI 1)).toNatClampNeg (((sA A 1688 ((I 1681 36) + (nI 2)).toNatClampNeg ((A 1688 ((I 1681 36) + (nI 2)).toNatClampNeg) - (nI 2))) 1688 ((I 1681 36) + (nI 1)).toNatClampNeg) + (nI 1))) I)))) := by
          intro k
          rw [h.f, nI_add, nI_add, vpT (n := b + 30 + 21 * zt S + 2) (by omega) (by decide), vpT (n := b + 30 + 21 * zt S + 1) (by omega) (by decide), nI_clamp (n := b + 30 + 21 * zt S + 2) (by omega), nI_clamp (n := b + 30 + 21 * zt S + 1) (by omega), h.fr.2.2.1, pk_sub (by omega), sA_n (by omega), h.fr.2.1, nI_add]
          exact ⟨trivial, trivial, trivial, trivial, k.1 rfl _ _ ((h.drop (c := 2)).jump (p := zpc S + 1) (by omega))⟩
        have sp : ¬ (isn (zpk S 1) ∧ isn (zpk S 0)) → (if altv alt = (-1) then D180_splits (nI 2) (zpk S 1) (zpk S 0) A I (fun v19 A20 I21 => Q v19 A20 I21) else if altv alt = 0 then vp_in ((I 1681 36) + (nI 2)) 88400 ∧ (vp_in ((I 1681 36) + (nI 2)) 88400 ∧ (vp_in ((I 1681 36) + (nI 1)) 88400 ∧ (Q (nI 0) (sA (sA A 1688 ((I 1681 36) + (nI 2)).toNatClampNeg ((A 1688 ((I 1681 36) + (nI 2)).toNatClampNeg) - (nI 2))) 1688 ((I 1681 36) + (nI 1)).toNatClampNeg (nI i)) I))) else vp_in ((I 1681 36) + (nI 2)) 88400 ∧ (vp_in ((I 1681 36) + (nI 2)) 88400 ∧ (vp_in ((I 1681 36) + (nI 1)) 88400 ∧ (vp_in ((I 1681 36) + (nI 1)) 88400 ∧ (Q (nI 0) (sA (sA A 1688 ((I 1681 36) + (nI 2)).toNatClampNeg ((A 1688 ((I 1681 36) + (nI 2)).toNatClampNeg) - (nI 2))) 1688 ((I 1681 36) + (nI 1)).toNatClampNeg (((sA A 1688 ((I 1681 36) + (nI 2)).toNatClampNeg ((A 1688 ((I 1681 36) + (nI 2)).toNatClampNeg) - (nI 2))) 1688 ((I 1681 36) + (nI 1)).toNatClampNeg) + (nI 1))) I))))) := by
          intro n0
          rw [if_neg n0] at e
          cases alt with
          | none =>
            show if (-1 : Int32) = -1 then _ else _
            rw [if_pos rfl]
            exact k.sp h e (by unfold zsi; rw [if_neg (by omega), if_pos (by omega)])
          | some c =>
            have hc := ha c rfl
            have hc : c < 2 := by unfold zsi at hc; rw [if_neg (by omega), if_pos (by omega)] at hc; exact hc
            show if nI c = -1 then _ else if nI c = 0 then _ else _
            rw [alt_n (by omega), iEq0 (by omega)]
            have k := k.go e
            by_cases c6 : c = 0
            · rw [if_pos c6]; exact jy (by simpa only [if_pos c6] using k)
            · rw [if_neg c6]; exact jn (by simpa only [if_neg c6] using k)
        refine M_isNumber (fun c4 => ?_) (fun c4 => ?_)
        · rw [i1]
          refine M_isNumber (fun c5 => ?_) (fun c5 => ?_)
          · rw [i1]
            rw [if_pos ⟨c4, c5⟩] at e
            have k := k.go e
            rw [iEq (by omega) (by decide), if_neg (by omega)]
            by_cases c6 : zpk S 1 = zpk S 0
            · rw [if_pos c6]; exact jy (by simpa only [if_pos c6] using k)
            · rw [if_neg c6]; exact jn (by simpa only [if_neg c6] using k)
          · rw [i0]; exact sp fun y => c5 y.2
        · rw [i0]; exact sp fun y => c4 y.1
      · rw [if_pos (Or.inr (Or.inr c3))] at e
        rw [i0]
        exact k.bk h e
    · rw [if_pos (Or.inr (Or.inl c2))] at e
      rw [i0]
      exact k.bk h e
theorem M_makeT {c : Nat} (h : GA b A0 I0 A I S F) (hg : gRM A0 I0 G) (hc : c < 1000) (hh : 1 ≤ zh S) (hp : zpc S < 40) (k : rM b A0 I0 (if 5 < c ∨ zn S = 4 then zthr G F S 4 else (0, zfin (zarr S c) 1 (-2 - nI (zn S)), F)) Q) : vp_in ((I 1681 35) + (nI 5)) 88400 ∧ (if (nI 5) < (nI c) then D181_throwing (nI 4) A I (fun v72 A73 I74 => Q v72 A73 I74) else if (A 1688 ((I 1681 35) + (nI 5)).toNatClampNeg) = (nI 4) then D181_throwing (nI 4) A I (fun v92 A93 I94 => Q v92 A93 I94) else vp_in ((I 1681 35) + (nI 5)) 88400 ∧ (vp_in ((I 1681 35) + (nI 5)) 88400 ∧ (vp_in (((I 1681 35) + (nI 6)) + (A 1688 ((I 1681 35) + (nI 5)).toNatClampNeg)) 88400 ∧ ((∀ P78 : Int32 → HA → HA → Prop, (∀ (a79 : Int32) (A84 I85 : HA), (if a79 < (nI 5) then D168_node (nI 0) (fun v90 => vp_in ((((I85 1681 35) + (nI 10)) + ((nI 5) * (A 1688 ((I 1681 35) + (nI 5)).toNatClampNeg))) + a79) 88400 ∧ (P78 (a79 + nI 1) (sA A84 1688 ((((I85 1681 35) + (nI 10)) + ((nI 5) * (A 1688 ((I 1681 35) + (nI 5)).toNatClampNeg))) + a79).toNatClampNeg v90) I85)) else D170_next (nI 1) ((-2) - (A 1688 ((I 1681 35) + (nI 5)).toNatClampNeg)) A84 I85 (fun v87 A88 I89 => Q v87 A88 I89)) → P78 a79 A84 I85) → P78 (nI 0) (sA (sA A 1688 ((I 1681 35) + (nI 5)).toNatClampNeg ((A 1688 ((I 1681 35) + (nI 5)).toNatClampNeg) + (nI 1))) 1688 (((I 1681 35) + (nI 6)) + (A 1688 ((I 1681 35) + (nI 5)).toNatClampNeg)).toNatClampNeg (nI c)) I))))) := by
  have hz := h.wf.hi
  have hb := h.hb
  have hn := h.wf.2.2.2.1
  rw [h.w, nI_add, vpT (n := b + 5) (by omega) (by decide), nI_clamp (n := b + 5) (by omega), h.n, iLt (by omega) (by omega), iEq (by omega) (by decide)]
  refine ⟨trivial, ?_⟩
  by_cases c1 : 5 < c
  · rw [if_pos (Or.inl c1)] at k
    rw [if_pos c1]
    exact M_thr h hg (by decide) k
  · rw [if_neg c1]
    by_cases c2 : zn S = 4
    · rw [if_pos (Or.inr c2)] at k
      rw [if_pos c2]
      exact M_thr h hg (by decide) k
    · rw [if_neg (by omega)] at k
      rw [if_neg c2, nI_add, nI_add, nI_add, vpT (n := b + 6 + zn S) (by omega) (by decide), nI_clamp (n := b + 6 + zn S) (by omega)]
      refine ⟨trivial, trivial, trivial, ?_⟩
      intro P hP
      have key : ∀ (m i : Nat) (A2 : HA), m + i = 5 → (∀ a, a ≠ 1688 → A2 a = A a) → A2 1688 (b + 5) = nI (zn S + 1) → A2 1688 (b + 6 + zn S) = nI c → (∀ j, j < i → A2 1688 (b + 10 + (zn S * 5 + j)) = nI 128) → (∀ q, q ≠ b + 5 → q ≠ b + 6 + zn S → ¬ (b + 10 + zn S * 5 ≤ q ∧ q < b + 10 + zn S * 5 + 5) → A2 1688 q = A 1688 q) → P (nI i) A2 I := by
        intro m
        induction m with
        | zero =>
          intro i A2 hi e1 e2 e3 e4 e5
          refine hP _ _ _ ?_
          rw [iLt (by omega) (by decide), if_neg (by omega)]
          have g : GA b A0 I0 A2 I (zarr S c) F := by
            obtain ⟨h1, h2, h3, h4, h5, h6⟩ := h
            obtain ⟨r1, r2, r3, r4, r5, r6, r7⟩ := h4
            obtain ⟨w1, w2, w3, w4, w5, w6⟩ := h2
            refine ⟨h1, ⟨w1, w2, w3, by show zn S + 1 ≤ 4; omega, fun k hk => ?_, w6⟩, h3, ⟨r1, r2, by rw [e5 _ (by omega) (by omega) (by omega)]; exact r3, e2, by rw [e5 _ (by omega) (by omega) (by omega)]; exact r5, fun f hf => ?_, fun k hk => ?_⟩, ?_, ?_⟩
            · have hk : k < zn S + 1 := hk
              show un (zL S) (zn S) c k ≤ 5
              by_cases e : k = zn S
              · rw [e, un_e]; omega
              · rw [un_n e]; exact w5 k (by omega)
            · obtain ⟨f1, f2, f3, f4⟩ := r6 f hf
              exact ⟨by rw [e5 _ (by omega) (by omega) (by omega)]; exact f1, by rw [e5 _ (by omega) (by omega) (by omega)]; exact f2, by rw [e5 _ (by omega) (by omega) (by omega)]; exact f3, fun j hj => by rw [e5 _ (by omega) (by omega) (by omega)]; exact f4 j hj⟩
            · have hk : k < zn S + 1 := hk
              show A2 1688 (b + 6 + k) = nI (un (zL S) (zn S) c k) ∧ ∀ i, i < un (zL S) (zn S) c k → A2 1688 (b + 10 + (k * 5 + i)) = if k = zn S then nI 128 else zE S k i
              by_cases e : k = zn S
              · subst e
                rw [un_e]
                exact ⟨e3, fun i hi => by rw [if_pos rfl]; exact e4 i (by omega)⟩
              · rw [un_n e]
                obtain ⟨k1, k2⟩ := r7 k (by omega)
                have hl := w5 k (by omega)
                exact ⟨by rw [e5 _ (by omega) (by omega) (by omega)]; exact k1, fun i hi => by rw [if_neg e, e5 _ (by omega) (by omega) (by omega)]; exact k2 i hi⟩
            · unfold zFM at h5 ⊢
              rw [e1 _ (by decide), e1 _ (by decide), e1 _ (by decide), e1 _ (by decide)]
              exact h5
            · obtain ⟨q1, q2, q3⟩ := h6
              refine ⟨fun a n1 n2 => by rw [e1 a n1]; exact q1 a n1 n2, fun i n1 => ?_, q3⟩
              unfold zMI at n1
              rw [e5 i (by omega) (by omega) (by omega)]
              exact q2 i (by unfold zMI; exact n1)
          exact M_next1 g ((by decide : ∀ k, k < 4 → ¬ (-2 - nI k : Int32) = -100) (zn S) (by omega)) (by show 1 ≤ zh S; omega) (by show zh S - 1 < 12; omega) hp (fun A' h' => k.1 rfl _ _ h')
        | succ m ih =>
          intro i A2 hi e1 e2 e3 e4 e5
          refine hP _ _ _ ?_
          rw [iLt (by omega) (by decide), if_pos (by omega)]
          refine M_node (bR_nI (by omega)) ?_
          rw [h.w, nI_add, nI_add, nI_add, pk_mul, nI_add, nI_add, vpT (by omega) (by decide), nI_clamp (by omega), show b + 10 + 5 * zn S + i = b + 10 + (zn S * 5 + i) by omega]
          refine ⟨trivial, ih (i + 1) _ (by omega) (fun a ha => by rw [sA_na ha]; exact e1 a ha) (by rw [sA_n (by omega)]; exact e2) (by rw [sA_n (by omega)]; exact e3) (fun j hj => ?_) (fun q n1 n2 n3 => by rw [sA_n (by omega)]; exact e5 q n1 n2 n3)⟩
          by_cases e : j = i
          · subst e; rw [sA_e]
          · rw [sA_n (by omega)]; exact e4 j (by omega)
      refine key 5 0 _ (by omega) (fun a ha => by rw [sA_na ha, sA_na ha]) (by rw [sA_n (by omega), sA_e]) sA_e (fun j hj => absurd hj (by omega)) (fun q n1 n2 n3 => by rw [sA_n (by omega), sA_n (by omega)])
set_option maxRecDepth 100000 in
theorem ms_21 {K : Nat} (hK : K = 21) (h : GA b A0 I0 A I S F) (hg : gRM A0 I0 G) (hok : zok S F) (hN : F.1 < 32258) (hp : zpc S < gL G (zq S)) (ho : gO G (zq S) (zpc S) = K) (ha : ∀ c, alt = some c → c < (zsi K S).1) (k : RMk b A0 I0 (zoper G alt F S) K S F A Q) : D163_operate (altv alt) A I Q := by
  have hz := h.wf.hi
  have hb := h.hb
  have h40 := m_pc hg h.wf hp
  have hr := m_num hg h.wf hp (ho.trans hK)
  have e := zo_21 (alt := alt) (F := F) (ho.trans hK)
  refine M_pre h hg hp ho (by omega) (fun _ => absurd hK (by omega)) (fun _ _ => absurd hK (by omega)) (fun _ _ => absurd hK (by omega)) (fun _ _ => ?_) (fun _ => absurd hK (by omega))
  unfold D184_arrays
  rw [iEq (by omega) (by decide), if_pos hK]
  unfold D185_makes
  rw [iLt (by omega) (by decide)]
  by_cases c : zh S < 1
  · rw [if_pos (Or.inl c)] at e
    rw [if_pos c]
    exact k.bk h e
  · rw [if_neg c]
    refine M_isWord h (by omega) (fun c2 => ?_) (fun c2 => ?_)
    · rw [if_neg (by rintro (y | y); exact c y; exact c2 y)] at e
      rw [i1]
      refine M_top h (by omega) ?_
      by_cases c4 : isn (zpk S 0)
      · rw [if_pos c4] at e
        refine mN1 c4 ?_
        rw [i1]
        refine mN1 c4 ?_
        rw [i1]
        unfold D178_number
        obtain ⟨j, hj, jj⟩ := c4.nat
        have nn := nb_neg hj
        rw [jj, zcl_nI hj] at e
        rw [jj]
        have yy : 128 ≤ j → nI j - nI 128 = nI (j - 128) := fun z => pk_sub z
        rw [addE] at nn
        generalize nI j - nI 128 = y0 at nn yy ⊢
        show if y0 < 0 then _ else _
        by_cases c5 : j < 128
        · rw [if_pos (nn.mpr c5)]
          have e : zoper G alt F S = zthr G F S 3 := by rw [e]; simp only [if_pos c5]; exact if_pos trivial
          exact M_thr h hg (by decide) (k.go e)
        · rw [if_neg (fun y => c5 (nn.mp y)), yy (by omega)]
          have e : zoper G alt F S = if 5 < (if 133 < j then 7 else j - 128) ∨ zn S = 4 then zthr G F S 4 else (0, zfin (zarr S (if 133 < j then 7 else j - 128)) 1 (-2 - nI (zn S)), F) := by
            rw [e]
            simp only [if_neg c5]
            rw [if_neg (by split <;> omega)]
          have k := k.go e
          refine M_makeT h hg (by omega) (by omega) h40 ?_
          by_cases c6 : 133 < j
          · rw [if_pos c6] at k
            rw [if_pos (Or.inl (by decide))] at k
            rw [if_pos (Or.inl (by omega))]
            exact k
          · rw [if_neg c6] at k
            exact k
      · rw [if_neg c4] at e
        refine mN0 c4 ?_
        rw [i0]
        cases alt with
        | none =>
          show if (-1 : Int32) = -1 then _ else _
          rw [if_pos rfl]
          exact k.sp h e (by unfold zsi; rw [if_neg (by omega), if_neg (by omega), if_pos hK])
        | some c =>
          have hc := ha c rfl
          have hc : c < 8 := by unfold zsi at hc; rw [if_neg (by omega), if_neg (by omega), if_pos hK] at hc; exact hc
          have e : zoper G (some c) F S = if c = 6 then zthr G F S 3 else if 5 < c ∨ zn S = 4 then zthr G F S 4 else (0, zfin (zarr S c) 1 (-2 - nI (zn S)), F) := e
          show if nI c = -1 then _ else _
          rw [alt_n (by omega)]
          refine mN0 c4 ?_
          rw [i0]
          show if nI c = nI 6 then _ else if nI c = nI 7 then _ else if nI c < 0 then _ else _
          rw [iEq (by omega) (by decide), iEq (by omega) (by decide), iLt0 (by omega)]
          by_cases c5 : c = 6
          · rw [if_pos c5] at e ⊢
            exact M_thr h hg (by decide) (k.go e)
          · rw [if_neg c5] at e ⊢
            by_cases c6 : c = 7
            · rw [if_pos (Or.inl (by omega))] at e
              rw [if_pos c6, h.w, nI_add, vpT (by omega) (by decide)]
              exact ⟨trivial, M_thr h hg (by decide) (k.go e)⟩
            · rw [if_neg c6]
              exact M_makeT h hg (by omega) (by omega) h40 (k.go e)
    · rw [if_pos (Or.inr c2)] at e
      rw [i0]
      exact k.bk h e
set_option maxRecDepth 100000 in
theorem ms_22 {K : Nat} (hK : K = 22) (h : GA b A0 I0 A I S F) (hg : gRM A0 I0 G) (hok : zok S F) (hN : F.1 < 32258) (hp : zpc S < gL G (zq S)) (ho : gO G (zq S) (zpc S) = K) (ha : ∀ c, alt = some c → c < (zsi K S).1) (k : RMk b A0 I0 (zoper G alt F S) K S F A Q) : D163_operate (altv alt) A I Q := by
  have hz := h.wf.hi
  have hb := h.hb
  have h40 := m_pc hg h.wf hp
  have hr := m_num hg h.wf hp (ho.trans hK)
  have e := zo_22 (alt := alt) (F := F) (ho.trans hK)
  refine M_pre h hg hp ho (by omega) (fun _ => absurd hK (by omega)) (fun _ _ => absurd hK (by omega)) (fun _ _ => absurd hK (by omega)) (fun _ _ => ?_) (fun _ => absurd hK (by omega))
  unfold D184_arrays
  rw [iEq (by omega) (by decide), if_neg (by omega), iEq (by omega) (by decide), if_neg (by omega), iEq (by omega) (by decide), if_neg (by omega)]
  rw [nI_add, nI_add, iLt (by omega) (by decide)]
  by_cases c : zh S < 2
  · rw [if_pos (Or.inl c)] at e
    rw [if_pos c]
    exact k.bk h e
  · rw [if_neg c]
    refine M_isRef h (c := 1) (by omega) (fun c2 => ?_) (fun c2 => ?_)
    · rw [i1]
      refine M_isWord h (by omega) (fun c3 => ?_) (fun c3 => ?_)
      · rw [i1]
        rw [if_neg (by rintro (y | y | y); exact c y; exact c3 y; exact y c2)] at e
        refine M_top h (c := 1) (by omega) ?_
        rcases (hok.pk (b := 1) (by omega)).ref c2 (by omega) with y | ⟨j, hj, y⟩
        · rw [if_pos y] at e ⊢
          exact M_thr h hg (by decide) (k.go e)
        · have hn := h.wf.2.2.2.1
          have hl := h.wf.2.2.2.2.1 j hj
          have y0 : ¬ zpk S 1 = -1 := by rw [y]; exact ar_n1 j (by omega)
          rw [if_neg y0] at e ⊢
          have zj : zar (zpk S 1) = j := by rw [y]; exact zar_nI (by omega)
          rw [zj] at e
          refine M_top h (c := 1) (by omega) ?_
          have vj : vp_in (((I 1681 35) + (nI 6)) + ((-2) - zpk S 1)) 88400 := by rw [y, ar_s j (by omega), h.w, nI_add, nI_add]; exact vp_in_nI (by omega) (by decide)
          have lj : A 1688 (((I 1681 35) + (nI 6)) + ((-2) - zpk S 1)).toNatClampNeg = nI (zL S j) := by rw [y, ar_s j (by omega), h.w, nI_add, nI_add, nI_clamp (by omega)]; exact (h.arr hj).1
          refine ⟨vj, M_top h (by omega) ?_⟩
          have el := fun (q : Nat) (hq : q < 1000) => M_elem (K := K) (c := q) (j := j) (v := zpk S 1) (Q := Q) (by omega) h hg hok hN hq hj y (by subst hK; show 2 ≤ zh S; omega) h40
          by_cases c4 : isn (zpk S 0)
          · rw [if_pos c4] at e
            refine mN1 c4 ?_
            rw [i1]
            refine mN1 c4 ?_
            rw [i1]
            unfold D178_number
            obtain ⟨i, hi, ii⟩ := c4.nat
            have nn := nb_neg hi
            rw [ii, zci_nI hi hl] at e
            rw [ii]
            have yy : 128 ≤ i → nI i - nI 128 = nI (i - 128) := fun z => pk_sub z
            rw [addE] at nn
            generalize nI i - nI 128 = y1 at nn yy ⊢
            show if y1 < 0 then _ else _
            by_cases c5 : i < 128
            · rw [if_pos (nn.mpr c5)]
              have e : zoper G alt F S = zthr G F S 2 := by rw [e]; simp only [if_pos c5]; rw [if_neg (by omega)]
              exact M_thr h hg (by decide) (k.go e)
            · have e : zoper G alt F S = (fun x => if x < zL S j then (0, zfin S 2 (zE S j x), F) else zthr G F S 2) (i - 128) := by
                rw [e]
                simp only [if_neg c5]
                by_cases c6 : i < 128 + zL S j
                · rw [if_pos c6]
                · rw [if_neg c6, if_neg (by omega), if_neg (by omega)]
              have k := k.go e
              have el := el (i - 128) (by omega) (by rw [if_pos hK]; exact k)
              rw [← yy (by omega)] at el
              exact el
          · rw [if_neg c4] at e
            refine mN0 c4 ?_
            rw [i0]
            cases alt with
            | none =>
              show if (-1 : Int32) = -1 then _ else _
              rw [if_pos rfl, lj, nI_add]
              exact k.sp h e (by unfold zsi; rw [if_neg (by omega), if_neg (by omega), if_neg (by omega), if_pos (by omega)]; rw [zj])
            | some x =>
              have hc := ha x rfl
              have hc : x < zL S j + 1 := by unfold zsi at hc; rw [if_neg (by omega), if_neg (by omega), if_neg (by omega), if_pos (by omega)] at hc; rw [zj] at hc; exact hc
              have e : zoper G (some x) F S = if x < zL S j then (0, zfin S 2 (zE S j x), F) else zthr G F S 2 := e
              show if nI x = -1 then _ else _
              rw [alt_n (by omega)]
              refine mN0 c4 ?_
              rw [i0]
              have k := k.go e
              exact el x (by omega) (by rw [if_pos hK]; exact k)
      · rw [if_pos (Or.inr (Or.inl c3))] at e
        rw [i0]
        exact k.bk h e
    · rw [if_pos (Or.inr (Or.inr c2))] at e
      rw [i0]
      exact k.bk h e
set_option maxRecDepth 100000 in
theorem ms_23 {K : Nat} (hK : K = 23) (h : GA b A0 I0 A I S F) (hg : gRM A0 I0 G) (hok : zok S F) (hN : F.1 < 32258) (hp : zpc S < gL G (zq S)) (ho : gO G (zq S) (zpc S) = K) (ha : ∀ c, alt = some c → c < (zsi K S).1) (k : RMk b A0 I0 (zoper G alt F S) K S F A Q) : D163_operate (altv alt) A I Q := by
  have hz := h.wf.hi
  have hb := h.hb
  have h40 := m_pc hg h.wf hp
  have hr := m_num hg h.wf hp (ho.trans hK)
  have e := zo_23 (alt := alt) (F := F) (ho.trans hK)
  refine M_pre h hg hp ho (by omega) (fun _ => absurd hK (by omega)) (fun _ _ => absurd hK (by omega)) (fun _ _ => absurd hK (by omega)) (fun _ _ => ?_) (fun _ => absurd hK (by omega))
  unfold D184_arrays
  rw [iEq (by omega) (by decide), if_neg (by omega), iEq (by omega) (by decide), if_neg (by omega), iEq (by omega) (by decide), if_pos hK]
  rw [nI_add, nI_add, iLt (by omega) (by decide)]
  by_cases c : zh S < 3
  · rw [if_pos (Or.inl c)] at e
    rw [if_pos c]
    exact k.bk h e
  · rw [if_neg c]
    refine M_isRef h (c := 2) (by omega) (fun c2 => ?_) (fun c2 => ?_)
    · rw [i1]
      refine M_isWord h (by omega) (fun c3 => ?_) (fun c3 => ?_)
      · rw [i1]
        refine M_isWord h (by omega) (fun c7 => ?_) (fun c7 => by rw [if_pos (Or.inr (Or.inl c7))] at e; rw [i0]; exact k.bk h e)
        rw [i1]
        rw [if_neg (by rintro (y | y | y | y); exact c y; exact c7 y; exact c3 y; exact y c2)] at e
        refine M_top h (c := 2) (by omega) ?_
        rcases (hok.pk (b := 2) (by omega)).ref c2 (by omega) with y | ⟨j, hj, y⟩
        · rw [if_pos y] at e ⊢
          exact M_thr h hg (by decide) (k.go e)
        · have hn := h.wf.2.2.2.1
          have hl := h.wf.2.2.2.2.1 j hj
          have y0 : ¬ zpk S 2 = -1 := by rw [y]; exact ar_n1 j (by omega)
          rw [if_neg y0] at e ⊢
          have zj : zar (zpk S 2) = j := by rw [y]; exact zar_nI (by omega)
          rw [zj] at e
          refine M_top h (c := 2) (by omega) ?_
          have vj : vp_in (((I 1681 35) + (nI 6)) + ((-2) - zpk S 2)) 88400 := by rw [y, ar_s j (by omega), h.w, nI_add, nI_add]; exact vp_in_nI (by omega) (by decide)
          have lj : A 1688 (((I 1681 35) + (nI 6)) + ((-2) - zpk S 2)).toNatClampNeg = nI (zL S j) := by rw [y, ar_s j (by omega), h.w, nI_add, nI_add, nI_clamp (by omega)]; exact (h.arr hj).1
          refine ⟨vj, M_top h (by omega) ?_⟩
          have el := fun (q : Nat) (hq : q < 1000) => M_elem (K := K) (c := q) (j := j) (v := zpk S 2) (Q := Q) (by omega) h hg hok hN hq hj y (by subst hK; show 3 ≤ zh S; omega) h40
          by_cases c4 : isn (zpk S 1)
          · rw [if_pos c4] at e
            refine mN1 c4 ?_
            rw [i1]
            refine mN1 c4 ?_
            rw [i1]
            unfold D178_number
            obtain ⟨i, hi, ii⟩ := c4.nat
            have nn := nb_neg hi
            rw [ii, zci_nI hi hl] at e
            rw [ii]
            have yy : 128 ≤ i → nI i - nI 128 = nI (i - 128) := fun z => pk_sub z
            rw [addE] at nn
            generalize nI i - nI 128 = y1 at nn yy ⊢
            show if y1 < 0 then _ else _
            by_cases c5 : i < 128
            · rw [if_pos (nn.mpr c5)]
              have e : zoper G alt F S = zthr G F S 2 := by rw [e]; simp only [if_pos c5]; rw [if_neg (by omega)]
              exact M_thr h hg (by decide) (k.go e)
            · have e : zoper G alt F S = (fun x => if x < zL S j then (0, znext (zdrop (zset S j x (zpk S 0)) 3), F) else zthr G F S 2) (i - 128) := by
                rw [e]
                simp only [if_neg c5]
                by_cases c6 : i < 128 + zL S j
                · rw [if_pos c6]
                · rw [if_neg c6, if_neg (by omega), if_neg (by omega)]
              have k := k.go e
              have el := el (i - 128) (by omega) (by rw [if_neg (show ¬ K = 22 by omega)]; exact k)
              rw [← yy (by omega)] at el
              exact el
          · rw [if_neg c4] at e
            refine mN0 c4 ?_
            rw [i0]
            cases alt with
            | none =>
              show if (-1 : Int32) = -1 then _ else _
              rw [if_pos rfl, lj, nI_add]
              exact k.sp h e (by unfold zsi; rw [if_neg (by omega), if_neg (by omega), if_neg (by omega), if_neg (by omega)]; rw [zj])
            | some x =>
              have hc := ha x rfl
              have hc : x < zL S j + 1 := by unfold zsi at hc; rw [if_neg (by omega), if_neg (by omega), if_neg (by omega), if_neg (by omega)] at hc; rw [zj] at hc; exact hc
              have e : zoper G (some x) F S = if x < zL S j then (0, znext (zdrop (zset S j x (zpk S 0)) 3), F) else zthr G F S 2 := e
              show if nI x = -1 then _ else _
              rw [alt_n (by omega)]
              refine mN0 c4 ?_
              rw [i0]
              have k := k.go e
              exact el x (by omega) (by rw [if_neg (show ¬ K = 22 by omega)]; exact k)
      · rw [if_pos (Or.inr (Or.inr (Or.inl c3)))] at e
        rw [i0]
        exact k.bk h e
    · rw [if_pos (Or.inr (Or.inr (Or.inr c2)))] at e
      rw [i0]
      exact k.bk h e
end RP
