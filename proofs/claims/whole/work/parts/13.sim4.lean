/-! Object's constructor, Math.min, System.arraycopy; the whole step; the contract of every method out of its plain run -/
theorem bs_objinit {l : Launch} {mi : Nat} {Q : bm_Q} {pc : Nat} {ls st : List Value} {h : bm_H} {k : Nat} (hk : k < 1000) (hdg : decode (pm_b mi) pc = .ok (.invokespecial k, 3)) {q : Nat × Nat × Nat} (hlk : pm_cT.lookup (bm_key mi k) = some q) (hq : q.1 = 3)
    (hh : bm_fit0 mi = true ∧ bm_r1 st fun _ r => bm_all r = true ∧ bm_P l mi Q (pc + 3) ls r h) : bm_P l mi Q pc ls st h := by
  obtain ⟨hfit, hh⟩ := hh
  obtain ⟨a, r, rfl, hall, hp⟩ := bm_r1.inv hh
  obtain ⟨qh, mj, ne⟩ := q
  dsimp only at hq
  subst hq
  have hw : Cond.methodLink (pm_nm (bm_key mi k / 1000)) (bm_key mi k % 1000) objectInit ∈ lw_good := pm_callall _ (bm_look hlk)
  rw [bm_key_d hk, bm_key_m hk] at hw
  unfold bm_fit0 at hfit
  rw [Bool.and_eq_true] at hfit
  have hf1 := of_decide_eq_true hfit.1
  have hf2 := of_decide_eq_true hfit.2
  refine bm_P.step (Nat.le_refl _) (Nat.le_refl _) hp ?_
  intro p e R s m args below meth c D E base c0 s0 Qf H locs la hx _ _ _ _ hR hF hL kk
  obtain ⟨hx1, hx2, hx3, hown, hts, hK, hnw, hstt, hini, hxf, hxl⟩ := hx
  have hsum := bm_all_sum E base hall
  exact W.objInit (g := F0 m pc la ((Value.ref a :: r).map (bm_tr E base))) hx1 hx2 hown (hts _ hw) (hts _ pm_oinst) (hts _ pm_ocode) rfl (by rw [hx3]; exact hL.2.1) rfl hdg (by omega) (by show 2 * 0 + _ + 12 ≤ _; omega) (kk H locs la hR hF hL)
theorem bs_min {l : Launch} {mi : Nat} {Q : bm_Q} {pc : Nat} {ls st : List Value} {h : bm_H} {k : Nat} (hk : k < 1000) (hdg : decode (pm_b mi) pc = .ok (.invokestatic k, 3)) {q : Nat × Nat × Nat} (hlk : pm_cT.lookup (bm_key mi k) = some q) (hq : q.1 = 5)
    (hh : bm_min mi (fun st h => bm_P l mi Q (pc + 3) ls st h) st h) : bm_P l mi Q pc ls st h := by
  obtain ⟨x, y, r, rfl, hfit, hall, hp⟩ := bm_i2.inv hh
  obtain ⟨qh, mj, ne⟩ := q
  dsimp only at hq
  subst hq
  have hw : Cond.methodLink (pm_nm (bm_key mi k / 1000)) (bm_key mi k % 1000) Lib.Math.min.name ∈ lw_good := pm_callall _ (bm_look hlk)
  rw [bm_key_d hk, bm_key_m hk] at hw
  unfold bm_fit5 at hfit
  rw [Bool.and_eq_true] at hfit
  have hf1 := of_decide_eq_true hfit.1
  have hf2 := of_decide_eq_true hfit.2
  refine bm_P.step (Nat.le_refl _) (Nat.le_refl _) hp ?_
  intro p e R s m args below meth c D E base c0 s0 Qf H locs la hx g1 g2 g3 g4 hR hF hL kk
  obtain ⟨hx1, hx2, hx3, hown, hts, hK, hnw, hstt, hini, hxf, hxl⟩ := hx
  have hsum := bm_all_sum E base hall
  exact va_mmin hx1 hx2 (by rw [hx3]; exact hL.2.1.symm) hown (hts _ hw) (hts _ pm_mins) (hts _ pm_mini) (hts _ pm_minc) (by omega) (by omega) g3 g4 hdg (kk H locs la hR hF hL)
theorem bs_copy {l : Launch} {mi : Nat} {Q : bm_Q} {pc : Nat} {ls st : List Value} {h : bm_H} {k : Nat} (hk : k < 1000) (hdg : decode (pm_b mi) pc = .ok (.invokestatic k, 3)) {q : Nat × Nat × Nat} (hlk : pm_cT.lookup (bm_key mi k) = some q) (hq : q.1 = 4)
    (hh : bm_copy mi (fun st h => bm_P l mi Q (pc + 3) ls st h) st h) : bm_P l mi Q pc ls st h := by
  obtain ⟨qh, mj, ne⟩ := q
  dsimp only at hq
  subst hq
  have hw : Cond.methodLink (pm_nm (bm_key mi k / 1000)) (bm_key mi k % 1000) arraycopyName ∈ lw_good := pm_callall _ (bm_look hlk)
  rw [bm_key_d hk, bm_key_m hk] at hw
  unfold bm_copy at hh
  split at hh
  · rename_i n dp b sp a r
    obtain ⟨hfit, hall, ha3, ha, hb3, hb, h1, h2, h3, hh⟩ := hh
    obtain ⟨t, na, f, hca, hh⟩ := bm_ints.inv hh
    obtain ⟨t2, nb, g, hcb, rfl, rfl, h4, h5, hp⟩ := bm_ints.inv hh
    unfold bm_fit4 at hfit
    rw [Bool.and_eq_true] at hfit
    have hf1 := of_decide_eq_true hfit.1
    have hf2 := of_decide_eq_true hfit.2
    refine bm_P.step (h2 := bm_set h b _) (Nat.le_refl h.1) (Nat.le_refl h.2.1) hp ?_
    intro p e R s m args below meth c D E base c0 s0 Qf H locs la hx g1 g2 g3 g4 hR hF hL kk
    obtain ⟨hx1, hx2, hx3, hown, hts, hK, hnw, hstt, hini, hxf, hxl⟩ := hx
    have hsum := bm_all_sum E base hall
    have nn : ∀ z : Int32, ¬ z < 0 → z.toInt = (z.toNatClampNeg : Int) := by
      intro z hz
      have hz0 : (0 : Int) ≤ z.toInt := by
        have := Int32.not_lt.mp hz
        simpa using Int32.le_iff_toInt_le.mp this
      show z.toInt = ((z.toInt.toNat : Nat) : Int)
      omega
    have hat := hR.2.2.2 a ha3 ha
    rw [hca] at hat
    obtain ⟨cA, hA, hc0⟩ := hat
    have hbt := hR.2.2.2 b hb3 hb
    rw [hcb] at hbt
    obtain ⟨cB, hB, hc1⟩ := hbt
    have e0 : (Value.int n :: Value.int dp :: Value.ref b :: Value.int sp :: Value.ref a :: r).map (bm_tr E base) = .int n :: .int dp :: .ref (base + (b - 3)) :: .int sp :: .ref (base + (a - 3)) :: r.map (bm_tr E base) := by
      rw [List.map_cons, List.map_cons, bm_stk1 hb3, List.map_cons, bm_stk1 ha3]; rfl
    rw [e0]
    have e9 : nativeFrameWords "java/lang/System" "arraycopy" 5 + 11 ≤ 64 := by decide +kernel
    intro T hT X
    obtain ⟨-, k0, hk0, cm0, hkk0⟩ := hA na (fun j => .int (f j))
    obtain ⟨-, k1, hk1, cm1, hkk1⟩ := hB nb (fun j => .int (g j))
    obtain ⟨vm', X', step⟩ := X.arraycopy hx1 hown (hts _ hw) (hts _ pm_arcn) (hts _ pm_arcs) (hts _ pm_arci) (src := base + (a - 3)) (dst := base + (b - 3)) (cs := arrV cA na (fun j => .int (f j))) (cd := arrV cB nb (fun j => .int (g j))) (srcPos := sp) (destPos := dp) (n := n) (by rw [hT]; exact hc0) (by rw [hT]; exact hc1)
      (fun _ h => by cases h) (fun _ h => by cases h) (fun h => by cases h) (fun h => by cases h) hk0 hk1 hkk0 hkk1 (by simp [bm_ty, refKind]) h1 h2 h3
      (by rw [nn sp h1, nn n h3, arrV_size]; omega)
      (by rw [nn dp h2, nn n h3, arrV_size]; omega)
      (fun vm₁ _ i hi => by
        have e : (arrV cA na (fun j => Value.int (f j))).slots.getD (sp.toNatClampNeg + i) .null = .int (f (sp.toNatClampNeg + i)) := by
          rw [Array.getD_eq_getD_getElem?, arrV_read _ _ (by omega)]
          rfl
        refine ⟨?_, ?_⟩
        · rw [e]
          rfl
        · rw [e]
          exact trivial)
      (g := F0 m pc la (.int n :: .int dp :: .ref (base + (b - 3)) :: .int sp :: .ref (base + (a - 3)) :: r.map (bm_tr E base))) rfl (by rw [hx3]; exact hL.2.1) (rest := r.map (bm_tr E base)) rfl (by rw [hx2]; exact hdg) (by omega) (by show 2 * 0 + _ + _ ≤ _; omega)
    have e1 : copied (arrV cA na (fun j => .int (f j))) (arrV cB nb (fun j => .int (g j))) sp dp n = arrV cB nb (fun j => .int (va_cpy f g sp.toNatClampNeg dp.toNatClampNeg n.toNatClampNeg j)) := va_copied (fun z => .int z) cA cB f g h4
    rw [e1] at X' step
    have hl : base + (b - 3) < H.size := (Array.getElem?_eq_some_iff.mp hc1).1
    have hheap : ((T.setVm vm').setCell (base + (b - 3)) (arrV cB nb (fun j => .int (va_cpy f g sp.toNatClampNeg dp.toNatClampNeg n.toNatClampNeg j)))).heap = H.setIfInBounds (base + (b - 3)) (arrV cB nb (fun j => .int (va_cpy f g sp.toNatClampNeg dp.toNatClampNeg n.toNatClampNeg j))) := by rw [← hT]; rfl
    have oq : ∀ q : Nat, q ≠ base + (b - 3) → (H.setIfInBounds (base + (b - 3)) (arrV cB nb (fun j => .int (va_cpy f g sp.toNatClampNeg dp.toNatClampNeg n.toNatClampNeg j))))[q]? = H[q]? := fun q hq => by simp [Array.getElem?_setIfInBounds, Ne.symm hq]
    have zq : (H.setIfInBounds (base + (b - 3)) (arrV cB nb (fun j => .int (va_cpy f g sp.toNatClampNeg dp.toNatClampNeg n.toNatClampNeg j)))).size = H.size := by simp
    obtain ⟨t, a1, b1⟩ := kk _ _ la (hR.set hb3 zq oq ⟨cB, hB, by simp [Array.getElem?_setIfInBounds, hl]⟩) (hF.put (Nat.le_add_right _ _) zq oq (fun q hq => by
        rcases List.mem_append.mp hq with h | h
        · exact Or.inl h
        · obtain ⟨z, -, hz⟩ := List.mem_map.mp h
          exact Or.inr (by rw [← hz]))) hL _ hheap X'
    exact ⟨t, step t a1, b1⟩
  · exact hh.elim
theorem bs_ret {l : Launch} {mi : Nat} {Q : bm_Q} {pc : Nat} {ls st : List Value} {h : bm_H} {r : Option Value} (hr : match r with
      | none => pm_r mi = none ∧ decode (pm_b mi) pc = .ok (.return_, 1)
      | some (.int x) => ∃ ty, pm_r mi = some ty ∧ narrow ty (.int x) = .int x ∧ decode (pm_b mi) pc = .ok (.ireturn, 1)
      | some (.ref a) => bm_isRef (pm_r mi) = true ∧ decode (pm_b mi) pc = .ok (.areturn, 1)
      | _ => False) (hQ : Q r h) (hst : st = r.toList) : bm_P l mi Q pc ls st h := by
  subst hst
  exact ⟨r, h, hQ, Nat.le_refl _, Nat.le_refl _, fun p e R s m args below meth c D E base c0 s0 Qf hx g1 g2 g3 g4 hre H locs la hR hF hL => hre H locs la pc hR hF hr⟩
set_option maxHeartbeats 4000000 in
/-- THE STEP -/
theorem bs_do {l : Launch} {C : bm_K} (hC : bm_OkC l C) {mi : Nat} {Q : bm_Q} {pc : Nat} {ls st : List Value} {h : bm_H} {i : Instr} {n : Nat} (hdg : decode (pm_b mi) pc = .ok (i, n)) (hn : n = bm_ln i n) (hix : bm_ix i = true) (hh : bm_do C mi Q (bm_P l mi Q) i pc ls st h) : bm_P l mi Q pc ls st h := by
  cases i with
  | iconst k => obtain rfl : n = 1 := hn; exact bs_iconst hdg hh
  | bipush k => obtain rfl : n = 2 := hn; exact bs_bipush hdg hh
  | sipush k => obtain rfl : n = 3 := hn; exact bs_sipush hdg hh
  | ldc k => obtain rfl : n = 2 := hn; exact bs_ldc (of_decide_eq_true hix) hdg hh
  | ldc_w k => obtain rfl : n = 3 := hn; exact bs_ldc_w (of_decide_eq_true hix) hdg hh
  | iload_n k => obtain rfl : n = 1 := hn; exact bs_iload_n hdg hh
  | iload k => obtain rfl : n = 2 := hn; exact bs_iload hdg hh
  | aload_n k => obtain rfl : n = 1 := hn; exact bs_aload_n hdg hh
  | aload k => obtain rfl : n = 2 := hn; exact bs_aload hdg hh
  | istore_n k => obtain rfl : n = 1 := hn; exact bs_istore_n hdg hh
  | istore k => obtain rfl : n = 2 := hn; exact bs_istore hdg hh
  | astore_n k => obtain rfl : n = 1 := hn; exact bs_astore_n hdg hh
  | astore k => obtain rfl : n = 2 := hn; exact bs_astore hdg hh
  | iinc k z => obtain rfl : n = 3 := hn; exact bs_iinc hdg hh
  | iadd => obtain rfl : n = 1 := hn; exact bs_iadd hdg hh
  | isub => obtain rfl : n = 1 := hn; exact bs_isub hdg hh
  | imul => obtain rfl : n = 1 := hn; exact bs_imul hdg hh
  | idiv => obtain rfl : n = 1 := hn; exact bs_idiv hdg hh
  | irem => obtain rfl : n = 1 := hn; exact bs_irem hdg hh
  | ineg => obtain rfl : n = 1 := hn; exact bs_ineg hdg hh
  | iand => obtain rfl : n = 1 := hn; exact bs_iand hdg hh
  | ior => obtain rfl : n = 1 := hn; exact bs_ior hdg hh
  | ixor => obtain rfl : n = 1 := hn; exact bs_ixor hdg hh
  | ishl => obtain rfl : n = 1 := hn; exact bs_ishl hdg hh
  | ishr => obtain rfl : n = 1 := hn; exact bs_ishr hdg hh
  | iushr => obtain rfl : n = 1 := hn; exact bs_iushr hdg hh
  | i2b => obtain rfl : n = 1 := hn; exact bs_i2b hdg hh
  | dup => obtain rfl : n = 1 := hn; exact bs_dup hdg hh
  | pop => obtain rfl : n = 1 := hn; exact bs_pop hdg hh
  | dup2 => obtain rfl : n = 1 := hn; exact bs_dup2 hdg hh
  | iaload => obtain rfl : n = 1 := hn; exact bs_iaload hdg hh
  | baload => obtain rfl : n = 1 := hn; exact bs_baload hdg hh
  | iastore => obtain rfl : n = 1 := hn; exact bs_iastore hdg hh
  | bastore => obtain rfl : n = 1 := hn; exact bs_bastore hdg hh
  | aaload => obtain rfl : n = 1 := hn; exact bs_aaload hdg hh
  | aastore => obtain rfl : n = 1 := hn; exact bs_aastore hdg hh
  | arraylength => obtain rfl : n = 1 := hn; exact bs_arraylength hdg hh
  | ifCond c off => obtain rfl : n = 3 := hn; cases c <;> first | exact bs_ifCond_eq hdg hh | exact bs_ifCond_ne hdg hh | exact bs_ifCond_lt hdg hh | exact bs_ifCond_ge hdg hh | exact bs_ifCond_gt hdg hh | exact bs_ifCond_le hdg hh
  | if_icmp c off => obtain rfl : n = 3 := hn; cases c <;> first | exact bs_if_icmp_eq hdg hh | exact bs_if_icmp_ne hdg hh | exact bs_if_icmp_lt hdg hh | exact bs_if_icmp_ge hdg hh | exact bs_if_icmp_gt hdg hh | exact bs_if_icmp_le hdg hh
  | goto off => obtain rfl : n = 3 := hn; exact bs_goto hdg hh
  | tableswitch d lo hi offs => exact bs_tableswitch hdg hh
  | lookupswitch d ps => exact bs_lookupswitch hdg hh
  | getfield k => obtain rfl : n = 3 := hn; exact bs_getfield (of_decide_eq_true hix) hdg hh
  | putfield k => obtain rfl : n = 3 := hn; exact bs_putfield (of_decide_eq_true hix) hdg hh
  | getstatic k => obtain rfl : n = 3 := hn; exact bs_getstatic (of_decide_eq_true hix) hdg hh
  | new k => obtain rfl : n = 3 := hn; exact bs_new (of_decide_eq_true hix) hdg hh
  | anewarray k => obtain rfl : n = 3 := hn; exact bs_anewarray (of_decide_eq_true hix) hdg hh
  | newarray a => obtain rfl : n = 2 := hn; exact bs_newarray hdg hh
  | invokevirtual k => obtain rfl : n = 3 := hn; exact bs_inv hC (how := 0) (of_decide_eq_true hix) hdg (Or.inl rfl) hh
  | invokestatic k =>
    obtain rfl : n = 3 := hn
    obtain ⟨q, hlk, hq⟩ := bm_opt.inv hh
    split at hq
    · rename_i e; exact bs_copy (of_decide_eq_true hix) hdg hlk e hq
    · split at hq
      · rename_i e; exact bs_min (of_decide_eq_true hix) hdg hlk e hq
      · exact bs_inv hC (how := 1) (of_decide_eq_true hix) hdg (Or.inr (Or.inl rfl)) hq
  | invokespecial k =>
    obtain rfl : n = 3 := hn
    obtain ⟨q, hlk, hq⟩ := bm_opt.inv hh
    split at hq
    · rename_i e; exact bs_objinit (of_decide_eq_true hix) hdg hlk e hq
    · exact bs_inv hC (how := 2) (of_decide_eq_true hix) hdg (Or.inr (Or.inr rfl)) hq
  | ireturn =>
    obtain rfl : n = 1 := hn
    obtain ⟨x, r, rfl, rfl, hk⟩ := bm_i1.inv hh
    obtain ⟨ty, hty, -, hnar, hQ⟩ := bm_opt.inv hk
    exact bs_ret (r := some (.int x)) ⟨ty, hty, hnar, hdg⟩ hQ rfl
  | areturn =>
    obtain rfl : n = 1 := hn
    obtain ⟨a, r, rfl, rfl, hr, hQ⟩ := bm_r1.inv hh
    exact bs_ret (r := some (.ref a)) ⟨hr, hdg⟩ hQ rfl
  | return_ =>
    obtain rfl : n = 1 := hn
    obtain ⟨rfl, hr, hQ⟩ := hh
    exact bs_ret (r := none) ⟨hr, hdg⟩ hQ rfl
  | _ => exact hh.elim
