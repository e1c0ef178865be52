/-! ONE INSTRUCTION of the plain machine is one of the machine: fields, arrays, new cells -/
theorem bm_stk1 {E : Nat → Nat} {base a : Nat} (ha : 3 ≤ a) (r : List Value) : (Value.ref a :: r).map (bm_tr E base) = .ref (base + (a - 3)) :: r.map (bm_tr E base) := by
  rw [List.map_cons]; show Value.ref (bm_ad E base a) :: _ = _; rw [bm_ad_ge ha]
theorem bm_tr_def (E : Nat → Nat) (base : Nat) (ty : FieldType) : bm_tr E base (defaultValue ty) = defaultValue ty := by cases ty <;> rfl
theorem bm_nu (f : Nat → Value) (cA : ClassId) (n : Nat) : (arrV cA n f).vm ≠ .unknown := fun q => by cases q
theorem bm_in_arr {cA : ClassId} {n : Nat} {f : Nat → Value} {i : Int32} (h : vp_in i n) : ¬ (i < 0 ∨ (arrV cA n f).slots.size ≤ i.toNatClampNeg) := by rw [arrV_size]; exact h
theorem bm_in_lt {i : Int32} {n : Nat} (h : vp_in i n) : i.toNatClampNeg < n := Nat.not_le.mp fun q => h (Or.inr q)
theorem bs_getfield {l : Launch} {mi : Nat} {Q : bm_Q} {pc : Nat} {ls st : List Value} {h : bm_H} {k : Nat} (hk : k < 1000) (hdg : decode (pm_b mi) pc = .ok (.getfield k, 3))
    (hh : bm_r1 st fun a r => 3 ≤ a ∧ a < h.1 ∧ bm_obj (h.2.2 a) fun ci fs => bm_opt (pm_fT.lookup (bm_key mi k)) fun q => q.1 = ci ∧ bm_opt (fs[q.2.1]?) fun v => bm_P l mi Q (pc + 3) ls (v :: r) h) : bm_P l mi Q pc ls st h := by
  obtain ⟨a, r, rfl, ha3, ha, ho⟩ := bm_r1.inv hh
  obtain ⟨ci, fs, hcell, hq⟩ := bm_obj.inv ho
  obtain ⟨⟨cq, kf, ne⟩, hlk, e, hv⟩ := bm_opt.inv hq
  dsimp only at e hv
  subst e
  obtain ⟨v, hv, hp⟩ := bm_opt.inv hv
  refine bm_P.step (Nat.le_refl _) (Nat.le_refl _) hp ?_
  intro p e R s m args below meth c D E base c0 s0 Qf H locs la hx _ _ _ _ hR hF hL kk
  obtain ⟨hx1, hx2, hx3, hown, hts, hK, hnw, hstt, -⟩ := hx
  have hat := hR.2.2.2 a ha3 ha
  rw [hcell] at hat
  obtain ⟨r', hr', hlen, cell, q1, q2, q3, q4⟩ := hat
  obtain ⟨r2, hr2, hk2, hlnk⟩ := pm_fall _ (bm_look hlk)
  cases hr'.symm.trans hr2
  have hcok := pm_cls _ _ hr'
  obtain ⟨hS, hfc, kC, hkC, hkind⟩ := hK.1 _ _ hr'
  obtain ⟨cf, kff, fi, f, hi, hsl⟩ := hS kf hk2
  have hst := (u_facts hfc hkC (u_lays hts hcok.2.2.2.1 hk2) hi).1
  rw [hcok.2.2.1 kf hk2] at hi
  have hsv : cell.slots[f.slot]? = some (bm_tr E base v) := by
    rw [hsl, q4 kf hk2]
    simp [vp_V, hv]
  rw [bm_stk1 ha3]
  rcases hlnk with ⟨-, hw⟩ | ⟨-, hw⟩
  · dsimp only at hw
    rw [bm_key_d hk, bm_key_m hk] at hw
    exact W.getf hx1 hx2 hown (hts _ hw) hi hst q1 (by rw [q3]; exact fun z => by cases z) hsv rfl rfl hdg (kk H locs la hR hF hL)
  · dsimp only at hw
    rw [bm_key_d hk, bm_key_m hk] at hw
    exact va_Wgetf hx1 hx2 hown (va_Nw.use rfl (hnw.1 _ hw)) hi hst q1 (by rw [q3]; exact fun z => by cases z) hsv rfl rfl hdg (kk H locs la hR hF hL)
theorem bm_ok_nar {E : Nat → Nat} {base : Nat} {ty : FieldType} {v : Value} (hok : bm_ok v = true) (hn : narrow ty v = v) (hf : fits ty v = true) : narrow ty (bm_tr E base v) = bm_tr E base v ∧ fits ty (bm_tr E base v) = true := by
  cases v with
  | int x => exact ⟨hn, hf⟩
  | ref a => cases ty <;> first | exact ⟨rfl, hf⟩ | exact ⟨hn, hf⟩ | (exact ⟨rfl, by cases hf⟩) | cases hf
  | _ => cases hok
theorem bm_updT {E : Nat → Nat} {base : Nat} {fs : List Value} {k : Nat} (hk : k < fs.length) (v : Value) (j : Nat) : updV (fun j => bm_tr E base (vp_V fs j)) k (bm_tr E base v) j = bm_tr E base (vp_V (fs.set k v) j) := by
  rw [← vp_updV_set hk v j]
  unfold updV
  split <;> rfl
theorem bs_putfield {l : Launch} {mi : Nat} {Q : bm_Q} {pc : Nat} {ls st : List Value} {h : bm_H} {k : Nat} (hk : k < 1000) (hdg : decode (pm_b mi) pc = .ok (.putfield k, 3))
    (hh : bm_rv st fun a v r => 3 ≤ a ∧ a < h.1 ∧ bm_ok v = true ∧ bm_obj (h.2.2 a) fun ci fs => bm_opt (pm_fT.lookup (bm_key mi k)) fun q => q.1 = ci ∧ q.2.1 < fs.length ∧ narrow (pm_ty ci q.2.1) v = v ∧ fits (pm_ty ci q.2.1) v = true ∧
      bm_opt (pm_cl[ci]?) fun cq => ((cq.2.1 q.2.1).2.2.2 = false ∨ ((pm_M mi).2.1 = "<init>" ∧ pm_own mi = ci ∧ q.2.2 = 0)) ∧ bm_P l mi Q (pc + 3) ls r (bm_set h a (.inr (.inr (ci, fs.set q.2.1 v))))) : bm_P l mi Q pc ls st h := by
  obtain ⟨a, v, r, rfl, ha3, ha, hok, ho⟩ := bm_rv.inv hh
  obtain ⟨ci, fs, hcell, hq⟩ := bm_obj.inv ho
  obtain ⟨⟨cq, kf, ne⟩, hlk, e, hkl, hn, hfit, hq2⟩ := bm_opt.inv hq
  dsimp only at e hkl hn hfit hq2
  subst e
  obtain ⟨r2, hr2, hor, hp⟩ := bm_opt.inv hq2
  refine bm_P.step (h2 := bm_set h a _) (Nat.le_refl h.1) (Nat.le_refl h.2.1) hp ?_
  intro p e R s m args below meth c D E base c0 s0 Qf H locs la hx _ _ _ _ hR hF hL kk
  obtain ⟨hx1, hx2, hx3, hown, hts, hK, hnw, hstt, hini, -⟩ := hx
  have hat := hR.2.2.2 a ha3 ha
  rw [hcell] at hat
  obtain ⟨r', hr', hlen, cell, q1, q2, q3, q4⟩ := hat
  have e2 : r' = r2 := Option.some.inj (hr'.symm.trans hr2)
  subst e2
  obtain ⟨r3, hr3, hk2, hlnk⟩ := pm_fall _ (bm_look hlk)
  have e3 : r' = r3 := Option.some.inj (hr'.symm.trans hr3)
  subst e3
  have hcok := pm_cls _ _ hr'
  have hap := va_apart (own := pm_nm (pm_own mi)) hts hcok.2.2.2.1 (pm_ty cq) hcok.2.1 hcok.1 hK hr'
  obtain ⟨hS, hfc, kC, hkC, hkind⟩ := hK.1 _ _ hr'
  obtain ⟨cf, kff, fi, f, hi, hsl⟩ := hS kf hk2
  have hst := (u_facts hfc hkC (u_lays hts hcok.2.2.2.1 hk2) hi).1
  obtain ⟨hn2, hf2⟩ := bm_ok_nar (E := E) (base := base) hok hn hfit
  have hlay := hts _ (hcok.2.2.2.1 _ (u_in_lay hk2))
  unfold u_lay at hlay
  have hi0 := hi
  rw [hcok.2.2.1 kf hk2] at hi
  have hlt : f.slot < cell.slots.size := by rw [hsl]; exact k2_hasslot (q4 kf hk2)
  have hend : ∀ H' : Heap, H'[base + (a - 3)]? = some (cell.setSlot f.slot (bm_tr E base v)) → H'.size = H.size → (∀ q, q ≠ base + (a - 3) → H'[q]? = H[q]?) → W p l e R s m args below meth c H' (locs ++ [⟨base + (a - 3), f.slot⟩]) (h.1 - c0) (h.2.1 - s0) Qf (F0 m (pc + 3) la (r.map (bm_tr E base))) := by
    intro H' e1 e2 e3
    rw [hsl] at e1
    exact kk H' _ la (hR.set ha3 e2 e3 ⟨_, hr', by rw [List.length_set]; exact hlen, t_OB.to (V := updV (fun j => bm_tr E base (vp_V fs j)) kf (bm_tr E base v)) ⟨_, e1, q2, q3, t_set q4 hap hk2 _⟩ (fun j _ => bm_updT hkl v j)⟩) (hF.put (Nat.le_add_right _ _) e2 e3 bm_one) hL
  have hstk : (v :: Value.ref a :: r).map (bm_tr E base) = bm_tr E base v :: .ref (base + (a - 3)) :: r.map (bm_tr E base) := by
    rw [List.map_cons, bm_stk1 ha3]
  rw [hstk]
  rcases hlnk with ⟨-, hw⟩ | ⟨hne, hw⟩
  · dsimp only at hw
    rw [bm_key_d hk, bm_key_m hk] at hw
    by_cases hfin : (r'.2.1 kf).2.2.2 = true
    · rw [if_pos hfin] at hlay
      rcases hor with hz | ⟨hin, hoc, -⟩
      · rw [hfin] at hz; cases hz
      · have hnm : pm_nm (pm_own mi) = r'.1 := by
          rw [hoc]
          exact pm_nmcl _ _ hr'
        have hcf : m.cls = cf := by
          obtain ⟨_, _, c', _, _, _, -, -, hf', -, -, -, hown2, -⟩ := Cond.laysFinal_spec hlay
          have e1 : c' = cf := by have := hi0.symm.trans hf'; simp at this; exact this.1.symm
          rw [hcok.2.2.1 kf hk2, ← hnm] at hown2
          rw [← e1]; exact Option.some.inj (hown.symm.trans hown2)
        have h6 := u_fits hfc hkC hkind (Or.inr hlay) hi0 (hcok.2.1 kf hk2) hn2 hf2
        exact W.putFinK hx1 hx2 hown (hts _ hw) hi hst hcf (hini hin) (by rw [q2]; exact h6) q1 q3 hlt rfl rfl hdg hend
    · rw [if_neg hfin] at hlay
      have h6 := u_store hfc hkC hkind hlay hi0 (hcok.2.1 kf hk2) hn2 hf2
      exact W.putK hx1 hx2 (f := f) ⟨hown, hts _ hw, ⟨_, _, _, hi⟩, hst⟩ (by rw [q2]; exact h6) q1 q3 hlt rfl rfl hdg hend
  · dsimp only at hw hne hor
    rw [bm_key_d hk, bm_key_m hk] at hw
    have hfin : (r'.2.1 kf).2.2.2 = false := by
      rcases hor with hz | ⟨-, -, hz⟩
      · exact hz
      · omega
    rw [if_neg (by rw [hfin]; decide)] at hlay
    have h6 := u_store hfc hkC hkind hlay hi0 (hcok.2.1 kf hk2) hn2 hf2
    exact va_WputK hx1 hx2 (f := f) hown (va_Nw.use rfl (hnw.1 _ hw)) hi hst (by rw [q2]; exact h6) q1 q3 hlt rfl rfl hdg hend
theorem bs_getstatic {l : Launch} {mi : Nat} {Q : bm_Q} {pc : Nat} {ls st : List Value} {h : bm_H} {k : Nat} (hk : k < 1000) (hdg : decode (pm_b mi) pc = .ok (.getstatic k, 3))
    (hh : bm_opt (pm_sT.lookup (bm_key mi k)) fun e => bm_P l mi Q (pc + 3) ls (.ref e :: st) h) : bm_P l mi Q pc ls st h := by
  obtain ⟨x, hlk, hp⟩ := bm_opt.inv hh
  refine bm_P.step (Nat.le_refl _) (Nat.le_refl _) hp ?_
  intro p e R s m args below meth c D E base c0 s0 Qf H locs la hx _ _ _ _ hR hF hL kk
  obtain ⟨hx1, hx2, hx3, hown, hts, hK, hnw, hstt, -⟩ := hx
  obtain ⟨hor, hw⟩ := pm_sall _ (bm_look hlk)
  dsimp only at hor hw
  rw [bm_key_d hk, bm_key_m hk] at hw
  have hx3 : x < 3 := by omega
  have k2 := kk H locs la hR hF hL
  have e1 : (Value.ref x :: st).map (bm_tr E base) = .ref (E x) :: st.map (bm_tr E base) := by
    rw [List.map_cons]; show Value.ref (bm_ad E base x) :: _ = _; rw [bm_ad_lt hx3]
  rw [e1] at k2
  exact va_gets hx1 hx2 (hstt x hor) (A := fun q => base ≤ q) ⟨hF.2.2, fun q _ h2 => hF.1 q (by omega), hF.2.1⟩ hown (hts _ hw) (fun _ h9 => h9) hdg k2
theorem bs_new {l : Launch} {mi : Nat} {Q : bm_Q} {pc : Nat} {ls st : List Value} {h : bm_H} {k : Nat} (hk : k < 1000) (hdg : decode (pm_b mi) pc = .ok (.new k, 3))
    (hh : bm_opt (pm_nT.lookup (bm_key mi k)) fun ci => bm_opt (pm_cl[ci]?) fun q => bm_P l mi Q (pc + 3) ls (.ref h.1 :: st) (bm_new h q.2.2 (.inr (.inr (ci, (List.range q.2.2).map fun j => defaultValue (pm_ty ci j)))))) : bm_P l mi Q pc ls st h := by
  obtain ⟨ci, hlk, hq⟩ := bm_opt.inv hh
  obtain ⟨q, hq, hp⟩ := bm_opt.inv hq
  refine bm_P.step (Nat.le_succ _) (Nat.le_add_right _ _) hp ?_
  intro p e R s m args below meth c D E base c0 s0 Qf H locs la hx g1 g2 g3 g4 hR hF hL kk
  obtain ⟨hx1, hx2, hx3, hown, hts, hK, hnw, hstt, -⟩ := hx
  obtain ⟨r, hr, hw⟩ := pm_nall _ (bm_look hlk)
  cases hq.symm.trans hr
  dsimp only at hw
  rw [bm_key_d hk, bm_key_m hk] at hw
  have hcok := pm_cls _ _ hq
  have hKn := hK.1 ci _ hq
  have ea : bm_ad E base h.1 = H.size := by rw [bm_ad_ge hR.1, hR.2.1]
  have hz : base ≤ H.size := by rw [hR.2.1]; omega
  have g3 : h.1 + 1 - c0 ≤ R.cells := g3
  have g4 : h.2.1 + q.2.2 - s0 ≤ R.slots := g4
  refine W.newcK hx1 hx2 hown (hts _ hw) (hts _ hcok.2.2.2.2.1) (hts _ hcok.2.2.2.2.2) rfl hdg (by omega) (by omega) hKn.2.1 rfl fun H1 kC hkC e1 z1 o1 => ?_
  have k2 := kk H1 locs la (hR.new z1 o1 ⟨q, hq, by simp, (u_born (pm_ty ci) hts hcok.2.2.2.1 hKn hkC e1 hcok.2.1).to (fun j hj => by simp [vp_V, hj, bm_tr_def])⟩) (hF.new hz (by omega) o1) hL
  have e2 : (Value.ref h.1 :: st).map (bm_tr E base) = .ref H.size :: st.map (bm_tr E base) := by
    rw [List.map_cons]; show Value.ref (bm_ad E base h.1) :: _ = _; rw [ea]
  rw [e2] at k2
  exact W.cs (by show h.1 - c0 + 1 = h.1 + 1 - c0; omega) (by show h.2.1 - s0 + q.2.2 = h.2.1 + q.2.2 - s0; omega) k2
theorem bs_newarray {l : Launch} {mi : Nat} {Q : bm_Q} {pc : Nat} {ls st : List Value} {h : bm_H} {a : ClassFile.ArrayType} (hdg : decode (pm_b mi) pc = .ok (.newarray a, 2))
    (hh : bm_i1 st fun n r => ¬ n < 0 ∧ n.toNatClampNeg ≤ 1000000 ∧ bm_opt (bm_tag a) fun t => bm_P l mi Q (pc + 2) ls (.ref h.1 :: r) (bm_new h n.toNatClampNeg (.inl (t, n.toNatClampNeg, fun _ => 0)))) : bm_P l mi Q pc ls st h := by
  obtain ⟨n, r, rfl, hn, hn2, ht⟩ := bm_i1.inv hh
  obtain ⟨t, ht, hp⟩ := bm_opt.inv ht
  refine bm_P.step (Nat.le_succ _) (Nat.le_add_right _ _) hp ?_
  intro p e R s m args below meth c D E base c0 s0 Qf H locs la hx g1 g2 g3 g4 hR hF hL kk
  obtain ⟨hx1, hx2, hx3, hown, hts, hK, hnw, hstt, -⟩ := hx
  have ea : bm_ad E base h.1 = H.size := by rw [bm_ad_ge hR.1, hR.2.1]
  have hz : base ≤ H.size := by rw [hR.2.1]; omega
  have g3 : h.1 + 1 - c0 ≤ R.cells := g3
  have g4 : h.2.1 + n.toNatClampNeg - s0 ≤ R.slots := g4
  have hty : (Cond.arrayClass (newarray.typeOf a) ∈ lw_good) ∧ newarray.typeOf a = bm_ty t ∧ defaultValue (newarray.typeOf a) = .int 0 ∧ componentBytes (newarray.typeOf a) ≤ 4 := by
    cases a <;> first | cases ht | skip
    · exact ⟨pm_ac_boolean, rfl, rfl, by decide⟩
    · exact ⟨pm_ac_byte, rfl, rfl, by decide⟩
    · exact ⟨pm_ac_int, rfl, rfl, by decide⟩
  refine W.newaK hx1 hx2 (hts _ hty.1) rfl hdg rfl hn rfl (Nat.le_trans (Nat.mul_le_mul hn2 hty.2.2.2) (by decide)) (by omega) (by omega) rfl fun H1 cA e1 z1 o1 hA => ?_
  rw [hty.2.2.1] at e1
  rw [hty.2.1] at hA
  have k2 := kk H1 locs la (hR.new z1 o1 ⟨cA, hA, e1⟩) (hF.new hz (by omega) o1) hL
  have e2 : (Value.ref h.1 :: r).map (bm_tr E base) = .ref H.size :: r.map (bm_tr E base) := by
    rw [List.map_cons]; show Value.ref (bm_ad E base h.1) :: _ = _; rw [ea]
  rw [e2] at k2
  exact W.cs (by show h.1 - c0 + 1 = h.1 + 1 - c0; omega) (by show h.2.1 - s0 + n.toNatClampNeg = h.2.1 + n.toNatClampNeg - s0; omega) k2
theorem bs_anewarray {l : Launch} {mi : Nat} {Q : bm_Q} {pc : Nat} {ls st : List Value} {h : bm_H} {k : Nat} (hk : k < 1000) (hdg : decode (pm_b mi) pc = .ok (.anewarray k, 3))
    (hh : bm_i1 st fun n r => ¬ n < 0 ∧ n.toNatClampNeg ≤ 1000000 ∧ bm_opt (pm_aT.lookup (bm_key mi k)) fun ci => bm_P l mi Q (pc + 3) ls (.ref h.1 :: r) (bm_new h n.toNatClampNeg (.inr (.inl (ci, n.toNatClampNeg, fun _ => none))))) : bm_P l mi Q pc ls st h := by
  obtain ⟨n, r, rfl, hn, hn2, ht⟩ := bm_i1.inv hh
  obtain ⟨ci, hlk, hp⟩ := bm_opt.inv ht
  refine bm_P.step (Nat.le_succ _) (Nat.le_add_right _ _) hp ?_
  intro p e R s m args below meth c D E base c0 s0 Qf H locs la hx g1 g2 g3 g4 hR hF hL kk
  obtain ⟨hx1, hx2, hx3, hown, hts, hK, hnw, hstt, -⟩ := hx
  obtain ⟨q, hq, hw, hor⟩ := pm_aall _ (bm_look hlk)
  dsimp only at hw hq
  rw [bm_key_d hk, bm_key_m hk] at hw
  have hao : va_AO q.1 s := by
    rcases hor with e | e
    · rw [e]; exact hnw.2.2.1
    · rw [e]; exact hnw.2.2.2
  have ea : bm_ad E base h.1 = H.size := by rw [bm_ad_ge hR.1, hR.2.1]
  have hz : base ≤ H.size := by rw [hR.2.1]; omega
  have g3 : h.1 + 1 - c0 ≤ R.cells := g3
  have g4 : h.2.1 + n.toNatClampNeg - s0 ≤ R.slots := g4
  refine W.anew hx1 hx2 hown (hts _ hw) (va_AO.use hao) rfl hdg rfl hn (Nat.le_trans (Nat.mul_le_mul_right 4 hn2) (by decide)) (by omega) (by omega) fun cA kA comp f1 f2 f3 f4 => ?_
  generalize hH1 : H.push ({ cls := cA, slots := Array.replicate n.toNatClampNeg .null, vm := .none } : Cell) = H1
  have z1 : H1.size = H.size + 1 := by rw [← hH1, Array.size_push]
  have e1 : H1[H.size]? = some (arrV cA n.toNatClampNeg (fun _ => .null)) := by rw [← hH1, Array.getElem?_push_size, ← arrV_new]
  have o1 : ∀ q : Nat, q < H.size → H1[q]? = H[q]? := fun q hq => by rw [← hH1, Array.getElem?_push, if_neg (Nat.ne_of_lt hq)]
  have hAr : ArrOfT s cA (.object q.1) := fun N z => ⟨(fun k h => by cases h), kA, f2, comp, f3⟩
  have k2 := kk H1 locs la (hR.new z1 o1 ⟨cA, q, hq, hAr, ⟨kA, comp, f2, f3, f4, f1⟩, e1⟩) (hF.new hz (by omega) o1) hL
  have e2 : (Value.ref h.1 :: r).map (bm_tr E base) = .ref H.size :: r.map (bm_tr E base) := by
    rw [List.map_cons]; show Value.ref (bm_ad E base h.1) :: _ = _; rw [ea]
  rw [e2] at k2
  exact W.cs (by show h.1 - c0 + 1 = h.1 + 1 - c0; omega) (by show h.2.1 - s0 + n.toNatClampNeg = h.2.1 + n.toNatClampNeg - s0; omega) k2
/-- the int array at a, old or new -/
theorem bm_R.ints {D : va_G} {E : Nat → Nat} {base : Nat} {h : bm_H} {U : State} {H : Heap} (r : bm_R D E base h U H) {a n : Nat} {f : Nat → Int32} (ha : a < h.1) (hc : h.2.2 a = .inl (0, n, f)) : bm_X (bm_ad E base a) n f U H := by
  by_cases h3 : a < 3
  · have := (r.2.2.1 a h3).2
    rw [hc] at this
    rw [bm_ad_lt h3]
    exact this.2
  · have := r.2.2.2 a (by omega) ha
    rw [hc] at this
    obtain ⟨cA, hA, he⟩ := this
    rw [bm_ad_ge (by omega)]
    exact ⟨_, he, hA n _, bm_nu _ _ _, Nat.le_of_eq (arrV_size _ _ _).symm, by rw [arrV_size], fun j hj => arrV_read _ _ hj⟩
theorem bs_iaload {l : Launch} {mi : Nat} {Q : bm_Q} {pc : Nat} {ls st : List Value} {h : bm_H} (hdg : decode (pm_b mi) pc = .ok (.iaload, 1))
    (hh : bm_ri st fun a i r => a < h.1 ∧ bm_ints (h.2.2 a) fun t n f => t = 0 ∧ vp_in i n ∧ bm_P l mi Q (pc + 1) ls (.int (f i.toNatClampNeg) :: r) h) : bm_P l mi Q pc ls st h := by
  obtain ⟨a, i, r, rfl, ha, hk⟩ := bm_ri.inv hh
  obtain ⟨t, n, f, hc, rfl, hin, hp⟩ := bm_ints.inv hk
  refine bm_P.step (Nat.le_refl _) (Nat.le_refl _) hp ?_
  intro p e R s m args below meth c D E base c0 s0 Qf H locs la hx _ _ _ _ hR hF hL kk
  obtain ⟨scr, h1, h2, h3, h4, h5, h6⟩ := hR.ints ha hc
  have hlt := bm_in_lt hin
  exact W.iald (v := .int (f i.toNatClampNeg)) hx.1 hx.2.1 h1 h2 h3 (fun q => q.elim (fun z => hin (Or.inl z)) (fun z => by omega)) (h6 _ hlt) rfl rfl hdg (kk H locs la hR hF hL)
theorem bs_arraylength {l : Launch} {mi : Nat} {Q : bm_Q} {pc : Nat} {ls st : List Value} {h : bm_H} (hdg : decode (pm_b mi) pc = .ok (.arraylength, 1))
    (hh : bm_r1 st fun a r => a < h.1 ∧ bm_ints (h.2.2 a) fun t n _ => t = 0 ∧ bm_P l mi Q (pc + 1) ls (.int (Int32.ofNat n) :: r) h) : bm_P l mi Q pc ls st h := by
  obtain ⟨a, r, rfl, ha, hk⟩ := bm_r1.inv hh
  obtain ⟨t, n, f, hc, rfl, hp⟩ := bm_ints.inv hk
  refine bm_P.step (Nat.le_refl _) (Nat.le_refl _) hp ?_
  intro p e R s m args below meth c D E base c0 s0 Qf H locs la hx _ _ _ _ hR hF hL kk
  obtain ⟨scr, h1, h2, h3, h4, h5, h6⟩ := hR.ints ha hc
  exact W.alen (n := Int32.ofNat n) hx.1 hx.2.1 h1 h2 h5 rfl rfl hdg (kk H locs la hR hF hL)
theorem bs_baload {l : Launch} {mi : Nat} {Q : bm_Q} {pc : Nat} {ls st : List Value} {h : bm_H} (hdg : decode (pm_b mi) pc = .ok (.baload, 1))
    (hh : bm_ri st fun a i r => 3 ≤ a ∧ a < h.1 ∧ bm_ints (h.2.2 a) fun t n f => (t = 1 ∨ t = 2) ∧ vp_in i n ∧ bm_P l mi Q (pc + 1) ls (.int (f i.toNatClampNeg) :: r) h) : bm_P l mi Q pc ls st h := by
  obtain ⟨a, i, r, rfl, ha3, ha, hk⟩ := bm_ri.inv hh
  obtain ⟨t, n, f, hc, ht, hin, hp⟩ := bm_ints.inv hk
  refine bm_P.step (Nat.le_refl _) (Nat.le_refl _) hp ?_
  intro p e R s m args below meth c D E base c0 s0 Qf H locs la hx _ _ _ _ hR hF hL kk
  have hat := hR.2.2.2 a ha3 ha
  rw [hc] at hat
  obtain ⟨cA, hA, he⟩ := hat
  rw [List.map_cons, bm_stk1 ha3]
  rcases ht with rfl | rfl
  · exact W.bald (v := .int (f i.toNatClampNeg)) hx.1 hx.2.1 he (hA n _) (bm_nu _ _ _) (bm_in_arr hin) (arrV_read _ _ (bm_in_lt hin)) rfl rfl hdg (kk H locs la hR hF hL)
  · exact W.zald (v := .int (f i.toNatClampNeg)) hx.1 hx.2.1 he (hA n _) (bm_nu _ _ _) (bm_in_arr hin) (arrV_read _ _ (bm_in_lt hin)) rfl rfl hdg (kk H locs la hR hF hL)
theorem bs_iastore {l : Launch} {mi : Nat} {Q : bm_Q} {pc : Nat} {ls st : List Value} {h : bm_H} (hdg : decode (pm_b mi) pc = .ok (.iastore, 1))
    (hh : bm_rii st fun a i x r => 3 ≤ a ∧ a < h.1 ∧ bm_ints (h.2.2 a) fun t n f => t = 0 ∧ vp_in i n ∧ bm_P l mi Q (pc + 1) ls r (bm_set h a (.inl (0, n, upd f i.toNatClampNeg x)))) : bm_P l mi Q pc ls st h := by
  obtain ⟨a, i, x, r, rfl, ha3, ha, hk⟩ := bm_rii.inv hh
  obtain ⟨t, n, f, hc, rfl, hin, hp⟩ := bm_ints.inv hk
  refine bm_P.step (h2 := bm_set h a _) (Nat.le_refl h.1) (Nat.le_refl h.2.1) hp ?_
  intro p e R s m args below meth c D E base c0 s0 Qf H locs la hx _ _ _ _ hR hF hL kk
  have hat := hR.2.2.2 a ha3 ha
  rw [hc] at hat
  obtain ⟨cA, hA, he⟩ := hat
  rw [List.map_cons, List.map_cons, bm_stk1 ha3]
  refine W.iast hx.1 hx.2.1 he (hA n _) (bm_nu _ _ _) (bm_in_arr hin) rfl rfl hdg fun H' e1 z o => ?_
  rw [arrV_store, bm_updI] at e1
  exact kk H' _ la (hR.set ha3 z o ⟨cA, hA, e1⟩) (hF.put (Nat.le_add_right _ _) z o bm_one) hL
theorem bs_bastore {l : Launch} {mi : Nat} {Q : bm_Q} {pc : Nat} {ls st : List Value} {h : bm_H} (hdg : decode (pm_b mi) pc = .ok (.bastore, 1))
    (hh : bm_rii st fun a i x r => 3 ≤ a ∧ a < h.1 ∧ bm_ints (h.2.2 a) fun t n f => (t = 1 ∨ t = 2) ∧ vp_in i n ∧ bm_P l mi Q (pc + 1) ls r (bm_set h a (.inl (t, n, upd f i.toNatClampNeg (vp_nar (bm_ty t) x))))) : bm_P l mi Q pc ls st h := by
  obtain ⟨a, i, x, r, rfl, ha3, ha, hk⟩ := bm_rii.inv hh
  obtain ⟨t, n, f, hc, ht, hin, hp⟩ := bm_ints.inv hk
  refine bm_P.step (h2 := bm_set h a _) (Nat.le_refl h.1) (Nat.le_refl h.2.1) hp ?_
  intro p e R s m args below meth c D E base c0 s0 Qf H locs la hx _ _ _ _ hR hF hL kk
  have hat := hR.2.2.2 a ha3 ha
  rw [hc] at hat
  obtain ⟨cA, hA, he⟩ := hat
  rw [List.map_cons, List.map_cons, bm_stk1 ha3]
  rcases ht with rfl | rfl
  · refine W.bast hx.1 hx.2.1 he (hA n _) (bm_nu _ _ _) (bm_in_arr hin) rfl rfl hdg fun H' e1 z o => ?_
    have e2 : narrow .byte (.int x) = .int (vp_nar (bm_ty 1) x) := rfl
    rw [e2, arrV_store, bm_updI] at e1
    exact kk H' _ la (hR.set ha3 z o ⟨cA, hA, e1⟩) (hF.put (Nat.le_add_right _ _) z o bm_one) hL
  · refine W.zast hx.1 hx.2.1 he (hA n _) (bm_nu _ _ _) (bm_in_arr hin) rfl rfl hdg fun H' e1 z o => ?_
    have e2 : narrow .boolean (.int x) = .int (vp_nar (bm_ty 2) x) := rfl
    rw [e2, arrV_store, bm_updI] at e1
    exact kk H' _ la (hR.set ha3 z o ⟨cA, hA, e1⟩) (hF.put (Nat.le_add_right _ _) z o bm_one) hL
theorem bs_aaload {l : Launch} {mi : Nat} {Q : bm_Q} {pc : Nat} {ls st : List Value} {h : bm_H} (hdg : decode (pm_b mi) pc = .ok (.aaload, 1))
    (hh : bm_ri st fun a i r => 3 ≤ a ∧ a < h.1 ∧ bm_refs (h.2.2 a) fun _ n f => vp_in i n ∧ bm_opt (f i.toNatClampNeg) fun b => bm_P l mi Q (pc + 1) ls (.ref b :: r) h) : bm_P l mi Q pc ls st h := by
  obtain ⟨a, i, r, rfl, ha3, ha, hk⟩ := bm_ri.inv hh
  obtain ⟨ci, n, f, hc, hin, hk⟩ := bm_refs.inv hk
  obtain ⟨b, hb, hp⟩ := bm_opt.inv hk
  refine bm_P.step (Nat.le_refl _) (Nat.le_refl _) hp ?_
  intro p e R s m args below meth c D E base c0 s0 Qf H locs la hx _ _ _ _ hR hF hL kk
  have hat := hR.2.2.2 a ha3 ha
  rw [hc] at hat
  obtain ⟨cA, q, hq, hA, hRA, he⟩ := hat
  rw [List.map_cons, bm_stk1 ha3]
  exact W.aald (v := .ref (bm_ad E base b)) (ty := .object q.1) hx.1 hx.2.1 he (hA n _) rfl (bm_nu _ _ _) (bm_in_arr hin) (by rw [arrV_read _ _ (bm_in_lt hin), hb]; rfl) rfl rfl hdg (kk H locs la hR hF hL)
theorem bs_aastore {l : Launch} {mi : Nat} {Q : bm_Q} {pc : Nat} {ls st : List Value} {h : bm_H} (hdg : decode (pm_b mi) pc = .ok (.aastore, 1))
    (hh : bm_rir st fun a i v r => 3 ≤ a ∧ a < h.1 ∧ 3 ≤ v ∧ v < h.1 ∧ bm_refs (h.2.2 a) fun ci n f => vp_in i n ∧ bm_obj (h.2.2 v) fun cv _ => cv = ci ∧ bm_P l mi Q (pc + 1) ls r (bm_set h a (.inr (.inl (ci, n, va_up f i.toNatClampNeg (some v)))))) : bm_P l mi Q pc ls st h := by
  obtain ⟨a, i, v, r, rfl, ha3, ha, hv3, hv, hk⟩ := bm_rir.inv hh
  obtain ⟨ci, n, f, hc, hin, hk⟩ := bm_refs.inv hk
  obtain ⟨cv, fs, hcv, rfl, hp⟩ := bm_obj.inv hk
  refine bm_P.step (h2 := bm_set h a _) (Nat.le_refl h.1) (Nat.le_refl h.2.1) hp ?_
  intro p e R s m args below meth c D E base c0 s0 Qf H locs la hx _ _ _ _ hR hF hL kk
  have hat := hR.2.2.2 a ha3 ha
  rw [hc] at hat
  obtain ⟨cA, q, hq, hA, hRA, he⟩ := hat
  have hvt := hR.2.2.2 v hv3 hv
  rw [hcv] at hvt
  obtain ⟨q2, hq2, -, cellV, v1, v2, v3, -⟩ := hvt
  have hK := hx.2.2.2.2.2.1
  have hcls := (hK.1 _ _ hq).2
  obtain ⟨kA, comp, k1, k2, k3, k4⟩ := hRA
  have hcomp : comp = D.1 cv := Option.some.inj (k3.symm.trans hcls.1)
  subst hcomp
  obtain ⟨kC, hkC, -⟩ := hcls.2
  have e0 : (Value.ref v :: Value.int i :: Value.ref a :: r).map (bm_tr E base) = .ref (base + (v - 3)) :: .int i :: .ref (base + (a - 3)) :: r.map (bm_tr E base) := by
    rw [bm_stk1 hv3, List.map_cons, bm_stk1 ha3]; rfl
  rw [e0]
  refine W.aast hx.1 hx.2.1 he (fun q h => by cases h) (bm_nu _ _ _) k1 k2 rfl hkC ⟨fun z => hin (Or.inl z), by rw [arrV_size]; exact bm_in_lt hin⟩ v1 (fun q h => by rw [v3] at h; cases h) (by rw [v2]; exact hkC) (by rw [v2]; exact va_assign hcls) rfl rfl hdg fun H' e1 z o => ?_
  have e2 : updV (fun j => bm_rf E base (f j)) i.toNatClampNeg (.ref (base + (v - 3))) = fun j => bm_rf E base (va_up f i.toNatClampNeg (some v) j) := by
    funext j
    unfold updV va_up
    split
    · show _ = Value.ref (bm_ad E base v); rw [bm_ad_ge hv3]
    · rfl
  rw [arrV_store, e2] at e1
  exact kk H' _ la (hR.set ha3 z o ⟨cA, q, hq, hA, ⟨kA, _, k1, k2, k3, k4⟩, e1⟩) (hF.put (Nat.le_add_right _ _) z o bm_one) hL
