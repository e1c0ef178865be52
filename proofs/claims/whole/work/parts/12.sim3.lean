/-! CALLS -/
def bm_Pc (D : va_G) (E : Nat → Nat) (base : Nat) (as : List Value) (h : bm_H) : Array Value → State → Prop := fun v U => v = (as.map (bm_tr E base)).toArray ∧ bm_R D E base h U U.heap ∧ va_K D pm_cl [] U ∧ pm_nw U ∧ bm_st E base U
def bm_Qc (D : va_G) (E : Nat → Nat) (base : Nat) (r : Option Value) (h2 : bm_H) : Array Value → State → Outcome → State → Prop := fun _ st oc t => oc = .returned (r.map (bm_tr E base)) ∧ bm_R D E base h2 t t.heap ∧ ∀ q, q < base → t.heap[q]? = st.heap[q]?
def bm_ws (mi : Nat) : List Cond := Cond.code (pm_y mi) (pm_b mi) (pm_L mi) (pm_r mi) :: lw_good
def bm_rm (mi : Nat) (h h2 : bm_H) : Room := { frames := pm_fr mi, cells := h2.1 - h.1, slots := h2.2.1 - h.2.1, locals := pm_lo mi }
/-- THE CONTRACT of a method at these arguments, from h to r and h2 -/
def bm_Met (l : Launch) (mi : Nat) (as : List Value) (h : bm_H) (r : Option Value) (h2 : bm_H) : Prop :=
  ∀ (D : va_G) (E : Nat → Nat) (base : Nat), Met l (pm_y mi) (bm_ws mi) (bm_rm mi h h2) (bm_Pc D E base as h) (bm_Qc D E base r h2) (h2.1 - h.1) (h2.2.1 - h.2.1) (fun q => base ≤ q)
def bm_OkC (l : Launch) (C : bm_K) : Prop := ∀ (mi : Nat) (as : List Value) (h : bm_H) (Q : bm_Q), mi < 214 → C mi as h Q → ∃ (r : Option Value) (h2 : bm_H), Q r h2 ∧ h.1 ≤ h2.1 ∧ h.2.1 ≤ h2.2.1 ∧ bm_Met l mi as h r h2
theorem bm_st.moved {E : Nat → Nat} {base : Nat} {u U : State} (hvm : u.vm.Alike U.vm) (hh : u.heap = U.heap) (h : bm_st E base u) : bm_st E base U := fun k hk => by
  have := (h k hk).moved hvm
  rw [hh] at this
  exact this
theorem bm_Pc.blind (D : va_G) (E : Nat → Nat) (base : Nat) (as : List Value) (h : bm_H) : FrameBlind (bm_Pc D E base as h) := by
  intro a U g mk q
  obtain ⟨q0, q1, q2, q3, q4⟩ := q
  exact ⟨q0, bm_R.moved (u := U) (U := U.calling g mk a) (Vm.Alike.refl U.vm) q1, va_K.moved (u := U) (U := U.calling g mk a) (Vm.Alike.refl U.vm) q2, q3.same rfl, q4.moved (U := U.calling g mk a) (Vm.Alike.refl U.vm) rfl⟩
section BMC
variable {p : Program} {l : Launch} {e : Env} {R : Room} {s : State} {m : MethodId} {args : Array Value} {below : List Frame} {meth : Method} {c : Code} {H : Heap} {locs : List Loc} {cells slots : Nat} {Q : State → Prop}
theorem bm_cont {D : va_G} {E : Nat → Nat} {base pc mc ms : Nat} {la : Array Slot} {st0 rest : List Value} {r : Option Value} {h h2 : bm_H} {a : Array Value} (hR : bm_R D E base h s H) (hc : h.1 ≤ h2.1) (hr : va_Run p l e R s m args below meth c H locs cells slots mc ms (F0 m pc la st0) rest (bm_Qc D E base r h2 a) (fun q => base ≤ q)) (hF : bm_F base s.heap H locs)
    (kk : ∀ (H1 : Heap) (locs1 : List Loc), bm_R D E base h2 s H1 → bm_F base s.heap H1 locs1 → W p l e R s m args below meth c H1 locs1 (cells + mc) (slots + ms) Q (F0 m (pc + 3) la ((r.map (bm_tr E base)).toList ++ rest))) : W p l e R s m args below meth c H locs cells slots Q (F0 m pc la st0) := by
  intro T hT X
  obtain ⟨v, st₀, t, T', L, h0, X', hL, e1, e2, ⟨hv, hRt, hk⟩, st⟩ := hr T hT X
  cases hv
  have hal : s.vm.Alike t.vm := by rw [← e2]; exact X'.warmed.alike
  have hR1 : bm_R D E base h2 s T'.heap := by rw [e1]; exact hRt.moved hal.symm
  obtain ⟨t2, a1, b1⟩ := kk T'.heap (locs ++ L) hR1 ⟨fun q hq => by rw [e1, hk q hq, h0]; exact hF.1 q hq, fun q hq => (List.mem_append.mp hq).elim (hF.2.1 q) (hL q), by have := hR1.2.1; have := hR.2.1; have := hF.2.2; omega⟩ T' rfl X'
  exact ⟨t2, st t2 a1, b1⟩
end BMC
theorem bm_optmap (E : Nat → Nat) (base : Nat) (r : Option Value) : r.toList.map (bm_tr E base) = (r.map (bm_tr E base)).toList := by cases r <;> rfl
/-- the words of a call of mj -/
theorem bm_goodWs {mj : Nat} (h : mj < 214) : GoodIn lw_good (bm_ws mj) := pm_goodIn (fun w hw => by
  rcases List.mem_cons.mp hw with e | e
  · rw [e]; exact (pm_ok h).1
  · exact e)
theorem bm_cellB {D : va_G} {E : Nat → Nat} {base : Nat} {h : bm_H} {s : State} {H : Heap} (hR : bm_R D E base h s H) (hK : va_K D pm_cl [] s) {a : Nat} (ha3 : 3 ≤ a) (ha : a < h.1) {ci : Nat} {fs : List Value} (hc : h.2.2 a = .inr (.inr (ci, fs))) : ∃ cellB : Cell, H[base + (a - 3)]? = some cellB ∧ cellB.vm.isStatics = false ∧ s.vm.findClass (pm_nm ci) = some cellB.cls := by
  have hat := hR.2.2.2 a ha3 ha
  rw [hc] at hat
  obtain ⟨r, hr, -, cell, q1, q2, q3, -⟩ := hat
  exact ⟨cell, q1, by rw [q3]; rfl, by rw [q2, pm_nmcl _ _ hr]; exact (hK.1 _ _ hr).2.1⟩
theorem bm_stkN {E : Nat → Nat} {base n : Nat} (st : List Value) : st.map (bm_tr E base) = (((st.take n).reverse).map (bm_tr E base)).reverse ++ (st.drop n).map (bm_tr E base) := by
  rw [← List.map_reverse, List.reverse_reverse, ← List.map_append, List.take_append_drop]
set_option maxHeartbeats 16000000 in
theorem bs_inv {l : Launch} {C : bm_K} (hC : bm_OkC l C) {mi : Nat} {Q : bm_Q} {pc : Nat} {ls st : List Value} {h : bm_H} {how k : Nat} (hk : k < 1000) (hdg : decode (pm_b mi) pc = .ok ((match how with | 0 => .invokevirtual k | 1 => .invokestatic k | _ => .invokespecial k), 3)) (hhow : how = 0 ∨ how = 1 ∨ how = 2)
    (hh : bm_inv C mi (fun st h => bm_P l mi Q (pc + 3) ls st h) how k st h) : bm_P l mi Q pc ls st h := by
  obtain ⟨⟨qh, mj, ne⟩, hlk, e, hfit, hn, hall, hb⟩ := bm_opt.inv hh
  dsimp only at e hfit hn hall hb
  subst e
  have hok2 := pm_callall _ (bm_look hlk)
  unfold bm_fit at hfit
  rw [Bool.and_eq_true] at hfit
  have hf1 := of_decide_eq_true hfit.1
  have hf2 := of_decide_eq_true hfit.2
  have hasl : ((st.take (pm_n mj)).reverse).length = pm_n mj := by rw [List.length_reverse, List.length_take]; omega
  rcases hhow with rfl | rfl | rfl
  · -- on an object
    obtain ⟨hmj, hlnk, hinst, hsel⟩ := hok2
    dsimp only at hmj hinst hsel
    obtain ⟨a, r, hdrop, ha, ha3, hallr, ho⟩ := bm_r1.inv hb
    obtain ⟨ci, fs, hcell, rfl, hcall⟩ := bm_obj.inv ho
    obtain ⟨rv, h2, ⟨r3, h3, q1, q2, q3, q4⟩, m1, m2, hMet⟩ := hC mj _ h _ hmj hcall
    have mok := pm_ok hmj
    refine ⟨r3, h3, q1, Nat.le_trans m1 q2, Nat.le_trans m2 q3, ?_⟩
    intro p e R s m args below meth c D E base c0 s0 Qf hx g1 g2 g3 g4 hre H locs la hR hF hL
    obtain ⟨hx1, hx2, hx3, hown, hts, hK, hnw, hstt, hini, hxf, hxl⟩ := id hx
    have hpre : PreV s H (pm_nm (pm_own mj)) (base + (a - 3)) (bm_Pc D E base (.ref a :: (st.take (pm_n mj)).reverse) h) (((st.take (pm_n mj)).reverse).map (bm_tr E base)) :=
      ⟨bm_Pc.blind _ _ _ _ _, bm_cellB hR hK ha3 ha hcell, fun U hU hW => ⟨by rw [bm_stk1 ha3], by rw [hU]; exact hR.moved hW.alike, va_K.moved hW.alike hK, hnw.warm hW, fun x hx => by
        have z := ((hstt x hx).kept (H1 := H) (fun q _ hb => hF.1 q (by omega))).moved hW.alike
        rw [hU]; exact z⟩⟩
    have hstk : st.map (bm_tr E base) = (((st.take (pm_n mj)).reverse).map (bm_tr E base)).reverse ++ .ref (base + (a - 3)) :: r.map (bm_tr E base) := by
      rw [bm_stkN (n := pm_n mj) st, hdrop, bm_stk1 ha3]
    have hsum := bm_all_sum E base hallr
    have hrun : va_Run p l e R s m args below meth c H locs (h.1 - c0) (h.2.1 - s0) (h2.1 - h.1) (h2.2.1 - h.2.1) (F0 m pc la (st.map (bm_tr E base))) (r.map (bm_tr E base)) (bm_Qc D E base rv h2 (Value.ref (base + (a - 3)) :: ((st.take (pm_n mj)).reverse).map (bm_tr E base)).toArray) (fun q => base ≤ q) := by
      rcases hlnk with ⟨-, hw⟩ | ⟨-, hw⟩
      · dsimp only at hw
        rw [bm_key_d hk, bm_key_m hk] at hw
        exact va_runV ⟨hx1, hx2, hx3, hown, hts⟩ (hMet D E base) (n := pm_n mj) ⟨callB_of (pm_n mj) hts (bm_goodWs hmj) rfl rfl rfl (hts _ mok.2.2.1) (hts _ hw) ⟨mok.2.2.2.1.1, mok.2.2.2.1.2, mok.2.2.2.2.1⟩ ⟨by show pm_fr mj + 1 ≤ _; omega, by show 8 + (pm_L mj + 11) + pm_lo mj ≤ _; omega⟩, hts _ hinst, hts _ hsel⟩ hpre rfl (by rw [List.length_map]; exact hasl) hL.2.1 hstk (lv_room hsum) hdg ⟨by omega, by omega⟩
      · dsimp only at hw
        rw [bm_key_d hk, bm_key_m hk] at hw
        exact va_runVN ⟨hx1, hx2, hx3, hown, hts⟩ (hMet D E base) (n := pm_n mj) ⟨va_cnB (pm_n mj) hts (bm_goodWs hmj) rfl rfl rfl (hnw.2.1 _ hw) (hts _ mok.2.2.1) ⟨mok.2.2.2.1.1, mok.2.2.2.1.2, mok.2.2.2.2.1⟩ ⟨by show pm_fr mj + 1 ≤ _; omega, by show 8 + (pm_L mj + 11) + pm_lo mj ≤ _; omega⟩, hts _ hinst, hts _ hsel⟩ hpre rfl (by rw [List.length_map]; exact hasl) hL.2.1 hstk (lv_room hsum) hdg ⟨by omega, by omega⟩
    refine bm_cont hR m1 hrun hF fun H1 locs1 hR1 hF1 => ?_
    have k2 := q4 p e R s m args below meth c D E base c0 s0 Qf hx (by omega) (by omega) g3 g4 hre H1 locs1 la hR1 hF1 hL
    rw [List.map_append, bm_optmap] at k2
    exact W.cs (by omega) (by omega) k2
  · -- static
    obtain ⟨hmj, hlnk, hstat⟩ := hok2
    dsimp only at hmj hstat
    obtain ⟨rv, h2, ⟨r3, h3, q1, q2, q3, q4⟩, m1, m2, hMet⟩ := hC mj _ h _ hmj hb
    have mok := pm_ok hmj
    refine ⟨r3, h3, q1, Nat.le_trans m1 q2, Nat.le_trans m2 q3, ?_⟩
    intro p e R s m args below meth c D E base c0 s0 Qf hx g1 g2 g3 g4 hre H locs la hR hF hL
    obtain ⟨hx1, hx2, hx3, hown, hts, hK, hnw, hstt, hini, hxf, hxl⟩ := id hx
    have hpre : PreS s H (bm_Pc D E base ((st.take (pm_n mj)).reverse) h) (((st.take (pm_n mj)).reverse).map (bm_tr E base)) :=
      ⟨bm_Pc.blind _ _ _ _ _, fun U hU hW => ⟨rfl, by rw [hU]; exact hR.moved hW.alike, va_K.moved hW.alike hK, hnw.warm hW, fun x hx => by
        have z := ((hstt x hx).kept (H1 := H) (fun q _ hb => hF.1 q (by omega))).moved hW.alike
        rw [hU]; exact z⟩⟩
    have hsum := bm_all_sum E base hall
    have hrun : va_Run p l e R s m args below meth c H locs (h.1 - c0) (h.2.1 - s0) (h2.1 - h.1) (h2.2.1 - h.2.1) (F0 m pc la (st.map (bm_tr E base))) ((st.drop (pm_n mj)).map (bm_tr E base)) (bm_Qc D E base rv h2 (((st.take (pm_n mj)).reverse).map (bm_tr E base)).toArray) (fun q => base ≤ q) := by
      rcases hlnk with ⟨-, hw⟩ | ⟨-, hw⟩
      · dsimp only at hw
        rw [bm_key_d hk, bm_key_m hk] at hw
        exact va_runS ⟨hx1, hx2, hx3, hown, hts⟩ (hMet D E base) (n := pm_n mj) ⟨callB_of (pm_n mj) hts (bm_goodWs hmj) rfl rfl rfl (hts _ mok.2.2.1) (hts _ hw) ⟨mok.2.2.2.1.1, mok.2.2.2.1.2, mok.2.2.2.2.1⟩ ⟨by show pm_fr mj + 1 ≤ _; omega, by show 8 + (pm_L mj + 11) + pm_lo mj ≤ _; omega⟩, hts _ hstat⟩ hpre rfl (by rw [List.length_map]; exact hasl) hL.2.1 (bm_stkN (n := pm_n mj) st) (lv_room hsum) hdg ⟨by omega, by omega⟩
      · dsimp only at hw
        rw [bm_key_d hk, bm_key_m hk] at hw
        exact va_runSN ⟨hx1, hx2, hx3, hown, hts⟩ (hMet D E base) (n := pm_n mj) ⟨va_cnB (pm_n mj) hts (bm_goodWs hmj) rfl rfl rfl (hnw.2.1 _ hw) (hts _ mok.2.2.1) ⟨mok.2.2.2.1.1, mok.2.2.2.1.2, mok.2.2.2.2.1⟩ ⟨by show pm_fr mj + 1 ≤ _; omega, by show 8 + (pm_L mj + 11) + pm_lo mj ≤ _; omega⟩, hts _ hstat, trivial⟩ hpre rfl (by rw [List.length_map]; exact hasl) hL.2.1 (bm_stkN (n := pm_n mj) st) (lv_room hsum) hdg ⟨by omega, by omega⟩
    refine bm_cont hR m1 hrun hF fun H1 locs1 hR1 hF1 => ?_
    have k2 := q4 p e R s m args below meth c D E base c0 s0 Qf hx (by omega) (by omega) g3 g4 hre H1 locs1 la hR1 hF1 hL
    rw [List.map_append, bm_optmap] at k2
    exact W.cs (by omega) (by omega) k2
  · -- a constructor
    obtain ⟨hmj, hlnk, hinst, hnm, hret⟩ := hok2
    dsimp only at hmj hinst hnm hret
    obtain ⟨a, r, hdrop, ha, ha3, hallr, ho⟩ := bm_r1.inv hb
    obtain ⟨ci, fs, hcell, rfl, hcall⟩ := bm_obj.inv ho
    obtain ⟨rv, h2, ⟨r3, h3, q1, q2, q3, q4⟩, m1, m2, hMet⟩ := hC mj _ h _ hmj hcall
    have mok := pm_ok hmj
    refine ⟨r3, h3, q1, Nat.le_trans m1 q2, Nat.le_trans m2 q3, ?_⟩
    intro p e R s m args below meth c D E base c0 s0 Qf hx g1 g2 g3 g4 hre H locs la hR hF hL
    obtain ⟨hx1, hx2, hx3, hown, hts, hK, hnw, hstt, hini, hxf, hxl⟩ := id hx
    have hpre : PreS s H (bm_Pc D E base (.ref a :: (st.take (pm_n mj)).reverse) h) (.ref (base + (a - 3)) :: ((st.take (pm_n mj)).reverse).map (bm_tr E base)) :=
      ⟨bm_Pc.blind _ _ _ _ _, fun U hU hW => ⟨by rw [bm_stk1 ha3], by rw [hU]; exact hR.moved hW.alike, va_K.moved hW.alike hK, hnw.warm hW, fun x hx => by
        have z := ((hstt x hx).kept (H1 := H) (fun q _ hb => hF.1 q (by omega))).moved hW.alike
        rw [hU]; exact z⟩⟩
    have hstk : st.map (bm_tr E base) = (((st.take (pm_n mj)).reverse).map (bm_tr E base)).reverse ++ .ref (base + (a - 3)) :: r.map (bm_tr E base) := by
      rw [bm_stkN (n := pm_n mj) st, hdrop, bm_stk1 ha3]
    have hsum := bm_all_sum E base hallr
    have hwse : bm_ws mj = Cond.code (pm_y mj) (pm_b mj) (pm_L mj) none :: lw_good := by unfold bm_ws; rw [hret]
    have hrun : va_Run p l e R s m args below meth c H locs (h.1 - c0) (h.2.1 - s0) (h2.1 - h.1) (h2.2.1 - h.2.1) (F0 m pc la (st.map (bm_tr E base))) (r.map (bm_tr E base)) (bm_Qc D E base rv h2 (Value.ref (base + (a - 3)) :: ((st.take (pm_n mj)).reverse).map (bm_tr E base)).toArray) (fun q => base ≤ q) := by
      rcases hlnk with ⟨-, hw⟩ | ⟨-, hw⟩
      · dsimp only at hw
        rw [bm_key_d hk, bm_key_m hk] at hw
        exact va_runI ⟨hx1, hx2, hx3, hown, hts⟩ (hMet D E base) (n := pm_n mj) ⟨callB_of (pm_n mj) hts (bm_goodWs hmj) hwse rfl rfl (hts _ mok.2.2.1) (hts _ hw) ⟨mok.2.2.2.1.1, mok.2.2.2.1.2, mok.2.2.2.2.1⟩ ⟨by show pm_fr mj + 1 ≤ _; omega, by show 8 + (pm_L mj + 11) + pm_lo mj ≤ _; omega⟩, hnm, hts _ hinst⟩ hpre rfl (by rw [List.length_map]; exact hasl) hL.2.1 hstk (lv_room hsum) hdg ⟨by omega, by omega⟩
      · dsimp only at hw
        rw [bm_key_d hk, bm_key_m hk] at hw
        exact va_runIN ⟨hx1, hx2, hx3, hown, hts⟩ (hMet D E base) (n := pm_n mj) ⟨va_cnB (pm_n mj) hts (bm_goodWs hmj) hwse rfl rfl (hnw.2.1 _ hw) (hts _ mok.2.2.1) ⟨mok.2.2.2.1.1, mok.2.2.2.1.2, mok.2.2.2.2.1⟩ ⟨by show pm_fr mj + 1 ≤ _; omega, by show 8 + (pm_L mj + 11) + pm_lo mj ≤ _; omega⟩, hnm, hts _ hinst⟩ hpre rfl (by rw [List.length_map]; exact hasl) hL.2.1 hstk (lv_room hsum) hdg ⟨by omega, by omega⟩
    refine bm_cont hR m1 hrun hF fun H1 locs1 hR1 hF1 => ?_
    have k2 := q4 p e R s m args below meth c D E base c0 s0 Qf hx (by omega) (by omega) g3 g4 hre H1 locs1 la hR1 hF1 hL
    rw [List.map_append, bm_optmap] at k2
    exact W.cs (by omega) (by omega) k2
