/-! THE CONTRACT of every method out of its plain run -/
theorem bm_sl {E : Nat → Nat} {base : Nat} : ∀ as : List Value, as.all bm_ok = true → lg_sl (as.map (bm_tr E base)) = as.map (fun v => Slot.val (bm_tr E base v))
  | [], _ => rfl
  | v :: as, h => by
    rw [List.all_cons, Bool.and_eq_true] at h
    have e := bm_sl (E := E) (base := base) as h.2
    have hc := bm_ok_cat (E := E) (base := base) h.1
    unfold lg_sl at e ⊢
    rw [List.map_cons, List.flatMap_cons, e, if_neg (by omega)]
    rfl
theorem bm_entry {E : Nat → Nat} {base L : Nat} {as : List Value} (hl : as.length ≤ L) (hok : as.all bm_ok = true) : bm_Ls E base L (bm_en L as) (lg_sl (as.map (bm_tr E base)) ++ List.replicate (L - (lg_sl (as.map (bm_tr E base))).length) Slot.unset).toArray := by
  have e := bm_sl (E := E) (base := base) as hok
  have hlen : (lg_sl (as.map (bm_tr E base))).length = as.length := by rw [e, List.length_map]
  have h0 := lv_entry (as.map (bm_tr E base)) (n := L) (by rw [hlen]; exact hl)
  refine ⟨by unfold bm_en; rw [List.length_append, List.length_replicate]; omega, h0.1, h0.2.1, fun q hq => ?_⟩
  obtain ⟨v, hv, hvok, e2⟩ := bm_lv_mem.mp hq
  rw [e2]
  unfold bm_en at hv
  by_cases hi : q.1 < as.length
  · rw [List.getElem?_append_left hi] at hv
    rw [e, List.getElem?_toArray, List.getElem?_append_left (by rw [List.length_map]; exact hi), List.getElem?_map, hv]
    rfl
  · rw [List.getElem?_append_right (by omega), List.getElem?_replicate] at hv
    split at hv
    · cases hv; cases hvok
    · cases hv
theorem bm_Pof {l : Launch} {C : bm_K} (hC : bm_OkC l C) {mi : Nat} {Q : bm_Q} {pc : Nat} {ls st : List Value} {h : bm_H} (w : bm_W C mi Q pc ls st h) : bm_P l mi Q pc ls st h :=
  w (bm_P l mi Q) (fun pc ls st h hs => by
    obtain ⟨⟨i, n⟩, hi, hn, hix, hd⟩ := bm_opt.inv hs
    exact bs_do hC (pm_dec hi) hn hix hd)
set_option maxHeartbeats 4000000 in
/-- EVERY PLAIN CALL IS A CALL OF THE MACHINE's -/
theorem bm_OkM (l : Launch) : ∀ d : Nat, bm_OkC l (bm_M d)
  | 0 => fun _ _ _ _ _ h => h.elim
  | d + 1 => by
    intro mi as h Q hmi hM
    obtain ⟨hlen, hok, hw⟩ := hM
    obtain ⟨r, h2, q1, q2, q3, q4⟩ := bm_Pof (bm_OkM l d) hw
    refine ⟨r, h2, q1, q2, q3, fun D E base => ?_⟩
    refine Met.ofW (cc := pm_b mi) (maxL := pm_L mi) (ret := pm_r mi) (ws' := lw_good) (pm_ok hmi).2.1 rfl ?_
    intro p e s m args below meth c s₁ B hml hv
    obtain ⟨rfl, hR, hK, hnw, hst⟩ := hv
    have hts := atoms_spec (ws := bm_ws mi) B.pre
    have hlocks := B.notSynchronized
    have hr := B.returns
    rw [lg_entry_eq]
    have k2 := q4 p e (bm_rm mi h h2) s m ((as.map (bm_tr E base)).toArray) below meth c D E base h.1 h.2.1 (MQ below (bm_Qc D E base r h2) ((as.map (bm_tr E base)).toArray) s (h2.1 - h.1) (h2.2.1 - h.2.1) (fun q => base ≤ q))
      ⟨B.exec, B.bytes, hml, findClass_of_methodNamed B.named, fun w hw => hts w (List.mem_cons_of_mem _ hw), hK, hnw, hst, fun e => (name_of_methodNamed B.named B.method).1.trans e, Nat.le_refl _, Nat.le_refl _⟩ (Nat.le_refl _) (Nat.le_refl _) (Nat.le_refl _) (Nat.le_refl _) (by
        intro H locs la pc hR2 hF2 hm
        have hq : ∀ t : State, t.heap = H → s.WarmedH t.vm → bm_Qc D E base r h2 ((as.map (bm_tr E base)).toArray) s (.returned (r.map (bm_tr E base))) t := fun t ht hW => ⟨rfl, by rw [ht]; exact hR2.moved hW.alike, fun q hq => by rw [ht]; exact hF2.1 q hq⟩
        match r, hm, hq with
        | none, hm, hq => exact W.vret B.exec B.bytes (hr.trans hm.1) hq hF2.2.1 hm.2
        | some (.int x), ⟨ty, h1, h2, h3⟩, hq => exact W.zret B.exec B.bytes (hr.trans h1) h2 hq hF2.2.1 h3
        | some (.ref a), ⟨h1, h2⟩, hq =>
          cases hty : pm_r mi with
          | none => rw [hty] at h1; cases h1
          | some ty =>
            rw [hty] at h1
            exact W.aret (v := bm_tr E base (.ref a)) B.exec B.bytes (hr.trans hty) (by cases ty <;> first | exact Or.inl ⟨_, rfl⟩ | exact Or.inr ⟨_, rfl⟩ | cases h1) (Or.inr ⟨_, rfl⟩) hq hF2.2.1 h2) s.heap [] _ hR bm_F.rf (bm_entry hlen hok)
    exact W.cs (Nat.sub_self _).symm (Nat.sub_self _).symm k2
