/-! ONE INSTRUCTION of the plain machine is one of the machine: no call, no heap -/
theorem bm_key_d {mi k : Nat} (h : k < 1000) : bm_key mi k / 1000 = pm_own mi := by unfold bm_key; omega
theorem bm_key_m {mi k : Nat} (h : k < 1000) : bm_key mi k % 1000 = k := by unfold bm_key; omega
theorem bs_iconst {l : Launch} {mi : Nat} {Q : bm_Q} {pc : Nat} {ls st : List Value} {h : bm_H} {n : Int} (hdg : decode (pm_b mi) pc = .ok (.iconst n, 1)) (hh : bm_P l mi Q (pc + 1) ls (.int (Int32.ofInt n) :: st) h) : bm_P l mi Q pc ls st h := by
  refine bm_P.step (Nat.le_refl _) (Nat.le_refl _) hh ?_
  intro p e R s m args below meth c D E base c0 s0 Qf H locs la hx _ _ _ _ hR hF hL kk
  exact lv_iconst hx.1 hx.2.1 hdg rfl (kk H locs la hR hF hL)
theorem bs_bipush {l : Launch} {mi : Nat} {Q : bm_Q} {pc : Nat} {ls st : List Value} {h : bm_H} {n : Int} (hdg : decode (pm_b mi) pc = .ok (.bipush n, 2)) (hh : bm_P l mi Q (pc + 2) ls (.int (Int8.ofInt n).toInt32 :: st) h) : bm_P l mi Q pc ls st h := by
  refine bm_P.step (Nat.le_refl _) (Nat.le_refl _) hh ?_
  intro p e R s m args below meth c D E base c0 s0 Qf H locs la hx _ _ _ _ hR hF hL kk
  exact lv_bipush hx.1 hx.2.1 hdg rfl (kk H locs la hR hF hL)
theorem bs_sipush {l : Launch} {mi : Nat} {Q : bm_Q} {pc : Nat} {ls st : List Value} {h : bm_H} {n : Int} (hdg : decode (pm_b mi) pc = .ok (.sipush n, 3)) (hh : bm_P l mi Q (pc + 3) ls (.int (Int16.ofInt n).toInt32 :: st) h) : bm_P l mi Q pc ls st h := by
  refine bm_P.step (Nat.le_refl _) (Nat.le_refl _) hh ?_
  intro p e R s m args below meth c D E base c0 s0 Qf H locs la hx _ _ _ _ hR hF hL kk
  exact lv_sipush hx.1 hx.2.1 hdg rfl (kk H locs la hR hF hL)
theorem bs_ldc {l : Launch} {mi : Nat} {Q : bm_Q} {pc : Nat} {ls st : List Value} {h : bm_H} {k : Nat} (hk : k < 1000) (hdg : decode (pm_b mi) pc = .ok (.ldc k, 2)) (hh : bm_opt (pm_kT.lookup (bm_key mi k)) fun v => bm_P l mi Q (pc + 2) ls (.int v :: st) h) : bm_P l mi Q pc ls st h := by
  obtain ⟨v, hv, hp⟩ := bm_opt.inv hh
  have hw := pm_kcall _ (bm_look hv)
  have hw : Cond.constant (pm_nm (bm_key mi k / 1000)) (bm_key mi k % 1000) v ∈ lw_good := hw
  rw [bm_key_d hk, bm_key_m hk] at hw
  refine bm_P.step (Nat.le_refl _) (Nat.le_refl _) hp ?_
  intro p e R s m args below meth c D E base c0 s0 Qf H locs la hx _ _ _ _ hR hF hL kk
  exact lv_ldc hx.1 hx.2.1 hx.2.2.2.1 (hx.2.2.2.2.1 _ hw) hdg (kk H locs la hR hF hL)
theorem bs_ldc_w {l : Launch} {mi : Nat} {Q : bm_Q} {pc : Nat} {ls st : List Value} {h : bm_H} {k : Nat} (hk : k < 1000) (hdg : decode (pm_b mi) pc = .ok (.ldc_w k, 3)) (hh : bm_opt (pm_kT.lookup (bm_key mi k)) fun v => bm_P l mi Q (pc + 3) ls (.int v :: st) h) : bm_P l mi Q pc ls st h := by
  obtain ⟨v, hv, hp⟩ := bm_opt.inv hh
  have hw := pm_kcall _ (bm_look hv)
  have hw : Cond.constant (pm_nm (bm_key mi k / 1000)) (bm_key mi k % 1000) v ∈ lw_good := hw
  rw [bm_key_d hk, bm_key_m hk] at hw
  refine bm_P.step (Nat.le_refl _) (Nat.le_refl _) hp ?_
  intro p e R s m args below meth c D E base c0 s0 Qf H locs la hx _ _ _ _ hR hF hL kk
  exact lv_ldcw hx.1 hx.2.1 hx.2.2.2.1 (hx.2.2.2.2.1 _ hw) hdg (kk H locs la hR hF hL)
theorem bs_iload_n {l : Launch} {mi : Nat} {Q : bm_Q} {pc : Nat} {ls st : List Value} {h : bm_H} {k : Fin 4} (hdg : decode (pm_b mi) pc = .ok (.iload_n k, 1)) (hh : bm_lI ls k fun x => bm_P l mi Q (pc + 1) ls (.int x :: st) h) : bm_P l mi Q pc ls st h := by
  obtain ⟨x, hv, hp⟩ := bm_lI.inv hh
  refine bm_P.step (Nat.le_refl _) (Nat.le_refl _) hp ?_
  intro p e R s m args below meth c D E base c0 s0 Qf H locs la hx _ _ _ _ hR hF hL kk
  exact lv_iload_n hx.1 hx.2.1 hdg rfl (hL.get hv rfl) (kk H locs la hR hF hL)
theorem bs_iload {l : Launch} {mi : Nat} {Q : bm_Q} {pc : Nat} {ls st : List Value} {h : bm_H} {k : Nat} (hdg : decode (pm_b mi) pc = .ok (.iload k, 2)) (hh : bm_lI ls k fun x => bm_P l mi Q (pc + 2) ls (.int x :: st) h) : bm_P l mi Q pc ls st h := by
  obtain ⟨x, hv, hp⟩ := bm_lI.inv hh
  refine bm_P.step (Nat.le_refl _) (Nat.le_refl _) hp ?_
  intro p e R s m args below meth c D E base c0 s0 Qf H locs la hx _ _ _ _ hR hF hL kk
  exact lv_iload hx.1 hx.2.1 hdg (hL.get hv rfl) (kk H locs la hR hF hL)
theorem bs_aload_n {l : Launch} {mi : Nat} {Q : bm_Q} {pc : Nat} {ls st : List Value} {h : bm_H} {k : Fin 4} (hdg : decode (pm_b mi) pc = .ok (.aload_n k, 1)) (hh : bm_lR ls k fun x => bm_P l mi Q (pc + 1) ls (.ref x :: st) h) : bm_P l mi Q pc ls st h := by
  obtain ⟨x, hv, hp⟩ := bm_lR.inv hh
  refine bm_P.step (Nat.le_refl _) (Nat.le_refl _) hp ?_
  intro p e R s m args below meth c D E base c0 s0 Qf H locs la hx _ _ _ _ hR hF hL kk
  exact lv_aload_n hx.1 hx.2.1 hdg rfl (hL.get hv rfl) (kk H locs la hR hF hL)
theorem bs_aload {l : Launch} {mi : Nat} {Q : bm_Q} {pc : Nat} {ls st : List Value} {h : bm_H} {k : Nat} (hdg : decode (pm_b mi) pc = .ok (.aload k, 2)) (hh : bm_lR ls k fun x => bm_P l mi Q (pc + 2) ls (.ref x :: st) h) : bm_P l mi Q pc ls st h := by
  obtain ⟨x, hv, hp⟩ := bm_lR.inv hh
  refine bm_P.step (Nat.le_refl _) (Nat.le_refl _) hp ?_
  intro p e R s m args below meth c D E base c0 s0 Qf H locs la hx _ _ _ _ hR hF hL kk
  exact lv_aload hx.1 hx.2.1 hdg (hL.get hv rfl) (kk H locs la hR hF hL)
theorem bs_istore_n {l : Launch} {mi : Nat} {Q : bm_Q} {pc : Nat} {ls st : List Value} {h : bm_H} {k : Fin 4} (hdg : decode (pm_b mi) pc = .ok (.istore_n k, 1)) (hh : bm_i1 st fun x r => (k : Nat) < ls.length ∧ bm_P l mi Q (pc + 1) (ls.set k (.int x)) r h) : bm_P l mi Q pc ls st h := by
  obtain ⟨x, r, rfl, hk, hp⟩ := bm_i1.inv hh
  refine bm_P.step (Nat.le_refl _) (Nat.le_refl _) hp ?_
  intro p e R s m args below meth c D E base c0 s0 Qf H locs la hx _ _ _ _ hR hF hL kk
  exact lv_istore_n hx.1 hx.2.1 hdg rfl hL.2 (by rw [← hL.1]; exact hk) rfl (fun lb hb => kk H locs lb hR hF (hL.put (v := .int x) rfl hb))
theorem bs_istore {l : Launch} {mi : Nat} {Q : bm_Q} {pc : Nat} {ls st : List Value} {h : bm_H} {k : Nat} (hdg : decode (pm_b mi) pc = .ok (.istore k, 2)) (hh : bm_i1 st fun x r => (k : Nat) < ls.length ∧ bm_P l mi Q (pc + 2) (ls.set k (.int x)) r h) : bm_P l mi Q pc ls st h := by
  obtain ⟨x, r, rfl, hk, hp⟩ := bm_i1.inv hh
  refine bm_P.step (Nat.le_refl _) (Nat.le_refl _) hp ?_
  intro p e R s m args below meth c D E base c0 s0 Qf H locs la hx _ _ _ _ hR hF hL kk
  exact lv_istore hx.1 hx.2.1 hdg hL.2 (by rw [← hL.1]; exact hk) rfl (fun lb hb => kk H locs lb hR hF (hL.put (v := .int x) rfl hb))
theorem bs_astore_n {l : Launch} {mi : Nat} {Q : bm_Q} {pc : Nat} {ls st : List Value} {h : bm_H} {k : Fin 4} (hdg : decode (pm_b mi) pc = .ok (.astore_n k, 1)) (hh : bm_r1 st fun x r => (k : Nat) < ls.length ∧ bm_P l mi Q (pc + 1) (ls.set k (.ref x)) r h) : bm_P l mi Q pc ls st h := by
  obtain ⟨x, r, rfl, hk, hp⟩ := bm_r1.inv hh
  refine bm_P.step (Nat.le_refl _) (Nat.le_refl _) hp ?_
  intro p e R s m args below meth c D E base c0 s0 Qf H locs la hx _ _ _ _ hR hF hL kk
  exact lv_astore_n hx.1 hx.2.1 hdg rfl hL.2 (by rw [← hL.1]; exact hk) rfl (fun lb hb => kk H locs lb hR hF (hL.put (v := .ref x) rfl hb))
theorem bs_astore {l : Launch} {mi : Nat} {Q : bm_Q} {pc : Nat} {ls st : List Value} {h : bm_H} {k : Nat} (hdg : decode (pm_b mi) pc = .ok (.astore k, 2)) (hh : bm_r1 st fun x r => (k : Nat) < ls.length ∧ bm_P l mi Q (pc + 2) (ls.set k (.ref x)) r h) : bm_P l mi Q pc ls st h := by
  obtain ⟨x, r, rfl, hk, hp⟩ := bm_r1.inv hh
  refine bm_P.step (Nat.le_refl _) (Nat.le_refl _) hp ?_
  intro p e R s m args below meth c D E base c0 s0 Qf H locs la hx _ _ _ _ hR hF hL kk
  exact lv_astore hx.1 hx.2.1 hdg hL.2 (by rw [← hL.1]; exact hk) rfl (fun lb hb => kk H locs lb hR hF (hL.put (v := .ref x) rfl hb))
theorem bs_iinc {l : Launch} {mi : Nat} {Q : bm_Q} {pc : Nat} {ls st : List Value} {h : bm_H} {k : Nat} {n : Int} (hdg : decode (pm_b mi) pc = .ok (.iinc k n, 3)) (hh : bm_lI ls k fun x => bm_P l mi Q (pc + 3) (ls.set k (.int (x + Int32.ofInt n))) st h) : bm_P l mi Q pc ls st h := by
  obtain ⟨x, hv, hp⟩ := bm_lI.inv hh
  refine bm_P.step (Nat.le_refl _) (Nat.le_refl _) hp ?_
  intro p e R s m args below meth c D E base c0 s0 Qf H locs la hx _ _ _ _ hR hF hL kk
  have hk : k < ls.length := (List.getElem?_eq_some_iff.mp hv).1
  obtain ⟨j, hj⟩ := List.getElem?_of_mem (bm_lv_mem.mpr ⟨_, hv, rfl, rfl⟩ : (k, bm_tr E base (.int x)) ∈ bm_lv E base ls)
  exact lv_iinc hx.1 hx.2.1 hdg hL.2 hj rfl (by rw [← hL.1]; exact hk) rfl (fun lb hb => kk H locs lb hR hF (hL.put (v := .int (x + Int32.ofInt n)) rfl hb))
theorem bs_iadd {l : Launch} {mi : Nat} {Q : bm_Q} {pc : Nat} {ls st : List Value} {h : bm_H} (hdg : decode (pm_b mi) pc = .ok (.iadd, 1)) (hh : bm_i2 st fun x y r => bm_P l mi Q (pc + 1) ls (.int (x + y) :: r) h) : bm_P l mi Q pc ls st h := by
  obtain ⟨x, y, r, rfl, hp⟩ := bm_i2.inv hh
  refine bm_P.step (Nat.le_refl _) (Nat.le_refl _) hp ?_
  intro p e R s m args below meth c D E base c0 s0 Qf H locs la hx _ _ _ _ hR hF hL kk
  exact lv_iadd hx.1 hx.2.1 hdg (kk H locs la hR hF hL)
theorem bs_isub {l : Launch} {mi : Nat} {Q : bm_Q} {pc : Nat} {ls st : List Value} {h : bm_H} (hdg : decode (pm_b mi) pc = .ok (.isub, 1)) (hh : bm_i2 st fun x y r => bm_P l mi Q (pc + 1) ls (.int (x - y) :: r) h) : bm_P l mi Q pc ls st h := by
  obtain ⟨x, y, r, rfl, hp⟩ := bm_i2.inv hh
  refine bm_P.step (Nat.le_refl _) (Nat.le_refl _) hp ?_
  intro p e R s m args below meth c D E base c0 s0 Qf H locs la hx _ _ _ _ hR hF hL kk
  exact lv_isub hx.1 hx.2.1 hdg (kk H locs la hR hF hL)
theorem bs_imul {l : Launch} {mi : Nat} {Q : bm_Q} {pc : Nat} {ls st : List Value} {h : bm_H} (hdg : decode (pm_b mi) pc = .ok (.imul, 1)) (hh : bm_i2 st fun x y r => bm_P l mi Q (pc + 1) ls (.int (x * y) :: r) h) : bm_P l mi Q pc ls st h := by
  obtain ⟨x, y, r, rfl, hp⟩ := bm_i2.inv hh
  refine bm_P.step (Nat.le_refl _) (Nat.le_refl _) hp ?_
  intro p e R s m args below meth c D E base c0 s0 Qf H locs la hx _ _ _ _ hR hF hL kk
  exact lv_imul hx.1 hx.2.1 hdg (kk H locs la hR hF hL)
theorem bs_iand {l : Launch} {mi : Nat} {Q : bm_Q} {pc : Nat} {ls st : List Value} {h : bm_H} (hdg : decode (pm_b mi) pc = .ok (.iand, 1)) (hh : bm_i2 st fun x y r => bm_P l mi Q (pc + 1) ls (.int (x &&& y) :: r) h) : bm_P l mi Q pc ls st h := by
  obtain ⟨x, y, r, rfl, hp⟩ := bm_i2.inv hh
  refine bm_P.step (Nat.le_refl _) (Nat.le_refl _) hp ?_
  intro p e R s m args below meth c D E base c0 s0 Qf H locs la hx _ _ _ _ hR hF hL kk
  exact lv_iand hx.1 hx.2.1 hdg (kk H locs la hR hF hL)
theorem bs_ior {l : Launch} {mi : Nat} {Q : bm_Q} {pc : Nat} {ls st : List Value} {h : bm_H} (hdg : decode (pm_b mi) pc = .ok (.ior, 1)) (hh : bm_i2 st fun x y r => bm_P l mi Q (pc + 1) ls (.int (x ||| y) :: r) h) : bm_P l mi Q pc ls st h := by
  obtain ⟨x, y, r, rfl, hp⟩ := bm_i2.inv hh
  refine bm_P.step (Nat.le_refl _) (Nat.le_refl _) hp ?_
  intro p e R s m args below meth c D E base c0 s0 Qf H locs la hx _ _ _ _ hR hF hL kk
  exact lv_ior hx.1 hx.2.1 hdg (kk H locs la hR hF hL)
theorem bs_ixor {l : Launch} {mi : Nat} {Q : bm_Q} {pc : Nat} {ls st : List Value} {h : bm_H} (hdg : decode (pm_b mi) pc = .ok (.ixor, 1)) (hh : bm_i2 st fun x y r => bm_P l mi Q (pc + 1) ls (.int (x ^^^ y) :: r) h) : bm_P l mi Q pc ls st h := by
  obtain ⟨x, y, r, rfl, hp⟩ := bm_i2.inv hh
  refine bm_P.step (Nat.le_refl _) (Nat.le_refl _) hp ?_
  intro p e R s m args below meth c D E base c0 s0 Qf H locs la hx _ _ _ _ hR hF hL kk
  exact lv_ixor hx.1 hx.2.1 hdg (kk H locs la hR hF hL)
theorem bs_ishl {l : Launch} {mi : Nat} {Q : bm_Q} {pc : Nat} {ls st : List Value} {h : bm_H} (hdg : decode (pm_b mi) pc = .ok (.ishl, 1)) (hh : bm_i2 st fun x y r => bm_P l mi Q (pc + 1) ls (.int (x <<< (y &&& 31)) :: r) h) : bm_P l mi Q pc ls st h := by
  obtain ⟨x, y, r, rfl, hp⟩ := bm_i2.inv hh
  refine bm_P.step (Nat.le_refl _) (Nat.le_refl _) hp ?_
  intro p e R s m args below meth c D E base c0 s0 Qf H locs la hx _ _ _ _ hR hF hL kk
  exact lv_ishl hx.1 hx.2.1 hdg (kk H locs la hR hF hL)
theorem bs_ishr {l : Launch} {mi : Nat} {Q : bm_Q} {pc : Nat} {ls st : List Value} {h : bm_H} (hdg : decode (pm_b mi) pc = .ok (.ishr, 1)) (hh : bm_i2 st fun x y r => bm_P l mi Q (pc + 1) ls (.int (x >>> (y &&& 31)) :: r) h) : bm_P l mi Q pc ls st h := by
  obtain ⟨x, y, r, rfl, hp⟩ := bm_i2.inv hh
  refine bm_P.step (Nat.le_refl _) (Nat.le_refl _) hp ?_
  intro p e R s m args below meth c D E base c0 s0 Qf H locs la hx _ _ _ _ hR hF hL kk
  exact lv_ishr hx.1 hx.2.1 hdg (kk H locs la hR hF hL)
theorem bs_iushr {l : Launch} {mi : Nat} {Q : bm_Q} {pc : Nat} {ls st : List Value} {h : bm_H} (hdg : decode (pm_b mi) pc = .ok (.iushr, 1)) (hh : bm_i2 st fun x y r => bm_P l mi Q (pc + 1) ls (.int (x.toUInt32 >>> (y.toUInt32 &&& Int32.toUInt32 31)).toInt32 :: r) h) : bm_P l mi Q pc ls st h := by
  obtain ⟨x, y, r, rfl, hp⟩ := bm_i2.inv hh
  refine bm_P.step (Nat.le_refl _) (Nat.le_refl _) hp ?_
  intro p e R s m args below meth c D E base c0 s0 Qf H locs la hx _ _ _ _ hR hF hL kk
  exact lv_iushr hx.1 hx.2.1 hdg rfl (kk H locs la hR hF hL)
theorem bs_idiv {l : Launch} {mi : Nat} {Q : bm_Q} {pc : Nat} {ls st : List Value} {h : bm_H} (hdg : decode (pm_b mi) pc = .ok (.idiv, 1)) (hh : bm_i2 st fun x y r => ¬ y = 0 ∧ bm_P l mi Q (pc + 1) ls (.int (x / y) :: r) h) : bm_P l mi Q pc ls st h := by
  obtain ⟨x, y, r, rfl, hy, hp⟩ := bm_i2.inv hh
  refine bm_P.step (Nat.le_refl _) (Nat.le_refl _) hp ?_
  intro p e R s m args below meth c D E base c0 s0 Qf H locs la hx _ _ _ _ hR hF hL kk
  exact lv_idiv hx.1 hx.2.1 hdg hy (kk H locs la hR hF hL)
theorem bs_irem {l : Launch} {mi : Nat} {Q : bm_Q} {pc : Nat} {ls st : List Value} {h : bm_H} (hdg : decode (pm_b mi) pc = .ok (.irem, 1)) (hh : bm_i2 st fun x y r => ¬ y = 0 ∧ bm_P l mi Q (pc + 1) ls (.int (x - x / y * y) :: r) h) : bm_P l mi Q pc ls st h := by
  obtain ⟨x, y, r, rfl, hy, hp⟩ := bm_i2.inv hh
  refine bm_P.step (Nat.le_refl _) (Nat.le_refl _) hp ?_
  intro p e R s m args below meth c D E base c0 s0 Qf H locs la hx _ _ _ _ hR hF hL kk
  exact lv_irem hx.1 hx.2.1 hdg hy (kk H locs la hR hF hL)
theorem bs_ineg {l : Launch} {mi : Nat} {Q : bm_Q} {pc : Nat} {ls st : List Value} {h : bm_H} (hdg : decode (pm_b mi) pc = .ok (.ineg, 1)) (hh : bm_i1 st fun x r => bm_P l mi Q (pc + 1) ls (.int (-x) :: r) h) : bm_P l mi Q pc ls st h := by
  obtain ⟨x, r, rfl, hp⟩ := bm_i1.inv hh
  refine bm_P.step (Nat.le_refl _) (Nat.le_refl _) hp ?_
  intro p e R s m args below meth c D E base c0 s0 Qf H locs la hx _ _ _ _ hR hF hL kk
  exact lv_ineg hx.1 hx.2.1 hdg (kk H locs la hR hF hL)
theorem bs_i2b {l : Launch} {mi : Nat} {Q : bm_Q} {pc : Nat} {ls st : List Value} {h : bm_H} (hdg : decode (pm_b mi) pc = .ok (.i2b, 1)) (hh : bm_i1 st fun x r => bm_P l mi Q (pc + 1) ls (.int x.toInt8.toInt32 :: r) h) : bm_P l mi Q pc ls st h := by
  obtain ⟨x, r, rfl, hp⟩ := bm_i1.inv hh
  refine bm_P.step (Nat.le_refl _) (Nat.le_refl _) hp ?_
  intro p e R s m args below meth c D E base c0 s0 Qf H locs la hx _ _ _ _ hR hF hL kk
  exact lv_i2b hx.1 hx.2.1 hdg rfl (kk H locs la hR hF hL)
theorem bs_dup {l : Launch} {mi : Nat} {Q : bm_Q} {pc : Nat} {ls st : List Value} {h : bm_H} (hdg : decode (pm_b mi) pc = .ok (.dup, 1)) (hh : bm_v1 st fun v r => bm_P l mi Q (pc + 1) ls (v :: v :: r) h) : bm_P l mi Q pc ls st h := by
  obtain ⟨v, r, rfl, hv, hp⟩ := bm_v1.inv hh
  refine bm_P.step (Nat.le_refl _) (Nat.le_refl _) hp ?_
  intro p e R s m args below meth c D E base c0 s0 Qf H locs la hx _ _ _ _ hR hF hL kk
  exact lv_dup hx.1 hx.2.1 hdg (bm_ok_cat hv) (kk H locs la hR hF hL)
theorem bs_pop {l : Launch} {mi : Nat} {Q : bm_Q} {pc : Nat} {ls st : List Value} {h : bm_H} (hdg : decode (pm_b mi) pc = .ok (.pop, 1)) (hh : bm_v1 st fun _ r => bm_P l mi Q (pc + 1) ls r h) : bm_P l mi Q pc ls st h := by
  obtain ⟨v, r, rfl, hv, hp⟩ := bm_v1.inv hh
  refine bm_P.step (Nat.le_refl _) (Nat.le_refl _) hp ?_
  intro p e R s m args below meth c D E base c0 s0 Qf H locs la hx _ _ _ _ hR hF hL kk
  exact lv_pop hx.1 hx.2.1 hdg (bm_ok_cat (E := E) (base := base) hv) (kk H locs la hR hF hL)
theorem bs_dup2 {l : Launch} {mi : Nat} {Q : bm_Q} {pc : Nat} {ls st : List Value} {h : bm_H} (hdg : decode (pm_b mi) pc = .ok (.dup2, 1)) (hh : bm_v2 st fun v w r => bm_P l mi Q (pc + 1) ls (v :: w :: v :: w :: r) h) : bm_P l mi Q pc ls st h := by
  obtain ⟨v, w, r, rfl, hv, hw, hp⟩ := bm_v2.inv hh
  refine bm_P.step (Nat.le_refl _) (Nat.le_refl _) hp ?_
  intro p e R s m args below meth c D E base c0 s0 Qf H locs la hx _ _ _ _ hR hF hL kk
  exact lv_dup2_11 hx.1 hx.2.1 hdg (bm_ok_cat hv) (bm_ok_cat hw) (kk H locs la hR hF hL)
theorem bs_goto {l : Launch} {mi : Nat} {Q : bm_Q} {pc : Nat} {ls st : List Value} {h : bm_H} {off : Int} (hdg : decode (pm_b mi) pc = .ok (.goto off, 3)) (hh : bm_br pc off fun t => bm_P l mi Q t ls st h) : bm_P l mi Q pc ls st h := by
  refine bm_P.step (Nat.le_refl _) (Nat.le_refl _) hh.2 ?_
  intro p e R s m args below meth c D E base c0 s0 Qf H locs la hx _ _ _ _ hR hF hL kk
  exact lv_goto hx.1 hx.2.1 hdg (bm_tg_eq hh.1) (kk H locs la hR hF hL)
theorem bs_ifCond_eq {l : Launch} {mi : Nat} {Q : bm_Q} {pc : Nat} {ls st : List Value} {h : bm_H} {off : Int} (hdg : decode (pm_b mi) pc = .ok (.ifCond .eq off, 3)) (hh : bm_i1 st fun x r => bm_br pc off fun t => (bm_c1 .eq x → bm_P l mi Q t ls r h) ∧ (¬ bm_c1 .eq x → bm_P l mi Q (pc + 3) ls r h)) : bm_P l mi Q pc ls st h := by
  obtain ⟨x, r, rfl, hz, ht, hf⟩ := bm_i1.inv hh
  by_cases hc : bm_c1 .eq x
  · refine bm_P.step (Nat.le_refl _) (Nat.le_refl _) (ht hc) ?_
    intro p e R s m args below meth c D E base c0 s0 Qf H locs la hx _ _ _ _ hR hF hL kk
    exact lv_if_eq hx.1 hx.2.1 hdg (bm_tg_eq hz) (fun _ => kk H locs la hR hF hL) (fun q => absurd hc q)
  · refine bm_P.step (Nat.le_refl _) (Nat.le_refl _) (hf hc) ?_
    intro p e R s m args below meth c D E base c0 s0 Qf H locs la hx _ _ _ _ hR hF hL kk
    exact lv_if_eq (tgt := bm_tg pc off) hx.1 hx.2.1 hdg (bm_tg_eq hz) (fun q => absurd q hc) (fun _ => kk H locs la hR hF hL)
theorem bs_ifCond_ne {l : Launch} {mi : Nat} {Q : bm_Q} {pc : Nat} {ls st : List Value} {h : bm_H} {off : Int} (hdg : decode (pm_b mi) pc = .ok (.ifCond .ne off, 3)) (hh : bm_i1 st fun x r => bm_br pc off fun t => (bm_c1 .ne x → bm_P l mi Q t ls r h) ∧ (¬ bm_c1 .ne x → bm_P l mi Q (pc + 3) ls r h)) : bm_P l mi Q pc ls st h := by
  obtain ⟨x, r, rfl, hz, ht, hf⟩ := bm_i1.inv hh
  by_cases hc : bm_c1 .ne x
  · refine bm_P.step (Nat.le_refl _) (Nat.le_refl _) (ht hc) ?_
    intro p e R s m args below meth c D E base c0 s0 Qf H locs la hx _ _ _ _ hR hF hL kk
    exact lv_if_ne hx.1 hx.2.1 hdg (bm_tg_eq hz) (fun _ => kk H locs la hR hF hL) (fun q => absurd q hc)
  · refine bm_P.step (Nat.le_refl _) (Nat.le_refl _) (hf hc) ?_
    intro p e R s m args below meth c D E base c0 s0 Qf H locs la hx _ _ _ _ hR hF hL kk
    exact lv_if_ne (tgt := bm_tg pc off) hx.1 hx.2.1 hdg (bm_tg_eq hz) (fun q => absurd q hc) (fun _ => kk H locs la hR hF hL)
theorem bs_ifCond_lt {l : Launch} {mi : Nat} {Q : bm_Q} {pc : Nat} {ls st : List Value} {h : bm_H} {off : Int} (hdg : decode (pm_b mi) pc = .ok (.ifCond .lt off, 3)) (hh : bm_i1 st fun x r => bm_br pc off fun t => (bm_c1 .lt x → bm_P l mi Q t ls r h) ∧ (¬ bm_c1 .lt x → bm_P l mi Q (pc + 3) ls r h)) : bm_P l mi Q pc ls st h := by
  obtain ⟨x, r, rfl, hz, ht, hf⟩ := bm_i1.inv hh
  by_cases hc : bm_c1 .lt x
  · refine bm_P.step (Nat.le_refl _) (Nat.le_refl _) (ht hc) ?_
    intro p e R s m args below meth c D E base c0 s0 Qf H locs la hx _ _ _ _ hR hF hL kk
    exact lv_if_lt hx.1 hx.2.1 hdg (bm_tg_eq hz) (fun _ => kk H locs la hR hF hL) (fun q => absurd hc q)
  · refine bm_P.step (Nat.le_refl _) (Nat.le_refl _) (hf hc) ?_
    intro p e R s m args below meth c D E base c0 s0 Qf H locs la hx _ _ _ _ hR hF hL kk
    exact lv_if_lt (tgt := bm_tg pc off) hx.1 hx.2.1 hdg (bm_tg_eq hz) (fun q => absurd q hc) (fun _ => kk H locs la hR hF hL)
theorem bs_ifCond_ge {l : Launch} {mi : Nat} {Q : bm_Q} {pc : Nat} {ls st : List Value} {h : bm_H} {off : Int} (hdg : decode (pm_b mi) pc = .ok (.ifCond .ge off, 3)) (hh : bm_i1 st fun x r => bm_br pc off fun t => (bm_c1 .ge x → bm_P l mi Q t ls r h) ∧ (¬ bm_c1 .ge x → bm_P l mi Q (pc + 3) ls r h)) : bm_P l mi Q pc ls st h := by
  obtain ⟨x, r, rfl, hz, ht, hf⟩ := bm_i1.inv hh
  by_cases hc : bm_c1 .ge x
  · refine bm_P.step (Nat.le_refl _) (Nat.le_refl _) (ht hc) ?_
    intro p e R s m args below meth c D E base c0 s0 Qf H locs la hx _ _ _ _ hR hF hL kk
    exact lv_if_ge hx.1 hx.2.1 hdg (bm_tg_eq hz) (fun _ => kk H locs la hR hF hL) (fun q => absurd hc q)
  · refine bm_P.step (Nat.le_refl _) (Nat.le_refl _) (hf hc) ?_
    intro p e R s m args below meth c D E base c0 s0 Qf H locs la hx _ _ _ _ hR hF hL kk
    exact lv_if_ge (tgt := bm_tg pc off) hx.1 hx.2.1 hdg (bm_tg_eq hz) (fun q => absurd q hc) (fun _ => kk H locs la hR hF hL)
theorem bs_ifCond_gt {l : Launch} {mi : Nat} {Q : bm_Q} {pc : Nat} {ls st : List Value} {h : bm_H} {off : Int} (hdg : decode (pm_b mi) pc = .ok (.ifCond .gt off, 3)) (hh : bm_i1 st fun x r => bm_br pc off fun t => (bm_c1 .gt x → bm_P l mi Q t ls r h) ∧ (¬ bm_c1 .gt x → bm_P l mi Q (pc + 3) ls r h)) : bm_P l mi Q pc ls st h := by
  obtain ⟨x, r, rfl, hz, ht, hf⟩ := bm_i1.inv hh
  by_cases hc : bm_c1 .gt x
  · refine bm_P.step (Nat.le_refl _) (Nat.le_refl _) (ht hc) ?_
    intro p e R s m args below meth c D E base c0 s0 Qf H locs la hx _ _ _ _ hR hF hL kk
    exact lv_if_gt hx.1 hx.2.1 hdg (bm_tg_eq hz) (fun _ => kk H locs la hR hF hL) (fun q => absurd hc q)
  · refine bm_P.step (Nat.le_refl _) (Nat.le_refl _) (hf hc) ?_
    intro p e R s m args below meth c D E base c0 s0 Qf H locs la hx _ _ _ _ hR hF hL kk
    exact lv_if_gt (tgt := bm_tg pc off) hx.1 hx.2.1 hdg (bm_tg_eq hz) (fun q => absurd q hc) (fun _ => kk H locs la hR hF hL)
theorem bs_ifCond_le {l : Launch} {mi : Nat} {Q : bm_Q} {pc : Nat} {ls st : List Value} {h : bm_H} {off : Int} (hdg : decode (pm_b mi) pc = .ok (.ifCond .le off, 3)) (hh : bm_i1 st fun x r => bm_br pc off fun t => (bm_c1 .le x → bm_P l mi Q t ls r h) ∧ (¬ bm_c1 .le x → bm_P l mi Q (pc + 3) ls r h)) : bm_P l mi Q pc ls st h := by
  obtain ⟨x, r, rfl, hz, ht, hf⟩ := bm_i1.inv hh
  by_cases hc : bm_c1 .le x
  · refine bm_P.step (Nat.le_refl _) (Nat.le_refl _) (ht hc) ?_
    intro p e R s m args below meth c D E base c0 s0 Qf H locs la hx _ _ _ _ hR hF hL kk
    exact lv_if_le hx.1 hx.2.1 hdg (bm_tg_eq hz) (fun _ => kk H locs la hR hF hL) (fun q => absurd hc q)
  · refine bm_P.step (Nat.le_refl _) (Nat.le_refl _) (hf hc) ?_
    intro p e R s m args below meth c D E base c0 s0 Qf H locs la hx _ _ _ _ hR hF hL kk
    exact lv_if_le (tgt := bm_tg pc off) hx.1 hx.2.1 hdg (bm_tg_eq hz) (fun q => absurd q hc) (fun _ => kk H locs la hR hF hL)
theorem bs_if_icmp_eq {l : Launch} {mi : Nat} {Q : bm_Q} {pc : Nat} {ls st : List Value} {h : bm_H} {off : Int} (hdg : decode (pm_b mi) pc = .ok (.if_icmp .eq off, 3)) (hh : bm_i2 st fun x y r => bm_br pc off fun t => (bm_c2 .eq x y → bm_P l mi Q t ls r h) ∧ (¬ bm_c2 .eq x y → bm_P l mi Q (pc + 3) ls r h)) : bm_P l mi Q pc ls st h := by
  obtain ⟨x, y, r, rfl, hz, ht, hf⟩ := bm_i2.inv hh
  by_cases hc : bm_c2 .eq x y
  · refine bm_P.step (Nat.le_refl _) (Nat.le_refl _) (ht hc) ?_
    intro p e R s m args below meth c D E base c0 s0 Qf H locs la hx _ _ _ _ hR hF hL kk
    exact lv_icmp_eq hx.1 hx.2.1 hdg (bm_tg_eq hz) (fun _ => kk H locs la hR hF hL) (fun q => absurd hc q)
  · refine bm_P.step (Nat.le_refl _) (Nat.le_refl _) (hf hc) ?_
    intro p e R s m args below meth c D E base c0 s0 Qf H locs la hx _ _ _ _ hR hF hL kk
    exact lv_icmp_eq (tgt := bm_tg pc off) hx.1 hx.2.1 hdg (bm_tg_eq hz) (fun q => absurd q hc) (fun _ => kk H locs la hR hF hL)
theorem bs_if_icmp_ne {l : Launch} {mi : Nat} {Q : bm_Q} {pc : Nat} {ls st : List Value} {h : bm_H} {off : Int} (hdg : decode (pm_b mi) pc = .ok (.if_icmp .ne off, 3)) (hh : bm_i2 st fun x y r => bm_br pc off fun t => (bm_c2 .ne x y → bm_P l mi Q t ls r h) ∧ (¬ bm_c2 .ne x y → bm_P l mi Q (pc + 3) ls r h)) : bm_P l mi Q pc ls st h := by
  obtain ⟨x, y, r, rfl, hz, ht, hf⟩ := bm_i2.inv hh
  by_cases hc : bm_c2 .ne x y
  · refine bm_P.step (Nat.le_refl _) (Nat.le_refl _) (ht hc) ?_
    intro p e R s m args below meth c D E base c0 s0 Qf H locs la hx _ _ _ _ hR hF hL kk
    exact lv_icmp_ne hx.1 hx.2.1 hdg (bm_tg_eq hz) (fun _ => kk H locs la hR hF hL) (fun q => absurd q hc)
  · refine bm_P.step (Nat.le_refl _) (Nat.le_refl _) (hf hc) ?_
    intro p e R s m args below meth c D E base c0 s0 Qf H locs la hx _ _ _ _ hR hF hL kk
    exact lv_icmp_ne (tgt := bm_tg pc off) hx.1 hx.2.1 hdg (bm_tg_eq hz) (fun q => absurd q hc) (fun _ => kk H locs la hR hF hL)
theorem bs_if_icmp_lt {l : Launch} {mi : Nat} {Q : bm_Q} {pc : Nat} {ls st : List Value} {h : bm_H} {off : Int} (hdg : decode (pm_b mi) pc = .ok (.if_icmp .lt off, 3)) (hh : bm_i2 st fun x y r => bm_br pc off fun t => (bm_c2 .lt x y → bm_P l mi Q t ls r h) ∧ (¬ bm_c2 .lt x y → bm_P l mi Q (pc + 3) ls r h)) : bm_P l mi Q pc ls st h := by
  obtain ⟨x, y, r, rfl, hz, ht, hf⟩ := bm_i2.inv hh
  by_cases hc : bm_c2 .lt x y
  · refine bm_P.step (Nat.le_refl _) (Nat.le_refl _) (ht hc) ?_
    intro p e R s m args below meth c D E base c0 s0 Qf H locs la hx _ _ _ _ hR hF hL kk
    exact lv_icmp_lt hx.1 hx.2.1 hdg (bm_tg_eq hz) (fun _ => kk H locs la hR hF hL) (fun q => absurd hc q)
  · refine bm_P.step (Nat.le_refl _) (Nat.le_refl _) (hf hc) ?_
    intro p e R s m args below meth c D E base c0 s0 Qf H locs la hx _ _ _ _ hR hF hL kk
    exact lv_icmp_lt (tgt := bm_tg pc off) hx.1 hx.2.1 hdg (bm_tg_eq hz) (fun q => absurd q hc) (fun _ => kk H locs la hR hF hL)
theorem bs_if_icmp_ge {l : Launch} {mi : Nat} {Q : bm_Q} {pc : Nat} {ls st : List Value} {h : bm_H} {off : Int} (hdg : decode (pm_b mi) pc = .ok (.if_icmp .ge off, 3)) (hh : bm_i2 st fun x y r => bm_br pc off fun t => (bm_c2 .ge x y → bm_P l mi Q t ls r h) ∧ (¬ bm_c2 .ge x y → bm_P l mi Q (pc + 3) ls r h)) : bm_P l mi Q pc ls st h := by
  obtain ⟨x, y, r, rfl, hz, ht, hf⟩ := bm_i2.inv hh
  by_cases hc : bm_c2 .ge x y
  · refine bm_P.step (Nat.le_refl _) (Nat.le_refl _) (ht hc) ?_
    intro p e R s m args below meth c D E base c0 s0 Qf H locs la hx _ _ _ _ hR hF hL kk
    exact lv_icmp_ge hx.1 hx.2.1 hdg (bm_tg_eq hz) (fun _ => kk H locs la hR hF hL) (fun q => absurd hc q)
  · refine bm_P.step (Nat.le_refl _) (Nat.le_refl _) (hf hc) ?_
    intro p e R s m args below meth c D E base c0 s0 Qf H locs la hx _ _ _ _ hR hF hL kk
    exact lv_icmp_ge (tgt := bm_tg pc off) hx.1 hx.2.1 hdg (bm_tg_eq hz) (fun q => absurd q hc) (fun _ => kk H locs la hR hF hL)
theorem bs_if_icmp_gt {l : Launch} {mi : Nat} {Q : bm_Q} {pc : Nat} {ls st : List Value} {h : bm_H} {off : Int} (hdg : decode (pm_b mi) pc = .ok (.if_icmp .gt off, 3)) (hh : bm_i2 st fun x y r => bm_br pc off fun t => (bm_c2 .gt x y → bm_P l mi Q t ls r h) ∧ (¬ bm_c2 .gt x y → bm_P l mi Q (pc + 3) ls r h)) : bm_P l mi Q pc ls st h := by
  obtain ⟨x, y, r, rfl, hz, ht, hf⟩ := bm_i2.inv hh
  by_cases hc : bm_c2 .gt x y
  · refine bm_P.step (Nat.le_refl _) (Nat.le_refl _) (ht hc) ?_
    intro p e R s m args below meth c D E base c0 s0 Qf H locs la hx _ _ _ _ hR hF hL kk
    exact lv_icmp_gt hx.1 hx.2.1 hdg (bm_tg_eq hz) (fun _ => kk H locs la hR hF hL) (fun q => absurd hc q)
  · refine bm_P.step (Nat.le_refl _) (Nat.le_refl _) (hf hc) ?_
    intro p e R s m args below meth c D E base c0 s0 Qf H locs la hx _ _ _ _ hR hF hL kk
    exact lv_icmp_gt (tgt := bm_tg pc off) hx.1 hx.2.1 hdg (bm_tg_eq hz) (fun q => absurd q hc) (fun _ => kk H locs la hR hF hL)
theorem bs_if_icmp_le {l : Launch} {mi : Nat} {Q : bm_Q} {pc : Nat} {ls st : List Value} {h : bm_H} {off : Int} (hdg : decode (pm_b mi) pc = .ok (.if_icmp .le off, 3)) (hh : bm_i2 st fun x y r => bm_br pc off fun t => (bm_c2 .le x y → bm_P l mi Q t ls r h) ∧ (¬ bm_c2 .le x y → bm_P l mi Q (pc + 3) ls r h)) : bm_P l mi Q pc ls st h := by
  obtain ⟨x, y, r, rfl, hz, ht, hf⟩ := bm_i2.inv hh
  by_cases hc : bm_c2 .le x y
  · refine bm_P.step (Nat.le_refl _) (Nat.le_refl _) (ht hc) ?_
    intro p e R s m args below meth c D E base c0 s0 Qf H locs la hx _ _ _ _ hR hF hL kk
    exact lv_icmp_le hx.1 hx.2.1 hdg (bm_tg_eq hz) (fun _ => kk H locs la hR hF hL) (fun q => absurd hc q)
  · refine bm_P.step (Nat.le_refl _) (Nat.le_refl _) (hf hc) ?_
    intro p e R s m args below meth c D E base c0 s0 Qf H locs la hx _ _ _ _ hR hF hL kk
    exact lv_icmp_le (tgt := bm_tg pc off) hx.1 hx.2.1 hdg (bm_tg_eq hz) (fun q => absurd q hc) (fun _ => kk H locs la hR hF hL)
theorem bs_tableswitch {l : Launch} {mi : Nat} {Q : bm_Q} {pc : Nat} {ls st : List Value} {h : bm_H} {d lo hi : Int} {offs : Array Int} {n : Nat} (hdg : decode (pm_b mi) pc = .ok (.tableswitch d lo hi offs, n)) (hh : bm_i1 st fun x r => bm_opt (bm_sw lo hi d offs x) fun off => bm_br pc off fun t => bm_P l mi Q t ls r h) : bm_P l mi Q pc ls st h := by
  obtain ⟨x, r, rfl, hk⟩ := bm_i1.inv hh
  obtain ⟨off, ho, h0, hp⟩ := bm_opt.inv hk
  refine bm_P.step (Nat.le_refl _) (Nat.le_refl _) hp ?_
  intro p e R s m args below meth c D E base c0 s0 Qf H locs la hx _ _ _ _ hR hF hL kk
  unfold bm_sw at ho
  split at ho
  · rename_i q
    cases ho
    exact lv_tableOut hx.1 hx.2.1 hdg q (bm_tg_eq h0) (kk H locs la hR hF hL)
  · rename_i q
    exact lv_tableIn hx.1 hx.2.1 hdg (fun z => q (Or.inl z)) (fun z => q (Or.inr z)) ho (bm_tg_eq h0) (kk H locs la hR hF hL)
theorem bs_lookupswitch {l : Launch} {mi : Nat} {Q : bm_Q} {pc : Nat} {ls st : List Value} {h : bm_H} {d : Int} {ps : Array (Int × Int)} {n : Nat} (hdg : decode (pm_b mi) pc = .ok (.lookupswitch d ps, n)) (hh : bm_i1 st fun x r => (ps.toList.zip (ps.toList.drop 1)).all (fun (a, next) => a.1 < next.1) = true ∧ bm_br pc (Op.lookupswitch.offset ps.toList d x.toInt) fun t => bm_P l mi Q t ls r h) : bm_P l mi Q pc ls st h := by
  obtain ⟨x, r, rfl, hs, h0, hp⟩ := bm_i1.inv hh
  refine bm_P.step (Nat.le_refl _) (Nat.le_refl _) hp ?_
  intro p e R s m args below meth c D E base c0 s0 Qf H locs la hx _ _ _ _ hR hF hL kk
  exact lv_lookup hx.1 hx.2.1 hdg hs rfl (bm_tg_eq h0) (kk H locs la hR hF hL)
