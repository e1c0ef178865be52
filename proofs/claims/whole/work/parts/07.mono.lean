/-! THE PLAIN MACHINE's steps are monotone, so its run is closed under them -/
theorem bm_i1.mono {st : List Value} {k k' : Int32 → List Value → Prop} (m : ∀ x r, k x r → k' x r) (h : bm_i1 st k) : bm_i1 st k' := by
  unfold bm_i1 at h ⊢; split at h <;> first | exact h.elim | exact m _ _ h
theorem bm_i2.mono {st : List Value} {k k' : Int32 → Int32 → List Value → Prop} (m : ∀ x y r, k x y r → k' x y r) (h : bm_i2 st k) : bm_i2 st k' := by
  unfold bm_i2 at h ⊢; split at h <;> first | exact h.elim | exact m _ _ _ h
theorem bm_r1.mono {st : List Value} {k k' : Nat → List Value → Prop} (m : ∀ x r, k x r → k' x r) (h : bm_r1 st k) : bm_r1 st k' := by
  unfold bm_r1 at h ⊢; split at h <;> first | exact h.elim | exact m _ _ h
theorem bm_ri.mono {st : List Value} {k k' : Nat → Int32 → List Value → Prop} (m : ∀ x y r, k x y r → k' x y r) (h : bm_ri st k) : bm_ri st k' := by
  unfold bm_ri at h ⊢; split at h <;> first | exact h.elim | exact m _ _ _ h
theorem bm_rii.mono {st : List Value} {k k' : Nat → Int32 → Int32 → List Value → Prop} (m : ∀ x y z r, k x y z r → k' x y z r) (h : bm_rii st k) : bm_rii st k' := by
  unfold bm_rii at h ⊢; split at h <;> first | exact h.elim | exact m _ _ _ _ h
theorem bm_rir.mono {st : List Value} {k k' : Nat → Int32 → Nat → List Value → Prop} (m : ∀ x y z r, k x y z r → k' x y z r) (h : bm_rir st k) : bm_rir st k' := by
  unfold bm_rir at h ⊢; split at h <;> first | exact h.elim | exact m _ _ _ _ h
theorem bm_rv.mono {st : List Value} {k k' : Nat → Value → List Value → Prop} (m : ∀ x y r, k x y r → k' x y r) (h : bm_rv st k) : bm_rv st k' := by
  unfold bm_rv at h ⊢; split at h <;> first | exact h.elim | exact m _ _ _ h
theorem bm_v1.mono {st : List Value} {k k' : Value → List Value → Prop} (m : ∀ x r, k x r → k' x r) (h : bm_v1 st k) : bm_v1 st k' := by
  unfold bm_v1 at h ⊢; split at h <;> first | exact h.elim | exact ⟨h.1, m _ _ h.2⟩
theorem bm_v2.mono {st : List Value} {k k' : Value → Value → List Value → Prop} (m : ∀ x y r, k x y r → k' x y r) (h : bm_v2 st k) : bm_v2 st k' := by
  unfold bm_v2 at h ⊢; split at h <;> first | exact h.elim | exact ⟨h.1, h.2.1, m _ _ _ h.2.2⟩
theorem bm_lI.mono {ls : List Value} {i : Nat} {k k' : Int32 → Prop} (m : ∀ x, k x → k' x) (h : bm_lI ls i k) : bm_lI ls i k' := by
  unfold bm_lI at h ⊢; split at h <;> first | exact h.elim | exact m _ h
theorem bm_lR.mono {ls : List Value} {i : Nat} {k k' : Nat → Prop} (m : ∀ x, k x → k' x) (h : bm_lR ls i k) : bm_lR ls i k' := by
  unfold bm_lR at h ⊢; split at h <;> first | exact h.elim | exact m _ h
theorem bm_opt.mono {α : Type} {x : Option α} {k k' : α → Prop} (m : ∀ x, k x → k' x) (h : bm_opt x k) : bm_opt x k' := by
  unfold bm_opt at h ⊢; split at h <;> first | exact h.elim | exact m _ h
theorem bm_ints.mono {x : bm_C} {k k' : Nat → Nat → (Nat → Int32) → Prop} (m : ∀ t n f, k t n f → k' t n f) (h : bm_ints x k) : bm_ints x k' := by
  unfold bm_ints at h ⊢; split at h <;> first | exact h.elim | exact m _ _ _ h
theorem bm_refs.mono {x : bm_C} {k k' : Nat → Nat → (Nat → Option Nat) → Prop} (m : ∀ t n f, k t n f → k' t n f) (h : bm_refs x k) : bm_refs x k' := by
  unfold bm_refs at h ⊢; split at h <;> first | exact h.elim | exact m _ _ _ h
theorem bm_obj.mono {x : bm_C} {k k' : Nat → List Value → Prop} (m : ∀ t f, k t f → k' t f) (h : bm_obj x k) : bm_obj x k' := by
  unfold bm_obj at h ⊢; split at h <;> first | exact h.elim | exact m _ _ h
theorem bm_br.mono {pc : Nat} {off : Int} {k k' : Nat → Prop} (m : ∀ x, k x → k' x) (h : bm_br pc off k) : bm_br pc off k' := ⟨h.1, m _ h.2⟩
theorem bm_args.mono {n : Nat} {st : List Value} {k k' : List Value → List Value → Prop} (m : ∀ a r, k a r → k' a r) (h : bm_args n st k) : bm_args n st k' := ⟨h.1, h.2.1, m _ _ h.2.2⟩
/-- how calls go, whatever is to hold behind them -/
def bm_Km (C : bm_K) : Prop := ∀ (mi : Nat) (as : List Value) (h : bm_H) (Q Q' : bm_Q), (∀ r h, Q r h → Q' r h) → C mi as h Q → C mi as h Q'
theorem bm_inv.mono {C : bm_K} (hC : bm_Km C) {mi : Nat} {P P' : List Value → bm_H → Prop} {how k : Nat} {st : List Value} {h : bm_H} (m : ∀ st h, P st h → P' st h) (hh : bm_inv C mi P how k st h) : bm_inv C mi P' how k st h := by
  unfold bm_inv at hh ⊢
  refine bm_opt.mono (fun q hq => ⟨hq.1, hq.2.1, bm_args.mono (fun a r ha => ?_) hq.2.2⟩) hh
  split at ha
  · exact hC _ _ _ _ _ (fun _ _ hm => m _ _ hm) ha
  · exact bm_r1.mono (fun a r hr => ⟨hr.1, hr.2.1, hr.2.2.1, bm_obj.mono (fun _ _ ho => ⟨ho.1, hC _ _ _ _ _ (fun _ _ hm => m _ _ hm) ho.2⟩) hr.2.2.2⟩) ha
theorem bm_spec.mono {C : bm_K} (hC : bm_Km C) {mi : Nat} {P P' : List Value → bm_H → Prop} {k : Nat} {st : List Value} {h : bm_H} (m : ∀ st h, P st h → P' st h) (hh : bm_spec C mi P k st h) : bm_spec C mi P' k st h := by
  unfold bm_spec at hh ⊢
  refine bm_opt.mono (fun q hq => ?_) hh
  split at hq
  · rename_i e
    rw [if_pos e]
    exact ⟨hq.1, bm_r1.mono (fun _ _ hr => ⟨hr.1, m _ _ hr.2⟩) hq.2⟩
  · rename_i e
    rw [if_neg e]
    exact bm_inv.mono hC m hq
theorem bm_copy.mono {mi : Nat} {P P' : List Value → bm_H → Prop} {st : List Value} {h : bm_H} (m : ∀ st h, P st h → P' st h) (hh : bm_copy mi P st h) : bm_copy mi P' st h := by
  unfold bm_copy at hh ⊢
  split at hh
  · obtain ⟨h1, h2, h3, h4, h5, h6, h7, h8, h9, h10⟩ := hh
    exact ⟨h1, h2, h3, h4, h5, h6, h7, h8, h9, bm_ints.mono (fun _ _ _ ha => bm_ints.mono (fun _ _ _ hb => ⟨hb.1, hb.2.1, hb.2.2.1, hb.2.2.2.1, m _ _ hb.2.2.2.2⟩) ha) h10⟩
  · exact hh.elim
theorem bm_stat.mono {C : bm_K} (hC : bm_Km C) {mi : Nat} {P P' : List Value → bm_H → Prop} {k : Nat} {st : List Value} {h : bm_H} (m : ∀ st h, P st h → P' st h) (hh : bm_stat C mi P k st h) : bm_stat C mi P' k st h := by
  unfold bm_stat at hh ⊢
  refine bm_opt.mono (fun q hq => ?_) hh
  split at hq
  · rename_i e
    rw [if_pos e]
    exact bm_copy.mono m hq
  · rename_i e
    rw [if_neg e]
    split at hq
    · rename_i e2
      rw [if_pos e2]
      exact bm_i2.mono (fun _ _ _ h => ⟨h.1, h.2.1, m _ _ h.2.2⟩) hq
    · rename_i e2
      rw [if_neg e2]
      exact bm_inv.mono hC m hq
set_option maxHeartbeats 4000000 in
theorem bm_do.mono {C : bm_K} (hC : bm_Km C) {mi : Nat} {Q Q' : bm_Q} {P P' : Nat → List Value → List Value → bm_H → Prop} (mQ : ∀ r h, Q r h → Q' r h) (m : ∀ pc ls st h, P pc ls st h → P' pc ls st h) {i : Instr} {pc : Nat} {ls st : List Value} {h : bm_H} (hh : bm_do C mi Q P i pc ls st h) : bm_do C mi Q' P' i pc ls st h := by
  cases i with
  | iconst n => exact m _ _ _ _ hh
  | bipush n => exact m _ _ _ _ hh
  | sipush n => exact m _ _ _ _ hh
  | ldc k => exact bm_opt.mono (fun _ h => m _ _ _ _ h) hh
  | ldc_w k => exact bm_opt.mono (fun _ h => m _ _ _ _ h) hh
  | iload_n k => exact bm_lI.mono (fun _ h => m _ _ _ _ h) hh
  | iload k => exact bm_lI.mono (fun _ h => m _ _ _ _ h) hh
  | aload_n k => exact bm_lR.mono (fun _ h => m _ _ _ _ h) hh
  | aload k => exact bm_lR.mono (fun _ h => m _ _ _ _ h) hh
  | istore_n k => exact bm_i1.mono (fun _ _ h => ⟨h.1, m _ _ _ _ h.2⟩) hh
  | istore k => exact bm_i1.mono (fun _ _ h => ⟨h.1, m _ _ _ _ h.2⟩) hh
  | astore_n k => exact bm_r1.mono (fun _ _ h => ⟨h.1, m _ _ _ _ h.2⟩) hh
  | astore k => exact bm_r1.mono (fun _ _ h => ⟨h.1, m _ _ _ _ h.2⟩) hh
  | iinc k n => exact bm_lI.mono (fun _ h => m _ _ _ _ h) hh
  | iadd => exact bm_i2.mono (fun _ _ _ h => m _ _ _ _ h) hh
  | isub => exact bm_i2.mono (fun _ _ _ h => m _ _ _ _ h) hh
  | imul => exact bm_i2.mono (fun _ _ _ h => m _ _ _ _ h) hh
  | idiv => exact bm_i2.mono (fun _ _ _ h => ⟨h.1, m _ _ _ _ h.2⟩) hh
  | irem => exact bm_i2.mono (fun _ _ _ h => ⟨h.1, m _ _ _ _ h.2⟩) hh
  | ineg => exact bm_i1.mono (fun _ _ h => m _ _ _ _ h) hh
  | iand => exact bm_i2.mono (fun _ _ _ h => m _ _ _ _ h) hh
  | ior => exact bm_i2.mono (fun _ _ _ h => m _ _ _ _ h) hh
  | ixor => exact bm_i2.mono (fun _ _ _ h => m _ _ _ _ h) hh
  | ishl => exact bm_i2.mono (fun _ _ _ h => m _ _ _ _ h) hh
  | ishr => exact bm_i2.mono (fun _ _ _ h => m _ _ _ _ h) hh
  | iushr => exact bm_i2.mono (fun _ _ _ h => m _ _ _ _ h) hh
  | i2b => exact bm_i1.mono (fun _ _ h => m _ _ _ _ h) hh
  | dup => exact bm_v1.mono (fun _ _ h => m _ _ _ _ h) hh
  | pop => exact bm_v1.mono (fun _ _ h => m _ _ _ _ h) hh
  | dup2 => exact bm_v2.mono (fun _ _ _ h => m _ _ _ _ h) hh
  | ifCond c off => exact bm_i1.mono (fun _ _ h => bm_br.mono (fun _ h => ⟨fun e => m _ _ _ _ (h.1 e), fun e => m _ _ _ _ (h.2 e)⟩) h) hh
  | if_icmp c off => exact bm_i2.mono (fun _ _ _ h => bm_br.mono (fun _ h => ⟨fun e => m _ _ _ _ (h.1 e), fun e => m _ _ _ _ (h.2 e)⟩) h) hh
  | goto off => exact bm_br.mono (fun _ h => m _ _ _ _ h) hh
  | tableswitch d lo hi offs => exact bm_i1.mono (fun _ _ h => bm_opt.mono (fun _ h => bm_br.mono (fun _ h => m _ _ _ _ h) h) h) hh
  | lookupswitch d ps => exact bm_i1.mono (fun _ _ h => ⟨h.1, bm_br.mono (fun _ h => m _ _ _ _ h) h.2⟩) hh
  | getfield k => exact bm_r1.mono (fun _ _ h => ⟨h.1, h.2.1, bm_obj.mono (fun _ _ h => bm_opt.mono (fun _ h => ⟨h.1, bm_opt.mono (fun _ h => m _ _ _ _ h) h.2⟩) h) h.2.2⟩) hh
  | putfield k => exact bm_rv.mono (fun _ _ _ h => ⟨h.1, h.2.1, h.2.2.1, bm_obj.mono (fun _ _ h => bm_opt.mono (fun _ h => ⟨h.1, h.2.1, h.2.2.1, h.2.2.2.1, bm_opt.mono (fun _ h => ⟨h.1, m _ _ _ _ h.2⟩) h.2.2.2.2⟩) h) h.2.2.2⟩) hh
  | getstatic k => exact bm_opt.mono (fun _ h => m _ _ _ _ h) hh
  | new k => exact bm_opt.mono (fun _ h => bm_opt.mono (fun _ h => m _ _ _ _ h) h) hh
  | newarray a => exact bm_i1.mono (fun _ _ h => ⟨h.1, h.2.1, bm_opt.mono (fun _ h => m _ _ _ _ h) h.2.2⟩) hh
  | anewarray k => exact bm_i1.mono (fun _ _ h => ⟨h.1, h.2.1, bm_opt.mono (fun _ h => m _ _ _ _ h) h.2.2⟩) hh
  | iaload => exact bm_ri.mono (fun _ _ _ h => ⟨h.1, bm_ints.mono (fun _ _ _ h => ⟨h.1, h.2.1, m _ _ _ _ h.2.2⟩) h.2⟩) hh
  | baload => exact bm_ri.mono (fun _ _ _ h => ⟨h.1, h.2.1, bm_ints.mono (fun _ _ _ h => ⟨h.1, h.2.1, m _ _ _ _ h.2.2⟩) h.2.2⟩) hh
  | iastore => exact bm_rii.mono (fun _ _ _ _ h => ⟨h.1, h.2.1, bm_ints.mono (fun _ _ _ h => ⟨h.1, h.2.1, m _ _ _ _ h.2.2⟩) h.2.2⟩) hh
  | bastore => exact bm_rii.mono (fun _ _ _ _ h => ⟨h.1, h.2.1, bm_ints.mono (fun _ _ _ h => ⟨h.1, h.2.1, m _ _ _ _ h.2.2⟩) h.2.2⟩) hh
  | aaload => exact bm_ri.mono (fun _ _ _ h => ⟨h.1, h.2.1, bm_refs.mono (fun _ _ _ h => ⟨h.1, bm_opt.mono (fun _ h => m _ _ _ _ h) h.2⟩) h.2.2⟩) hh
  | aastore => exact bm_rir.mono (fun _ _ _ _ h => ⟨h.1, h.2.1, h.2.2.1, h.2.2.2.1, bm_refs.mono (fun _ _ _ h => ⟨h.1, bm_obj.mono (fun _ _ h => ⟨h.1, m _ _ _ _ h.2⟩) h.2⟩) h.2.2.2.2⟩) hh
  | arraylength => exact bm_r1.mono (fun _ _ h => ⟨h.1, bm_ints.mono (fun _ _ _ h => ⟨h.1, m _ _ _ _ h.2⟩) h.2⟩) hh
  | invokevirtual k => exact bm_inv.mono hC (fun _ _ h => m _ _ _ _ h) hh
  | invokestatic k => exact bm_stat.mono hC (fun _ _ h => m _ _ _ _ h) hh
  | invokespecial k => exact bm_spec.mono hC (fun _ _ h => m _ _ _ _ h) hh
  | ireturn => exact bm_i1.mono (fun _ _ h => ⟨h.1, bm_opt.mono (fun _ h => ⟨h.1, h.2.1, mQ _ _ h.2.2⟩) h.2⟩) hh
  | areturn => exact bm_r1.mono (fun _ _ h => ⟨h.1, h.2.1, mQ _ _ h.2.2⟩) hh
  | return_ => exact ⟨hh.1, hh.2.1, mQ _ _ hh.2.2⟩
  | _ => exact hh.elim
/-- THE RUN is closed under its steps -/
theorem bm_in {C : bm_K} (hC : bm_Km C) {mi : Nat} {Q : bm_Q} {pc : Nat} {ls st : List Value} {h : bm_H} (hh : bm_step C mi Q (bm_W C mi Q) pc ls st h) : bm_W C mi Q pc ls st h := by
  intro P hP
  exact hP _ _ _ _ (bm_opt.mono (fun _ h => ⟨h.1, h.2.1, bm_do.mono hC (fun _ _ h => h) (fun _ _ _ _ w => w P hP) h.2.2⟩) hh)
theorem bm_W.mono {C : bm_K} (hC : bm_Km C) {mi : Nat} {Q Q' : bm_Q} (m : ∀ r h, Q r h → Q' r h) {pc : Nat} {ls st : List Value} {h : bm_H} (w : bm_W C mi Q pc ls st h) : bm_W C mi Q' pc ls st h :=
  w (bm_W C mi Q') (fun _ _ _ _ hs => bm_in hC (bm_opt.mono (fun _ h => ⟨h.1, h.2.1, bm_do.mono hC m (fun _ _ _ _ w => w) h.2.2⟩) hs))
theorem bm_M.mono : ∀ d : Nat, bm_Km (bm_M d)
  | 0 => fun _ _ _ _ _ _ h => h.elim
  | d + 1 => fun _ _ _ _ _ m h => ⟨h.1, h.2.1, bm_W.mono (bm_M.mono d) m h.2.2⟩
