/-! A RUN, pure: on till it ends, or to a split -/
def zslot (S : zW) : Nat := zq S * 40 + zpc S
def zgo (G : zG) (bd : Nat) : Nat → zW → zF → (Nat → Int32) → Int32 → Nat × zW × zF × (Nat → Int32) × Int32
  | 0, S, F, T, C => (1, S, F, T, C)
  | n + 1, S, F, T, C => if zd S = bd then (1, zend S (nI 4) (zplace S), F, T, C) else if ¬ zpc S < gL G (zq S) then (1, zend S (nI 5) (zplace S), F, T, C)
    else if (zoper G none F (zdone S)).1 = 0 then zgo G bd n (zoper G none F (zdone S)).2.1 (zoper G none F (zdone S)).2.2 (upd T (zslot S) (T (zslot S) + nI 1)) (C + nI 1)
    else ((zoper G none F (zdone S)).1, (zoper G none F (zdone S)).2.1, (zoper G none F (zdone S)).2.2, upd T (zslot S) (T (zslot S) + nI 1), C + nI 1)
section RN
variable {w b : Nat} {A0 I0 A I : HA} {S : zW} {F : zF} {G : zG}
theorem zwf.done (h : zwf S) (hd : zd S < 200) : zwf (zdone S) := ⟨h.1, h.2.1, h.2.2.1, h.2.2.2.1, h.2.2.2.2.1, by show zd S + 1 ≤ 200; omega⟩
theorem C_come {Q : Int32 → HA → HA → Prop} {bd : Nat} (h : GC w A0 I0 A I S F) (hg : gRC A0 I0 G) (hbd : bd ≤ 200) (k0 : ¬ zo S = 0 → Q (nI 0) A I) (k1 : zo S = 0 → bd ≤ zd S → ∀ I', GC w A0 I0 A I' (zend S (nI 4) (zplace S)) F → Q (nI 0) A I') (k2 : zo S = 0 → zd S < bd → ¬ zpc S < gL G (zq S) → ∀ I', GC w A0 I0 A I' (zend S (nI 5) (zplace S)) F → Q (nI 0) A I') (k3 : zo S = 0 → zd S < bd → zpc S < gL G (zq S) → ∀ I', GC w A0 I0 A I' (zdone S) F → Q (nI 1) A I') : D57_comesToOne w (nI bd) A I Q := by
  have hz := h.wf.hi
  have hd := h.wf.2.2.2.2.2
  unfold D57_comesToOne D135_hasEnded
  rw [h.2.2.1.2.2.2.1]
  by_cases e : zo S = 0
  · rw [if_pos e]
    show if nI 0 = 0 then _ else _
    rw [i0, h.2.2.1.2.2.1, iLt (by omega) (by omega)]
    by_cases e2 : zd S < bd
    · rw [if_pos e2]
      refine C_methodNow h (C_operationNow h (C_hasOperation (h.low hg) hz.2.1 hz.2.2.1 ?_))
      by_cases e3 : zpc S < gL G (zq S)
      · rw [if_pos e3, i1, nI_add]
        exact k3 e e2 e3 _ (h.setI (S' := zdone S) (by omega) (h.wf.done (by omega)) (repC_done h.2.2.1 rfl))
      · rw [if_neg e3, i0]
        exact C_placeNow h (C_end h (fun I' h' => k2 e e2 e3 _ h'))
    · rw [if_neg e2]
      exact C_placeNow h (C_end h (fun I' h' => k1 e (by omega) _ h'))
  · rw [if_neg e]
    show if nI 1 = 0 then _ else _
    rw [i1]
    exact k0 e
/-- the counts beside -/
theorem GC.count {T : Nat → Int32} {C : Int32} (h : GC w (va_up A0 42 T) (sI I0 20 9 C) A I S F) (i : Nat) (x y : Int32) : GC w (va_up A0 42 (upd T i x)) (sI I0 20 9 y) (sA A 42 i x) (sI I 20 9 y) S F := by
  obtain ⟨hw, hz, h1, h2, h3, h4⟩ := h
  have hf := hw.far
  have e42 : A 42 = T := by rw [h3 42 (by omega) (by omega), va_up_self]
  refine ⟨hw, hz, h1.off (fun a a1 a2 => sA_na (by omega)) (sI_na (by omega)), ?_, fun a n1 n2 => ?_, fun a j n1 n2 => ?_⟩
  · unfold zFC at h2 ⊢
    rw [sA_na (by decide), sA_na (by decide), sA_na (by decide), sA_na (by decide), sI_na (by decide)]
    exact h2
  · by_cases e : a = 42
    · subst e
      show sA A 42 i x 42 = _
      unfold sA
      rw [va_up_self, va_up_self, e42]
    · rw [sA_na e, va_up_ne _ _ e, h3 a n1 n2, va_up_ne _ _ e]
  · by_cases e : a = 20 ∧ j = 9
    · rw [e.1, e.2, sI_e, sI_e]
    · rw [sI_n (by omega), sI_n (by omega), h4 a j n1 n2, sI_n (by omega)]
theorem gRC.cnt {T : Nat → Int32} {C : Int32} (h : gRC A0 I0 G) : gRC (va_up A0 42 T) (sI I0 20 9 C) G := by
  unfold gRC at h ⊢
  rw [va_up_ne _ _ (by decide), va_up_ne _ _ (by decide), va_up_ne _ _ (by decide), va_up_ne _ _ (by decide), va_up_ne _ _ (by decide), va_up_ne _ _ (by decide), va_up_ne _ _ (by decide), va_up_ne _ _ (by decide), va_up_ne _ _ (by decide), va_up_ne _ _ (by decide), va_up_ne _ _ (by decide), sI_n (by decide)]
  exact h
/-- THE CLASS RUNS A WAY as the pure run goes -/
theorem C_go {Q : Int32 → HA → HA → Prop} {bd : Nat} {T : Nat → Int32} {C : Int32} {n : Nat} (hg : gRC A0 I0 G) (hbd : bd ≤ 200) (hb : I0 20 15 = nI bd) (h : GC w (va_up A0 42 T) (sI I0 20 9 C) A I S F) (hok : zok S F) (ho : zo S = 0) (hd : zd S ≤ bd) (hn : bd < zd S + n) (hN : F.1 + (bd - zd S) ≤ 32258)
    (k2 : (zgo G bd n S F T C).1 = 2 → ∀ A' I', GC w (va_up A0 42 (zgo G bd n S F T C).2.2.2.1) (sI I0 20 9 (zgo G bd n S F T C).2.2.2.2) A' I' (zgo G bd n S F T C).2.1 (zgo G bd n S F T C).2.2.1 → Q (nI 1) A' I') (k1 : (zgo G bd n S F T C).1 = 1 → ∀ A' I', GC w (va_up A0 42 (zgo G bd n S F T C).2.2.2.1) (sI I0 20 9 (zgo G bd n S F T C).2.2.2.2) A' I' (zgo G bd n S F T C).2.1 (zgo G bd n S F T C).2.2.1 → Q (nI 0) A' I') : D97_goesToSplit w A I Q := by
  intro P hP
  have fb : ∀ {A I : HA} {S : zW} {F : zF} {T : Nat → Int32} {C : Int32}, GC w (va_up A0 42 T) (sI I0 20 9 C) A I S F → I 20 15 = nI bd := by
    intro A I S F T C h
    have hf := h.1.far
    rw [h.2.2.2.2.2 20 15 (by omega) (by omega), sI_n (by decide)]
    exact hb
  have key : ∀ (n i : Nat) (A I : HA) (S : zW) (F : zF) (T : Nat → Int32) (C : Int32), GC w (va_up A0 42 T) (sI I0 20 9 C) A I S F → zok S F → zo S = 0 → zd S ≤ bd → bd < zd S + n → i + (bd - zd S) ≤ 200 → F.1 + (bd - zd S) ≤ 32258 →
      ((zgo G bd n S F T C).1 = 2 → ∀ A' I', GC w (va_up A0 42 (zgo G bd n S F T C).2.2.2.1) (sI I0 20 9 (zgo G bd n S F T C).2.2.2.2) A' I' (zgo G bd n S F T C).2.1 (zgo G bd n S F T C).2.2.1 → Q (nI 1) A' I') → ((zgo G bd n S F T C).1 = 1 → ∀ A' I', GC w (va_up A0 42 (zgo G bd n S F T C).2.2.2.1) (sI I0 20 9 (zgo G bd n S F T C).2.2.2.2) A' I' (zgo G bd n S F T C).2.1 (zgo G bd n S F T C).2.2.1 → Q (nI 0) A' I') → P (nI i) A I := by
    intro n
    induction n with
    | zero => intro i A I S F T C _ _ _ h1 h2; exact absurd h2 (by omega)
    | succ n ih =>
      intro i A I S F T C h hok ho hd hn hi hN k2 k1
      have hz := h.wf.hi
      refine hP _ _ _ ?_
      rw [fb h, iLt (by decide) (by omega), if_neg (by omega)]
      unfold zgo at k1 k2
      refine C_come h hg.cnt hbd (fun z => absurd ho z) (fun _ z I' h' => ?_) (fun _ z z2 I' h' => ?_) (fun _ z z2 I' h' => ?_)
      · rw [i0]
        rw [if_pos (by omega)] at k1
        exact k1 rfl _ _ h'
      · rw [i0]
        rw [if_neg (by omega), if_pos z2] at k1
        exact k1 rfl _ _ h'
      · rw [i1]
        rw [if_neg (by omega), if_neg (fun y => y z2)] at k1 k2
        have hl := (hg.1.2.2 (zq S) hz.2.1).1
        have hf := h'.1.far
        have e42 : A 42 = T := by rw [h'.2.2.2.2.1 42 (by omega) (by omega), va_up_self]
        have e9 : I' 20 9 = C := by rw [h'.2.2.2.2.2 20 9 (by omega) (by omega), sI_e]
        have okd : zok (zdone S) F := hok
        have pcd : zpc (zdone S) < gL G (zq (zdone S)) := z2
        have hsl : zslot S < 240 := by unfold zslot; omega
        refine C_slotNow h' ?_
        show vp_in (nI (zslot S)) 240 ∧ (vp_in (nI (zslot S)) 240 ∧ D58_stopsToSplit w (sA A 42 (nI (zslot S)).toNatClampNeg (A 42 (nI (zslot S)).toNatClampNeg + nI 1)) (sI I' 20 9 (I' 20 9 + nI 1)) _)
        rw [vpT hsl (by decide)]
        refine ⟨trivial, trivial, ?_⟩
        rw [nI_clamp (by omega), e42, e9]
        have h3 := h'.count (zslot S) (T (zslot S) + nI 1) (C + nI 1)
        have ok := zoper_ok (alt := none) hg.1 h3.wf okd h3.2.2.2.1.2.1 (by omega) pcd
        obtain ⟨o1, o2, o3, o4, o5, o6, o7, o8⟩ := ok
        refine C_step h3 hg.cnt okd (by omega) pcd ⟨fun r2 => ?_, fun r2 A2 I2 h2 => ?_⟩
        · show if nI 1 = 0 then _ else _
          rw [i1]
          rw [if_neg (by omega)] at k2
          have e6 := o6 r2
          refine k2 r2 _ _ ?_
          have e7 : (zoper G none F (zdone S)).2.1 = zdone S := by rw [e6]
          have e8 : (zoper G none F (zdone S)).2.2 = F := by rw [e6]
          show GC w (va_up A0 42 _) (sI I0 20 9 _) _ _ (zoper G none F (zdone S)).2.1 (zoper G none F (zdone S)).2.2
          rw [e7, e8]
          exact h3
        · show if nI 0 = 0 then _ else _
          rw [i0, nI_add]
          by_cases r0 : (zoper G none F (zdone S)).1 = 0
          · rw [if_pos r0] at k1 k2
            have d1 : zd (zoper G none F (zdone S)).2.1 = zd S + 1 := o3.1
            have f1 := o1.2.1
            have zo0 : zo (zoper G none F (zdone S)).2.1 = 0 := (o3.2 r0).trans ho
            exact ih (i + 1) _ _ _ _ _ _ h2 (o4 r0) zo0 (by omega) (by omega) (by omega) (by omega) k2 k1
          · have r1 : (zoper G none F (zdone S)).1 = 1 := by omega
            rw [if_neg r0] at k1
            have e0 := o8 r1
            refine hP _ _ _ ?_
            rw [fb h2, iLt (by decide) (by omega), if_neg (by omega)]
            refine C_come h2 hg.cnt hbd (fun _ => ?_) (fun y => absurd y e0) (fun y => absurd y e0) (fun y => absurd y e0)
            rw [i0]
            exact k1 r1 _ _ h2
  exact key n 0 A I S F T C h hok ho hd hn (by omega) hN k2 k1
end RN
