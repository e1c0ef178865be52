/-! ONE OPERATION: its cases; THE CLASS does it so -/
section ZO
variable {G : zG} {alt : Option Nat} {F : zF} {S : zW}
theorem zo_0 (e : gO G (zq S) (zpc S) = 0) : zoper G alt F S = (if zh S = 12 then zbrk F S else (0, zfin S 0 (gU G (zq S) (zpc S) + nI 128), F)) := by unfold zoper; rw [e]; rfl
theorem zo_1 (e : gO G (zq S) (zpc S) = 1) : zoper G alt F S = (if zh S = 12 ∨ zV S (zt S) (gU G (zq S) (zpc S)).toNatClampNeg = -100 then zbrk F S else (0, zfin S 0 (zV S (zt S) (gU G (zq S) (zpc S)).toNatClampNeg), F)) := by unfold zoper; rw [e]; rfl
theorem zo_2 (e : gO G (zq S) (zpc S) = 2) : zoper G alt F S = (if zh S < 1 then zbrk F S else (0, znext (zloc (zdrop S 1) (gU G (zq S) (zpc S)).toNatClampNeg (zpk S 0)), F)) := by unfold zoper; rw [e]; rfl
theorem zo_3 (e : gO G (zq S) (zpc S) = 3) : zoper G alt F S = (if zh S < 1 then zbrk F S else (0, znext (zdrop S 1), F)) := by unfold zoper; rw [e]; rfl
theorem zo_4 (e : gO G (zq S) (zpc S) = 4) : zoper G alt F S = (if zh S < 1 ∨ zh S = 12 then zbrk F S else (0, znext (zpush (zpush (zdrop S 1) (zpk S 0)) (zpk S 0)), F)) := by unfold zoper; rw [e]; rfl
theorem zo_5 (e : gO G (zq S) (zpc S) = 5) : zoper G alt F S = (if zh S < 2 then zbrk F S else (0, znext (zpush (zpush (zdrop S 2) (zpk S 0)) (zpk S 1)), F)) := by unfold zoper; rw [e]; rfl
theorem zo_6 (e : gO G (zq S) (zpc S) = 6) : zoper G alt F S = (if zh S < 2 ∨ zpk S 0 < 0 ∨ zpk S 1 < 0 then zbrk F S else zcm S 2 (z2 F 6 (zpk S 1) (zpk S 0))) := by unfold zoper; rw [e]; rfl
theorem zo_7 (e : gO G (zq S) (zpc S) = 7) : zoper G alt F S = (if zh S < 2 ∨ zpk S 0 < 0 ∨ zpk S 1 < 0 then zbrk F S else zcm S 2 (z2 F 7 (zpk S 1) (zpk S 0))) := by unfold zoper; rw [e]; rfl
theorem zo_8 (e : gO G (zq S) (zpc S) = 8) : zoper G alt F S = (if zh S < 2 ∨ zpk S 0 < 0 ∨ zpk S 1 < 0 then zbrk F S else zcm S 2 (z2 F 8 (zpk S 1) (zpk S 0))) := by unfold zoper; rw [e]; rfl
theorem zo_9 (e : gO G (zq S) (zpc S) = 9) : zoper G alt F S = (if zh S < 2 ∨ zpk S 0 < 0 ∨ zpk S 1 < 0 then zbrk F S else if isn (zpk S 0) then (if zpk S 0 = nI 128 then zthr G F S 1 else zcm S 2 (z2 F 9 (zpk S 1) (zpk S 0))) else (match alt with | none => (2, S, F) | some x => if x = 0 then zcm S 2 (z2 F 9 (zpk S 1) (zpk S 0)) else zthr G F S 1)) := by unfold zoper; rw [e]; rfl
theorem zo_10 (e : gO G (zq S) (zpc S) = 10) : zoper G alt F S = (if zh S < 2 ∨ zpk S 0 < 0 ∨ zpk S 1 < 0 then zbrk F S else if isn (zpk S 0) then (if zpk S 0 = nI 128 then zthr G F S 1 else zcm S 2 (z2 F 10 (zpk S 1) (zpk S 0))) else (match alt with | none => (2, S, F) | some x => if x = 0 then zcm S 2 (z2 F 10 (zpk S 1) (zpk S 0)) else zthr G F S 1)) := by unfold zoper; rw [e]; rfl
theorem zo_11 (e : gO G (zq S) (zpc S) = 11) : zoper G alt F S = (if zh S < 1 ∨ zpk S 0 < 0 then zbrk F S else zcm S 1 (z1 F (nI 11) (zpk S 0))) := by unfold zoper; rw [e]; rfl
theorem zo_12 (e : gO G (zq S) (zpc S) = 12) : zoper G alt F S = (if zh S < 2 ∨ zpk S 0 < 0 ∨ zpk S 1 < 0 then zbrk F S else zcm S 2 (z2 F 12 (zpk S 1) (zpk S 0))) := by unfold zoper; rw [e]; rfl
theorem zo_13 (e : gO G (zq S) (zpc S) = 13) : zoper G alt F S = (if zh S < 2 ∨ zpk S 0 < 0 ∨ zpk S 1 < 0 then zbrk F S else zcm S 2 (z2 F 13 (zpk S 1) (zpk S 0))) := by unfold zoper; rw [e]; rfl
theorem zo_14 (e : gO G (zq S) (zpc S) = 14) : zoper G alt F S = (if zh S < 2 ∨ zpk S 0 < 0 ∨ zpk S 1 < 0 then zbrk F S else zcm S 2 (z2 F 14 (zpk S 1) (zpk S 0))) := by unfold zoper; rw [e]; rfl
theorem zo_15 (e : gO G (zq S) (zpc S) = 15) : zoper G alt F S = (if zh S < 2 ∨ zpk S 0 < 0 ∨ zpk S 1 < 0 then zbrk F S else zcm S 2 (z2 F 15 (zpk S 1) (zpk S 0))) := by unfold zoper; rw [e]; rfl
theorem zo_16 (e : gO G (zq S) (zpc S) = 16) : zoper G alt F S = (if zh S < 2 ∨ zpk S 0 < 0 ∨ zpk S 1 < 0 then zbrk F S else zcm S 2 (z2 F 16 (zpk S 1) (zpk S 0))) := by unfold zoper; rw [e]; rfl
theorem zo_17 (e : gO G (zq S) (zpc S) = 17) : zoper G alt F S = ((0, zjump S (gU G (zq S) (zpc S)).toNatClampNeg, F)) := by unfold zoper; rw [e]; rfl
theorem zo_18 (e : gO G (zq S) (zpc S) = 18) : zoper G alt F S = (if zh S < 2 ∨ zpk S 0 < 0 ∨ zpk S 1 < 0 then zbrk F S else if isn (zpk S 1) ∧ isn (zpk S 0) then (0, zjump (zdrop S 2) (if zpk S 1 < zpk S 0 then (gU G (zq S) (zpc S)).toNatClampNeg else zpc S + 1), F) else (match alt with | none => (2, S, F) | some x => (0, zjump (zdrop S 2) (if x = 0 then (gU G (zq S) (zpc S)).toNatClampNeg else zpc S + 1), F))) := by unfold zoper; rw [e]; rfl
theorem zo_19 (e : gO G (zq S) (zpc S) = 19) : zoper G alt F S = (if zh S < 2 ∨ zpk S 0 < 0 ∨ zpk S 1 < 0 then zbrk F S else if isn (zpk S 1) ∧ isn (zpk S 0) then (0, zjump (zdrop S 2) (if zpk S 1 = zpk S 0 then (gU G (zq S) (zpc S)).toNatClampNeg else zpc S + 1), F) else (match alt with | none => (2, S, F) | some x => (0, zjump (zdrop S 2) (if x = 0 then (gU G (zq S) (zpc S)).toNatClampNeg else zpc S + 1), F))) := by unfold zoper; rw [e]; rfl
theorem zo_20 (e : gO G (zq S) (zpc S) = 20) : zoper G alt F S = (if zh S < 1 ∨ ¬ zpk S 0 < 0 then zbrk F S else (0, zjump (zdrop S 1) (if zpk S 0 = -1 then (gU G (zq S) (zpc S)).toNatClampNeg else zpc S + 1), F)) := by unfold zoper; rw [e]; rfl
theorem zo_21 (e : gO G (zq S) (zpc S) = 21) : zoper G alt F S = (if zh S < 1 ∨ zpk S 0 < 0 then zbrk F S else (match (if isn (zpk S 0) then some (zcl (zpk S 0)) else alt) with | none => (2, S, F) | some x => if x = 6 then zthr G F S 3 else if 5 < x ∨ zn S = 4 then zthr G F S 4 else (0, zfin (zarr S x) 1 (-2 - nI (zn S)), F))) := by unfold zoper; rw [e]; rfl
theorem zo_22 (e : gO G (zq S) (zpc S) = 22) : zoper G alt F S = (if zh S < 2 ∨ zpk S 0 < 0 ∨ ¬ zpk S 1 < 0 then zbrk F S else if zpk S 1 = -1 then zthr G F S 5 else (match (if isn (zpk S 0) then some (zci (zpk S 0) (zL S (zar (zpk S 1)))) else alt) with | none => (2, S, F) | some x => if x < zL S (zar (zpk S 1)) then (0, zfin S 2 (zE S (zar (zpk S 1)) x), F) else zthr G F S 2)) := by unfold zoper; rw [e]; rfl
theorem zo_23 (e : gO G (zq S) (zpc S) = 23) : zoper G alt F S = (if zh S < 3 ∨ zpk S 0 < 0 ∨ zpk S 1 < 0 ∨ ¬ zpk S 2 < 0 then zbrk F S else if zpk S 2 = -1 then zthr G F S 5 else (match (if isn (zpk S 1) then some (zci (zpk S 1) (zL S (zar (zpk S 2)))) else alt) with | none => (2, S, F) | some x => if x < zL S (zar (zpk S 2)) then (0, znext (zdrop (zset S (zar (zpk S 2)) x (zpk S 0)) 3), F) else zthr G F S 2)) := by unfold zoper; rw [e]; rfl
theorem zo_24 (e : gO G (zq S) (zpc S) = 24) : zoper G alt F S = (if zh S < 1 ∨ ¬ zpk S 0 < 0 then zbrk F S else if zpk S 0 = -1 then zthr G F S 5 else (0, zfin S 1 (nI (zL S (zar (zpk S 0))) + nI 128), F)) := by unfold zoper; rw [e]; rfl
theorem zo_25 (e : gO G (zq S) (zpc S) = 25) : zoper G alt F S = (if ¬ (gU G (zq S) (zpc S)).toNatClampNeg < G.1 ∨ gL G (gU G (zq S) (zpc S)).toNatClampNeg = 0 ∨ zh S < gA G (gU G (zq S) (zpc S)).toNatClampNeg ∨ 12 ≤ zh S - gA G (gU G (zq S) (zpc S)).toNatClampNeg then zbrk F S else if zt S = 3 then zthr G F S 6 else (0, zcall S (gU G (zq S) (zpc S)).toNatClampNeg (gA G (gU G (zq S) (zpc S)).toNatClampNeg), F)) := by unfold zoper; rw [e]; rfl
theorem zo_26 (e : gO G (zq S) (zpc S) = 26) : zoper G alt F S = (if zh S < 1 then zbrk F S else if zt S = 0 then (1, zend (zret S (zpk S 0)) (if zpk S 0 < 0 then nI 2 else nI 1) (zplace S), F) else (0, zfin (zleave S) 0 (zpk S 0), F)) := by unfold zoper; rw [e]; rfl
theorem zo_27 (e : gO G (zq S) (zpc S) = 27) : zoper G alt F S = (zthr G F S (gU G (zq S) (zpc S)).toNatClampNeg) := by unfold zoper; rw [e]; rfl
theorem zo_28 (e : gO G (zq S) (zpc S) = 28) : zoper G alt F S = (if zh S = 12 then zbrk F S else (0, zfin S 0 (-1), F)) := by unfold zoper; rw [e]; rfl
theorem zo_29 (e : gO G (zq S) (zpc S) = 29) : zoper G alt F S = (if ¬ gU G (zq S) (zpc S) = 0 then (1, zend S (nI 6) (zplace S), F) else if zh S < 1 ∨ zpk S 0 < 0 then zbrk F S else zcm S 1 (z1 F (nI 29) (zpk S 0))) := by unfold zoper; rw [e]; rfl
end ZO
def tkN (K : Nat) : Nat := [0, 0, 1, 1, 1, 2, 2, 2, 2, 2, 2, 1, 2, 2, 2, 2, 2, 0, 2, 2, 1, 1, 2, 3, 1, 0, 1, 0, 0, 1].getD K 0
def lvN (K : Nat) : Nat := [1, 1, 0, 0, 2, 2, 1, 1, 1, 1, 1, 1, 1, 1, 1, 1, 1, 0, 0, 0, 0, 1, 1, 0, 1, 0, 0, 0, 1, 1].getD K 0
theorem tk_e : ∀ K, K < 30 → lw_takes K = nI (tkN K) ∧ lw_leaves K = nI (lvN K) ∧ tkN K ≤ 3 ∧ lvN K ≤ 2 := by decide
/-- a value of the wrong sort among the top c -/
def zws (S : zW) (rf : Prop) (c : Nat) : Prop := ∃ b, b < c ∧ ¬ (zpk S b < 0 ↔ b + 1 = c ∧ rf)
theorem zws1 {S : zW} {rf : Prop} : zws S rf 1 ↔ ¬ (zpk S 0 < 0 ↔ rf) := by
  constructor
  · rintro ⟨b, hb, e⟩
    obtain rfl : b = 0 := by omega
    simpa using e
  · intro e
    exact ⟨0, by decide, by simpa using e⟩
theorem zws2 {S : zW} {rf : Prop} : zws S rf 2 ↔ zpk S 0 < 0 ∨ ¬ (zpk S 1 < 0 ↔ rf) := by
  constructor
  · rintro ⟨b, hb, e⟩
    rcases (show b = 0 ∨ b = 1 by omega) with rfl | rfl
    · left; simpa using e
    · right; simpa using e
  · rintro (e | e)
    · exact ⟨0, by decide, by simpa using e⟩
    · exact ⟨1, by decide, by simpa using e⟩
theorem zws3 {S : zW} {rf : Prop} : zws S rf 3 ↔ zpk S 0 < 0 ∨ zpk S 1 < 0 ∨ ¬ (zpk S 2 < 0 ↔ rf) := by
  constructor
  · rintro ⟨b, hb, e⟩
    rcases (show b = 0 ∨ b = 1 ∨ b = 2 by omega) with rfl | rfl | rfl
    · left; simpa using e
    · right; left; simpa using e
    · right; right; simpa using e
  · rintro (e | e | e)
    · exact ⟨0, by decide, by simpa using e⟩
    · exact ⟨1, by decide, by simpa using e⟩
    · exact ⟨2, by decide, by simpa using e⟩
def rfo (K : Nat) : Prop := K = 20 ∨ K = 22 ∨ K = 23 ∨ K = 24
section CB
variable {w : Nat} {A0 I0 A I : HA} {S : zW} {F : zF} {G : zG}
theorem C_needsArray {Q : Int32 → Prop} {K : Nat} (hK : K < 30) (k1 : K = 22 ∨ K = 23 ∨ K = 24 → Q (nI 1)) (k0 : ¬ (K = 22 ∨ K = 23 ∨ K = 24) → Q (nI 0)) : D55_needsArray (nI K) Q := by
  unfold D55_needsArray
  rw [iEq (by omega) (by decide), iEq (by omega) (by decide), iEq (by omega) (by decide)]
  split
  · exact k1 (by omega)
  · split
    · exact k1 (by omega)
    · split
      · exact k1 (by omega)
      · exact k0 (by omega)
theorem C_wrong {Q : Int32 → Prop} {K c : Nat} (h : GC w A0 I0 A I S F) (hK : K < 30) (hc : c ≤ zh S) (k1 : zws S (rfo K) c → Q (nI 1)) (k0 : ¬ zws S (rfo K) c → Q (nI 0)) : D61_hasWrongSort w (nI K) (nI c) A I Q := by
  have hz := h.wf.hi
  intro P hP
  have key : ∀ m i, m + i = c → (∀ b, b < i → (zpk S b < 0 ↔ b + 1 = c ∧ rfo K)) → P (nI i) := by
    intro m
    induction m with
    | zero =>
      intro i hi hb
      refine hP _ ?_
      rw [iLt (by omega) (by omega), if_neg (by omega)]
      exact k0 fun ⟨b, hb2, e⟩ => e (hb b (by omega))
    | succ m ih =>
      intro i hi hb
      have next : (zpk S i < 0 ↔ i + 1 = c ∧ rfo K) → P (nI i + nI 1) := fun e => by
        rw [nI_add]
        exact ih (i + 1) (by omega) (fun b hb2 => if z : b = i then z ▸ e else hb b (by omega))
      have bad : ¬ (zpk S i < 0 ↔ i + 1 = c ∧ rfo K) → Q (nI 1) := fun e => k1 ⟨i, by omega, e⟩
      refine hP _ ?_
      rw [iLt (by omega) (by omega), if_pos (by omega)]
      refine C_peek h (by omega) ?_
      rw [pk_sub (by omega)]
      by_cases e1 : zpk S i < 0
      · rw [if_pos e1, iEq (by omega) (by omega)]
        by_cases e2 : i = c - 1
        · rw [if_pos e2]
          refine C_needsArray hK (fun e3 => ?_) (fun e3 => ?_)
          · rw [i1]; exact next ⟨fun _ => ⟨by omega, Or.inr e3⟩, fun _ => e1⟩
          · rw [i0]
            by_cases e4 : K = 20
            · rw [iEq (by omega) (by decide), if_pos e4]; exact next ⟨fun _ => ⟨by omega, Or.inl e4⟩, fun _ => e1⟩
            · rw [iEq (by omega) (by decide), if_neg e4]; exact bad fun z => (z.mp e1).2.elim e4 e3
        · rw [if_neg e2]; exact bad fun z => e2 (by have := (z.mp e1).1; omega)
      · rw [if_neg e1, iEq (by omega) (by omega)]
        by_cases e2 : i = c - 1
        · rw [if_pos e2]
          refine C_needsArray hK (fun e3 => ?_) (fun e3 => ?_)
          · rw [i1]; exact bad fun z => e1 (z.mpr ⟨by omega, Or.inr e3⟩)
          · rw [i0]
            by_cases e4 : K = 20
            · rw [iEq (by omega) (by decide), if_pos e4]; exact bad fun z => e1 (z.mpr ⟨by omega, Or.inl e4⟩)
            · rw [iEq (by omega) (by decide), if_neg e4]; exact next ⟨fun z => absurd z e1, fun z => z.2.elim (fun y => absurd y e4) (fun y => absurd y e3)⟩
        · rw [if_neg e2]; exact next ⟨fun z => absurd z e1, fun z => absurd z.1 (by omega)⟩
  exact key c 0 (by omega) (fun b hb => absurd hb (by omega))
theorem C_any {Q : Int32 → Prop} {K : Nat} (hK : K < 30) (k1 : K ≤ 5 ∨ K = 25 ∨ K = 26 → Q (nI 1)) (k0 : ¬ (K ≤ 5 ∨ K = 25 ∨ K = 26) → Q (nI 0)) : D60_takesAnySort (nI K) Q := by
  unfold D60_takesAnySort
  rw [iLt (by omega) (by omega), iEq (by omega) (by decide), iEq (by omega) (by decide)]
  split
  · split
    · exact k1 (by omega)
    · split
      · exact k1 (by omega)
      · exact k0 (by omega)
  · exact k1 (by omega)
/-- not CALL, nor a NATIVE that stops -/
theorem C_isBroken {Q : Int32 → Prop} {K : Nat} {a : Int32} (h : GC w A0 I0 A I S F) (hg : gRC A0 I0 G) (hK : K < 30) (h25 : K ≠ 25) (h29 : K = 29 → a = 0) (ha : K = 1 → ∃ i, i < 6 ∧ a = nI i)
    (kb : zh S < tkN K ∨ 12 < zh S - tkN K + lvN K → Q (nI 1)) (kl : ∀ i, K = 1 → i < 6 → a = nI i → zh S < 12 → zV S (zt S) i = -100 → Q (nI 1)) (kl0 : ∀ i, K = 1 → i < 6 → a = nI i → zh S < 12 → ¬ zV S (zt S) i = -100 → Q (nI 0))
    (ky : tkN K ≤ zh S → zh S - tkN K + lvN K ≤ 12 → K ≤ 5 ∨ K = 26 → K ≠ 1 → Q (nI 0)) (kw : tkN K ≤ zh S → zh S - tkN K + lvN K ≤ 12 → ¬ (K ≤ 5 ∨ K = 26) → zws S (rfo K) (tkN K) → Q (nI 1)) (kw0 : tkN K ≤ zh S → zh S - tkN K + lvN K ≤ 12 → ¬ (K ≤ 5 ∨ K = 26) → ¬ zws S (rfo K) (tkN K) → Q (nI 0)) : D59_isBroken w (nI K) a A I Q := by
  have hz := h.wf.hi
  have g := h.low hg
  obtain ⟨t1, t2, t3, t4⟩ := tk_e K hK
  have body : vp_in (nI K) 30 ∧ (vp_in (nI K) 30 ∧ (if nI K = (nI 25) then D84_canBeCalled a A I (fun v8 => if v8 = 0 then Q (nI 1) else D85_argumentsOf a A I (fun v9 => D136_height w A I (fun v10 => if v10 < v9 then Q (nI 1) else D136_height w A I (fun v11 => if (nI 12) < ((v11 - v9) + (nI 1)) then Q (nI 1) else if nI K = (nI 1) then D137_localAt w a A I (fun v14 => if v14 = (-100) then Q (nI 1) else Q (nI 0)) else D60_takesAnySort (nI K) (fun v12 => if v12 = 0 then D61_hasWrongSort w (nI K) v9 A I (fun v13 => if v13 = 0 then Q (nI 0) else Q (nI 1)) else Q (nI 0)))))) else D136_height w A I (fun v3 => if v3 < (A 1 (nI K).toNatClampNeg) then Q (nI 1) else D136_height w A I (fun v4 => if (nI 12) < ((v4 - (A 1 (nI K).toNatClampNeg)) + (A 2 (nI K).toNatClampNeg)) then Q (nI 1) else if nI K = (nI 1) then D137_localAt w a A I (fun v7 => if v7 = (-100) then Q (nI 1) else Q (nI 0)) else D60_takesAnySort (nI K) (fun v5 => if v5 = 0 then D61_hasWrongSort w (nI K) (A 1 (nI K).toNatClampNeg) A I (fun v6 => if v6 = 0 then Q (nI 0) else Q (nI 1)) else Q (nI 0)))))) := by
    rw [vpT (by omega) (by decide), iEq (by omega) (by decide), if_neg h25, nI_clamp (by omega), g.2.1, g.2.2.1, t1, t2]
    refine ⟨trivial, trivial, C_height h ?_⟩
    rw [iLt (by omega) (by omega)]
    by_cases e1 : zh S < tkN K
    · rw [if_pos e1]; exact kb (Or.inl e1)
    · rw [if_neg e1]
      refine C_height h ?_
      rw [pk_sub (by omega), nI_add, iLt (by omega) (by omega)]
      by_cases e2 : 12 < zh S - tkN K + lvN K
      · rw [if_pos e2]; exact kb (Or.inr e2)
      · rw [if_neg e2, iEq (by omega) (by decide)]
        by_cases e3 : K = 1
        · obtain ⟨i, hi, rfl⟩ := ha e3
          rw [if_pos e3]
          have h12 : zh S < 12 := by subst e3; have e : zh S - 0 + 1 ≤ 12 := Nat.not_lt.mp e2; omega
          refine C_localAt h hi ?_
          by_cases e4 : zV S (zt S) i = -100
          · rw [if_pos e4]; exact kl i e3 hi rfl h12 e4
          · rw [if_neg e4]; exact kl0 i e3 hi rfl h12 e4
        · rw [if_neg e3]
          refine C_any hK (fun e4 => ?_) (fun e4 => ?_)
          · rw [i1]; clear ha; exact ky (by omega) (by omega) (by omega) e3
          · rw [i0]
            clear ha
            have p1 : tkN K ≤ zh S := by omega
            have p2 : zh S - tkN K + lvN K ≤ 12 := by omega
            have p3 : ¬ (K ≤ 5 ∨ K = 26) := by omega
            refine C_wrong h hK p1 (fun e5 => ?_) (fun e5 => ?_)
            · rw [i1]; exact kw p1 p2 p3 e5
            · rw [i0]; exact kw0 p1 p2 p3 e5
  unfold D59_isBroken
  rw [iEq (by omega) (by decide)]
  by_cases e : K = 29
  · rw [if_pos e, h29 e, if_pos rfl]
    rw [h29 e] at body
    exact body
  · rw [if_neg e]; exact body
end CB
