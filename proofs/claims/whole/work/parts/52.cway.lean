/-! THE CLASS's ways: contracts of what reads and moves a way, over the pure state -/
theorem iLt {a b : Nat} {x y : Prop} (ha : a < 2 ^ 31) (hb : b < 2 ^ 31) : (if nI a < nI b then x else y) = (if a < b then x else y) := by
  by_cases h : a < b
  · rw [if_pos h, if_pos ((nI_ltI ha hb).mpr h)]
  · rw [if_neg h, if_neg fun e => h ((nI_ltI ha hb).mp e)]
theorem iEq {a b : Nat} {x y : Prop} (ha : a < 2 ^ 31) (hb : b < 2 ^ 31) : (if nI a = nI b then x else y) = (if a = b then x else y) := by
  by_cases h : a = b
  · rw [if_pos h, if_pos ((nI_eq ha hb).mpr h)]
  · rw [if_neg h, if_neg fun e => h ((nI_eq ha hb).mp e)]
theorem iEq0 {a : Nat} {x y : Prop} (ha : a < 2 ^ 31) : (if nI a = 0 then x else y) = (if a = 0 then x else y) := iEq (b := 0) ha (by decide)
theorem iLt0 {a : Nat} {x y : Prop} (ha : a < 2 ^ 31) : (if nI a < 0 then x else y) = y := if_neg (nI_pos ha)
theorem iNg {a : Nat} {c : Int32} {x y : Prop} (ha : a < 2 ^ 31) (hc : c < 0) : (if nI a = c then x else y) = y := if_neg (fun (e : nI a = c) => nI_pos ha (by rw [e]; exact hc))
theorem iSn {a b : Nat} {x y : Prop} (h : a < b) (hb : b < 2 ^ 30) : (if nI a - nI b < 0 then x else y) = x := if_pos (of_eq_true (sub_neg h hb))
theorem i1 {x y : Prop} : (if nI 1 = 0 then x else y) = y := if_neg (by decide)
theorem i0 {x y : Prop} : (if nI 0 = 0 then x else y) = x := if_pos (by decide)
section CW
variable {w : Nat} {A0 I0 A I : HA} {S : zW} {F : zF}
theorem C_methodNow {Q : Int32 → Prop} (h : GC w A0 I0 A I S F) (k : Q (nI (zq S))) : D127_methodNow w A I Q := by
  have hz := h.wf.hi
  unfold D127_methodNow
  rw [h.top, vpT (by omega) (by decide), nI_clamp (by omega), h.fr.1]
  exact ⟨trivial, k⟩
theorem C_operationNow {Q : Int32 → Prop} (h : GC w A0 I0 A I S F) (k : Q (nI (zpc S))) : D119_operationNow w A I Q := by
  have hz := h.wf.hi
  unfold D119_operationNow
  rw [h.top, vpT (by omega) (by decide), nI_clamp (by omega), h.fr.2.1]
  exact ⟨trivial, k⟩
theorem C_height {Q : Int32 → Prop} (h : GC w A0 I0 A I S F) (k : Q (nI (zh S))) : D136_height w A I Q := by
  have hz := h.wf.hi
  unfold D136_height
  rw [h.top, vpT (by omega) (by decide), nI_clamp (by omega), h.fr.2.2.1]
  exact ⟨trivial, k⟩
theorem C_placeNow {Q : Int32 → Prop} (h : GC w A0 I0 A I S F) (k : Q (zplace S)) : D123_placeNow w A I Q := by
  have hz := h.wf.hi
  unfold D123_placeNow
  rw [h.top, vpT (by omega) (by decide), nI_clamp (by omega), h.fr.1, h.fr.2.1, pk_mul, nI_add]
  exact ⟨trivial, trivial, k⟩
theorem C_slotNow {Q : Int32 → Prop} (h : GC w A0 I0 A I S F) (k : Q (nI (zq S * 40 + zpc S))) : D118_slotNow w A I Q := by
  have hz := h.wf.hi
  unfold D118_slotNow
  rw [h.top, vpT (by omega) (by decide), nI_clamp (by omega), h.fr.1, h.fr.2.1, pk_mul, nI_add]
  exact ⟨trivial, trivial, k⟩
theorem C_localAt {Q : Int32 → Prop} {i : Nat} (h : GC w A0 I0 A I S F) (hi : i < 6) (k : Q (zV S (zt S) i)) : D137_localAt w (nI i) A I Q := by
  have hz := h.wf.hi
  unfold D137_localAt
  rw [h.top, pk_mul, nI_add, vpT (by omega) (by decide), nI_clamp (by omega), h.fr.2.2.2 i (by omega)]
  exact ⟨trivial, k⟩
theorem C_peek {Q : Int32 → Prop} {b : Nat} (h : GC w A0 I0 A I S F) (hb : b < zh S) (k : Q (zpk S b)) : D122_peek w (nI b) A I Q := by
  have hz := h.wf.hi
  unfold D122_peek
  rw [h.top, vpT (by omega) (by decide), nI_clamp (by omega), h.fr.2.2.1, pk_sub (by omega), pk_sub (by omega), iLt0 (by omega), pk_mul, nI_add, nI_add, vpT (by omega) (by decide), nI_clamp (by omega), Nat.add_assoc, h.fr.2.2.2 _ (by omega)]
  exact ⟨trivial, trivial, k⟩
theorem C_peekE {Q : Int32 → Prop} {b : Nat} (h : GC w A0 I0 A I S F) (hb : zh S ≤ b) (hb2 : b < 100) (k : Q (-100)) : D122_peek w (nI b) A I Q := by
  have hz := h.wf.hi
  unfold D122_peek
  have e : nI (zh S) - nI 1 - nI b = nI (zh S) - nI (1 + b) := by rw [← nI_add, Int32.sub_sub]
  rw [h.top, vpT (by omega) (by decide), nI_clamp (by omega), h.fr.2.2.1, e, iSn (by omega) (by omega)]
  exact ⟨trivial, k⟩
theorem C_drop {Q : HA → HA → Prop} {c : Nat} (h : GC w A0 I0 A I S F) (hc : c < 100) (k : ∀ A', GC w A0 I0 A' I (zdrop S c) F → Q A' I) : D120_drop w (nI c) A I Q := by
  have hz := h.wf.hi
  have g : ∀ n, n = zh S - c → GC w A0 I0 (sA A (w + 3) (zt S) (nI n)) I (zdrop S c) F := fun n e => by
    subst e
    exact h.setA (by omega) (h.wf.H (by omega)) (repC_H h.2.2.1 _ _ (fun j hj => h.fr.2.2.2 j (by omega)))
  unfold D120_drop
  rw [h.top, vpT (by omega) (by decide), nI_clamp (by omega), h.fr.2.2.1, iLt (by omega) (by omega)]
  refine ⟨trivial, ?_⟩
  by_cases e : c < zh S
  · rw [if_pos e, pk_sub (by omega)]
    exact ⟨trivial, trivial, k _ (g _ rfl)⟩
  · rw [if_neg e]
    exact ⟨trivial, k _ (g 0 (by omega))⟩
theorem C_push {Q : HA → HA → Prop} {x : Int32} (h : GC w A0 I0 A I S F) (hh : zh S < 12) (k : ∀ A', GC w A0 I0 A' I (zpush S x) F → Q A' I) : D126_push w x A I Q := by
  have hz := h.wf.hi
  unfold D126_push
  rw [h.top, vpT (by omega) (by decide), nI_clamp (by omega), h.fr.2.2.1, iLt (by omega) (by omega), if_pos hh, pk_mul, nI_add, nI_add, vpT (by omega) (by decide), nI_clamp (by omega), sA_na (by omega), h.fr.2.2.1, nI_add]
  refine ⟨trivial, trivial, trivial, trivial, trivial, k _ ?_⟩
  have g : GC w A0 I0 (sA A (w + 4) (zt S * 18 + 6 + zh S) x) I (sV S (zt S) (6 + zh S) x) F := h.setA (by omega) h.wf.V (by rw [Nat.add_assoc]; exact repC_V h.2.2.1 h.wf _ _ _ (by omega))
  refine g.setA (by omega) (g.wf.H (by omega)) (repC_H g.2.2.1 _ _ (fun j hj => ?_))
  by_cases e : j = 6 + zh S
  · subst e
    rw [Nat.add_assoc, sA_e]
    exact u2_e.symm
  · rw [sA_n (Or.inr (by omega)), h.fr.2.2.2 j (by omega)]
    exact (u2_n (Or.inr e)).symm
theorem C_jump {Q : HA → HA → Prop} {p : Nat} (h : GC w A0 I0 A I S F) (hp : p ≤ 40) (k : ∀ A', GC w A0 I0 A' I (zjump S p) F → Q A' I) : D121_jump w (nI p) A I Q := by
  have hz := h.wf.hi
  unfold D121_jump
  rw [h.top, vpT (by omega) (by decide), nI_clamp (by omega)]
  exact ⟨trivial, k _ (h.setA (by omega) (h.wf.P hp) (repC_P h.2.2.1 _ _))⟩
theorem C_next {Q : HA → HA → Prop} (h : GC w A0 I0 A I S F) (hp : zpc S < 40) (k : ∀ A', GC w A0 I0 A' I (znext S) F → Q A' I) : D134_next w A I Q := by
  have hz := h.wf.hi
  unfold D134_next
  rw [h.top, vpT (by omega) (by decide), nI_clamp (by omega), h.fr.2.1, nI_add]
  exact ⟨trivial, trivial, k _ (h.setA (by omega) (h.wf.P (by omega)) (repC_P h.2.2.1 _ _))⟩
theorem C_keepLocal {Q : HA → HA → Prop} {i : Nat} {x : Int32} (h : GC w A0 I0 A I S F) (hi : i < 6) (k : ∀ A', GC w A0 I0 A' I (zloc S i x) F → Q A' I) : D138_keepLocal w (nI i) x A I Q := by
  have hz := h.wf.hi
  unfold D138_keepLocal
  rw [h.top, pk_mul, nI_add, vpT (by omega) (by decide), nI_clamp (by omega)]
  exact ⟨trivial, k _ (h.setA (by omega) h.wf.V (repC_V h.2.2.1 h.wf _ _ _ (by omega)))⟩
theorem C_finish {Q : HA → HA → Prop} {c : Nat} {x : Int32} (h : GC w A0 I0 A I S F) (hc : c < 100) (hh : zh S - c < 12) (hp : zpc S < 40) (k : ∀ A', GC w A0 I0 A' I (zfin S c x) F → Q A' I) : D125_finish w (nI c) x A I Q := by
  unfold D125_finish
  refine C_drop h hc (fun A1 h1 => C_push h1 (by show un (zH S) (zt S) (zh S - c) (zt S) < 12; rw [un_e]; exact hh) (fun A2 h2 => ?_))
  have hz := h2.wf.hi
  rw [h2.top, vpT (by omega) (by decide), nI_clamp (by omega), h2.fr.2.1, nI_add]
  exact ⟨trivial, trivial, k _ (h2.setA (by omega) (h2.wf.P (by show zpc S + 1 ≤ 40; omega)) (repC_P h2.2.2.1 _ _))⟩
theorem C_leave1 {Q : Int32 → HA → HA → Prop} (h : GC w A0 I0 A I S F) (ht : 0 < zt S) (k : ∀ I', GC w A0 I0 A I' (zleave S) F → Q (nI 1) A I') : D128_leave w A I Q := by
  have hz := h.wf.hi
  unfold D128_leave
  rw [h.top, iEq0 (by omega), if_neg (by omega), pk_sub (by omega)]
  exact k _ (h.setI (by omega) (h.wf.T (by omega)) (repC_T h.2.2.1 (by omega)))
theorem C_leave0 {Q : Int32 → HA → HA → Prop} (h : GC w A0 I0 A I S F) (ht : zt S = 0) (k : Q (nI 0) A I) : D128_leave w A I Q := by
  have hz := h.wf.hi
  unfold D128_leave
  rw [h.top, iEq0 (by omega), if_pos ht]
  exact k
theorem C_end {Q : HA → HA → Prop} {x y : Int32} (h : GC w A0 I0 A I S F) (k : ∀ I', GC w A0 I0 A I' (zend S x y) F → Q A I') : D124_end w x y A I Q := by
  unfold D124_end
  refine k _ ?_
  obtain ⟨hw, hz, h1, h2, h3, h4⟩ := h
  have hf := hw.far
  refine ⟨hw, hz, repC_end h1 x y, ?_, h3, fun b i n1 n2 => by rw [sI_n (by omega), sI_n (by omega)]; exact h4 b i n1 n2⟩
  unfold zFC at h2 ⊢
  rw [sI_na (by omega), sI_na (by omega)]
  exact h2
theorem C_isDeepest {Q : Int32 → Prop} (h : GC w A0 I0 A I S F) (k : Q (nI (if zt S = 3 then 1 else 0))) : D139_isDeepest w A I Q := by
  have hz := h.wf.hi
  unfold D139_isDeepest
  rw [h.top, iLt (by omega) (by omega)]
  by_cases e : zt S = 3
  · rw [if_neg (by omega)]; rw [if_pos e] at k; exact k
  · rw [if_pos (by omega)]; rw [if_neg e] at k; exact k
end CW
