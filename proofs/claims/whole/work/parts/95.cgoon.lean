/-! THE CLASS: goes on till there are enough paths -/
def zlp (G : zG) (bd ord most : Nat) : Nat → zS → zS
  | 0, s => s
  | n + 1, s => if (qP s).length < most ∧ 0 < (qW s).length then zlp G bd ord most n (zturn G bd ord s) else s
theorem zturn_mu {G : zG} {bd ord : Nat} {s : zS} : (qP (zturn G bd ord s)).length + qG (zturn G bd ord s) = (qP s).length + qG s + 1 := by
  unfold zturn zst
  split
  · show (qP s).length + (qG s + 1) = _
    omega
  · show (qP s ++ [_]).length + qG s = _
    rw [List.length_append]
    show (qP s).length + 1 + qG s = _
    omega
/-- what the turns keep, and how many there are at most -/
def tki (G : zG) (bd ord : Nat) (Inv : zS → Prop) : Prop := (∀ s, Inv s → (qP s).length < 100 → 0 < (qW s).length → tpr G bd ord s (zpr ord s) (zur G bd ord s) ∧ Inv (zturn G bd ord s)) ∧ ∀ s, Inv s → (qP s).length + qG s ≤ 40000 ∧ (qP s).length ≤ 100 ∧ (qW s).length ≤ 60
section CG
variable {A I : HA} {G : zG}
theorem C_goOn {Q : Int32 → HA → HA → Prop} {Inv : zS → Prop} {bd ord most n : Nat} {x : Int32} {ps ws sp : List Nat} {s : zS} (h : RCl A I [] ps ws sp s) (hg : gRC A I G) (hF : zFC A I (qF s)) (hbd : bd ≤ 200) (hb : I 20 15 = nI bd) (ho : ord ≤ 3) (h16 : I 20 16 = nI ord) (hx : (if nI 100 < x then nI 100 else x) = nI most) (hm : most ≤ 100) (hk : tki G bd ord Inv) (hi : Inv s) (hn : 40000 < (qP s).length + qG s + n)
    (k : ∀ A2 I2 ps' ws' sp', RCl A2 I2 [] ps' ws' sp' (zlp G bd ord most n s) → zFC A2 I2 (qF (zlp G bd ord most n s)) → frC A I A2 I2 → Q (nI (qP (zlp G bd ord most n s)).length) A2 I2) : D96_goOn x A I Q := by
  unfold D96_goOn
  intro P hP
  have key : ∀ (n i : Nat) (A1 I1 : HA) (ps ws sp : List Nat) (s : zS), RCl A1 I1 [] ps ws sp s → zFC A1 I1 (qF s) → Inv s → frC A I A1 I1 → i ≤ (qP s).length + qG s → 40000 < (qP s).length + qG s + n →
      (∀ A2 I2 ps' ws' sp', RCl A2 I2 [] ps' ws' sp' (zlp G bd ord most n s) → zFC A2 I2 (qF (zlp G bd ord most n s)) → frC A I A2 I2 → Q (nI (qP (zlp G bd ord most n s)).length) A2 I2) → P (nI i) A1 I1 := by
    intro n
    induction n with
    | zero => intro i A1 I1 ps ws sp s _ _ hi _ _ hn; have := (hk.2 s hi).1; omega
    | succ n ih =>
      intro i A1 I1 ps ws sp s h hF hi fr hi2 hn k
      have h4 := hk.2 s hi
      have n6 := h.2.2.1.2.2.2.2.2.1
      have n7 := h.2.2.1.2.2.2.2.2.2.1
      have n1 : ps.length = (qP s).length := h.2.2.1.1
      have n2 : ws.length = (qW s).length := h.2.2.1.2.1
      have e : zlp G bd ord most (n + 1) s = if (qP s).length < most ∧ 0 < (qW s).length then zlp G bd ord most n (zturn G bd ord s) else s := rfl
      refine hP _ _ _ ?_
      rw [iLt (by omega) (by decide), if_pos (by omega), hx, n6, n7, n1, n2, iLt (by omega) (by omega)]
      by_cases c1 : (qP s).length < most
      · rw [if_pos c1]
        by_cases c2 : 0 < (qW s).length
        · rw [if_pos (show (0 : Int32) < nI (qW s).length from (nI_ltI (a := 0) (by decide) (by omega)).mpr c2)]
          rw [e, if_pos ⟨c1, c2⟩] at k
          obtain ⟨t1, t2⟩ := hk.1 s hi (by omega) c2
          have mu := zturn_mu (G := G) (bd := bd) (ord := ord) (s := s)
          have tb : TB (fun A2 I2 => P (nI i + nI 1) A2 I2) A1 I1 := C_turn h (hg.mv (fun a ha => fr.1 a (by omega)) (fr.2.1 _ _ (by omega))) hF hbd (by rw [fr.2.2 15 (by omega)]; exact hb) ho (by rw [fr.2.2 16 (by omega)]; exact h16) t1 (fun A2 I2 ps' ws' sp' h2 f2 fr2 => by
            rw [nI_add]
            exact ih (i + 1) A2 I2 ps' ws' sp' _ h2 f2 t2 (fr.tr fr2) (by omega) (by omega) k)
          exact tb
        · rw [if_neg (show ¬ (0 : Int32) < nI (qW s).length from fun z => c2 ((nI_ltI (a := 0) (by decide) (by omega)).mp z))]
          rw [e, if_neg (fun z => c2 z.2)] at k
          exact k _ _ _ _ _ h hF fr
      · rw [if_neg c1]
        rw [e, if_neg (fun z => c1 z.1)] at k
        exact k _ _ _ _ _ h hF fr
  exact key n 0 A I ps ws sp s h hF hi frC.rf (Nat.zero_le _) hn k
end CG
