/-! WHAT A SPLIT IS, and a way taken up again -/
def n2 (r : Nat × zW × zF) : Prop := ¬ r.1 = 2
theorem n2.ite {c : Prop} [Decidable c] {a b : Nat × zW × zF} (h1 : n2 a) (h2 : n2 b) : n2 (if c then a else b) := by split <;> assumption
theorem n2.brk {F : zF} {S : zW} : n2 (zbrk F S) := by intro y; cases y
theorem n2.go {X : zW} {F : zF} : n2 (0, X, F) := by intro y; cases y
theorem n2.e {X : zW} {F : zF} : n2 (1, X, F) := by intro y; cases y
theorem n2.cm {S : zW} {c : Nat} {v : Int32 × zF} : n2 (zcm S c v) := by unfold zcm; exact n2.ite n2.e n2.go
theorem n2.rai {G : zG} {kd : Nat} {pl : Int32} : ∀ (m : Nat) (S : zW), ¬ (zrai G kd pl m S).1 = 2
  | 0, S => by unfold zrai; split <;> (intro y; cases y)
  | m + 1, S => by
    unfold zrai
    split
    · intro y; cases y
    · exact n2.rai m _
theorem n2.thr {G : zG} {F : zF} {S : zW} {kd : Nat} : n2 (zthr G F S kd) := n2.rai _ _
section SPF
variable {G : zG} {F : zF} {S : zW} {alt : Option Nat}
/-- how long the array is that a GET or SET is at -/
def zln (K : Nat) (S : zW) : Nat := if K = 22 then zL S (zar (zpk S 1)) else if K = 23 then zL S (zar (zpk S 2)) else 0
theorem zop_n2 (hK : gO G (zq S) (zpc S) < 30) (ha : dcd (gO G (zq S) (zpc S)) → ∃ c, alt = some c) : n2 (zoper G alt F S) := by
  rcases (show gO G (zq S) (zpc S) = 0 ∨ gO G (zq S) (zpc S) = 1 ∨ gO G (zq S) (zpc S) = 2 ∨ gO G (zq S) (zpc S) = 3 ∨ gO G (zq S) (zpc S) = 4 ∨ gO G (zq S) (zpc S) = 5 ∨ gO G (zq S) (zpc S) = 6 ∨ gO G (zq S) (zpc S) = 7 ∨ gO G (zq S) (zpc S) = 8 ∨ gO G (zq S) (zpc S) = 9 ∨ gO G (zq S) (zpc S) = 10 ∨ gO G (zq S) (zpc S) = 11 ∨ gO G (zq S) (zpc S) = 12 ∨ gO G (zq S) (zpc S) = 13 ∨ gO G (zq S) (zpc S) = 14 ∨ gO G (zq S) (zpc S) = 15 ∨ gO G (zq S) (zpc S) = 16 ∨ gO G (zq S) (zpc S) = 17 ∨ gO G (zq S) (zpc S) = 18 ∨ gO G (zq S) (zpc S) = 19 ∨ gO G (zq S) (zpc S) = 20 ∨ gO G (zq S) (zpc S) = 21 ∨ gO G (zq S) (zpc S) = 22 ∨ gO G (zq S) (zpc S) = 23 ∨ gO G (zq S) (zpc S) = 24 ∨ gO G (zq S) (zpc S) = 25 ∨ gO G (zq S) (zpc S) = 26 ∨ gO G (zq S) (zpc S) = 27 ∨ gO G (zq S) (zpc S) = 28 ∨ gO G (zq S) (zpc S) = 29 by omega) with e | e | e | e | e | e | e | e | e | e | e | e | e | e | e | e | e | e | e | e | e | e | e | e | e | e | e | e | e | e
  · rw [zo_0 e]; exact n2.ite n2.brk n2.go
  · rw [zo_1 e]; exact n2.ite n2.brk n2.go
  · rw [zo_2 e]; exact n2.ite n2.brk n2.go
  · rw [zo_3 e]; exact n2.ite n2.brk n2.go
  · rw [zo_4 e]; exact n2.ite n2.brk n2.go
  · rw [zo_5 e]; exact n2.ite n2.brk n2.go
  · rw [zo_6 e]; exact n2.ite n2.brk n2.cm
  · rw [zo_7 e]; exact n2.ite n2.brk n2.cm
  · rw [zo_8 e]; exact n2.ite n2.brk n2.cm
  · obtain ⟨c, rfl⟩ := ha (by rw [e]; unfold dcd; omega)
    rw [zo_9 e]; exact n2.ite n2.brk (n2.ite (n2.ite n2.thr n2.cm) (n2.ite n2.cm n2.thr))
  · obtain ⟨c, rfl⟩ := ha (by rw [e]; unfold dcd; omega)
    rw [zo_10 e]; exact n2.ite n2.brk (n2.ite (n2.ite n2.thr n2.cm) (n2.ite n2.cm n2.thr))
  · rw [zo_11 e]; exact n2.ite n2.brk n2.cm
  · rw [zo_12 e]; exact n2.ite n2.brk n2.cm
  · rw [zo_13 e]; exact n2.ite n2.brk n2.cm
  · rw [zo_14 e]; exact n2.ite n2.brk n2.cm
  · rw [zo_15 e]; exact n2.ite n2.brk n2.cm
  · rw [zo_16 e]; exact n2.ite n2.brk n2.cm
  · rw [zo_17 e]; exact n2.go
  · obtain ⟨c, rfl⟩ := ha (by rw [e]; unfold dcd; omega)
    rw [zo_18 e]; exact n2.ite n2.brk (n2.ite n2.go n2.go)
  · obtain ⟨c, rfl⟩ := ha (by rw [e]; unfold dcd; omega)
    rw [zo_19 e]; exact n2.ite n2.brk (n2.ite n2.go n2.go)
  · rw [zo_20 e]; exact n2.ite n2.brk n2.go
  · obtain ⟨c, rfl⟩ := ha (by rw [e]; unfold dcd; omega)
    rw [zo_21 e]; exact n2.ite n2.brk (by (by_cases z : isn (zpk S 0) <;> first | rw [if_pos z] | rw [if_neg z]) <;> exact n2.ite n2.thr (n2.ite n2.thr n2.go))
  · obtain ⟨c, rfl⟩ := ha (by rw [e]; unfold dcd; omega)
    rw [zo_22 e]; exact n2.ite n2.brk (n2.ite n2.thr (by (by_cases z : isn (zpk S 0) <;> first | rw [if_pos z] | rw [if_neg z]) <;> exact n2.ite n2.go n2.thr))
  · obtain ⟨c, rfl⟩ := ha (by rw [e]; unfold dcd; omega)
    rw [zo_23 e]; exact n2.ite n2.brk (n2.ite n2.thr (by (by_cases z : isn (zpk S 1) <;> first | rw [if_pos z] | rw [if_neg z]) <;> exact n2.ite n2.go n2.thr))
  · rw [zo_24 e]; exact n2.ite n2.brk (n2.ite n2.thr n2.go)
  · rw [zo_25 e]; exact n2.ite n2.brk (n2.ite n2.thr n2.go)
  · rw [zo_26 e]; exact n2.ite n2.brk (n2.ite n2.e n2.go)
  · rw [zo_27 e]; exact n2.thr
  · rw [zo_28 e]; exact n2.ite n2.brk n2.go
  · rw [zo_29 e]; exact n2.ite n2.e (n2.ite n2.brk n2.cm)
/-- what a split is -/
def spl (G : zG) (F : zF) (S : zW) (K : Nat) : Prop := dcd K ∧ 0 < zh S ∧ (K = 18 ∨ K = 19 ∨ K = 23 → 1 < zh S) ∧ (∃ jl, zlf K S = nI jl ∧ jl < F.1) ∧ (∃ jr, zrt K S = nI jr ∧ jr < F.1) ∧ zln K S ≤ 5 ∧
  ((K = 9 ∨ K = 10) ∧ 2 ≤ zh S ∧ ¬ zpk S 0 < 0 ∧ ¬ zpk S 1 < 0 ∧ (∀ c, zoper G (some c) F S = if c = 0 then zcm S 2 (z2 F K (zpk S 1) (zpk S 0)) else zthr G F S 1)
   ∨ (K = 18 ∨ K = 19) ∧ 2 ≤ zh S ∧ (∀ c, zoper G (some c) F S = (0, zjump (zdrop S 2) (if c = 0 then (gU G (zq S) (zpc S)).toNatClampNeg else zpc S + 1), F))
   ∨ K = 21 ∧ 1 ≤ zh S ∧ (∀ c, zoper G (some c) F S = if c = 6 then zthr G F S 3 else if 5 < c ∨ zn S = 4 then zthr G F S 4 else (0, zfin (zarr S c) 1 (-2 - nI (zn S)), F))
   ∨ K = 22 ∧ 2 ≤ zh S ∧ (∃ j, j < zn S ∧ zpk S 1 = -2 - nI j ∧ zln K S = zL S j ∧ ∀ c, zoper G (some c) F S = if c < zL S j then (0, zfin S 2 (zE S j c), F) else zthr G F S 2)
   ∨ K = 23 ∧ 3 ≤ zh S ∧ (∃ j, j < zn S ∧ zpk S 2 = -2 - nI j ∧ zln K S = zL S j ∧ ∀ c, zoper G (some c) F S = if c < zL S j then (0, znext (zdrop (zset S j c (zpk S 0)) 3), F) else zthr G F S 2))
theorem spl_of (hg : gwf G) (hz : zwf S) (h : zok S F) (h8 : 258 ≤ F.1) (hN : F.1 < 2 ^ 31) (hp : zpc S < gL G (zq S)) (h2 : (zoper G none F S).1 = 2) : spl G F S (gO G (zq S) (zpc S)) := by
  have ho := ((hg.2.2 (zq S) hz.hi.2.1).2.2.1 (zpc S) hp).1
  have hn4 := hz.2.2.2.1
  by_cases hd : dcd (gO G (zq S) (zpc S))
  · have wd : ∀ b, b < zh S → ¬ zpk S b < 0 → ∃ j, zpk S b = nI j ∧ j < F.1 := fun b hb hv => by
      obtain ⟨j, hj, ej⟩ := h.wd hz hb hv
      exact ⟨j, ej, hj⟩
    have w128 : ∃ j, nI 128 = nI j ∧ j < F.1 := ⟨128, rfl, by omega⟩
    rcases hd with e | e | e | e | e | e | e
    · rw [zo_9 e] at h2
      by_cases c1 : zh S < 2 ∨ zpk S 0 < 0 ∨ zpk S 1 < 0
      · rw [if_pos c1] at h2; exact absurd h2 n2.brk
      rw [if_neg c1] at h2
      by_cases c2 : isn (zpk S 0)
      · rw [if_pos c2] at h2; exact absurd h2 (n2.ite n2.thr n2.cm)
      rw [if_neg c2] at h2
      have hh : 2 ≤ zh S := by omega
      have p0 : ¬ zpk S 0 < 0 := fun y => c1 (Or.inr (Or.inl y))
      have p1 : ¬ zpk S 1 < 0 := fun y => c1 (Or.inr (Or.inr y))
      rw [e]
      refine ⟨by unfold dcd; omega, by omega, fun z => by omega, by rw [show zlf 9 S = zpk S 0 from if_neg (by decide)]; exact wd 0 (by omega) p0, by rw [show zrt 9 S = nI 128 from if_neg (by decide)]; exact w128, by show 0 ≤ 5; decide, Or.inl ⟨by decide, hh, p0, p1, fun c => ?_⟩⟩
      rw [zo_9 e, if_neg c1, if_neg c2]
    · rw [zo_10 e] at h2
      by_cases c1 : zh S < 2 ∨ zpk S 0 < 0 ∨ zpk S 1 < 0
      · rw [if_pos c1] at h2; exact absurd h2 n2.brk
      rw [if_neg c1] at h2
      by_cases c2 : isn (zpk S 0)
      · rw [if_pos c2] at h2; exact absurd h2 (n2.ite n2.thr n2.cm)
      rw [if_neg c2] at h2
      have hh : 2 ≤ zh S := by omega
      have p0 : ¬ zpk S 0 < 0 := fun y => c1 (Or.inr (Or.inl y))
      have p1 : ¬ zpk S 1 < 0 := fun y => c1 (Or.inr (Or.inr y))
      rw [e]
      refine ⟨by unfold dcd; omega, by omega, fun z => by omega, by rw [show zlf 10 S = zpk S 0 from if_neg (by decide)]; exact wd 0 (by omega) p0, by rw [show zrt 10 S = nI 128 from if_neg (by decide)]; exact w128, by show 0 ≤ 5; decide, Or.inl ⟨by decide, hh, p0, p1, fun c => ?_⟩⟩
      rw [zo_10 e, if_neg c1, if_neg c2]
    · rw [zo_18 e] at h2
      by_cases c1 : zh S < 2 ∨ zpk S 0 < 0 ∨ zpk S 1 < 0
      · rw [if_pos c1] at h2; exact absurd h2 n2.brk
      rw [if_neg c1] at h2
      by_cases c2 : isn (zpk S 1) ∧ isn (zpk S 0)
      · rw [if_pos c2] at h2; exact absurd h2 n2.go
      rw [if_neg c2] at h2
      have hh : 2 ≤ zh S := by omega
      have p0 : ¬ zpk S 0 < 0 := fun y => c1 (Or.inr (Or.inl y))
      have p1 : ¬ zpk S 1 < 0 := fun y => c1 (Or.inr (Or.inr y))
      rw [e]
      refine ⟨by unfold dcd; omega, by omega, fun z => by omega, by rw [show zlf 18 S = zpk S 1 from if_pos (by decide)]; exact wd 1 (by omega) p1, by rw [show zrt 18 S = zpk S 0 from if_pos (by decide)]; exact wd 0 (by omega) p0, by show 0 ≤ 5; decide, Or.inr (Or.inl ⟨by decide, hh, fun c => ?_⟩)⟩
      rw [zo_18 e, if_neg c1, if_neg c2]
    · rw [zo_19 e] at h2
      by_cases c1 : zh S < 2 ∨ zpk S 0 < 0 ∨ zpk S 1 < 0
      · rw [if_pos c1] at h2; exact absurd h2 n2.brk
      rw [if_neg c1] at h2
      by_cases c2 : isn (zpk S 1) ∧ isn (zpk S 0)
      · rw [if_pos c2] at h2; exact absurd h2 n2.go
      rw [if_neg c2] at h2
      have hh : 2 ≤ zh S := by omega
      have p0 : ¬ zpk S 0 < 0 := fun y => c1 (Or.inr (Or.inl y))
      have p1 : ¬ zpk S 1 < 0 := fun y => c1 (Or.inr (Or.inr y))
      rw [e]
      refine ⟨by unfold dcd; omega, by omega, fun z => by omega, by rw [show zlf 19 S = zpk S 1 from if_pos (by decide)]; exact wd 1 (by omega) p1, by rw [show zrt 19 S = zpk S 0 from if_pos (by decide)]; exact wd 0 (by omega) p0, by show 0 ≤ 5; decide, Or.inr (Or.inl ⟨by decide, hh, fun c => ?_⟩)⟩
      rw [zo_19 e, if_neg c1, if_neg c2]
    · rw [zo_21 e] at h2
      by_cases c1 : zh S < 1 ∨ zpk S 0 < 0
      · rw [if_pos c1] at h2; exact absurd h2 n2.brk
      rw [if_neg c1] at h2
      by_cases c2 : isn (zpk S 0)
      · rw [if_pos c2] at h2; exact absurd h2 (n2.ite n2.thr (n2.ite n2.thr n2.go))
      have p0 : ¬ zpk S 0 < 0 := fun y => c1 (Or.inr y)
      rw [e]
      refine ⟨by unfold dcd; omega, by omega, fun z => by omega, by rw [show zlf 21 S = zpk S 0 from if_neg (by decide)]; exact wd 0 (by omega) p0, by rw [show zrt 21 S = nI 128 from if_neg (by decide)]; exact w128, by show 0 ≤ 5; decide, Or.inr (Or.inr (Or.inl ⟨rfl, by omega, fun c => ?_⟩))⟩
      rw [zo_21 e, if_neg c1, if_neg c2]
    · rw [zo_22 e] at h2
      by_cases c1 : zh S < 2 ∨ zpk S 0 < 0 ∨ ¬ zpk S 1 < 0
      · rw [if_pos c1] at h2; exact absurd h2 n2.brk
      rw [if_neg c1] at h2
      by_cases c3 : zpk S 1 = -1
      · rw [if_pos c3] at h2; exact absurd h2 n2.thr
      rw [if_neg c3] at h2
      by_cases c2 : isn (zpk S 0)
      · rw [if_pos c2] at h2; exact absurd h2 (n2.ite n2.go n2.thr)
      have hh : 2 ≤ zh S := by omega
      have p0 : ¬ zpk S 0 < 0 := fun y => c1 (Or.inr (Or.inl y))
      have pb : zpk S 1 < 0 := Decidable.byContradiction fun y => c1 (Or.inr (Or.inr y))
      rcases (h.pk (b := 1) (by omega)).ref pb hN with y | ⟨j, hj, y⟩
      · exact absurd y c3
      have ln : zln 22 S = zL S j := by unfold zln; rw [if_pos rfl]; rw [y, zar_nI (by omega)]
      rw [e]
      refine ⟨by unfold dcd; omega, by omega, fun z => by omega, by rw [show zlf 22 S = zpk S 0 from if_neg (by decide)]; exact wd 0 (by omega) p0, by rw [show zrt 22 S = nI 128 from if_neg (by decide)]; exact w128, by rw [ln]; exact hz.2.2.2.2.1 j hj, Or.inr (Or.inr (Or.inr (Or.inl ⟨rfl, hh, j, hj, y, ln, fun c => ?_⟩)))⟩
      rw [zo_22 e, if_neg c1, if_neg c3, if_neg c2, y, zar_nI (by omega)]
    · rw [zo_23 e] at h2
      by_cases c1 : zh S < 3 ∨ zpk S 0 < 0 ∨ zpk S 1 < 0 ∨ ¬ zpk S 2 < 0
      · rw [if_pos c1] at h2; exact absurd h2 n2.brk
      rw [if_neg c1] at h2
      by_cases c3 : zpk S 2 = -1
      · rw [if_pos c3] at h2; exact absurd h2 n2.thr
      rw [if_neg c3] at h2
      by_cases c2 : isn (zpk S 1)
      · rw [if_pos c2] at h2; exact absurd h2 (n2.ite n2.go n2.thr)
      have hh : 3 ≤ zh S := by omega
      have p0 : ¬ zpk S 1 < 0 := fun y => c1 (Or.inr (Or.inr (Or.inl y)))
      have pb : zpk S 2 < 0 := Decidable.byContradiction fun y => c1 (Or.inr (Or.inr (Or.inr y)))
      rcases (h.pk (b := 2) (by omega)).ref pb hN with y | ⟨j, hj, y⟩
      · exact absurd y c3
      have ln : zln 23 S = zL S j := by unfold zln; rw [if_neg (by decide), if_pos rfl]; rw [y, zar_nI (by omega)]
      rw [e]
      refine ⟨by unfold dcd; omega, by omega, fun z => by omega, by rw [show zlf 23 S = zpk S 1 from if_pos (by decide)]; exact wd 1 (by omega) p0, by rw [show zrt 23 S = nI 128 from if_neg (by decide)]; exact w128, by rw [ln]; exact hz.2.2.2.2.1 j hj, Or.inr (Or.inr (Or.inr (Or.inr ⟨rfl, hh, j, hj, y, ln, fun c => ?_⟩)))⟩
      rw [zo_23 e, if_neg c1, if_neg c3, if_neg c2, y, zar_nI (by omega)]
  · exact absurd h2 (zop_n2 ho (fun z => absurd z hd))
theorem spl.si {K : Nat} (h : spl G F S K) : (zsi K S).1 = (if K = 21 then 8 else if K = 22 ∨ K = 23 then zln K S + 1 else 2) ∧ (zsi K S).2.1 = zlf K S ∧ (zsi K S).2.2 = (if K = 18 ∨ K = 19 then zrt K S else if K = 22 ∨ K = 23 then nI (zln K S) else -1) := by
  rcases h.1 with e | e | e | e | e | e | e <;> subst e <;> exact ⟨rfl, rfl, rfl⟩
theorem spl.lt {K : Nat} (h : spl G F S K) : (zsi K S).1 ≤ 8 ∧ 2 ≤ (zsi K S).1 + 1 := by
  have h5 := h.2.2.2.2.2.1
  rw [h.si.1]
  split
  · omega
  · split <;> omega
end SPF
section RS
variable {w : Nat} {A0 I0 A I : HA} {S : zW} {F : zF} {G : zG}
/-- the class takes a way up again, with the alternative that it is to take -/
theorem C_resume {Q : HA → HA → Prop} {c K : Nat} (h : GC w A0 I0 A I S F) (hg : gRC A0 I0 G) (hok : zok S F) (hN : F.1 < 32258) (hp : zpc S < gL G (zq S)) (hK : gO G (zq S) (zpc S) = K) (hs : spl G F S K) (hc : c < 8) (k : rC w A0 I0 (zoper G (some c) F S) Q) : D48_act w (nI K) (nI c) A I Q := by
  have h40 := g_pc hg h.wf hp
  rcases hs.2.2.2.2.2.2 with ⟨e, hh, p0, p1, z⟩ | ⟨e, hh, z⟩ | ⟨e, hh, z⟩ | ⟨e, hh, j, hj, y, ln, z⟩ | ⟨e, hh, j, hj, y, ln, z⟩
  · rw [z] at k
    exact C_actD h hg hok hN e (by omega) hh p0 p1 h40 k
  · rw [z] at k
    have hr := g_num hg h.wf hp hK
    have : ∃ n, n ≤ 39 ∧ gU G (zq S) (zpc S) = nI n := by
      rcases e with e | e <;> subst e <;> (obtain ⟨n, -, n2, en⟩ := rg_nat hr (by decide) (by decide); exact ⟨n, n2, en⟩)
    obtain ⟨n, hn, en⟩ := this
    rw [en, nI_clamp (by omega)] at k
    exact C_actL h hg hp e (by omega) hn en h40 k
  · rw [z] at k
    exact C_actN e h hg (by omega) hh h40 k
  · rw [z] at k
    exact C_actG e h hg (by omega) hh hj y h40 k
  · rw [z] at k
    exact C_actS e h hg (by omega) hh hj y h40 k
/-- goesToSplit at a way that has ended -/
theorem C_go0 {Q : Int32 → HA → HA → Prop} {bd : Nat} (h : GC w A0 I0 A I S F) (hg : gRC A0 I0 G) (hbd : bd ≤ 200) (hb : I0 20 15 = nI bd) (ho : ¬ zo S = 0) (k : Q (nI 0) A I) : D97_goesToSplit w A I Q := by
  have hf := h.1.far
  intro P hP
  refine hP _ _ _ ?_
  rw [h.2.2.2.2.2 20 15 (by omega) (by omega), hb, iLt (by decide) (by omega), if_neg (by omega)]
  exact C_come h hg hbd (fun _ => by rw [i0]; exact k) (fun z => absurd z ho) (fun z => absurd z ho) (fun z => absurd z ho)
end RS
