/-! A WAY TAKEN UP AGAIN, a plain run beside it; formulas stay good -/
theorem nbi {i : Nat} (h : i < 256) : (nI i - nI 128).toInt = (i : Int) - 128 := pk_sub_toInt (by omega) (by decide)
theorem nbz {i : Nat} (h : i < 256) : nI i - nI 128 = 0 ↔ i = 128 := by
  constructor
  · intro e
    have := congrArg Int32.toInt e
    rw [nbi h, show (0 : Int32).toInt = 0 from rfl] at this
    omega
  · intro e; rw [e]; decide
theorem nbl {i j : Nat} (hi : i < 256) (hj : j < 256) : nI i - nI 128 < nI j - nI 128 ↔ i < j := by
  rw [Int32.lt_iff_toInt_lt, nbi hi, nbi hj]; omega
theorem nbl0 {i : Nat} (hi : i < 256) : nI i - nI 128 < 0 ↔ i < 128 := by
  rw [Int32.lt_iff_toInt_lt, nbi hi, show (0 : Int32).toInt = 0 from rfl]; omega
theorem nbln {i n : Nat} (hi : i < 256) (hn : n < 2 ^ 30) : nI i - nI 128 < nI n ↔ i < 128 + n := by
  rw [Int32.lt_iff_toInt_lt, nbi hi, nI_toInt (by omega)]; omega
theorem nbg5 {i : Nat} (hi : i < 256) : nI 5 < nI i - nI 128 ↔ 133 < i := by
  rw [Int32.lt_iff_toInt_lt, nbi hi, nI_toInt (by decide)]; omega
theorem zch_cl {i n : Nat} {b : Int32} (hi : i < 256) : zch 21 (nI i - nI 128) b n = zcl (nI i) := by
  rw [zcl_nI hi]
  unfold zch
  rw [if_neg (by decide), if_neg (by decide), if_neg (by decide), if_pos rfl]
  by_cases c1 : i < 128
  · rw [if_pos c1, if_pos ((nbl0 hi).mpr c1)]
  rw [if_neg c1, if_neg (fun z => c1 ((nbl0 hi).mp z))]
  by_cases c2 : 133 < i
  · rw [if_pos c2, if_pos ((nbg5 hi).mpr c2)]
  rw [if_neg c2, if_neg (fun z => c2 ((nbg5 hi).mp z)), pk_sub (by omega), nI_clamp (by omega)]
theorem zch_ci {K i n : Nat} {b : Int32} (hK : K = 22 ∨ K = 23) (hi : i < 256) (hn : n ≤ 5) : zch K (nI i - nI 128) b n = zci (nI i) n := by
  rw [zci_nI hi hn]
  unfold zch
  rw [if_neg (by omega), if_neg (by omega), if_neg (by omega), if_neg (by omega)]
  by_cases c1 : i < 128
  · rw [if_pos c1, if_pos ((nbl0 hi).mpr c1)]
  rw [if_neg c1, if_neg (fun z => c1 ((nbl0 hi).mp z))]
  by_cases c2 : i < 128 + n
  · rw [if_pos c2, if_pos ((nbln hi (by omega)).mpr c2), pk_sub (by omega), nI_clamp (by omega)]
  rw [if_neg c2, if_neg (fun z => c2 ((nbln hi (by omega)).mp z))]
section SRs
variable {F : zF} {x y : Int32} {S P : zW} {G : zG}
theorem sim_res {K : Nat} {a b : Int32} (hg : gwf G) (hz : zwf S) (hok : zok S F) (h8 : 258 ≤ F.1) (hN : F.1 < 32258) (hw : zfw F) (hp : zpc S < gL G (zq S)) (h : sim F x y S P) (hK : gO G (zq S) (zpc S) = K) (h2 : (zoper G none F S).1 = 2) (ha : evs F x y (zlf K S).toNatClampNeg = some a) (hb : evs F x y (zrt K S).toNatClampNeg = some b) : sO x y (zoper G (some (zch K a b (zln K S))) F S) (fun F0 => zoper G none F0 P) := by
  have hs : spl G F S K := by rw [← hK]; exact spl_of hg hz hok h8 (by omega) hp h2
  have hN' : F.1 < 2 ^ 31 := by omega
  have n0 := (h.pk 0).neg hN'
  have n1 := (h.pk 1).neg hN'
  have n2 := (h.pk 2).neg hN'
  have e' : gO G (zq P) (zpc P) = K := by rw [h.q, h.pc]; exact hK
  have val : ∀ c v, ¬ zpk S c < 0 → evs F x y (zpk S c).toNatClampNeg = some v → ∃ i, i < 256 ∧ zpk P c = nI i ∧ v = nI i - nI 128 := by
    intro c v hc e
    obtain ⟨j, i, h1, h2, h3, h4, h5⟩ := (h.pk c).pos hc
    rw [h2, nI_clamp (by omega), h5] at e
    exact ⟨i, h3, h4, (Option.some.inj e).symm⟩
  have hn4 := hz.2.2.2.1
  have wdp : ∀ {v : Int32} {j : Nat}, v = nI j → j < F.1 → ¬ v < 0 := fun e hj => by rw [e]; exact nI_pos (by omega)
  obtain ⟨jl, el, hjl⟩ := hs.2.2.2.1
  obtain ⟨jr, er, hjr⟩ := hs.2.2.2.2.1
  rcases hs.2.2.2.2.2.2 with ⟨e, hh, p0, p1, z⟩ | ⟨e, hh, z⟩ | ⟨e, hh, z⟩ | ⟨e, hh, j, hj, yy, ln, z⟩ | ⟨e, hh, j, hj, yy, ln, z⟩
  · have elf : zlf K S = zpk S 0 := if_neg (by omega)
    rw [elf] at ha
    obtain ⟨i, hi, ei, ea⟩ := val 0 a p0 ha
    have c1 : ¬ (zh S < 2 ∨ zpk P 0 < 0 ∨ zpk P 1 < 0) := fun y => by
      rcases y with y | y | y
      · omega
      · exact p0 (n0.mp y)
      · exact p1 (n1.mp y)
    have eP : ∀ F0, zoper G none F0 P = if zpk P 0 = nI 128 then zthr G F0 P 1 else zcm P 2 (z2 F0 K (zpk P 1) (zpk P 0)) := fun F0 => by
      rcases e with e | e <;> subst e
      · rw [zo_9 e', h.hh, if_neg c1, if_pos (by rw [ei]; exact (isn_nI (by omega)).mpr hi)]
      · rw [zo_10 e', h.hh, if_neg c1, if_pos (by rw [ei]; exact (isn_nI (by omega)).mpr hi)]
    rw [z, show (fun F0 => zoper G none F0 P) = _ from funext eP]
    have ec : zch K a b (zln K S) = if i = 128 then 1 else 0 := by
      unfold zch
      rw [if_pos e, ea]
      by_cases q : i = 128
      · rw [if_pos q, if_pos ((nbz hi).mpr q)]
      · rw [if_neg q, if_neg (fun y => q ((nbz hi).mp y))]
    rw [ec]
    by_cases q : i = 128
    · rw [if_pos q, if_neg (by decide), show (fun F0 => if zpk P 0 = nI 128 then zthr G F0 P 1 else zcm P 2 (z2 F0 K (zpk P 1) (zpk P 0))) = (fun F0 => zthr G F0 P 1) from funext fun _ => if_pos (by rw [ei, q])]
      exact sO.thr h h8 (by decide)
    · have nq : ¬ zpk P 0 = nI 128 := by rw [ei]; exact fun y => q ((nI_eq (by omega) (by omega)).mp y)
      rw [if_neg q, if_pos rfl, show (fun F0 => if zpk P 0 = nI 128 then zthr G F0 P 1 else zcm P 2 (z2 F0 K (zpk P 1) (zpk P 0))) = (fun F0 => zcm P 2 (z2 F0 K (zpk P 1) (zpk P 0))) from funext fun _ => if_neg nq]
      exact sO.two h hw h8 hN ⟨by omega, by omega, by omega⟩ p0 p1 (fun _ => nq)
  · have elf : zlf K S = zpk S 1 := if_pos (by omega)
    have ert : zrt K S = zpk S 0 := if_pos e
    rw [elf] at ha el
    rw [ert] at hb er
    obtain ⟨i, hi, ei, ea⟩ := val 1 a (wdp el hjl) ha
    obtain ⟨k, hk, ek, eb⟩ := val 0 b (wdp er hjr) hb
    have c1 : ¬ (zh S < 2 ∨ zpk P 0 < 0 ∨ zpk P 1 < 0) := fun y => by
      rcases y with y | y | y
      · omega
      · exact wdp er hjr (n0.mp y)
      · exact wdp el hjl (n1.mp y)
    have in2 : isn (zpk P 1) ∧ isn (zpk P 0) := by rw [ei, ek]; exact ⟨(isn_nI (by omega)).mpr hi, (isn_nI (by omega)).mpr hk⟩
    rw [z]
    rcases e with e | e <;> subst e
    · have eP : ∀ F0, zoper G none F0 P = (0, zjump (zdrop P 2) (if i < k then (gU G (zq S) (zpc S)).toNatClampNeg else zpc S + 1), F0) := fun F0 => by
        rw [zo_18 e', h.hh, if_neg c1, if_pos in2, h.q, h.pc, ei, ek]
        by_cases q : i < k
        · rw [if_pos q, if_pos ((nI_ltI (by omega) (by omega)).mpr q)]
        · rw [if_neg q, if_neg (fun y => q ((nI_ltI (by omega) (by omega)).mp y))]
      have ec : zch 18 a b (zln 18 S) = if i < k then 0 else 1 := by
        unfold zch
        rw [if_neg (by decide), if_pos rfl, ea, eb]
        by_cases q : i < k
        · rw [if_pos q, if_pos ((nbl hi hk).mpr q)]
        · rw [if_neg q, if_neg (fun y => q ((nbl hi hk).mp y))]
      rw [ec, show (fun F0 => zoper G none F0 P) = _ from funext eP]
      by_cases q : i < k
      · rw [if_pos q, if_pos rfl, if_pos q]; exact sO.go (h.drop (c := 2)).jump
      · rw [if_neg q, if_neg (by decide), if_neg q]; exact sO.go (h.drop (c := 2)).jump
    · have eP : ∀ F0, zoper G none F0 P = (0, zjump (zdrop P 2) (if i = k then (gU G (zq S) (zpc S)).toNatClampNeg else zpc S + 1), F0) := fun F0 => by
        rw [zo_19 e', h.hh, if_neg c1, if_pos in2, h.q, h.pc, ei, ek]
        by_cases q : i = k
        · rw [if_pos q, if_pos (by rw [q])]
        · rw [if_neg q, if_neg (fun y => q ((nI_eq (by omega) (by omega)).mp y))]
      have ec : zch 19 a b (zln 19 S) = if i = k then 0 else 1 := by
        unfold zch
        rw [if_neg (by decide), if_neg (by decide), if_pos rfl, ea, eb]
        by_cases q : i = k
        · rw [if_pos q, if_pos (by rw [q])]
        · rw [if_neg q, if_neg (fun y => q (sub_inj hi hk y))]
      rw [ec, show (fun F0 => zoper G none F0 P) = _ from funext eP]
      by_cases q : i = k
      · rw [if_pos q, if_pos rfl, if_pos q]; exact sO.go (h.drop (c := 2)).jump
      · rw [if_neg q, if_neg (by decide), if_neg q]; exact sO.go (h.drop (c := 2)).jump
  · subst e
    have elf : zlf 21 S = zpk S 0 := if_neg (by decide)
    rw [elf] at ha el
    obtain ⟨i, hi, ei, ea⟩ := val 0 a (wdp el hjl) ha
    have c1 : ¬ (zh S < 1 ∨ zpk P 0 < 0) := fun y => by
      rcases y with y | y
      · omega
      · exact wdp el hjl (n0.mp y)
    have eP : ∀ F0, zoper G none F0 P = if zcl (nI i) = 6 then zthr G F0 P 3 else if 5 < zcl (nI i) ∨ zn S = 4 then zthr G F0 P 4 else (0, zfin (zarr P (zcl (nI i))) 1 (-2 - nI (zn S)), F0) := fun F0 => by
      rw [zo_21 e', h.hh, if_neg c1, ei, if_pos ((isn_nI (by omega)).mpr hi), h.2.1.1]
    rw [z, show (fun F0 => zoper G none F0 P) = _ from funext eP, ea, zch_cl hi]
    exact sO.ite Iff.rfl (fun _ => sO.thr h h8 (by decide)) (fun _ => sO.ite Iff.rfl (fun _ => sO.thr h h8 (by decide)) (fun z => sO.go ((h.arr h8).fin (vR.ng (ar_neg _ (by omega))))))
  · subst e
    have elf : zlf 22 S = zpk S 0 := if_neg (by decide)
    rw [elf] at ha el
    obtain ⟨i, hi, ei, ea⟩ := val 0 a (wdp el hjl) ha
    have hl := hz.2.2.2.2.1 j hj
    have ng : zpk S 1 < 0 := by rw [yy]; exact ar_neg j (by omega)
    have rf := (h.pk 1).ref ng hN'
    have c1 : ¬ (zh S < 2 ∨ zpk P 0 < 0 ∨ ¬ zpk P 1 < 0) := fun y => by
      rcases y with y | y | y
      · omega
      · exact wdp el hjl (n0.mp y)
      · exact y (n1.mpr ng)
    have eP : ∀ F0, zoper G none F0 P = if zci (nI i) (zL S j) < zL S j then (0, zfin P 2 (zE P j (zci (nI i) (zL S j))), F0) else zthr G F0 P 2 := fun F0 => by
      rw [zo_22 e', h.hh, if_neg c1, rf, yy, if_neg (ar_n1 j (by omega)), ei, if_pos ((isn_nI (by omega)).mpr hi), zar_nI (by omega), h.2.1.2.1]
    rw [z, show (fun F0 => zoper G none F0 P) = _ from funext eP, ea, ln, zch_ci (Or.inl rfl) hi hl]
    exact sO.ite Iff.rfl (fun _ => sO.go (h.fin (h.2.1.2.2 _ _))) (fun _ => sO.thr h h8 (by decide))
  · subst e
    have elf : zlf 23 S = zpk S 1 := if_pos (by decide)
    rw [elf] at ha el
    obtain ⟨i, hi, ei, ea⟩ := val 1 a (wdp el hjl) ha
    have hl := hz.2.2.2.2.1 j hj
    have ng : zpk S 2 < 0 := by rw [yy]; exact ar_neg j (by omega)
    have rf := (h.pk 2).ref ng hN'
    have p0 : ¬ zpk S 0 < 0 := by
      intro q
      rw [zo_23 hK, if_pos (Or.inr (Or.inl q))] at h2
      exact absurd h2 (by intro z; cases z)
    have c1 : ¬ (zh S < 3 ∨ zpk P 0 < 0 ∨ zpk P 1 < 0 ∨ ¬ zpk P 2 < 0) := fun y => by
      rcases y with y | y | y | y
      · omega
      · exact p0 (n0.mp y)
      · exact wdp el hjl (n1.mp y)
      · exact y (n2.mpr ng)
    have eP : ∀ F0, zoper G none F0 P = if zci (nI i) (zL S j) < zL S j then (0, znext (zdrop (zset P j (zci (nI i) (zL S j)) (zpk P 0)) 3), F0) else zthr G F0 P 2 := fun F0 => by
      rw [zo_23 e', h.hh, if_neg c1, rf, yy, if_neg (ar_n1 j (by omega)), ei, if_pos ((isn_nI (by omega)).mpr hi), zar_nI (by omega), h.2.1.2.1]
    rw [z, show (fun F0 => zoper G none F0 P) = _ from funext eP, ea, ln, zch_ci (Or.inr rfl) hi hl]
    exact sO.ite Iff.rfl (fun _ => sO.go (((h.set (h.pk 0)).drop (c := 3)).next)) (fun _ => sO.thr h h8 (by decide))
end SRs
section ZW
variable {F : zF} {S : zW} {G : zG} {alt : Option Nat}
/-- formulas that are good stay good, and the old ones as they were -/
def fk (F : zF) (r : Nat × zW × zF) : Prop := zfw r.2.2
theorem fk.s (hw : zfw F) {n : Nat} {X : zW} : fk F (n, X, F) := hw
theorem fk.thr (hw : zfw F) {kd : Nat} : fk F (zthr G F S kd) := hw
theorem fk.ite {c : Prop} [Decidable c] {a b : Nat × zW × zF} (h1 : c → fk F a) (h2 : ¬ c → fk F b) : fk F (if c then a else b) := by
  by_cases z : c
  · rw [if_pos z]; exact h1 z
  · rw [if_neg z]; exact h2 z
theorem fk.cm {c : Nat} {v : Int32 × zF} (h : zfw v.2) : fk F (zcm S c v) := by unfold zcm; split <;> exact h
theorem zoper_fw (hg : gwf G) (hz : zwf S) (hok : zok S F) (h8 : 258 ≤ F.1) (hN : F.1 < 32258) (hw : zfw F) (hp : zpc S < gL G (zq S)) : zfw (zoper G alt F S).2.2 := by
  have ho := ((hg.2.2 (zq S) hz.hi.2.1).2.2.1 (zpc S) hp).1
  show fk F (zoper G alt F S)
  have wd : ∀ b, b < zh S → ¬ zpk S b < 0 → wdv F (zpk S b) := fun b hb hv => hok.wd hz hb hv
  rcases (show gO G (zq S) (zpc S) = 0 ∨ gO G (zq S) (zpc S) = 1 ∨ gO G (zq S) (zpc S) = 2 ∨ gO G (zq S) (zpc S) = 3 ∨ gO G (zq S) (zpc S) = 4 ∨ gO G (zq S) (zpc S) = 5 ∨ gO G (zq S) (zpc S) = 6 ∨ gO G (zq S) (zpc S) = 7 ∨ gO G (zq S) (zpc S) = 8 ∨ gO G (zq S) (zpc S) = 9 ∨ gO G (zq S) (zpc S) = 10 ∨ gO G (zq S) (zpc S) = 11 ∨ gO G (zq S) (zpc S) = 12 ∨ gO G (zq S) (zpc S) = 13 ∨ gO G (zq S) (zpc S) = 14 ∨ gO G (zq S) (zpc S) = 15 ∨ gO G (zq S) (zpc S) = 16 ∨ gO G (zq S) (zpc S) = 17 ∨ gO G (zq S) (zpc S) = 18 ∨ gO G (zq S) (zpc S) = 19 ∨ gO G (zq S) (zpc S) = 20 ∨ gO G (zq S) (zpc S) = 21 ∨ gO G (zq S) (zpc S) = 22 ∨ gO G (zq S) (zpc S) = 23 ∨ gO G (zq S) (zpc S) = 24 ∨ gO G (zq S) (zpc S) = 25 ∨ gO G (zq S) (zpc S) = 26 ∨ gO G (zq S) (zpc S) = 27 ∨ gO G (zq S) (zpc S) = 28 ∨ gO G (zq S) (zpc S) = 29 by omega) with e | e | e | e | e | e | e | e | e | e | e | e | e | e | e | e | e | e | e | e | e | e | e | e | e | e | e | e | e | e
  · rw [zo_0 e]; exact fk.ite (fun _ => hw) (fun _ => hw)
  · rw [zo_1 e]; exact fk.ite (fun _ => hw) (fun _ => hw)
  · rw [zo_2 e]; exact fk.ite (fun _ => hw) (fun _ => hw)
  · rw [zo_3 e]; exact fk.ite (fun _ => hw) (fun _ => hw)
  · rw [zo_4 e]; exact fk.ite (fun _ => hw) (fun _ => hw)
  · rw [zo_5 e]; exact fk.ite (fun _ => hw) (fun _ => hw)
  · rw [zo_6 e]; exact fk.ite (fun _ => hw) (fun c => fk.cm (zfw_2 hw h8 hN ⟨by decide, by decide, by decide⟩ (wd 1 (by omega) (fun z => c (Or.inr (Or.inr z)))) (wd 0 (by omega) (fun z => c (Or.inr (Or.inl z))))))
  · rw [zo_7 e]; exact fk.ite (fun _ => hw) (fun c => fk.cm (zfw_2 hw h8 hN ⟨by decide, by decide, by decide⟩ (wd 1 (by omega) (fun z => c (Or.inr (Or.inr z)))) (wd 0 (by omega) (fun z => c (Or.inr (Or.inl z))))))
  · rw [zo_8 e]; exact fk.ite (fun _ => hw) (fun c => fk.cm (zfw_2 hw h8 hN ⟨by decide, by decide, by decide⟩ (wd 1 (by omega) (fun z => c (Or.inr (Or.inr z)))) (wd 0 (by omega) (fun z => c (Or.inr (Or.inl z))))))
  · rw [zo_9 e]; exact fk.ite (fun _ => hw) (fun c => fk.ite (fun _ => fk.ite (fun _ => hw) (fun _ => fk.cm (zfw_2 hw h8 hN ⟨by decide, by decide, by decide⟩ (wd 1 (by omega) (fun z => c (Or.inr (Or.inr z)))) (wd 0 (by omega) (fun z => c (Or.inr (Or.inl z))))))) (fun _ => by cases alt with | none => exact hw | some x => exact fk.ite (fun _ => fk.cm (zfw_2 hw h8 hN ⟨by decide, by decide, by decide⟩ (wd 1 (by omega) (fun z => c (Or.inr (Or.inr z)))) (wd 0 (by omega) (fun z => c (Or.inr (Or.inl z)))))) (fun _ => hw)))
  · rw [zo_10 e]; exact fk.ite (fun _ => hw) (fun c => fk.ite (fun _ => fk.ite (fun _ => hw) (fun _ => fk.cm (zfw_2 hw h8 hN ⟨by decide, by decide, by decide⟩ (wd 1 (by omega) (fun z => c (Or.inr (Or.inr z)))) (wd 0 (by omega) (fun z => c (Or.inr (Or.inl z))))))) (fun _ => by cases alt with | none => exact hw | some x => exact fk.ite (fun _ => fk.cm (zfw_2 hw h8 hN ⟨by decide, by decide, by decide⟩ (wd 1 (by omega) (fun z => c (Or.inr (Or.inr z)))) (wd 0 (by omega) (fun z => c (Or.inr (Or.inl z)))))) (fun _ => hw)))
  · rw [zo_11 e]; exact fk.ite (fun _ => hw) (fun c => fk.cm (zfw_1 hw h8 hN (Or.inl rfl) (wd 0 (by omega) (fun z => c (Or.inr z)))))
  · rw [zo_12 e]; exact fk.ite (fun _ => hw) (fun c => fk.cm (zfw_2 hw h8 hN ⟨by decide, by decide, by decide⟩ (wd 1 (by omega) (fun z => c (Or.inr (Or.inr z)))) (wd 0 (by omega) (fun z => c (Or.inr (Or.inl z))))))
  · rw [zo_13 e]; exact fk.ite (fun _ => hw) (fun c => fk.cm (zfw_2 hw h8 hN ⟨by decide, by decide, by decide⟩ (wd 1 (by omega) (fun z => c (Or.inr (Or.inr z)))) (wd 0 (by omega) (fun z => c (Or.inr (Or.inl z))))))
  · rw [zo_14 e]; exact fk.ite (fun _ => hw) (fun c => fk.cm (zfw_2 hw h8 hN ⟨by decide, by decide, by decide⟩ (wd 1 (by omega) (fun z => c (Or.inr (Or.inr z)))) (wd 0 (by omega) (fun z => c (Or.inr (Or.inl z))))))
  · rw [zo_15 e]; exact fk.ite (fun _ => hw) (fun c => fk.cm (zfw_2 hw h8 hN ⟨by decide, by decide, by decide⟩ (wd 1 (by omega) (fun z => c (Or.inr (Or.inr z)))) (wd 0 (by omega) (fun z => c (Or.inr (Or.inl z))))))
  · rw [zo_16 e]; exact fk.ite (fun _ => hw) (fun c => fk.cm (zfw_2 hw h8 hN ⟨by decide, by decide, by decide⟩ (wd 1 (by omega) (fun z => c (Or.inr (Or.inr z)))) (wd 0 (by omega) (fun z => c (Or.inr (Or.inl z))))))
  · rw [zo_17 e]; exact hw
  · rw [zo_18 e]; exact fk.ite (fun _ => hw) (fun c => fk.ite (fun _ => hw) (fun _ => by cases alt with | none => exact hw | some x => exact hw))
  · rw [zo_19 e]; exact fk.ite (fun _ => hw) (fun c => fk.ite (fun _ => hw) (fun _ => by cases alt with | none => exact hw | some x => exact hw))
  · rw [zo_20 e]; exact fk.ite (fun _ => hw) (fun _ => hw)
  · rw [zo_21 e]; exact fk.ite (fun _ => hw) (fun c => by split <;> first | exact hw | exact fk.ite (fun _ => hw) (fun _ => fk.ite (fun _ => hw) (fun _ => hw)))
  · rw [zo_22 e]; exact fk.ite (fun _ => hw) (fun c => fk.ite (fun _ => hw) (fun _ => by split <;> first | exact hw | exact fk.ite (fun _ => hw) (fun _ => hw)))
  · rw [zo_23 e]; exact fk.ite (fun _ => hw) (fun c => fk.ite (fun _ => hw) (fun _ => by split <;> first | exact hw | exact fk.ite (fun _ => hw) (fun _ => hw)))
  · rw [zo_24 e]; exact fk.ite (fun _ => hw) (fun _ => fk.ite (fun _ => hw) (fun _ => hw))
  · rw [zo_25 e]; exact fk.ite (fun _ => hw) (fun _ => fk.ite (fun _ => hw) (fun _ => hw))
  · rw [zo_26 e]; exact fk.ite (fun _ => hw) (fun _ => fk.ite (fun _ => hw) (fun _ => hw))
  · rw [zo_27 e]; exact hw
  · rw [zo_28 e]; exact fk.ite (fun _ => hw) (fun _ => hw)
  · rw [zo_29 e]; exact fk.ite (fun _ => hw) (fun _ => fk.ite (fun _ => hw) (fun c => fk.cm (zfw_1 hw h8 hN (Or.inr rfl) (wd 0 (by omega) (fun z => c (Or.inr z))))))
end ZW
