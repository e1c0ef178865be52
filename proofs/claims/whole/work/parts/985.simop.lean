/-! EVERY OPERATION, a plain run beside a way's -/
section SQ
variable {F F2 : zF} {x y : Int32} {S P : zW} {G : zG}
theorem sO.ite {c c' : Prop} [Decidable c] [Decidable c'] {a b : Nat × zW × zF} {f g : zF → Nat × zW × zF} (hc : c' ↔ c) (h1 : c → sO x y a f) (h2 : ¬ c → sO x y b g) : sO x y (if c then a else b) (fun F0 => if c' then f F0 else g F0) := by
  by_cases z : c
  · rw [if_pos z, show (fun F0 => if c' then f F0 else g F0) = f from funext fun _ => if_pos (hc.mpr z)]; exact h1 z
  · rw [if_neg z, show (fun F0 => if c' then f F0 else g F0) = g from funext fun _ => if_neg (fun y => z (hc.mp y))]; exact h2 z
theorem sO.neg {c c' : Prop} [Decidable c] [Decidable c'] {a b : Nat × zW × zF} {f g : zF → Nat × zW × zF} (z : ¬ c) (z' : ¬ c') (h : sO x y b g) : sO x y (if c then a else b) (fun F0 => if c' then f F0 else g F0) := by
  rw [if_neg z, show (fun F0 => if c' then f F0 else g F0) = g from funext fun _ => if_neg z']; exact h
theorem or3 {a b c a' b' c' : Prop} (h1 : a' ↔ a) (h2 : b' ↔ b) (h3 : c' ↔ c) : a' ∨ b' ∨ c' ↔ a ∨ b ∨ c := by rw [h1, h2, h3]
theorem or2 {a b a' b' : Prop} (h1 : a' ↔ a) (h2 : b' ↔ b) : a' ∨ b' ↔ a ∨ b := by rw [h1, h2]
theorem or4 {a b c d a' b' c' d' : Prop} (h1 : a' ↔ a) (h2 : b' ↔ b) (h3 : c' ↔ c) (h4 : d' ↔ d) : a' ∨ b' ∨ c' ∨ d' ↔ a ∨ b ∨ c ∨ d := by rw [h1, h2, h3, h4]
theorem nt {a a' : Prop} (h : a' ↔ a) : ¬ a' ↔ ¬ a := by rw [h]

theorem sq_0 (hg : gwf G) (hz : zwf S) (hok : zok S F) (h8 : 258 ≤ F.1) (hN : F.1 < 32258) (hw : zfw F) (hp : zpc S < gL G (zq S)) (h : sim F x y S P) (e : gO G (zq S) (zpc S) = 0) : sO x y (zoper G none F S) (fun F0 => zoper G none F0 P) := by
  have hr := ((hg.2.2 (zq S) hz.hi.2.1).2.2.1 (zpc S) hp).2
  rw [e] at hr
  have hN' : F.1 < 2 ^ 31 := by omega
  have e' : gO G (zq P) (zpc P) = 0 := by rw [h.q, h.pc]; exact e
  have n0 := (h.pk 0).neg hN'
  have n1 := (h.pk 1).neg hN'
  have n2 := (h.pk 2).neg hN'
  have hn4 := hz.2.2.2.1
  rw [zo_0 e, show (fun F0 => zoper G none F0 P) = _ from funext fun F0 => zo_0 (F := F0) e']
  rw [h.q, h.pc, h.hh]
  refine sO.ite Iff.rfl (fun _ => sO.brk h) (fun _ => ?_)
  have ba : bR (gU G (zq S) (zpc S)) := by
    have h1 : (-128 : Int32).toInt ≤ (gU G (zq S) (zpc S)).toInt := Int32.le_iff_toInt_le.mp hr.1
    have h2 := Int32.le_iff_toInt_le.mp hr.2
    rw [nI_toInt (by decide)] at h2
    exact ⟨h1, h2⟩
  obtain ⟨j, hj, ej⟩ := nbA ba.1 ba.2
  rw [ej]
  exact sO.go (h.fin (vR.c hj h8))
theorem sq_1 (hg : gwf G) (hz : zwf S) (hok : zok S F) (h8 : 258 ≤ F.1) (hN : F.1 < 32258) (hw : zfw F) (hp : zpc S < gL G (zq S)) (h : sim F x y S P) (e : gO G (zq S) (zpc S) = 1) : sO x y (zoper G none F S) (fun F0 => zoper G none F0 P) := by
  have hr := ((hg.2.2 (zq S) hz.hi.2.1).2.2.1 (zpc S) hp).2
  rw [e] at hr
  have hN' : F.1 < 2 ^ 31 := by omega
  have e' : gO G (zq P) (zpc P) = 1 := by rw [h.q, h.pc]; exact e
  have n0 := (h.pk 0).neg hN'
  have n1 := (h.pk 1).neg hN'
  have n2 := (h.pk 2).neg hN'
  have hn4 := hz.2.2.2.1
  rw [zo_1 e, show (fun F0 => zoper G none F0 P) = _ from funext fun F0 => zo_1 (F := F0) e']
  rw [h.q, h.pc, h.hh]
  exact sO.ite (or2 Iff.rfl ((h.lc _).n100 hN')) (fun _ => sO.brk h) (fun _ => sO.go (h.fin (h.lc _)))
theorem sq_2 (hg : gwf G) (hz : zwf S) (hok : zok S F) (h8 : 258 ≤ F.1) (hN : F.1 < 32258) (hw : zfw F) (hp : zpc S < gL G (zq S)) (h : sim F x y S P) (e : gO G (zq S) (zpc S) = 2) : sO x y (zoper G none F S) (fun F0 => zoper G none F0 P) := by
  have hr := ((hg.2.2 (zq S) hz.hi.2.1).2.2.1 (zpc S) hp).2
  rw [e] at hr
  have hN' : F.1 < 2 ^ 31 := by omega
  have e' : gO G (zq P) (zpc P) = 2 := by rw [h.q, h.pc]; exact e
  have n0 := (h.pk 0).neg hN'
  have n1 := (h.pk 1).neg hN'
  have n2 := (h.pk 2).neg hN'
  have hn4 := hz.2.2.2.1
  rw [zo_2 e, show (fun F0 => zoper G none F0 P) = _ from funext fun F0 => zo_2 (F := F0) e']
  rw [h.q, h.pc, h.hh]
  exact sO.ite Iff.rfl (fun _ => sO.brk h) (fun _ => sO.go (((h.drop (c := 1)).loc (h.pk 0)).next))
theorem sq_3 (hg : gwf G) (hz : zwf S) (hok : zok S F) (h8 : 258 ≤ F.1) (hN : F.1 < 32258) (hw : zfw F) (hp : zpc S < gL G (zq S)) (h : sim F x y S P) (e : gO G (zq S) (zpc S) = 3) : sO x y (zoper G none F S) (fun F0 => zoper G none F0 P) := by
  have hr := ((hg.2.2 (zq S) hz.hi.2.1).2.2.1 (zpc S) hp).2
  rw [e] at hr
  have hN' : F.1 < 2 ^ 31 := by omega
  have e' : gO G (zq P) (zpc P) = 3 := by rw [h.q, h.pc]; exact e
  have n0 := (h.pk 0).neg hN'
  have n1 := (h.pk 1).neg hN'
  have n2 := (h.pk 2).neg hN'
  have hn4 := hz.2.2.2.1
  rw [zo_3 e, show (fun F0 => zoper G none F0 P) = _ from funext fun F0 => zo_3 (F := F0) e']
  rw [h.hh]
  exact sO.ite Iff.rfl (fun _ => sO.brk h) (fun _ => sO.go ((h.drop (c := 1)).next))
theorem sq_4 (hg : gwf G) (hz : zwf S) (hok : zok S F) (h8 : 258 ≤ F.1) (hN : F.1 < 32258) (hw : zfw F) (hp : zpc S < gL G (zq S)) (h : sim F x y S P) (e : gO G (zq S) (zpc S) = 4) : sO x y (zoper G none F S) (fun F0 => zoper G none F0 P) := by
  have hr := ((hg.2.2 (zq S) hz.hi.2.1).2.2.1 (zpc S) hp).2
  rw [e] at hr
  have hN' : F.1 < 2 ^ 31 := by omega
  have e' : gO G (zq P) (zpc P) = 4 := by rw [h.q, h.pc]; exact e
  have n0 := (h.pk 0).neg hN'
  have n1 := (h.pk 1).neg hN'
  have n2 := (h.pk 2).neg hN'
  have hn4 := hz.2.2.2.1
  rw [zo_4 e, show (fun F0 => zoper G none F0 P) = _ from funext fun F0 => zo_4 (F := F0) e']
  rw [h.hh]
  exact sO.ite Iff.rfl (fun _ => sO.brk h) (fun _ => sO.go ((((h.drop (c := 1)).push (h.pk 0)).push (h.pk 0)).next))
theorem sq_5 (hg : gwf G) (hz : zwf S) (hok : zok S F) (h8 : 258 ≤ F.1) (hN : F.1 < 32258) (hw : zfw F) (hp : zpc S < gL G (zq S)) (h : sim F x y S P) (e : gO G (zq S) (zpc S) = 5) : sO x y (zoper G none F S) (fun F0 => zoper G none F0 P) := by
  have hr := ((hg.2.2 (zq S) hz.hi.2.1).2.2.1 (zpc S) hp).2
  rw [e] at hr
  have hN' : F.1 < 2 ^ 31 := by omega
  have e' : gO G (zq P) (zpc P) = 5 := by rw [h.q, h.pc]; exact e
  have n0 := (h.pk 0).neg hN'
  have n1 := (h.pk 1).neg hN'
  have n2 := (h.pk 2).neg hN'
  have hn4 := hz.2.2.2.1
  rw [zo_5 e, show (fun F0 => zoper G none F0 P) = _ from funext fun F0 => zo_5 (F := F0) e']
  rw [h.hh]
  exact sO.ite Iff.rfl (fun _ => sO.brk h) (fun _ => sO.go ((((h.drop (c := 2)).push (h.pk 0)).push (h.pk 1)).next))
theorem sq_11 (hg : gwf G) (hz : zwf S) (hok : zok S F) (h8 : 258 ≤ F.1) (hN : F.1 < 32258) (hw : zfw F) (hp : zpc S < gL G (zq S)) (h : sim F x y S P) (e : gO G (zq S) (zpc S) = 11) : sO x y (zoper G none F S) (fun F0 => zoper G none F0 P) := by
  have hr := ((hg.2.2 (zq S) hz.hi.2.1).2.2.1 (zpc S) hp).2
  rw [e] at hr
  have hN' : F.1 < 2 ^ 31 := by omega
  have e' : gO G (zq P) (zpc P) = 11 := by rw [h.q, h.pc]; exact e
  have n0 := (h.pk 0).neg hN'
  have n1 := (h.pk 1).neg hN'
  have n2 := (h.pk 2).neg hN'
  have hn4 := hz.2.2.2.1
  rw [zo_11 e, show (fun F0 => zoper G none F0 P) = _ from funext fun F0 => zo_11 (F := F0) e']
  rw [h.hh]
  exact sO.ite (or2 Iff.rfl n0) (fun _ => sO.brk h) (fun c => sO.one h hw h8 hN (Or.inl rfl) (fun z => c (Or.inr z)))
theorem sq_29 (hg : gwf G) (hz : zwf S) (hok : zok S F) (h8 : 258 ≤ F.1) (hN : F.1 < 32258) (hw : zfw F) (hp : zpc S < gL G (zq S)) (h : sim F x y S P) (e : gO G (zq S) (zpc S) = 29) : sO x y (zoper G none F S) (fun F0 => zoper G none F0 P) := by
  have hr := ((hg.2.2 (zq S) hz.hi.2.1).2.2.1 (zpc S) hp).2
  rw [e] at hr
  have hN' : F.1 < 2 ^ 31 := by omega
  have e' : gO G (zq P) (zpc P) = 29 := by rw [h.q, h.pc]; exact e
  have n0 := (h.pk 0).neg hN'
  have n1 := (h.pk 1).neg hN'
  have n2 := (h.pk 2).neg hN'
  have hn4 := hz.2.2.2.1
  rw [zo_29 e, show (fun F0 => zoper G none F0 P) = _ from funext fun F0 => zo_29 (F := F0) e']
  rw [h.q, h.pc, h.hh]
  refine sO.ite Iff.rfl (fun _ => by rw [h.place]; exact sO.en (h.en (by decide))) (fun _ => sO.ite (or2 Iff.rfl n0) (fun _ => sO.brk h) (fun c => sO.one h hw h8 hN (Or.inr rfl) (fun z => c (Or.inr z))))
theorem sq_6 (hg : gwf G) (hz : zwf S) (hok : zok S F) (h8 : 258 ≤ F.1) (hN : F.1 < 32258) (hw : zfw F) (hp : zpc S < gL G (zq S)) (h : sim F x y S P) (e : gO G (zq S) (zpc S) = 6) : sO x y (zoper G none F S) (fun F0 => zoper G none F0 P) := by
  have hr := ((hg.2.2 (zq S) hz.hi.2.1).2.2.1 (zpc S) hp).2
  rw [e] at hr
  have hN' : F.1 < 2 ^ 31 := by omega
  have e' : gO G (zq P) (zpc P) = 6 := by rw [h.q, h.pc]; exact e
  have n0 := (h.pk 0).neg hN'
  have n1 := (h.pk 1).neg hN'
  have n2 := (h.pk 2).neg hN'
  have hn4 := hz.2.2.2.1
  rw [zo_6 e, show (fun F0 => zoper G none F0 P) = _ from funext fun F0 => zo_6 (F := F0) e']
  rw [h.hh]
  exact sO.ite (or3 Iff.rfl n0 n1) (fun _ => sO.brk h) (fun c => sO.two h hw h8 hN ⟨by decide, by decide, by decide⟩ (fun z => c (Or.inr (Or.inl z))) (fun z => c (Or.inr (Or.inr z))) (fun z => absurd z (by decide)))
theorem sq_7 (hg : gwf G) (hz : zwf S) (hok : zok S F) (h8 : 258 ≤ F.1) (hN : F.1 < 32258) (hw : zfw F) (hp : zpc S < gL G (zq S)) (h : sim F x y S P) (e : gO G (zq S) (zpc S) = 7) : sO x y (zoper G none F S) (fun F0 => zoper G none F0 P) := by
  have hr := ((hg.2.2 (zq S) hz.hi.2.1).2.2.1 (zpc S) hp).2
  rw [e] at hr
  have hN' : F.1 < 2 ^ 31 := by omega
  have e' : gO G (zq P) (zpc P) = 7 := by rw [h.q, h.pc]; exact e
  have n0 := (h.pk 0).neg hN'
  have n1 := (h.pk 1).neg hN'
  have n2 := (h.pk 2).neg hN'
  have hn4 := hz.2.2.2.1
  rw [zo_7 e, show (fun F0 => zoper G none F0 P) = _ from funext fun F0 => zo_7 (F := F0) e']
  rw [h.hh]
  exact sO.ite (or3 Iff.rfl n0 n1) (fun _ => sO.brk h) (fun c => sO.two h hw h8 hN ⟨by decide, by decide, by decide⟩ (fun z => c (Or.inr (Or.inl z))) (fun z => c (Or.inr (Or.inr z))) (fun z => absurd z (by decide)))
theorem sq_8 (hg : gwf G) (hz : zwf S) (hok : zok S F) (h8 : 258 ≤ F.1) (hN : F.1 < 32258) (hw : zfw F) (hp : zpc S < gL G (zq S)) (h : sim F x y S P) (e : gO G (zq S) (zpc S) = 8) : sO x y (zoper G none F S) (fun F0 => zoper G none F0 P) := by
  have hr := ((hg.2.2 (zq S) hz.hi.2.1).2.2.1 (zpc S) hp).2
  rw [e] at hr
  have hN' : F.1 < 2 ^ 31 := by omega
  have e' : gO G (zq P) (zpc P) = 8 := by rw [h.q, h.pc]; exact e
  have n0 := (h.pk 0).neg hN'
  have n1 := (h.pk 1).neg hN'
  have n2 := (h.pk 2).neg hN'
  have hn4 := hz.2.2.2.1
  rw [zo_8 e, show (fun F0 => zoper G none F0 P) = _ from funext fun F0 => zo_8 (F := F0) e']
  rw [h.hh]
  exact sO.ite (or3 Iff.rfl n0 n1) (fun _ => sO.brk h) (fun c => sO.two h hw h8 hN ⟨by decide, by decide, by decide⟩ (fun z => c (Or.inr (Or.inl z))) (fun z => c (Or.inr (Or.inr z))) (fun z => absurd z (by decide)))
theorem sq_12 (hg : gwf G) (hz : zwf S) (hok : zok S F) (h8 : 258 ≤ F.1) (hN : F.1 < 32258) (hw : zfw F) (hp : zpc S < gL G (zq S)) (h : sim F x y S P) (e : gO G (zq S) (zpc S) = 12) : sO x y (zoper G none F S) (fun F0 => zoper G none F0 P) := by
  have hr := ((hg.2.2 (zq S) hz.hi.2.1).2.2.1 (zpc S) hp).2
  rw [e] at hr
  have hN' : F.1 < 2 ^ 31 := by omega
  have e' : gO G (zq P) (zpc P) = 12 := by rw [h.q, h.pc]; exact e
  have n0 := (h.pk 0).neg hN'
  have n1 := (h.pk 1).neg hN'
  have n2 := (h.pk 2).neg hN'
  have hn4 := hz.2.2.2.1
  rw [zo_12 e, show (fun F0 => zoper G none F0 P) = _ from funext fun F0 => zo_12 (F := F0) e']
  rw [h.hh]
  exact sO.ite (or3 Iff.rfl n0 n1) (fun _ => sO.brk h) (fun c => sO.two h hw h8 hN ⟨by decide, by decide, by decide⟩ (fun z => c (Or.inr (Or.inl z))) (fun z => c (Or.inr (Or.inr z))) (fun z => absurd z (by decide)))
theorem sq_13 (hg : gwf G) (hz : zwf S) (hok : zok S F) (h8 : 258 ≤ F.1) (hN : F.1 < 32258) (hw : zfw F) (hp : zpc S < gL G (zq S)) (h : sim F x y S P) (e : gO G (zq S) (zpc S) = 13) : sO x y (zoper G none F S) (fun F0 => zoper G none F0 P) := by
  have hr := ((hg.2.2 (zq S) hz.hi.2.1).2.2.1 (zpc S) hp).2
  rw [e] at hr
  have hN' : F.1 < 2 ^ 31 := by omega
  have e' : gO G (zq P) (zpc P) = 13 := by rw [h.q, h.pc]; exact e
  have n0 := (h.pk 0).neg hN'
  have n1 := (h.pk 1).neg hN'
  have n2 := (h.pk 2).neg hN'
  have hn4 := hz.2.2.2.1
  rw [zo_13 e, show (fun F0 => zoper G none F0 P) = _ from funext fun F0 => zo_13 (F := F0) e']
  rw [h.hh]
  exact sO.ite (or3 Iff.rfl n0 n1) (fun _ => sO.brk h) (fun c => sO.two h hw h8 hN ⟨by decide, by decide, by decide⟩ (fun z => c (Or.inr (Or.inl z))) (fun z => c (Or.inr (Or.inr z))) (fun z => absurd z (by decide)))
theorem sq_14 (hg : gwf G) (hz : zwf S) (hok : zok S F) (h8 : 258 ≤ F.1) (hN : F.1 < 32258) (hw : zfw F) (hp : zpc S < gL G (zq S)) (h : sim F x y S P) (e : gO G (zq S) (zpc S) = 14) : sO x y (zoper G none F S) (fun F0 => zoper G none F0 P) := by
  have hr := ((hg.2.2 (zq S) hz.hi.2.1).2.2.1 (zpc S) hp).2
  rw [e] at hr
  have hN' : F.1 < 2 ^ 31 := by omega
  have e' : gO G (zq P) (zpc P) = 14 := by rw [h.q, h.pc]; exact e
  have n0 := (h.pk 0).neg hN'
  have n1 := (h.pk 1).neg hN'
  have n2 := (h.pk 2).neg hN'
  have hn4 := hz.2.2.2.1
  rw [zo_14 e, show (fun F0 => zoper G none F0 P) = _ from funext fun F0 => zo_14 (F := F0) e']
  rw [h.hh]
  exact sO.ite (or3 Iff.rfl n0 n1) (fun _ => sO.brk h) (fun c => sO.two h hw h8 hN ⟨by decide, by decide, by decide⟩ (fun z => c (Or.inr (Or.inl z))) (fun z => c (Or.inr (Or.inr z))) (fun z => absurd z (by decide)))
theorem sq_15 (hg : gwf G) (hz : zwf S) (hok : zok S F) (h8 : 258 ≤ F.1) (hN : F.1 < 32258) (hw : zfw F) (hp : zpc S < gL G (zq S)) (h : sim F x y S P) (e : gO G (zq S) (zpc S) = 15) : sO x y (zoper G none F S) (fun F0 => zoper G none F0 P) := by
  have hr := ((hg.2.2 (zq S) hz.hi.2.1).2.2.1 (zpc S) hp).2
  rw [e] at hr
  have hN' : F.1 < 2 ^ 31 := by omega
  have e' : gO G (zq P) (zpc P) = 15 := by rw [h.q, h.pc]; exact e
  have n0 := (h.pk 0).neg hN'
  have n1 := (h.pk 1).neg hN'
  have n2 := (h.pk 2).neg hN'
  have hn4 := hz.2.2.2.1
  rw [zo_15 e, show (fun F0 => zoper G none F0 P) = _ from funext fun F0 => zo_15 (F := F0) e']
  rw [h.hh]
  exact sO.ite (or3 Iff.rfl n0 n1) (fun _ => sO.brk h) (fun c => sO.two h hw h8 hN ⟨by decide, by decide, by decide⟩ (fun z => c (Or.inr (Or.inl z))) (fun z => c (Or.inr (Or.inr z))) (fun z => absurd z (by decide)))
theorem sq_16 (hg : gwf G) (hz : zwf S) (hok : zok S F) (h8 : 258 ≤ F.1) (hN : F.1 < 32258) (hw : zfw F) (hp : zpc S < gL G (zq S)) (h : sim F x y S P) (e : gO G (zq S) (zpc S) = 16) : sO x y (zoper G none F S) (fun F0 => zoper G none F0 P) := by
  have hr := ((hg.2.2 (zq S) hz.hi.2.1).2.2.1 (zpc S) hp).2
  rw [e] at hr
  have hN' : F.1 < 2 ^ 31 := by omega
  have e' : gO G (zq P) (zpc P) = 16 := by rw [h.q, h.pc]; exact e
  have n0 := (h.pk 0).neg hN'
  have n1 := (h.pk 1).neg hN'
  have n2 := (h.pk 2).neg hN'
  have hn4 := hz.2.2.2.1
  rw [zo_16 e, show (fun F0 => zoper G none F0 P) = _ from funext fun F0 => zo_16 (F := F0) e']
  rw [h.hh]
  exact sO.ite (or3 Iff.rfl n0 n1) (fun _ => sO.brk h) (fun c => sO.two h hw h8 hN ⟨by decide, by decide, by decide⟩ (fun z => c (Or.inr (Or.inl z))) (fun z => c (Or.inr (Or.inr z))) (fun z => absurd z (by decide)))
theorem sq_9 (hg : gwf G) (hz : zwf S) (hok : zok S F) (h8 : 258 ≤ F.1) (hN : F.1 < 32258) (hw : zfw F) (hp : zpc S < gL G (zq S)) (h : sim F x y S P) (e : gO G (zq S) (zpc S) = 9) (h2 : ¬ (zoper G none F S).1 = 2) : sO x y (zoper G none F S) (fun F0 => zoper G none F0 P) := by
  have hr := ((hg.2.2 (zq S) hz.hi.2.1).2.2.1 (zpc S) hp).2
  rw [e] at hr
  have hN' : F.1 < 2 ^ 31 := by omega
  have e' : gO G (zq P) (zpc P) = 9 := by rw [h.q, h.pc]; exact e
  have n0 := (h.pk 0).neg hN'
  have n1 := (h.pk 1).neg hN'
  have n2 := (h.pk 2).neg hN'
  have hn4 := hz.2.2.2.1
  rw [zo_9 e] at h2
  rw [zo_9 e, show (fun F0 => zoper G none F0 P) = _ from funext fun F0 => zo_9 (F := F0) e']
  rw [h.hh]
  by_cases c1 : zh S < 2 ∨ zpk S 0 < 0 ∨ zpk S 1 < 0
  · rw [if_pos c1]
    rw [show (fun F0 => if zh S < 2 ∨ zpk P 0 < 0 ∨ zpk P 1 < 0 then zbrk F0 P else _) = (fun F0 => zbrk F0 P) from funext fun _ => if_pos ((or3 Iff.rfl n0 n1).mpr c1)]
    exact sO.brk h
  rw [if_neg c1] at h2
  refine sO.neg c1 (fun z => c1 ((or3 Iff.rfl n0 n1).mp z)) ?_
  by_cases c2 : isn (zpk S 0)
  · have eq := (h.pk 0).eqn (fun z => c1 (Or.inr (Or.inl z))) c2 hN'
    refine sO.ite (by rw [eq]) (fun _ => ?_) (fun z => absurd c2 z)
    refine sO.ite (by rw [eq]) (fun _ => sO.thr h h8 (by decide)) (fun z => sO.two h hw h8 hN ⟨by decide, by decide, by decide⟩ (fun z => c1 (Or.inr (Or.inl z))) (fun z => c1 (Or.inr (Or.inr z))) (fun _ => by rw [eq]; exact z))
  · rw [if_neg c2] at h2; exact absurd rfl h2
theorem sq_10 (hg : gwf G) (hz : zwf S) (hok : zok S F) (h8 : 258 ≤ F.1) (hN : F.1 < 32258) (hw : zfw F) (hp : zpc S < gL G (zq S)) (h : sim F x y S P) (e : gO G (zq S) (zpc S) = 10) (h2 : ¬ (zoper G none F S).1 = 2) : sO x y (zoper G none F S) (fun F0 => zoper G none F0 P) := by
  have hr := ((hg.2.2 (zq S) hz.hi.2.1).2.2.1 (zpc S) hp).2
  rw [e] at hr
  have hN' : F.1 < 2 ^ 31 := by omega
  have e' : gO G (zq P) (zpc P) = 10 := by rw [h.q, h.pc]; exact e
  have n0 := (h.pk 0).neg hN'
  have n1 := (h.pk 1).neg hN'
  have n2 := (h.pk 2).neg hN'
  have hn4 := hz.2.2.2.1
  rw [zo_10 e] at h2
  rw [zo_10 e, show (fun F0 => zoper G none F0 P) = _ from funext fun F0 => zo_10 (F := F0) e']
  rw [h.hh]
  by_cases c1 : zh S < 2 ∨ zpk S 0 < 0 ∨ zpk S 1 < 0
  · rw [if_pos c1]
    rw [show (fun F0 => if zh S < 2 ∨ zpk P 0 < 0 ∨ zpk P 1 < 0 then zbrk F0 P else _) = (fun F0 => zbrk F0 P) from funext fun _ => if_pos ((or3 Iff.rfl n0 n1).mpr c1)]
    exact sO.brk h
  rw [if_neg c1] at h2
  refine sO.neg c1 (fun z => c1 ((or3 Iff.rfl n0 n1).mp z)) ?_
  by_cases c2 : isn (zpk S 0)
  · have eq := (h.pk 0).eqn (fun z => c1 (Or.inr (Or.inl z))) c2 hN'
    refine sO.ite (by rw [eq]) (fun _ => ?_) (fun z => absurd c2 z)
    refine sO.ite (by rw [eq]) (fun _ => sO.thr h h8 (by decide)) (fun z => sO.two h hw h8 hN ⟨by decide, by decide, by decide⟩ (fun z => c1 (Or.inr (Or.inl z))) (fun z => c1 (Or.inr (Or.inr z))) (fun _ => by rw [eq]; exact z))
  · rw [if_neg c2] at h2; exact absurd rfl h2
theorem sq_17 (hg : gwf G) (hz : zwf S) (hok : zok S F) (h8 : 258 ≤ F.1) (hN : F.1 < 32258) (hw : zfw F) (hp : zpc S < gL G (zq S)) (h : sim F x y S P) (e : gO G (zq S) (zpc S) = 17) : sO x y (zoper G none F S) (fun F0 => zoper G none F0 P) := by
  have hr := ((hg.2.2 (zq S) hz.hi.2.1).2.2.1 (zpc S) hp).2
  rw [e] at hr
  have hN' : F.1 < 2 ^ 31 := by omega
  have e' : gO G (zq P) (zpc P) = 17 := by rw [h.q, h.pc]; exact e
  have n0 := (h.pk 0).neg hN'
  have n1 := (h.pk 1).neg hN'
  have n2 := (h.pk 2).neg hN'
  have hn4 := hz.2.2.2.1
  rw [zo_17 e, show (fun F0 => zoper G none F0 P) = _ from funext fun F0 => zo_17 (F := F0) e']
  rw [h.q, h.pc]
  exact sO.go h.jump
theorem sq_18 (hg : gwf G) (hz : zwf S) (hok : zok S F) (h8 : 258 ≤ F.1) (hN : F.1 < 32258) (hw : zfw F) (hp : zpc S < gL G (zq S)) (h : sim F x y S P) (e : gO G (zq S) (zpc S) = 18) (h2 : ¬ (zoper G none F S).1 = 2) : sO x y (zoper G none F S) (fun F0 => zoper G none F0 P) := by
  have hr := ((hg.2.2 (zq S) hz.hi.2.1).2.2.1 (zpc S) hp).2
  rw [e] at hr
  have hN' : F.1 < 2 ^ 31 := by omega
  have e' : gO G (zq P) (zpc P) = 18 := by rw [h.q, h.pc]; exact e
  have n0 := (h.pk 0).neg hN'
  have n1 := (h.pk 1).neg hN'
  have n2 := (h.pk 2).neg hN'
  have hn4 := hz.2.2.2.1
  rw [zo_18 e] at h2
  rw [zo_18 e, show (fun F0 => zoper G none F0 P) = _ from funext fun F0 => zo_18 (F := F0) e']
  rw [h.q, h.pc, h.hh]
  by_cases c1 : zh S < 2 ∨ zpk S 0 < 0 ∨ zpk S 1 < 0
  · rw [if_pos c1]
    rw [show (fun F0 => if zh S < 2 ∨ zpk P 0 < 0 ∨ zpk P 1 < 0 then zbrk F0 P else _) = (fun F0 => zbrk F0 P) from funext fun _ => if_pos ((or3 Iff.rfl n0 n1).mpr c1)]
    exact sO.brk h
  rw [if_neg c1] at h2
  refine sO.neg c1 (fun z => c1 ((or3 Iff.rfl n0 n1).mp z)) ?_
  by_cases c2 : isn (zpk S 1) ∧ isn (zpk S 0)
  · have eq := (h.pk 0).eqn (fun z => c1 (Or.inr (Or.inl z))) c2.2 hN'
    have eq1 := (h.pk 1).eqn (fun z => c1 (Or.inr (Or.inr z))) c2.1 hN'
    refine sO.ite (by rw [eq, eq1]) (fun _ => ?_) (fun z => absurd c2 z)
    rw [eq, eq1]
    exact sO.go (h.drop (c := 2)).jump
  · rw [if_neg c2] at h2; exact absurd rfl h2
theorem sq_19 (hg : gwf G) (hz : zwf S) (hok : zok S F) (h8 : 258 ≤ F.1) (hN : F.1 < 32258) (hw : zfw F) (hp : zpc S < gL G (zq S)) (h : sim F x y S P) (e : gO G (zq S) (zpc S) = 19) (h2 : ¬ (zoper G none F S).1 = 2) : sO x y (zoper G none F S) (fun F0 => zoper G none F0 P) := by
  have hr := ((hg.2.2 (zq S) hz.hi.2.1).2.2.1 (zpc S) hp).2
  rw [e] at hr
  have hN' : F.1 < 2 ^ 31 := by omega
  have e' : gO G (zq P) (zpc P) = 19 := by rw [h.q, h.pc]; exact e
  have n0 := (h.pk 0).neg hN'
  have n1 := (h.pk 1).neg hN'
  have n2 := (h.pk 2).neg hN'
  have hn4 := hz.2.2.2.1
  rw [zo_19 e] at h2
  rw [zo_19 e, show (fun F0 => zoper G none F0 P) = _ from funext fun F0 => zo_19 (F := F0) e']
  rw [h.q, h.pc, h.hh]
  by_cases c1 : zh S < 2 ∨ zpk S 0 < 0 ∨ zpk S 1 < 0
  · rw [if_pos c1]
    rw [show (fun F0 => if zh S < 2 ∨ zpk P 0 < 0 ∨ zpk P 1 < 0 then zbrk F0 P else _) = (fun F0 => zbrk F0 P) from funext fun _ => if_pos ((or3 Iff.rfl n0 n1).mpr c1)]
    exact sO.brk h
  rw [if_neg c1] at h2
  refine sO.neg c1 (fun z => c1 ((or3 Iff.rfl n0 n1).mp z)) ?_
  by_cases c2 : isn (zpk S 1) ∧ isn (zpk S 0)
  · have eq := (h.pk 0).eqn (fun z => c1 (Or.inr (Or.inl z))) c2.2 hN'
    have eq1 := (h.pk 1).eqn (fun z => c1 (Or.inr (Or.inr z))) c2.1 hN'
    refine sO.ite (by rw [eq, eq1]) (fun _ => ?_) (fun z => absurd c2 z)
    rw [eq, eq1]
    exact sO.go (h.drop (c := 2)).jump
  · rw [if_neg c2] at h2; exact absurd rfl h2
theorem sq_20 (hg : gwf G) (hz : zwf S) (hok : zok S F) (h8 : 258 ≤ F.1) (hN : F.1 < 32258) (hw : zfw F) (hp : zpc S < gL G (zq S)) (h : sim F x y S P) (e : gO G (zq S) (zpc S) = 20) : sO x y (zoper G none F S) (fun F0 => zoper G none F0 P) := by
  have hr := ((hg.2.2 (zq S) hz.hi.2.1).2.2.1 (zpc S) hp).2
  rw [e] at hr
  have hN' : F.1 < 2 ^ 31 := by omega
  have e' : gO G (zq P) (zpc P) = 20 := by rw [h.q, h.pc]; exact e
  have n0 := (h.pk 0).neg hN'
  have n1 := (h.pk 1).neg hN'
  have n2 := (h.pk 2).neg hN'
  have hn4 := hz.2.2.2.1
  rw [zo_20 e, show (fun F0 => zoper G none F0 P) = _ from funext fun F0 => zo_20 (F := F0) e']
  rw [h.q, h.pc, h.hh]
  refine sO.ite (or2 Iff.rfl (nt n0)) (fun _ => sO.brk h) (fun c => ?_)
  by_cases z : zpk S 0 = -1
  · rw [if_pos z, if_pos (((h.pk 0).n1 hN').mpr z)]; exact sO.go (h.drop (c := 1)).jump
  · rw [if_neg z, if_neg (fun y => z (((h.pk 0).n1 hN').mp y))]; exact sO.go (h.drop (c := 1)).jump
theorem sq_21 (hg : gwf G) (hz : zwf S) (hok : zok S F) (h8 : 258 ≤ F.1) (hN : F.1 < 32258) (hw : zfw F) (hp : zpc S < gL G (zq S)) (h : sim F x y S P) (e : gO G (zq S) (zpc S) = 21) (h2 : ¬ (zoper G none F S).1 = 2) : sO x y (zoper G none F S) (fun F0 => zoper G none F0 P) := by
  have hr := ((hg.2.2 (zq S) hz.hi.2.1).2.2.1 (zpc S) hp).2
  rw [e] at hr
  have hN' : F.1 < 2 ^ 31 := by omega
  have e' : gO G (zq P) (zpc P) = 21 := by rw [h.q, h.pc]; exact e
  have n0 := (h.pk 0).neg hN'
  have n1 := (h.pk 1).neg hN'
  have n2 := (h.pk 2).neg hN'
  have hn4 := hz.2.2.2.1
  rw [zo_21 e] at h2
  rw [zo_21 e, show (fun F0 => zoper G none F0 P) = _ from funext fun F0 => zo_21 (F := F0) e']
  rw [h.hh]
  by_cases c1 : zh S < 1 ∨ zpk S 0 < 0
  · rw [if_pos c1]
    rw [show (fun F0 => if zh S < 1 ∨ zpk P 0 < 0 then zbrk F0 P else _) = (fun F0 => zbrk F0 P) from funext fun _ => if_pos ((or2 Iff.rfl n0).mpr c1)]
    exact sO.brk h
  rw [if_neg c1] at h2
  refine sO.neg c1 (fun z => c1 ((or2 Iff.rfl n0).mp z)) ?_
  by_cases c2 : isn (zpk S 0)
  · have eq := (h.pk 0).eqn (fun z => c1 (Or.inr z)) c2 hN'
    rw [eq, h.2.1.1, if_pos c2]
    exact sO.ite Iff.rfl (fun _ => sO.thr h h8 (by decide)) (fun _ => sO.ite Iff.rfl (fun _ => sO.thr h h8 (by decide)) (fun z => sO.go ((h.arr h8).fin (vR.ng (ar_neg _ (by omega))))))
  · rw [if_neg c2] at h2; exact absurd rfl h2
theorem sq_22 (hg : gwf G) (hz : zwf S) (hok : zok S F) (h8 : 258 ≤ F.1) (hN : F.1 < 32258) (hw : zfw F) (hp : zpc S < gL G (zq S)) (h : sim F x y S P) (e : gO G (zq S) (zpc S) = 22) (h2 : ¬ (zoper G none F S).1 = 2) : sO x y (zoper G none F S) (fun F0 => zoper G none F0 P) := by
  have hr := ((hg.2.2 (zq S) hz.hi.2.1).2.2.1 (zpc S) hp).2
  rw [e] at hr
  have hN' : F.1 < 2 ^ 31 := by omega
  have e' : gO G (zq P) (zpc P) = 22 := by rw [h.q, h.pc]; exact e
  have n0 := (h.pk 0).neg hN'
  have n1 := (h.pk 1).neg hN'
  have n2 := (h.pk 2).neg hN'
  have hn4 := hz.2.2.2.1
  rw [zo_22 e] at h2
  rw [zo_22 e, show (fun F0 => zoper G none F0 P) = _ from funext fun F0 => zo_22 (F := F0) e']
  rw [h.hh]
  by_cases c1 : zh S < 2 ∨ zpk S 0 < 0 ∨ ¬ zpk S 1 < 0
  · rw [if_pos c1]
    rw [show (fun F0 => if zh S < 2 ∨ zpk P 0 < 0 ∨ ¬ zpk P 1 < 0 then zbrk F0 P else _) = (fun F0 => zbrk F0 P) from funext fun _ => if_pos ((or3 Iff.rfl n0 (nt n1)).mpr c1)]
    exact sO.brk h
  rw [if_neg c1] at h2
  refine sO.neg c1 (fun z => c1 ((or3 Iff.rfl n0 (nt n1)).mp z)) ?_
  have rf := (h.pk 1).ref (Decidable.byContradiction fun z => c1 (Or.inr (Or.inr z))) hN'
  rw [rf, h.2.1.2.1]
  refine sO.ite Iff.rfl (fun _ => sO.thr h h8 (by decide)) (fun c3 => ?_)
  rw [if_neg c3] at h2
  by_cases c2 : isn (zpk S 0)
  · have eq := (h.pk 0).eqn (fun z => c1 (Or.inr (Or.inl z))) c2 hN'
    rw [eq, if_pos c2]
    exact sO.ite Iff.rfl (fun _ => sO.go (h.fin (h.2.1.2.2 _ _))) (fun _ => sO.thr h h8 (by decide))
  · rw [if_neg c2] at h2; exact absurd rfl h2
theorem sq_23 (hg : gwf G) (hz : zwf S) (hok : zok S F) (h8 : 258 ≤ F.1) (hN : F.1 < 32258) (hw : zfw F) (hp : zpc S < gL G (zq S)) (h : sim F x y S P) (e : gO G (zq S) (zpc S) = 23) (h2 : ¬ (zoper G none F S).1 = 2) : sO x y (zoper G none F S) (fun F0 => zoper G none F0 P) := by
  have hr := ((hg.2.2 (zq S) hz.hi.2.1).2.2.1 (zpc S) hp).2
  rw [e] at hr
  have hN' : F.1 < 2 ^ 31 := by omega
  have e' : gO G (zq P) (zpc P) = 23 := by rw [h.q, h.pc]; exact e
  have n0 := (h.pk 0).neg hN'
  have n1 := (h.pk 1).neg hN'
  have n2 := (h.pk 2).neg hN'
  have hn4 := hz.2.2.2.1
  rw [zo_23 e] at h2
  rw [zo_23 e, show (fun F0 => zoper G none F0 P) = _ from funext fun F0 => zo_23 (F := F0) e']
  rw [h.hh]
  by_cases c1 : zh S < 3 ∨ zpk S 0 < 0 ∨ zpk S 1 < 0 ∨ ¬ zpk S 2 < 0
  · rw [if_pos c1]
    rw [show (fun F0 => if zh S < 3 ∨ zpk P 0 < 0 ∨ zpk P 1 < 0 ∨ ¬ zpk P 2 < 0 then zbrk F0 P else _) = (fun F0 => zbrk F0 P) from funext fun _ => if_pos ((or4 Iff.rfl n0 n1 (nt n2)).mpr c1)]
    exact sO.brk h
  rw [if_neg c1] at h2
  refine sO.neg c1 (fun z => c1 ((or4 Iff.rfl n0 n1 (nt n2)).mp z)) ?_
  have rf := (h.pk 2).ref (Decidable.byContradiction fun z => c1 (Or.inr (Or.inr (Or.inr z)))) hN'
  rw [rf, h.2.1.2.1]
  refine sO.ite Iff.rfl (fun _ => sO.thr h h8 (by decide)) (fun c3 => ?_)
  rw [if_neg c3] at h2
  by_cases c2 : isn (zpk S 1)
  · have eq := (h.pk 1).eqn (fun z => c1 (Or.inr (Or.inr (Or.inl z)))) c2 hN'
    rw [eq, if_pos c2]
    exact sO.ite Iff.rfl (fun _ => sO.go (((h.set (h.pk 0)).drop (c := 3)).next)) (fun _ => sO.thr h h8 (by decide))
  · rw [if_neg c2] at h2; exact absurd rfl h2
theorem sq_24 (hg : gwf G) (hz : zwf S) (hok : zok S F) (h8 : 258 ≤ F.1) (hN : F.1 < 32258) (hw : zfw F) (hp : zpc S < gL G (zq S)) (h : sim F x y S P) (e : gO G (zq S) (zpc S) = 24) : sO x y (zoper G none F S) (fun F0 => zoper G none F0 P) := by
  have hr := ((hg.2.2 (zq S) hz.hi.2.1).2.2.1 (zpc S) hp).2
  rw [e] at hr
  have hN' : F.1 < 2 ^ 31 := by omega
  have e' : gO G (zq P) (zpc P) = 24 := by rw [h.q, h.pc]; exact e
  have n0 := (h.pk 0).neg hN'
  have n1 := (h.pk 1).neg hN'
  have n2 := (h.pk 2).neg hN'
  have hn4 := hz.2.2.2.1
  rw [zo_24 e, show (fun F0 => zoper G none F0 P) = _ from funext fun F0 => zo_24 (F := F0) e']
  rw [h.hh]
  refine sO.ite (or2 Iff.rfl (nt n0)) (fun _ => sO.brk h) (fun c => ?_)
  have ng : zpk S 0 < 0 := Decidable.byContradiction fun z => c (Or.inr z)
  have rf := (h.pk 0).ref ng hN'
  rw [rf, h.2.1.2.1]
  refine sO.ite Iff.rfl (fun _ => sO.thr h h8 (by decide)) (fun c3 => ?_)
  rcases (hok.pk (b := 0) (by omega)).ref ng hN' with z | ⟨j, hj, ej⟩
  · exact absurd z c3
  have hl := hz.2.2.2.2.1 j hj
  rw [ej, zar_nI (by omega), nI_add]
  exact sO.go (h.fin (vR.c (by omega) h8))
theorem sq_25 (hg : gwf G) (hz : zwf S) (hok : zok S F) (h8 : 258 ≤ F.1) (hN : F.1 < 32258) (hw : zfw F) (hp : zpc S < gL G (zq S)) (h : sim F x y S P) (e : gO G (zq S) (zpc S) = 25) : sO x y (zoper G none F S) (fun F0 => zoper G none F0 P) := by
  have hr := ((hg.2.2 (zq S) hz.hi.2.1).2.2.1 (zpc S) hp).2
  rw [e] at hr
  have hN' : F.1 < 2 ^ 31 := by omega
  have e' : gO G (zq P) (zpc P) = 25 := by rw [h.q, h.pc]; exact e
  have n0 := (h.pk 0).neg hN'
  have n1 := (h.pk 1).neg hN'
  have n2 := (h.pk 2).neg hN'
  have hn4 := hz.2.2.2.1
  rw [zo_25 e, show (fun F0 => zoper G none F0 P) = _ from funext fun F0 => zo_25 (F := F0) e']
  rw [h.q, h.pc, h.hh]
  exact sO.ite Iff.rfl (fun _ => sO.brk h) (fun _ => sO.ite (by rw [h.1.1]) (fun _ => sO.thr h h8 (by decide)) (fun _ => sO.go h.call))
theorem sq_26 (hg : gwf G) (hz : zwf S) (hok : zok S F) (h8 : 258 ≤ F.1) (hN : F.1 < 32258) (hw : zfw F) (hp : zpc S < gL G (zq S)) (h : sim F x y S P) (e : gO G (zq S) (zpc S) = 26) : sO x y (zoper G none F S) (fun F0 => zoper G none F0 P) := by
  have hr := ((hg.2.2 (zq S) hz.hi.2.1).2.2.1 (zpc S) hp).2
  rw [e] at hr
  have hN' : F.1 < 2 ^ 31 := by omega
  have e' : gO G (zq P) (zpc P) = 26 := by rw [h.q, h.pc]; exact e
  have n0 := (h.pk 0).neg hN'
  have n1 := (h.pk 1).neg hN'
  have n2 := (h.pk 2).neg hN'
  have hn4 := hz.2.2.2.1
  rw [zo_26 e, show (fun F0 => zoper G none F0 P) = _ from funext fun F0 => zo_26 (F := F0) e']
  rw [h.hh]
  refine sO.ite Iff.rfl (fun _ => sO.brk h) (fun _ => sO.ite (by rw [h.1.1]) (fun _ => ?_) (fun _ => sO.go (h.leave.fin (h.pk 0))))
  rw [h.place]
  by_cases z : zpk S 0 < 0
  · rw [if_pos z, if_pos (n0.mpr z)]
    exact sO.en ⟨h.2.2.1, rfl, rfl, h.2.2.2.2.2, fun y => absurd y (by show ¬ nI 2 = nI 1; decide)⟩
  · rw [if_neg z, if_neg (fun y => z (n0.mp y))]
    exact sO.en ⟨h.2.2.1, rfl, rfl, h.2.2.2.2.2, fun _ => h.pk 0⟩
theorem sq_27 (hg : gwf G) (hz : zwf S) (hok : zok S F) (h8 : 258 ≤ F.1) (hN : F.1 < 32258) (hw : zfw F) (hp : zpc S < gL G (zq S)) (h : sim F x y S P) (e : gO G (zq S) (zpc S) = 27) : sO x y (zoper G none F S) (fun F0 => zoper G none F0 P) := by
  have hr := ((hg.2.2 (zq S) hz.hi.2.1).2.2.1 (zpc S) hp).2
  rw [e] at hr
  have hN' : F.1 < 2 ^ 31 := by omega
  have e' : gO G (zq P) (zpc P) = 27 := by rw [h.q, h.pc]; exact e
  have n0 := (h.pk 0).neg hN'
  have n1 := (h.pk 1).neg hN'
  have n2 := (h.pk 2).neg hN'
  have hn4 := hz.2.2.2.1
  rw [zo_27 e, show (fun F0 => zoper G none F0 P) = _ from funext fun F0 => zo_27 (F := F0) e']
  rw [h.q, h.pc]
  obtain ⟨n, -, n2, en⟩ := rg_nat hr (by decide) (by decide)
  rw [en, nI_clamp (by omega)]
  exact sO.thr h h8 (by omega)
theorem sq_28 (hg : gwf G) (hz : zwf S) (hok : zok S F) (h8 : 258 ≤ F.1) (hN : F.1 < 32258) (hw : zfw F) (hp : zpc S < gL G (zq S)) (h : sim F x y S P) (e : gO G (zq S) (zpc S) = 28) : sO x y (zoper G none F S) (fun F0 => zoper G none F0 P) := by
  have hr := ((hg.2.2 (zq S) hz.hi.2.1).2.2.1 (zpc S) hp).2
  rw [e] at hr
  have hN' : F.1 < 2 ^ 31 := by omega
  have e' : gO G (zq P) (zpc P) = 28 := by rw [h.q, h.pc]; exact e
  have n0 := (h.pk 0).neg hN'
  have n1 := (h.pk 1).neg hN'
  have n2 := (h.pk 2).neg hN'
  have hn4 := hz.2.2.2.1
  rw [zo_28 e, show (fun F0 => zoper G none F0 P) = _ from funext fun F0 => zo_28 (F := F0) e']
  rw [h.hh]
  exact sO.ite Iff.rfl (fun _ => sO.brk h) (fun _ => sO.go (h.fin (vR.ng (by decide))))
theorem sim_plain (hg : gwf G) (hz : zwf S) (hok : zok S F) (h8 : 258 ≤ F.1) (hN : F.1 < 32258) (hw : zfw F) (hp : zpc S < gL G (zq S)) (h : sim F x y S P) (h2 : ¬ (zoper G none F S).1 = 2) : sO x y (zoper G none F S) (fun F0 => zoper G none F0 P) := by
  have ho := ((hg.2.2 (zq S) hz.hi.2.1).2.2.1 (zpc S) hp).1
  rcases (show gO G (zq S) (zpc S) = 0 ∨ gO G (zq S) (zpc S) = 1 ∨ gO G (zq S) (zpc S) = 2 ∨ gO G (zq S) (zpc S) = 3 ∨ gO G (zq S) (zpc S) = 4 ∨ gO G (zq S) (zpc S) = 5 ∨ gO G (zq S) (zpc S) = 6 ∨ gO G (zq S) (zpc S) = 7 ∨ gO G (zq S) (zpc S) = 8 ∨ gO G (zq S) (zpc S) = 9 ∨ gO G (zq S) (zpc S) = 10 ∨ gO G (zq S) (zpc S) = 11 ∨ gO G (zq S) (zpc S) = 12 ∨ gO G (zq S) (zpc S) = 13 ∨ gO G (zq S) (zpc S) = 14 ∨ gO G (zq S) (zpc S) = 15 ∨ gO G (zq S) (zpc S) = 16 ∨ gO G (zq S) (zpc S) = 17 ∨ gO G (zq S) (zpc S) = 18 ∨ gO G (zq S) (zpc S) = 19 ∨ gO G (zq S) (zpc S) = 20 ∨ gO G (zq S) (zpc S) = 21 ∨ gO G (zq S) (zpc S) = 22 ∨ gO G (zq S) (zpc S) = 23 ∨ gO G (zq S) (zpc S) = 24 ∨ gO G (zq S) (zpc S) = 25 ∨ gO G (zq S) (zpc S) = 26 ∨ gO G (zq S) (zpc S) = 27 ∨ gO G (zq S) (zpc S) = 28 ∨ gO G (zq S) (zpc S) = 29 by omega) with e | e | e | e | e | e | e | e | e | e | e | e | e | e | e | e | e | e | e | e | e | e | e | e | e | e | e | e | e | e
  · exact sq_0 hg hz hok h8 hN hw hp h e
  · exact sq_1 hg hz hok h8 hN hw hp h e
  · exact sq_2 hg hz hok h8 hN hw hp h e
  · exact sq_3 hg hz hok h8 hN hw hp h e
  · exact sq_4 hg hz hok h8 hN hw hp h e
  · exact sq_5 hg hz hok h8 hN hw hp h e
  · exact sq_6 hg hz hok h8 hN hw hp h e
  · exact sq_7 hg hz hok h8 hN hw hp h e
  · exact sq_8 hg hz hok h8 hN hw hp h e
  · exact sq_9 hg hz hok h8 hN hw hp h e h2
  · exact sq_10 hg hz hok h8 hN hw hp h e h2
  · exact sq_11 hg hz hok h8 hN hw hp h e
  · exact sq_12 hg hz hok h8 hN hw hp h e
  · exact sq_13 hg hz hok h8 hN hw hp h e
  · exact sq_14 hg hz hok h8 hN hw hp h e
  · exact sq_15 hg hz hok h8 hN hw hp h e
  · exact sq_16 hg hz hok h8 hN hw hp h e
  · exact sq_17 hg hz hok h8 hN hw hp h e
  · exact sq_18 hg hz hok h8 hN hw hp h e h2
  · exact sq_19 hg hz hok h8 hN hw hp h e h2
  · exact sq_20 hg hz hok h8 hN hw hp h e
  · exact sq_21 hg hz hok h8 hN hw hp h e h2
  · exact sq_22 hg hz hok h8 hN hw hp h e h2
  · exact sq_23 hg hz hok h8 hN hw hp h e h2
  · exact sq_24 hg hz hok h8 hN hw hp h e
  · exact sq_25 hg hz hok h8 hN hw hp h e
  · exact sq_26 hg hz hok h8 hN hw hp h e
  · exact sq_27 hg hz hok h8 hN hw hp h e
  · exact sq_28 hg hz hok h8 hN hw hp h e
  · exact sq_29 hg hz hok h8 hN hw hp h e
end SQ
