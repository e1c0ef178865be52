/-! A WAITING WAY RUNS, pure: what it comes to; the inputs that go along it -/
/-- a plain run's start at input k -/
def zp0 (q k : Nat) : zW := zbeg q (nI (k / 32 + 112)) (nI (k % 32 + 112))
/-- what is left of a plain run -/
def zcn (G : zG) (bd : Nat) (a : Option Nat) (n : Nat) (P : zW) (F0 : zF) : zW := match a with
  | none => zrp G bd n P F0
  | some _ => zct G bd n P F0
/-- a way that waits -/
def wI (G : zG) (bd : Nat) (F : zF) (r : zR) : Prop := zwf r.1 ∧ zok r.1 F ∧ (zo r.1 = 0 ∧ zpl r.1 = 0 ∧ zk r.1 = 0) ∧ zd r.1 ≤ bd ∧ recW r ∧ r.2.1.length ≤ zd r.1 ∧ zpc r.1 < 40 ∧ (∃ k, k < 1024 ∧ (r.2.2.1 k).isNone = true) ∧ (r.2.2.2.1 = none → zd r.1 = 0) ∧
  (∀ c, r.2.2.2.1 = some c → c < 8 ∧ c < (zsi (zK G r.1) r.1).1 ∧ zpc r.1 < gL G (zq r.1) ∧ (zoper G none F r.1).1 = 2 ∧ 1 ≤ zd r.1)
def wS (G : zG) (q bd : Nat) (F : zF) (r : zR) : Prop := ∀ k, k < 1024 → (r.2.2.1 k).isNone = true → ∃ P, sim F (xk k) (yk k) r.1 P ∧ (∀ c, r.2.2.2.1 = some c → zchk F (zK G r.1) r.1 k = c) ∧ ∀ F0, zrp G bd 201 (zp0 q k) F0 = zcn G bd r.2.2.2.1 (201 - zd r.1) P F0
/-- a path -/
def pthI (bd : Nat) (F : zF) (r : zR) : Prop := zd r.1 ≤ bd ∧ recW r ∧ r.2.1.length ≤ zd r.1 ∧ (zo r.1 = nI 1 → wdv F (zr r.1)) ∧ ¬ zo r.1 = 0
def pthS (G : zG) (q bd : Nat) (F : zF) (r : zR) : Prop := ∀ k, k < 1024 → (r.2.2.1 k).isNone = true → zo r.1 = nI 7 ∨ ∃ P, (∀ F0, zrp G bd 201 (zp0 q k) F0 = P) ∧ esim F (xk k) (yk k) r.1 P
/-- what a waiting way's run comes to -/
def rnA (G : zG) (bd a : Nat) (S : zW) (F : zF) (u : zU) : Prop := Fge F u.2.2.1 ∧ zfw u.2.2.1 ∧ zwf u.2.1 ∧ zd S ≤ zd u.2.1 ∧ zd u.2.1 ≤ bd ∧ u.2.2.1.1 + zd S ≤ F.1 + a + zd u.2.1 ∧ (u.1 = 1 ∨ u.1 = 2) ∧
  (u.1 = 1 → ¬ zo u.2.1 = 0 ∧ (zo u.2.1 = nI 1 → wdv u.2.2.1 (zr u.2.1))) ∧
  (u.1 = 2 → zok u.2.1 u.2.2.1 ∧ zpc u.2.1 < gL G (zq u.2.1) ∧ (zoper G none u.2.2.1 u.2.1).1 = 2 ∧ (zo u.2.1 = 0 ∧ zpl u.2.1 = 0 ∧ zk u.2.1 = 0) ∧ zd S < zd u.2.1 ∧ u.2.2.1.1 + 1 + zd S ≤ F.1 + a + zd u.2.1)
section RU
variable {G : zG} {bd q : Nat} {F F2 : zF} {r : zR} {x y : Int32} {S P : zW}
theorem al_n (h : r.2.2.2.1 = none) : al r = 0 := by unfold al; rw [h]; rfl
theorem al_s {c : Nat} (h : r.2.2.2.1 = some c) : al r = 1 := by unfold al; rw [h]; rfl
theorem tl_eq (h : S.2.2 = P.2.2) : zd S = zd P ∧ zo S = zo P ∧ zpl S = zpl P ∧ zk S = zk P := by
  unfold zd zo zpl zk
  rw [h]
  exact ⟨rfl, rfl, rfl, rfl⟩
theorem run_R {T : Nat → Int32} {C : Int32} (hg : gwf G) (hbd : bd ≤ 200) (h : wI G bd F r) (hw : zfw F) (h8 : 258 ≤ F.1) (hN : F.1 + al r + (bd - zd r.1) ≤ 32258) : rnA G bd (al r) r.1 F (zrun G bd F r T C) := by
  obtain ⟨a1, a2, ⟨a3, a4, a5⟩, a6, a7, a8, a9, a10, a11, a12⟩ := h
  unfold zrun zfr zre
  cases ha : r.2.2.2.1 with
  | none =>
    show rnA G bd (al r) r.1 F (if 0 = 0 then zgo G bd 201 r.1 F T C else _)
    rw [if_pos rfl]
    rw [al_n ha] at hN ⊢
    obtain ⟨x1, x2, x3, x4, x5, x6, x7, x8, x9⟩ := go_R hg hbd 201 r.1 F T C a1 a2 hw h8 a6 (by omega) (by omega)
    refine ⟨x1, x2, x3, x4, x5, by omega, x7, x8, fun e => ?_⟩
    obtain ⟨y1, y2, y3, y4, y5, y6⟩ := x9 e
    exact ⟨y1, y2, y3, ⟨y4.1.trans a3, y4.2.1.trans a4, y4.2.2.trans a5⟩, y5, by omega⟩
  | some c =>
    rw [al_s ha] at hN ⊢
    obtain ⟨b1, b2, b3, b4, b5⟩ := a12 c ha
    show rnA G bd 1 r.1 F (if (zoper G (some c) F r.1).1 = 0 then zgo G bd 201 (zoper G (some c) F r.1).2.1 (zoper G (some c) F r.1).2.2 T C else (1, (zoper G (some c) F r.1).2.1, (zoper G (some c) F r.1).2.2, T, C))
    obtain ⟨o1, o2, o3, o4, o5, o6, o7, o8⟩ := zoper_ok (alt := some c) hg a1 a2 h8 (by omega) b3
    have ow := zoper_fw (alt := some c) hg a1 a2 h8 (by omega) hw b3
    obtain ⟨w1, w2⟩ := zoper_wf (F := F) (alt := some c) hg a1 b3
    have n2' : ¬ (zoper G (some c) F r.1).1 = 2 := zop_n2 ((hg.2.2 _ a1.hi.2.1).2.2.1 _ b3).1 (fun _ => ⟨c, rfl⟩)
    generalize zoper G (some c) F r.1 = o at o1 o2 o3 o4 o5 o6 o7 o8 ow w1 w2 n2' ⊢
    have e1 := o1.1
    have e2 := o1.2.1
    have d1 := o3.1
    by_cases r0 : o.1 = 0
    · rw [if_pos r0]
      obtain ⟨t1, t2, t3, t4⟩ := tl_eq (w2 (by omega))
      obtain ⟨x1, x2, x3, x4, x5, x6, x7, x8, x9⟩ := go_R hg hbd 201 o.2.1 o.2.2 T C w1 (o4 r0) ow (by omega) (by omega) (by omega) (by omega)
      refine ⟨o1.ge.tr x1, x2, x3, by omega, x5, by omega, x7, x8, fun e => ?_⟩
      obtain ⟨y1, y2, y3, y4, y5, y6⟩ := x9 e
      exact ⟨y1, y2, y3, ⟨(y4.1.trans t2).trans a3, (y4.2.1.trans t3).trans a4, (y4.2.2.trans t4).trans a5⟩, by omega, by omega⟩
    · rw [if_neg r0]
      have r1 : o.1 = 1 := by omega
      exact ⟨o1.ge, ow, w1, by show zd r.1 ≤ zd o.2.1; omega, by show zd o.2.1 ≤ bd; omega, by show o.2.2.1 + zd r.1 ≤ F.1 + 1 + zd o.2.1; omega, Or.inl rfl, fun _ => ⟨o8 r1, fun z => o5 r1 z⟩, fun z => absurd z (by intro y; cases y)⟩
theorem sim_dec {K : Nat} (hs : spl G F S K) (h : sim F x y S P) (hN : F.1 < 2 ^ 31) : (∃ a, evs F x y (zlf K S).toNatClampNeg = some a) ∧ ∃ b, evs F x y (zrt K S).toNatClampNeg = some b := by
  have val : ∀ c j, zpk S c = nI j → j < F.1 → ∃ v, evs F x y (zpk S c).toNatClampNeg = some v := fun c j e hj => by
    obtain ⟨j, i, h1, h2, h3, h4, h5⟩ := (h.pk c).pos (by rw [e]; exact nI_pos (by omega))
    rw [h2, nI_clamp (by omega)]
    exact ⟨_, h5⟩
  obtain ⟨jl, el, hjl⟩ := hs.2.2.2.1
  obtain ⟨jr, er, hjr⟩ := hs.2.2.2.2.1
  unfold zlf at el ⊢
  unfold zrt at er ⊢
  constructor
  · by_cases c : K = 18 ∨ K = 19 ∨ K = 23
    · rw [if_pos c] at el ⊢; exact val _ _ el hjl
    · rw [if_neg c] at el ⊢; exact val _ _ el hjl
  · by_cases c : K = 18 ∨ K = 19
    · rw [if_pos c] at er ⊢; exact val _ _ er hjr
    · rw [if_neg c, nI_clamp (by decide)]; exact ⟨_, evs_num (by decide)⟩
theorem zchk_up {K k : Nat} (hs : spl G F S K) (hw : zfw F) (hN : F.1 < 2 ^ 31) (he : Fge F F2) : zchk F2 K S k = zchk F K S k := by
  obtain ⟨jl, el, hjl⟩ := hs.2.2.2.1
  obtain ⟨jr, er, hjr⟩ := hs.2.2.2.2.1
  unfold zchk
  rw [el, er, nI_clamp (by omega), nI_clamp (by omega), evs_ext hw hN he hjl, evs_ext hw hN he hjr]
/-- the inputs of a way go along its run -/
theorem run_S {T : Nat → Int32} {C : Int32} {k : Nat} (hg : gwf G) (hbd : bd ≤ 200) (h : wI G bd F r) (hs : wS G q bd F r) (hw : zfw F) (h8 : 258 ≤ F.1) (hN : F.1 + al r + (bd - zd r.1) ≤ 32258) (hk : k < 1024) (hi : (r.2.2.1 k).isNone = true) : rnS G bd 201 (xk k) (yk k) (fun F0 => zrp G bd 201 (zp0 q k) F0) (zrun G bd F r T C) := by
  obtain ⟨a1, a2, ⟨a3, a4, a5⟩, a6, a7, a8, a9, a10, a11, a12⟩ := h
  obtain ⟨P, p1, p2, p3⟩ := hs k hk hi
  unfold zrun zfr zre
  rw [show (fun F0 => zrp G bd 201 (zp0 q k) F0) = fun F0 => zcn G bd r.2.2.2.1 (201 - zd r.1) P F0 from funext p3]
  cases ha : r.2.2.2.1 with
  | none =>
    show rnS G bd 201 (xk k) (yk k) (fun F0 => zrp G bd (201 - zd r.1) P F0) (if 0 = 0 then zgo G bd 201 r.1 F T C else _)
    rw [if_pos rfl]
    rw [al_n ha] at hN
    exact go_sim hg hbd 201 (201 - zd r.1) r.1 P F T C a1 a2 hw h8 a6 (by omega) (by omega) (by omega) (by omega) p1
  | some c =>
    rw [al_s ha] at hN
    obtain ⟨b1, b2, b3, b4, b5⟩ := a12 c ha
    show rnS G bd 201 (xk k) (yk k) (fun F0 => zct G bd (201 - zd r.1) P F0) (if (zoper G (some c) F r.1).1 = 0 then zgo G bd 201 (zoper G (some c) F r.1).2.1 (zoper G (some c) F r.1).2.2 T C else (1, (zoper G (some c) F r.1).2.1, (zoper G (some c) F r.1).2.2, T, C))
    have hsp : spl G F r.1 (zK G r.1) := spl_of hg a1 a2 h8 (by omega) b3 b4
    obtain ⟨⟨a, ea⟩, b, eb⟩ := sim_dec hsp p1 (by omega)
    have so := sim_res hg a1 a2 h8 (by omega) hw b3 p1 rfl b4 ea eb
    have ec : zch (zK G r.1) a b (zln (zK G r.1) r.1) = c := by
      have := p2 c ha
      unfold zchk at this
      rw [ea, eb] at this
      exact this
    rw [show gO G (zq r.1) (zpc r.1) = zK G r.1 from rfl, ec] at so
    obtain ⟨o1, o2, o3, o4, o5, o6, o7, o8⟩ := zoper_ok (alt := some c) hg a1 a2 h8 (by omega) b3
    have ow := zoper_fw (alt := some c) hg a1 a2 h8 (by omega) hw b3
    obtain ⟨w1, w2⟩ := zoper_wf (F := F) (alt := some c) hg a1 b3
    have n2' : ¬ (zoper G (some c) F r.1).1 = 2 := zop_n2 ((hg.2.2 _ a1.hi.2.1).2.2.1 _ b3).1 (fun _ => ⟨c, rfl⟩)
    generalize zoper G (some c) F r.1 = o at o1 o2 o3 o4 o5 o6 o7 o8 ow w1 w2 n2' so ⊢
    have e1 := o1.1
    have e2 := o1.2.1
    have d1 := o3.1
    by_cases r0 : o.1 = 0
    · rw [if_pos r0]
      rcases so with ⟨z, -⟩ | ⟨P', eP, s0, -⟩
      · omega
      have eP2 : ∀ F0, zoper G none F0 P = (0, P', F0) := fun F0 => (eP F0).trans (by rw [r0])
      have ef : (fun F0 => zct G bd (201 - zd r.1) P F0) = fun F0 => zrp G bd (201 - zd r.1) P' F0 := funext fun F0 => by
        unfold zct
        rw [eP2, if_pos rfl]
      rw [ef]
      exact go_sim hg hbd 201 (201 - zd r.1) o.2.1 P' o.2.2 T C w1 (o4 r0) ow (by omega) (by omega) (by omega) (by omega) (by omega) (by omega) (s0 r0)
    · rw [if_neg r0]
      have r1 : o.1 = 1 := by omega
      refine ⟨fun z => absurd z (by intro y; cases y), fun _ => ?_⟩
      rcases so with ⟨-, z⟩ | ⟨P', eP, -, s1⟩
      · exact Or.inl z
      · have eP2 : ∀ F0, zoper G none F0 P = (1, P', F0) := fun F0 => (eP F0).trans (by rw [r1])
        refine Or.inr ⟨P', fun F0 => ?_, s1 r1⟩
        show zct G bd (201 - zd r.1) P F0 = P'
        unfold zct
        rw [eP2, if_neg (by intro z; cases z)]
theorem esim.up (h : esim F x y S P) (hw : zfw F) (hN : F.1 < 2 ^ 31) (he : Fge F F2) : esim F2 x y S P := ⟨h.1, h.2.1, h.2.2.1, h.2.2.2.1, fun z => (h.2.2.2.2 z).up hw hN he⟩
theorem wI.up (h : wI G bd F r) (hg : gwf G) (hf : zfw F2) (he : Fge F F2) : wI G bd F2 r := by
  obtain ⟨a1, a2, a3, a6, a7, a8, a9, a10, a11, a12⟩ := h
  exact ⟨a1, a2.ff he.1 hf.fok, a3, a6, a7, a8, a9, a10, a11, fun c e => by
    obtain ⟨b1, b2, b3, b4, b5⟩ := a12 c e
    exact ⟨b1, b2, b3, zop2_F ((hg.2.2 _ a1.hi.2.1).2.2.1 _ b3).1 b4, b5⟩⟩
theorem wS.up (h : wS G q bd F r) (hI : wI G bd F r) (hg : gwf G) (h8 : 258 ≤ F.1) (hw : zfw F) (hN : F.1 < 2 ^ 31) (he : Fge F F2) : wS G q bd F2 r := fun k hk hi => by
  obtain ⟨P, p1, p2, p3⟩ := h k hk hi
  refine ⟨P, p1.up hw hN he, fun c e => ?_, p3⟩
  obtain ⟨b1, b2, b3, b4, b5⟩ := hI.2.2.2.2.2.2.2.2.2 c e
  rw [← p2 c e]
  exact zchk_up (spl_of hg hI.1 hI.2.1 h8 hN b3 b4) hw hN he
theorem pthI.up (h : pthI bd F r) (he : Fge F F2) : pthI bd F2 r := ⟨h.1, h.2.1, h.2.2.1, fun z => (h.2.2.2.1 z).mono he.1, h.2.2.2.2⟩
theorem pthS.up (h : pthS G q bd F r) (hw : zfw F) (hN : F.1 < 2 ^ 31) (he : Fge F F2) : pthS G q bd F2 r := fun k hk hi => (h k hk hi).imp id (fun ⟨P, p1, p2⟩ => ⟨P, p1, p2.up hw hN he⟩)
theorem zch_si {K : Nat} {a b : Int32} (hs : spl G F S K) : zch K a b (zln K S) < (zsi K S).1 := by
  have h5 := hs.2.2.2.2.2.1
  have h8 := zch_lt (K := K) (a := a) (b := b) h5
  rw [hs.si.1]
  by_cases c1 : K = 21
  · rw [if_pos c1]; exact h8
  rw [if_neg c1]
  unfold zch
  by_cases c2 : K = 22 ∨ K = 23
  · rw [if_pos c2, if_neg (by omega), if_neg (by omega), if_neg (by omega), if_neg (by omega)]
    by_cases n0 : a < 0
    · rw [if_pos n0]; omega
    rw [if_neg n0]
    by_cases n1 : a < nI (zln K S)
    · rw [if_pos n1]
      have := Int32.lt_iff_toInt_lt.mp n1
      rw [nI_toInt (by omega)] at this
      have t : a.toNatClampNeg = a.toInt.toNat := rfl
      rw [t]; omega
    · rw [if_neg n1]; omega
  · rw [if_neg c2]
    have hd := hs.1
    unfold dcd at hd
    by_cases c3 : K = 9 ∨ K = 10
    · rw [if_pos c3]; split <;> omega
    rw [if_neg c3]
    by_cases c4 : K = 18
    · rw [if_pos c4]; split <;> omega
    rw [if_neg c4, if_pos (by omega)]
    split <;> omega
end RU
