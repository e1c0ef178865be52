/-! A RUN keeps sizes; a whole run, a plain run beside it -/
section KW
variable {F : zF} {S : zW} {G : zG} {alt : Option Nat}
def wk (S : zW) (r : Nat × zW × zF) : Prop := zwf r.2.1 ∧ (¬ r.1 = 1 → r.2.1.2.2 = S.2.2)
theorem wk.ite {c : Prop} [Decidable c] {a b : Nat × zW × zF} (h1 : c → wk S a) (h2 : ¬ c → wk S b) : wk S (if c then a else b) := by
  by_cases z : c
  · rw [if_pos z]; exact h1 z
  · rw [if_neg z]; exact h2 z
theorem wk.brk (h : zwf S) : wk S (zbrk F S) := ⟨h, fun z => absurd rfl z⟩
theorem wk.en {X : zW} (h : zwf X) : wk S (1, X, F) := ⟨h, fun z => absurd rfl z⟩
theorem wk.go {n : Nat} {X : zW} (h : zwf X) (e : X.2.2 = S.2.2) : wk S (n, X, F) := ⟨h, fun _ => e⟩
theorem wk.cm (h : zwf S) {c : Nat} {v : Int32 × zF} (hc : zh S - c < 12) (hp : zpc S < 40) : wk S (zcm S c v) := by
  unfold zcm
  exact wk.ite (fun _ => wk.en h) (fun _ => wk.go (h.fin hc hp) rfl)
theorem zwf.push (h : zwf S) {x : Int32} (hh : zh S < 12) : zwf (zpush S x) := zwf.H (S := sV S (zt S) (6 + zh S) x) h.V (by omega)
theorem zwf.drop (h : zwf S) {c : Nat} : zwf (zdrop S c) := zwf.H h (by have := h.hi; omega)
theorem zwf.jump (h : zwf S) {p : Nat} (hp : p ≤ 40) : zwf (zjump S p) := zwf.P h hp
theorem wk.rai (hg : gwf G) {kd : Nat} {pl : Int32} : ∀ (m : Nat) (S : zW), zwf S → wk S ((zrai G kd pl m S).1, (zrai G kd pl m S).2, F)
  | 0, S, h => by
    unfold zrai
    split
    · rename_i g e
      exact wk.go (zwf.jump (h.drop.push (by rw [zh_drop]; have := h.hi; omega)) (by have := zhd_le hg h.hi.2.1 _ _ _ (by omega) e; omega)) rfl
    · exact wk.en h
  | m + 1, S, h => by
    unfold zrai
    split
    · rename_i g e
      exact wk.go (zwf.jump (h.drop.push (by rw [zh_drop]; have := h.hi; omega)) (by have := zhd_le hg h.hi.2.1 _ _ _ (by omega) e; omega)) rfl
    · exact wk.rai hg m (zleave S) (zwf.T h (Nat.sub_le _ _))
theorem wk.thr (hg : gwf G) (h : zwf S) {kd : Nat} : wk S (zthr G F S kd) := wk.rai hg _ S h
theorem zwf.arr (h : zwf S) {x : Nat} (hx : x ≤ 5) (hn : ¬ zn S = 4) : zwf (zarr S x) := ⟨h.1, h.2.1, h.2.2.1, by show zn S + 1 ≤ 4; have := h.2.2.2.1; omega, fun k hk => by
  have hk : k < zn S + 1 := hk
  show un (zL S) (zn S) x k ≤ 5
  by_cases e : k = zn S
  · rw [e, un_e]; exact hx
  · rw [un_n e]; exact h.2.2.2.2.1 k (by omega), h.2.2.2.2.2⟩
theorem zwf.call (h : zwf S) {q c : Nat} (hq : q < 6) (ht : ¬ zt S = 3) (hc : zh S - c < 12) (hp : zpc S < 40) : zwf (zcall S q c) := by
  have h3 := h.1
  refine ⟨by show zt S + 1 ≤ 3; omega, fun f hf => ?_, fun f hf => ?_, h.2.2.2.1, h.2.2.2.2.1, h.2.2.2.2.2⟩
  · have hf : f ≤ zt S + 1 := hf
    show un (zM S) (zt S + 1) q f < 6 ∧ un (zP S) (zt S + 1) 0 f ≤ 40 ∧ un (un (zH S) (zt S) (zh S - c)) (zt S + 1) 0 f ≤ 12
    by_cases e : f = zt S + 1
    · rw [e, un_e, un_e, un_e]; exact ⟨hq, by omega, by omega⟩
    · rw [un_n e, un_n e, un_n e]
      obtain ⟨a1, a2, a3⟩ := h.2.1 f (by omega)
      refine ⟨a1, a2, ?_⟩
      by_cases e2 : f = zt S
      · rw [e2, un_e]; omega
      · rw [un_n e2]; exact a3
  · have hf : f < zt S + 1 := hf
    show un (un (zH S) (zt S) (zh S - c)) (zt S + 1) 0 f ≤ 11 ∧ un (zP S) (zt S + 1) 0 f ≤ 39
    rw [un_n (f := un (zH S) (zt S) (zh S - c)) (show f ≠ zt S + 1 by omega), un_n (f := zP S) (show f ≠ zt S + 1 by omega)]
    by_cases e2 : f = zt S
    · rw [e2, un_e]; exact ⟨by omega, by show zpc S ≤ 39; omega⟩
    · rw [un_n e2]; exact h.2.2.1 f (by omega)

theorem zoper_wf (hg : gwf G) (hz : zwf S) (hp : zpc S < gL G (zq S)) : wk S (zoper G alt F S) := by
  have ho := ((hg.2.2 (zq S) hz.hi.2.1).2.2.1 (zpc S) hp).1
  have hr := ((hg.2.2 (zq S) hz.hi.2.1).2.2.1 (zpc S) hp).2
  have hl := (hg.2.2 (zq S) hz.hi.2.1).1
  have h40 : zpc S < 40 := by omega
  have h12 := hz.hi.2.2.2
  rcases (show gO G (zq S) (zpc S) = 0 ∨ gO G (zq S) (zpc S) = 1 ∨ gO G (zq S) (zpc S) = 2 ∨ gO G (zq S) (zpc S) = 3 ∨ gO G (zq S) (zpc S) = 4 ∨ gO G (zq S) (zpc S) = 5 ∨ gO G (zq S) (zpc S) = 6 ∨ gO G (zq S) (zpc S) = 7 ∨ gO G (zq S) (zpc S) = 8 ∨ gO G (zq S) (zpc S) = 9 ∨ gO G (zq S) (zpc S) = 10 ∨ gO G (zq S) (zpc S) = 11 ∨ gO G (zq S) (zpc S) = 12 ∨ gO G (zq S) (zpc S) = 13 ∨ gO G (zq S) (zpc S) = 14 ∨ gO G (zq S) (zpc S) = 15 ∨ gO G (zq S) (zpc S) = 16 ∨ gO G (zq S) (zpc S) = 17 ∨ gO G (zq S) (zpc S) = 18 ∨ gO G (zq S) (zpc S) = 19 ∨ gO G (zq S) (zpc S) = 20 ∨ gO G (zq S) (zpc S) = 21 ∨ gO G (zq S) (zpc S) = 22 ∨ gO G (zq S) (zpc S) = 23 ∨ gO G (zq S) (zpc S) = 24 ∨ gO G (zq S) (zpc S) = 25 ∨ gO G (zq S) (zpc S) = 26 ∨ gO G (zq S) (zpc S) = 27 ∨ gO G (zq S) (zpc S) = 28 ∨ gO G (zq S) (zpc S) = 29 by omega) with e | e | e | e | e | e | e | e | e | e | e | e | e | e | e | e | e | e | e | e | e | e | e | e | e | e | e | e | e | e
  · rw [zo_0 e]; exact wk.ite (fun _ => wk.brk hz) (fun c => wk.go (hz.fin (by omega) h40) rfl)
  · rw [zo_1 e]; exact wk.ite (fun _ => wk.brk hz) (fun c => wk.go (hz.fin (by omega) h40) rfl)
  · rw [zo_2 e]; exact wk.ite (fun _ => wk.brk hz) (fun c => wk.go (zwf.jump (S := zloc (zdrop S 1) _ _) (zwf.V hz.drop) (by show zpc S + 1 ≤ 40; omega)) rfl)
  · rw [zo_3 e]; exact wk.ite (fun _ => wk.brk hz) (fun c => wk.go (zwf.jump hz.drop (by show zpc S + 1 ≤ 40; omega)) rfl)
  · rw [zo_4 e]; exact wk.ite (fun _ => wk.brk hz) (fun c => wk.go (zwf.jump ((hz.drop (c := 1)).push (by rw [zh_drop]; omega) |>.push (by rw [zh_push, zh_drop]; omega)) (by show zpc S + 1 ≤ 40; omega)) rfl)
  · rw [zo_5 e]; exact wk.ite (fun _ => wk.brk hz) (fun c => wk.go (zwf.jump ((hz.drop (c := 2)).push (by rw [zh_drop]; omega) |>.push (by rw [zh_push, zh_drop]; omega)) (by show zpc S + 1 ≤ 40; omega)) rfl)
  · rw [zo_6 e]; exact wk.ite (fun _ => wk.brk hz) (fun c => wk.cm hz (by omega) h40)
  · rw [zo_7 e]; exact wk.ite (fun _ => wk.brk hz) (fun c => wk.cm hz (by omega) h40)
  · rw [zo_8 e]; exact wk.ite (fun _ => wk.brk hz) (fun c => wk.cm hz (by omega) h40)
  · rw [zo_9 e]; exact wk.ite (fun _ => wk.brk hz) (fun c => wk.ite (fun _ => wk.ite (fun _ => wk.thr hg hz) (fun _ => wk.cm hz (by omega) h40)) (fun _ => by cases alt with | none => exact wk.go hz rfl | some x => exact wk.ite (fun _ => wk.cm hz (by omega) h40) (fun _ => wk.thr hg hz)))
  · rw [zo_10 e]; exact wk.ite (fun _ => wk.brk hz) (fun c => wk.ite (fun _ => wk.ite (fun _ => wk.thr hg hz) (fun _ => wk.cm hz (by omega) h40)) (fun _ => by cases alt with | none => exact wk.go hz rfl | some x => exact wk.ite (fun _ => wk.cm hz (by omega) h40) (fun _ => wk.thr hg hz)))
  · rw [zo_11 e]; exact wk.ite (fun _ => wk.brk hz) (fun c => wk.cm hz (by omega) h40)
  · rw [zo_12 e]; exact wk.ite (fun _ => wk.brk hz) (fun c => wk.cm hz (by omega) h40)
  · rw [zo_13 e]; exact wk.ite (fun _ => wk.brk hz) (fun c => wk.cm hz (by omega) h40)
  · rw [zo_14 e]; exact wk.ite (fun _ => wk.brk hz) (fun c => wk.cm hz (by omega) h40)
  · rw [zo_15 e]; exact wk.ite (fun _ => wk.brk hz) (fun c => wk.cm hz (by omega) h40)
  · rw [zo_16 e]; exact wk.ite (fun _ => wk.brk hz) (fun c => wk.cm hz (by omega) h40)
  · rw [zo_17 e]; rw [e] at hr; obtain ⟨j, -, j2, ej⟩ := rg_nat hr (by decide) (by decide); rw [ej, nI_clamp (by omega)]; exact wk.go (hz.jump (by omega)) rfl
  · rw [zo_18 e]; rw [e] at hr; obtain ⟨j, -, j2, ej⟩ := rg_nat hr (by decide) (by decide); rw [ej, nI_clamp (by omega)]; exact wk.ite (fun _ => wk.brk hz) (fun c => wk.ite (fun _ => wk.go (hz.drop.jump (by split <;> omega)) rfl) (fun _ => by cases alt with | none => exact wk.go hz rfl | some x => exact wk.go (hz.drop.jump (by split <;> omega)) rfl))
  · rw [zo_19 e]; rw [e] at hr; obtain ⟨j, -, j2, ej⟩ := rg_nat hr (by decide) (by decide); rw [ej, nI_clamp (by omega)]; exact wk.ite (fun _ => wk.brk hz) (fun c => wk.ite (fun _ => wk.go (hz.drop.jump (by split <;> omega)) rfl) (fun _ => by cases alt with | none => exact wk.go hz rfl | some x => exact wk.go (hz.drop.jump (by split <;> omega)) rfl))
  · rw [zo_20 e]; rw [e] at hr; obtain ⟨j, -, j2, ej⟩ := rg_nat hr (by decide) (by decide); rw [ej, nI_clamp (by omega)]; exact wk.ite (fun _ => wk.brk hz) (fun c => wk.go (hz.drop.jump (by split <;> omega)) rfl)
  · rw [zo_21 e]; exact wk.ite (fun _ => wk.brk hz) (fun c => by split <;> first | exact wk.go hz rfl | exact wk.ite (fun _ => wk.thr hg hz) (fun _ => wk.ite (fun _ => wk.thr hg hz) (fun y => wk.go (zwf.fin (zwf.arr hz (by omega) (fun z => y (Or.inr z))) (by show zh S - 1 < 12; omega) h40) rfl)))
  · rw [zo_22 e]; exact wk.ite (fun _ => wk.brk hz) (fun c => wk.ite (fun _ => wk.thr hg hz) (fun _ => by split <;> first | exact wk.go hz rfl | exact wk.ite (fun _ => wk.go (hz.fin (by omega) h40) rfl) (fun _ => wk.thr hg hz)))
  · rw [zo_23 e]; exact wk.ite (fun _ => wk.brk hz) (fun c => wk.ite (fun _ => wk.thr hg hz) (fun _ => by split <;> first | exact wk.go hz rfl | exact wk.ite (fun _ => wk.go (zwf.jump (zwf.drop (S := zset S _ _ _) hz) (by show zpc S + 1 ≤ 40; omega)) rfl) (fun _ => wk.thr hg hz)))
  · rw [zo_24 e]; exact wk.ite (fun _ => wk.brk hz) (fun c => wk.ite (fun _ => wk.thr hg hz) (fun _ => wk.go (hz.fin (by omega) h40) rfl))
  · rw [zo_25 e]; exact wk.ite (fun _ => wk.brk hz) (fun c => wk.ite (fun _ => wk.thr hg hz) (fun t => wk.go (hz.call (by have := hg.1; omega) t (by omega) h40) rfl))
  · rw [zo_26 e]; exact wk.ite (fun _ => wk.brk hz) (fun c => wk.ite (fun _ => wk.en hz) (fun t => wk.go (zwf.fin (S := zleave S) (hz.T (Nat.sub_le _ _)) (by show zH S (zt S - 1) - 0 < 12; have := (hz.2.2.1 (zt S - 1) (by omega)).1; omega) (by show zP S (zt S - 1) < 40; have := (hz.2.2.1 (zt S - 1) (by omega)).2; omega)) rfl))
  · rw [zo_27 e]; exact wk.thr hg hz
  · rw [zo_28 e]; exact wk.ite (fun _ => wk.brk hz) (fun c => wk.go (hz.fin (by omega) h40) rfl)
  · rw [zo_29 e]; exact wk.ite (fun _ => wk.en hz) (fun _ => wk.ite (fun _ => wk.brk hz) (fun c => wk.cm hz (by omega) h40))
/-- whether an operation splits does not hang on the formulas -/
theorem zop2_F {F2 : zF} (ho : gO G (zq S) (zpc S) < 30) (h : (zoper G none F S).1 = 2) : (zoper G none F2 S).1 = 2 := by
  by_cases hd : dcd (gO G (zq S) (zpc S))
  · rcases hd with e | e | e | e | e | e | e
    · rw [zo_9 e] at h ⊢
      by_cases c1 : zh S < 2 ∨ zpk S 0 < 0 ∨ zpk S 1 < 0
      · rw [if_pos c1] at h; exact absurd h n2.brk
      rw [if_neg c1] at h ⊢
      by_cases c2 : isn (zpk S 0)
      · rw [if_pos c2] at h; exact absurd h (n2.ite n2.thr n2.cm)
      rw [if_neg c2]
    · rw [zo_10 e] at h ⊢
      by_cases c1 : zh S < 2 ∨ zpk S 0 < 0 ∨ zpk S 1 < 0
      · rw [if_pos c1] at h; exact absurd h n2.brk
      rw [if_neg c1] at h ⊢
      by_cases c2 : isn (zpk S 0)
      · rw [if_pos c2] at h; exact absurd h (n2.ite n2.thr n2.cm)
      rw [if_neg c2]
    · rw [zo_18 e] at h ⊢
      by_cases c1 : zh S < 2 ∨ zpk S 0 < 0 ∨ zpk S 1 < 0
      · rw [if_pos c1] at h; exact absurd h n2.brk
      rw [if_neg c1] at h ⊢
      by_cases c2 : isn (zpk S 1) ∧ isn (zpk S 0)
      · rw [if_pos c2] at h; exact absurd h n2.go
      rw [if_neg c2]
    · rw [zo_19 e] at h ⊢
      by_cases c1 : zh S < 2 ∨ zpk S 0 < 0 ∨ zpk S 1 < 0
      · rw [if_pos c1] at h; exact absurd h n2.brk
      rw [if_neg c1] at h ⊢
      by_cases c2 : isn (zpk S 1) ∧ isn (zpk S 0)
      · rw [if_pos c2] at h; exact absurd h n2.go
      rw [if_neg c2]
    · rw [zo_21 e] at h ⊢
      by_cases c1 : zh S < 1 ∨ zpk S 0 < 0
      · rw [if_pos c1] at h; exact absurd h n2.brk
      rw [if_neg c1] at h ⊢
      by_cases c2 : isn (zpk S 0)
      · rw [if_pos c2] at h; exact absurd h (n2.ite n2.thr (n2.ite n2.thr n2.go))
      rw [if_neg c2]
    · rw [zo_22 e] at h ⊢
      by_cases c1 : zh S < 2 ∨ zpk S 0 < 0 ∨ ¬ zpk S 1 < 0
      · rw [if_pos c1] at h; exact absurd h n2.brk
      rw [if_neg c1] at h ⊢
      by_cases c3 : zpk S 1 = -1
      · rw [if_pos c3] at h; exact absurd h n2.thr
      rw [if_neg c3] at h ⊢
      by_cases c2 : isn (zpk S 0)
      · rw [if_pos c2] at h; exact absurd h (n2.ite n2.go n2.thr)
      rw [if_neg c2]
    · rw [zo_23 e] at h ⊢
      by_cases c1 : zh S < 3 ∨ zpk S 0 < 0 ∨ zpk S 1 < 0 ∨ ¬ zpk S 2 < 0
      · rw [if_pos c1] at h; exact absurd h n2.brk
      rw [if_neg c1] at h ⊢
      by_cases c3 : zpk S 2 = -1
      · rw [if_pos c3] at h; exact absurd h n2.thr
      rw [if_neg c3] at h ⊢
      by_cases c2 : isn (zpk S 1)
      · rw [if_pos c2] at h; exact absurd h (n2.ite n2.go n2.thr)
      rw [if_neg c2]
  · exact absurd h (zop_n2 ho (fun z => absurd z hd))
/-- a plain run from a split on -/
def zct (G : zG) (bd n : Nat) (P : zW) (F0 : zF) : zW := if (zoper G none F0 P).1 = 0 then zrp G bd n (zoper G none F0 P).2.1 F0 else (zoper G none F0 P).2.1
/-- what a run comes to -/
def rnR (G : zG) (bd : Nat) (S : zW) (F : zF) (u : zU) : Prop := Fge F u.2.2.1 ∧ zfw u.2.2.1 ∧ zwf u.2.1 ∧ zd S ≤ zd u.2.1 ∧ zd u.2.1 ≤ bd ∧ u.2.2.1.1 + zd S ≤ F.1 + zd u.2.1 ∧ (u.1 = 1 ∨ u.1 = 2) ∧
  (u.1 = 1 → ¬ zo u.2.1 = 0 ∧ (zo u.2.1 = nI 1 → wdv u.2.2.1 (zr u.2.1))) ∧
  (u.1 = 2 → zok u.2.1 u.2.2.1 ∧ zpc u.2.1 < gL G (zq u.2.1) ∧ (zoper G none u.2.2.1 u.2.1).1 = 2 ∧ (zo u.2.1 = zo S ∧ zpl u.2.1 = zpl S ∧ zk u.2.1 = zk S) ∧ zd S < zd u.2.1 ∧ u.2.2.1.1 + 1 + zd S ≤ F.1 + zd u.2.1)
theorem go_R {bd : Nat} (hg : gwf G) (hbd : bd ≤ 200) : ∀ (n : Nat) (S : zW) (F : zF) (T : Nat → Int32) (C : Int32), zwf S → zok S F → zfw F → 258 ≤ F.1 → zd S ≤ bd → bd < zd S + n → F.1 + (bd - zd S) ≤ 32258 → rnR G bd S F (zgo G bd n S F T C)
  | 0, S, F, T, C, _, _, _, _, h1, h2, _ => by omega
  | n + 1, S, F, T, C, hz, hok, hw, h8, hd, hn, hN => by
    unfold zgo
    by_cases c1 : zd S = bd
    · rw [if_pos c1]
      exact ⟨Fge.rf, hw, hz, Nat.le_refl _, hd, Nat.le_refl _, Or.inl rfl, fun _ => ⟨by show ¬ nI 4 = 0; decide, fun z => absurd z (by show ¬ nI 4 = nI 1; decide)⟩, fun z => absurd z (by intro y; cases y)⟩
    rw [if_neg c1]
    by_cases c2 : zpc S < gL G (zq S)
    · rw [if_neg (fun z => z c2)]
      have hz' := hz.done (show zd S < 200 by omega)
      have hok' : zok (zdone S) F := hok
      have c2' : zpc (zdone S) < gL G (zq (zdone S)) := c2
      obtain ⟨o1, o2, o3, o4, o5, o6, o7, o8⟩ := zoper_ok (alt := none) hg hz' hok' h8 (by omega) c2'
      have ow := zoper_fw (alt := none) hg hz' hok' h8 (by omega) hw c2'
      obtain ⟨w1, w2⟩ := zoper_wf (F := F) (alt := none) hg hz' c2'
      have d1 : zd (zoper G none F (zdone S)).2.1 = zd S + 1 := o3.1
      by_cases r0 : (zoper G none F (zdone S)).1 = 0
      · rw [if_pos r0]
        have w2 := w2 (by omega)
        generalize zoper G none F (zdone S) = o at o1 o2 o3 o4 o5 o6 o7 o8 ow w1 w2 d1 r0 ⊢
        have e1 := o1.1
        have e2 := o1.2.1
        obtain ⟨x1, x2, x3, x4, x5, x6, x7, x8, x9⟩ := go_R hg hbd n o.2.1 o.2.2 (upd T (zslot S) (T (zslot S) + nI 1)) (C + nI 1) w1 (o4 r0) ow (by omega) (by omega) (by omega) (by omega)
        refine ⟨o1.ge.tr x1, x2, x3, by omega, x5, by omega, x7, x8, fun e => ?_⟩
        obtain ⟨y1, y2, y3, y4, y5, y6⟩ := x9 e
        have q1 : zo o.2.1 = zo S := by unfold zo; rw [w2]; rfl
        have q2 : zpl o.2.1 = zpl S := by unfold zpl; rw [w2]; rfl
        have q3 : zk o.2.1 = zk S := by unfold zk; rw [w2]; rfl
        exact ⟨y1, y2, y3, ⟨y4.1.trans q1, y4.2.1.trans q2, y4.2.2.trans q3⟩, by omega, by omega⟩
      · rw [if_neg r0]
        by_cases r2 : (zoper G none F (zdone S)).1 = 2
        · have e6 := o6 r2
          have e61 : (zoper G none F (zdone S)).2.1 = zdone S := by rw [e6]
          have e62 : (zoper G none F (zdone S)).2.2 = F := by rw [e6]
          rw [e61, e62]
          have dd : zd (zdone S) = zd S + 1 := rfl
          exact ⟨Fge.rf, hw, hz', by rw [dd]; omega, by show zd S + 1 ≤ bd; omega, by show F.1 + zd S ≤ F.1 + (zd S + 1); omega, Or.inr r2, fun z => absurd z (by show ¬ (zoper G none F (zdone S)).1 = 1; omega), fun _ => ⟨hok', c2', r2, ⟨rfl, rfl, rfl⟩, by show zd S < zd S + 1; omega, by show F.1 + 1 + zd S ≤ F.1 + (zd S + 1); omega⟩⟩
        · have r1 : (zoper G none F (zdone S)).1 = 1 := by omega
          have e2 := o1.2.1
          exact ⟨o1.ge, ow, w1, by show zd S ≤ zd (zoper G none F (zdone S)).2.1; omega, by show zd (zoper G none F (zdone S)).2.1 ≤ bd; omega, by show (zoper G none F (zdone S)).2.2.1 + zd S ≤ F.1 + zd (zoper G none F (zdone S)).2.1; omega, Or.inl r1, fun _ => ⟨o8 r1, fun z => o5 r1 z⟩, fun z => absurd z r2⟩
    · rw [if_pos c2]
      exact ⟨Fge.rf, hw, hz, Nat.le_refl _, hd, Nat.le_refl _, Or.inl rfl, fun _ => ⟨by show ¬ nI 5 = 0; decide, fun z => absurd z (by show ¬ nI 5 = nI 1; decide)⟩, fun z => absurd z (by intro y; cases y)⟩
/-- a whole run, and the plain run beside it -/
def rnS (G : zG) (bd N : Nat) (x y : Int32) (f : zF → zW) (u : zU) : Prop := (u.1 = 2 → ∃ P', sim u.2.2.1 x y u.2.1 P' ∧ ∀ F0, f F0 = zct G bd (N - zd u.2.1) P' F0) ∧ (u.1 = 1 → zo u.2.1 = nI 7 ∨ ∃ P', (∀ F0, f F0 = P') ∧ esim u.2.2.1 x y u.2.1 P')
theorem go_sim {bd N : Nat} {x y : Int32} (hg : gwf G) (hbd : bd ≤ 200) : ∀ (n m : Nat) (S P : zW) (F : zF) (T : Nat → Int32) (C : Int32), zwf S → zok S F → zfw F → 258 ≤ F.1 → zd S ≤ bd → bd < zd S + n → m + zd S = N → bd < N → F.1 + (bd - zd S) ≤ 32258 → sim F x y S P → rnS G bd N x y (fun F0 => zrp G bd m P F0) (zgo G bd n S F T C)
  | 0, _, S, P, F, T, C, _, _, _, _, h1, h2, _, _, _, _ => by omega
  | n + 1, 0, S, P, F, T, C, _, _, _, _, h1, h2, h3, h4, _, _ => by omega
  | n + 1, m + 1, S, P, F, T, C, hz, hok, hw, h8, hd, hn, hm, hbN, hN, h => by
    have hpc := h.pc
    have hqq := h.q
    have ed := h.2.2.1
    unfold zgo zrp
    rw [ed, hpc, hqq, h.place]
    by_cases c1 : zd S = bd
    · rw [if_pos c1]
      simp only [if_pos c1]
      exact ⟨fun z => absurd z (by intro y; cases y), fun _ => Or.inr ⟨_, fun _ => rfl, h.en (by decide)⟩⟩
    rw [if_neg c1]
    simp only [if_neg c1]
    by_cases c2 : zpc S < gL G (zq S)
    · rw [if_neg (fun z => z c2)]
      simp only [if_neg (fun z : ¬ zpc S < gL G (zq S) => z c2)]
      have hz' := hz.done (show zd S < 200 by omega)
      have hok' : zok (zdone S) F := hok
      have c2' : zpc (zdone S) < gL G (zq (zdone S)) := c2
      obtain ⟨o1, o2, o3, o4, o5, o6, o7, o8⟩ := zoper_ok (alt := none) hg hz' hok' h8 (by omega) c2'
      have ow := zoper_fw (alt := none) hg hz' hok' h8 (by omega) hw c2'
      obtain ⟨w1, w2⟩ := zoper_wf (F := F) (alt := none) hg hz' c2'
      have d1 : zd (zoper G none F (zdone S)).2.1 = zd S + 1 := o3.1
      by_cases r2 : (zoper G none F (zdone S)).1 = 2
      · rw [if_neg (by omega)]
        have e6 := o6 r2
        have e61 : (zoper G none F (zdone S)).2.1 = zdone S := by rw [e6]
        have e62 : (zoper G none F (zdone S)).2.2 = F := by rw [e6]
        rw [e61, e62]
        refine ⟨fun _ => ⟨zdone P, h.dn, fun F0 => ?_⟩, fun z => absurd z (by show ¬ (zoper G none F (zdone S)).1 = 1; omega)⟩
        show _ = zct G bd (N - (zd S + 1)) (zdone P) F0
        rw [show N - (zd S + 1) = m by omega]
        rfl
      · have so := sim_plain hg hz' hok' h8 (by omega) hw c2' h.dn r2
        by_cases r0 : (zoper G none F (zdone S)).1 = 0
        · rw [if_pos r0]
          rcases so with ⟨z, -⟩ | ⟨P', eP, s0, -⟩
          · omega
          have s0 := s0 r0
          have eP2 : ∀ F0, zoper G none F0 (zdone P) = (0, P', F0) := fun F0 => (eP F0).trans (by rw [r0])
          simp only [eP2, if_true]
          generalize zoper G none F (zdone S) = o at o1 o2 o3 o4 o5 o6 o7 o8 ow w1 d1 r0 s0 ⊢
          have e1 := o1.1
          have e2 := o1.2.1
          exact go_sim hg hbd n m o.2.1 P' o.2.2 (upd T (zslot S) (T (zslot S) + nI 1)) (C + nI 1) w1 (o4 r0) ow (by omega) (by omega) (by omega) (by omega) hbN (by omega) s0
        · have r1 : (zoper G none F (zdone S)).1 = 1 := by omega
          rw [if_neg r0]
          refine ⟨fun z => absurd z r2, fun _ => ?_⟩
          rcases so with ⟨-, z⟩ | ⟨P', eP, -, s1⟩
          · exact Or.inl z
          · have eP2 : ∀ F0, zoper G none F0 (zdone P) = (1, P', F0) := fun F0 => (eP F0).trans (by rw [r1])
            refine Or.inr ⟨P', fun F0 => ?_, s1 r1⟩
            show (if (zoper G none F0 (zdone P)).1 = 0 then _ else _) = _
            rw [eP2, if_neg (by intro z; cases z)]
    · rw [if_pos c2]
      simp only [if_pos c2]
      exact ⟨fun z => absurd z (by intro y; cases y), fun _ => Or.inr ⟨_, fun _ => rfl, h.en (by decide)⟩⟩
end KW
