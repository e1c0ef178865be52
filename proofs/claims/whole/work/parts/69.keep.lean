/-! ONE OPERATION keeps what values may be -/
/-- formulas made later leave the earlier ones as they are -/
def Fext (F F2 : zF) : Prop := F.1 ≤ F2.1 ∧ F2.1 ≤ F.1 + 1 ∧ ∀ j, j < F.1 → F2.2.1 j = F.2.1 j ∧ F2.2.2.1 j = F.2.2.1 j ∧ F2.2.2.2.1 j = F.2.2.2.1 j ∧ F2.2.2.2.2 j = F.2.2.2.2 j
theorem Fext.rf {F : zF} : Fext F F := ⟨Nat.le_refl _, Nat.le_succ _, fun j _ => ⟨rfl, rfl, rfl, rfl⟩⟩
theorem zmk_ext {F : zF} {op a c : Int32} {s : Nat} : Fext F (zmk F op a c s).2 := by
  unfold zmk
  split
  · exact Fext.rf
  · refine ⟨Nat.le_succ _, Nat.le_refl _, fun j hj => ?_⟩
    have n : j ≠ F.1 := by omega
    exact ⟨un_n n, un_n n, un_n n, un_n n⟩
theorem zmk_fok {F : zF} {op a c : Int32} {s : Nat} (h : zfok F) : zfok (zmk F op a c s).2 := by
  unfold zmk
  split
  · exact h
  · intro j j1 j2
    have j2 : j < F.1 + 1 := j2
    show un F.2.2.2.2 F.1 s j ≤ 60
    by_cases e : j = F.1
    · rw [e, un_e]; omega
    · rw [un_n e]; exact h j j1 (by omega)
theorem z1_ext {F : zF} {op a : Int32} : Fext F (z1 F op a).2 := by
  unfold z1
  split
  · exact Fext.rf
  · exact zmk_ext
theorem z1_fok {F : zF} {op a : Int32} (h : zfok F) : zfok (z1 F op a).2 := by
  unfold z1
  split
  · exact h
  · exact zmk_fok h
theorem z2_ext {F : zF} {n : Nat} {a c : Int32} : Fext F (z2 F n a c).2 := by
  unfold z2
  split
  · exact Fext.rf
  · exact zmk_ext
theorem z2_fok {F : zF} {n : Nat} {a c : Int32} (h : zfok F) : zfok (z2 F n a c).2 := by
  unfold z2
  split
  · exact h
  · exact zmk_fok h
theorem okv.mono {N n N2 n2 : Nat} {v : Int32} (h : okv N n v) (h1 : N ≤ N2) (h2 : n ≤ n2) : okv N2 n2 v := by
  rcases h with ⟨j, hj, e⟩ | e | ⟨k, hk, e⟩
  · exact Or.inl ⟨j, by omega, e⟩
  · exact Or.inr (Or.inl e)
  · exact Or.inr (Or.inr ⟨k, by omega, e⟩)
theorem wdv.mono {F F2 : zF} {v : Int32} (h : wdv F v) (h1 : F.1 ≤ F2.1) : wdv F2 v := by
  obtain ⟨j, hj, e⟩ := h
  exact ⟨j, by omega, e⟩
theorem wdv.okv {F : zF} {n : Nat} {v : Int32} (h : wdv F v) : okv F.1 n v := Or.inl h
section KP
variable {S : zW} {F F2 : zF} {G : zG} {alt : Option Nat}
theorem zok.ff (h : zok S F) (h1 : F.1 ≤ F2.1) (h2 : zfok F2) : zok S F2 := ⟨h2, fun f hf j hj => (h.2.1 f hf j hj).elim (fun z => Or.inl (z.mono h1 (Nat.le_refl _))) Or.inr, fun k hk i hi => (h.2.2 k hk i hi).mono h1⟩
theorem zok.jump (h : zok S F) {p : Nat} : zok (zjump S p) F := h
theorem zok.drop (h : zok S F) {c : Nat} : zok (zdrop S c) F := ⟨h.1, fun f hf j hj => h.2.1 f hf j (by
  have hj : j < 6 + un (zH S) (zt S) (zh S - c) f := hj
  by_cases e : f = zt S
  · rw [e, un_e] at hj; rw [e]; unfold zh at hj; omega
  · rw [un_n e] at hj; exact hj), h.2.2⟩
theorem zok.push (h : zok S F) {x : Int32} (hx : okv F.1 (zn S) x) : zok (zpush S x) F := ⟨h.1, fun f hf j hj => by
  have hj : j < 6 + un (zH S) (zt S) (zh S + 1) f := hj
  show okv F.1 (zn S) (u2 (zV S) (zt S) (6 + zh S) x f j) ∨ j < 6 ∧ u2 (zV S) (zt S) (6 + zh S) x f j = -100
  by_cases e : f = zt S ∧ j = 6 + zh S
  · rw [e.1, e.2, u2_e]; exact Or.inl hx
  · have ne : f ≠ zt S ∨ j ≠ 6 + zh S := by omega
    rw [u2_n ne]
    refine h.2.1 f hf j ?_
    by_cases e2 : f = zt S
    · rw [e2, un_e] at hj; rw [e2]; unfold zh at *; omega
    · rw [un_n e2] at hj; exact hj, h.2.2⟩
theorem zok.loc (h : zok S F) {i : Nat} {x : Int32} (hx : okv F.1 (zn S) x) : zok (zloc S i x) F := ⟨h.1, fun f hf j hj => by
  show okv F.1 (zn S) (u2 (zV S) (zt S) i x f j) ∨ j < 6 ∧ u2 (zV S) (zt S) i x f j = -100
  by_cases e : f = zt S ∧ j = i
  · rw [e.1, e.2, u2_e]; exact Or.inl hx
  · have ne : f ≠ zt S ∨ j ≠ i := by omega
    rw [u2_n ne]
    exact h.2.1 f hf j hj, h.2.2⟩
theorem zok.leave (h : zok S F) : zok (zleave S) F := ⟨h.1, fun f hf j hj => h.2.1 f (Nat.le_trans hf (Nat.sub_le _ _)) j hj, h.2.2⟩
theorem zok.next (h : zok S F) : zok (znext S) F := h
theorem zok.fin (h : zok S F) {c : Nat} {x : Int32} (hx : okv F.1 (zn S) x) : zok (zfin S c x) F := (h.drop (c := c)).push hx
theorem zok.set (h : zok S F) {k i : Nat} {x : Int32} (hx : wdv F x) : zok (zset S k i x) F := ⟨h.1, h.2.1, fun q hq j hj => by
  show wdv F (u2 (zE S) k i x q j)
  by_cases e : q = k ∧ j = i
  · rw [e.1, e.2, u2_e]; exact hx
  · have ne : q ≠ k ∨ j ≠ i := by omega
    rw [u2_n ne]; exact h.2.2 q hq j hj⟩
theorem zok.arr (h : zok S F) {l : Nat} (h8 : 256 ≤ F.1) : zok (zarr S l) F := ⟨h.1, fun f hf j hj => (h.2.1 f hf j hj).elim (fun z => Or.inl (z.mono (Nat.le_refl _) (Nat.le_succ _))) Or.inr, fun k hk i hi => by
  have hk : k < zn S + 1 := hk
  have hi : i < un (zL S) (zn S) l k := hi
  show wdv F (if k = zn S then nI 128 else zE S k i)
  by_cases e : k = zn S
  · rw [if_pos e]; exact ⟨128, by omega, rfl⟩
  · rw [if_neg e]; rw [un_n e] at hi; exact h.2.2 k (by omega) i hi⟩
theorem zok.call (h : zok S F) {q c : Nat} (hc : c ≤ zh S) : zok (zcall S q c) F := ⟨h.1, fun f hf j hj => by
  have hf : f ≤ zt S + 1 := hf
  have hj : j < 6 + un (un (zH S) (zt S) (zh S - c)) (zt S + 1) 0 f := hj
  show okv F.1 (zn S) (if f = zt S + 1 then (if j < c then zV S (zt S) (6 + (zh S - c) + j) else if j < 6 then -100 else zV S f j) else zV S f j) ∨ j < 6 ∧ (if f = zt S + 1 then (if j < c then zV S (zt S) (6 + (zh S - c) + j) else if j < 6 then -100 else zV S f j) else zV S f j) = -100
  by_cases e : f = zt S + 1
  · rw [if_pos e]
    rw [e, un_e] at hj
    by_cases e2 : j < c
    · rw [if_pos e2]
      rcases h.2.1 (zt S) (Nat.le_refl _) (6 + (zh S - c) + j) (by unfold zh at *; omega) with z | z
      · exact Or.inl z
      · exact absurd z.1 (by omega)
    · rw [if_neg e2, if_pos (by omega)]; exact Or.inr ⟨by omega, rfl⟩
  · rw [if_neg e]
    rw [un_n e] at hj
    refine h.2.1 f (by omega) j ?_
    by_cases e2 : f = zt S
    · rw [e2, un_e] at hj; rw [e2]; unfold zh at *; omega
    · rw [un_n e2] at hj; exact hj, h.2.2⟩
/-- what comes of an operation -/
def okR (S : zW) (F : zF) (r : Nat × zW × zF) : Prop := Fext F r.2.2 ∧ zfok r.2.2 ∧ (zd r.2.1 = zd S ∧ (r.1 = 0 → zo r.2.1 = zo S)) ∧ (r.1 = 0 → zok r.2.1 r.2.2) ∧ (r.1 = 1 → zo r.2.1 = nI 1 → wdv r.2.2 (zr r.2.1)) ∧ (r.1 = 2 → r.2 = (S, F)) ∧ r.1 ≤ 2 ∧ (r.1 = 1 → ¬ zo r.2.1 = 0)
theorem okR.brk (h : zok S F) : okR S F (zbrk F S) := ⟨Fext.rf, h.1, ⟨rfl, fun e => absurd e (by intro y; cases y)⟩, fun e => absurd e (by intro y; cases y), fun _ e => absurd e (by show ¬ nI 5 = nI 1; decide), fun e => absurd e (by intro y; cases y), by show 1 ≤ 2; decide, fun _ => by show ¬ nI 5 = 0; decide⟩
theorem okR.go {X : zW} (h : zok X F) (hd : (zd X, zo X) = (zd S, zo S)) : okR S F (0, X, F) := ⟨Fext.rf, h.1, ⟨(Prod.mk.inj hd).1, fun _ => (Prod.mk.inj hd).2⟩, fun _ => h, fun e => absurd e (by intro y; cases y), fun e => absurd e (by intro y; cases y), Nat.zero_le _, fun e => absurd e (by intro y; cases y)⟩
theorem okR.sp (h : zok S F) : okR S F (2, S, F) := ⟨Fext.rf, h.1, ⟨rfl, fun e => absurd e (by intro y; cases y)⟩, fun e => absurd e (by intro y; cases y), fun e => absurd e (by intro y; cases y), fun _ => rfl, Nat.le_refl _, fun e => absurd e (by intro y; cases y)⟩
theorem okR.cm (h : zok S F) {c : Nat} {v : Int32 × zF} (hx : Fext F v.2) (hf : zfok v.2) (hv : v.1 = -1 ∨ wdv v.2 v.1) : okR S F (zcm S c v) := by
  unfold zcm
  split
  · exact ⟨hx, hf, ⟨rfl, fun e => absurd e (by intro y; cases y)⟩, fun e => absurd e (by intro y; cases y), fun _ e => absurd e (by show ¬ nI 7 = nI 1; decide), fun e => absurd e (by intro y; cases y), by show 1 ≤ 2; decide, fun _ => by show ¬ nI 7 = 0; decide⟩
  · rename_i e
    exact ⟨hx, hf, ⟨rfl, fun _ => rfl⟩, fun _ => (h.ff hx.1 hf).fin (hv.resolve_left e).okv, fun e => absurd e (by intro y; cases y), fun e => absurd e (by intro y; cases y), Nat.zero_le _, fun e => absurd e (by intro y; cases y)⟩
theorem kdW {kd : Nat} (h : kd ≤ 12) (h8 : 256 ≤ F.1) : wdv F (nI kd + nI 128) := by rw [nI_add]; exact ⟨kd + 128, by omega, rfl⟩
theorem okR.rai {kd : Nat} {pl : Int32} (hkd : kd ≤ 12) (h8 : 256 ≤ F.1) : ∀ (m : Nat) (S : zW), zok S F → okR S F ((zrai G kd pl m S).1, (zrai G kd pl m S).2, F)
  | 0, S, h => by
    unfold zrai
    split
    · exact okR.go ((h.drop.push (kdW hkd h8).okv).jump) rfl
    · exact ⟨Fext.rf, h.1, ⟨rfl, fun e => absurd e (by intro y; cases y)⟩, fun e => absurd e (by intro y; cases y), fun _ e => absurd e (by show ¬ nI 3 = nI 1; decide), fun e => absurd e (by intro y; cases y), by show 1 ≤ 2; decide, fun _ => by show ¬ nI 3 = 0; decide⟩
  | m + 1, S, h => by
    unfold zrai
    split
    · exact okR.go ((h.drop.push (kdW hkd h8).okv).jump) rfl
    · have z := okR.rai (pl := pl) hkd h8 m (zleave S) h.leave
      obtain ⟨z1, z2, z3, z4, z5, z6, z7, z8⟩ := z
      exact ⟨z1, z2, z3, z4, z5, fun e => absurd e (zrai_n m _), z7, z8⟩
theorem okR.thr {kd : Nat} (h : zok S F) (hkd : kd ≤ 12) (h8 : 256 ≤ F.1) : okR S F (zthr G F S kd) := okR.rai hkd h8 _ S h
/-- ONE OPERATION keeps what values may be -/
theorem zoper_ok (hg : gwf G) (hz : zwf S) (h : zok S F) (h8 : 258 ≤ F.1) (hN : F.1 < 32258) (hp : zpc S < gL G (zq S)) : okR S F (zoper G alt F S) := by
  have ho := ((hg.2.2 (zq S) hz.hi.2.1).2.2.1 (zpc S) hp).1
  have hr := ((hg.2.2 (zq S) hz.hi.2.1).2.2.1 (zpc S) hp).2
  have hn4 := hz.2.2.2.1
  have h6 : 256 ≤ F.1 := by omega
  have wd0 : ¬ (zh S < 1 ∨ zpk S 0 < 0) → wdv F (zpk S 0) := fun z => h.wd hz (by omega) (fun y => z (Or.inr y))
  rcases (show gO G (zq S) (zpc S) = 0 ∨ gO G (zq S) (zpc S) = 1 ∨ gO G (zq S) (zpc S) = 2 ∨ gO G (zq S) (zpc S) = 3 ∨ gO G (zq S) (zpc S) = 4 ∨ gO G (zq S) (zpc S) = 5 ∨ gO G (zq S) (zpc S) = 6 ∨ gO G (zq S) (zpc S) = 7 ∨ gO G (zq S) (zpc S) = 8 ∨ gO G (zq S) (zpc S) = 9 ∨ gO G (zq S) (zpc S) = 10 ∨ gO G (zq S) (zpc S) = 11 ∨ gO G (zq S) (zpc S) = 12 ∨ gO G (zq S) (zpc S) = 13 ∨ gO G (zq S) (zpc S) = 14 ∨ gO G (zq S) (zpc S) = 15 ∨ gO G (zq S) (zpc S) = 16 ∨ gO G (zq S) (zpc S) = 17 ∨ gO G (zq S) (zpc S) = 18 ∨ gO G (zq S) (zpc S) = 19 ∨ gO G (zq S) (zpc S) = 20 ∨ gO G (zq S) (zpc S) = 21 ∨ gO G (zq S) (zpc S) = 22 ∨ gO G (zq S) (zpc S) = 23 ∨ gO G (zq S) (zpc S) = 24 ∨ gO G (zq S) (zpc S) = 25 ∨ gO G (zq S) (zpc S) = 26 ∨ gO G (zq S) (zpc S) = 27 ∨ gO G (zq S) (zpc S) = 28 ∨ gO G (zq S) (zpc S) = 29 by omega) with e | e | e | e | e | e | e | e | e | e | e | e | e | e | e | e | e | e | e | e | e | e | e | e | e | e | e | e | e | e
  · rw [zo_0 e]
    split
    · exact okR.brk h
    · rw [e] at hr
      have ba : bR (gU G (zq S) (zpc S)) := by
        have h1 : (-128 : Int32).toInt ≤ (gU G (zq S) (zpc S)).toInt := Int32.le_iff_toInt_le.mp hr.1
        have h2 := Int32.le_iff_toInt_le.mp hr.2
        rw [nI_toInt (by decide)] at h2
        exact ⟨h1, h2⟩
      obtain ⟨j, hj, ej⟩ := nbA ba.1 ba.2
      exact okR.go (h.fin (Or.inl ⟨j, by omega, ej⟩)) rfl
  · rw [zo_1 e]
    rw [e] at hr
    obtain ⟨i, -, i2, ei⟩ := rg_nat hr (by decide) (by decide)
    rw [ei, nI_clamp (by omega)]
    split
    · exact okR.brk h
    · rename_i c
      exact okR.go (h.fin ((h.2.1 (zt S) (Nat.le_refl _) i (by omega)).elim id (fun z => absurd (Or.inr z.2) c))) rfl
  · rw [zo_2 e]
    split
    · exact okR.brk h
    · exact okR.go (h.drop.loc (h.pk (b := 0) (by omega))).next rfl
  · rw [zo_3 e]
    split
    · exact okR.brk h
    · exact okR.go h.drop.next rfl
  · rw [zo_4 e]
    split
    · exact okR.brk h
    · have p0 := h.pk (b := 0) (by omega)
      exact okR.go (((h.drop (c := 1)).push p0).push p0).next rfl
  · rw [zo_5 e]
    split
    · exact okR.brk h
    · have p0 := h.pk (b := 0) (by omega)
      have p1 := h.pk (b := 1) (by omega)
      exact okR.go (((h.drop (c := 2)).push p0).push p1).next rfl
  · rw [zo_6 e]
    split
    · exact okR.brk h
    · rename_i c
      have w0 := h.wd hz (b := 0) (by omega) (fun y => c (Or.inr (Or.inl y)))
      have w1 := h.wd hz (b := 1) (by omega) (fun y => c (Or.inr (Or.inr y)))
      exact okR.cm h z2_ext (z2_fok h.1) (z2_wd hN h8 w1 w0)
  · rw [zo_7 e]
    split
    · exact okR.brk h
    · rename_i c
      have w0 := h.wd hz (b := 0) (by omega) (fun y => c (Or.inr (Or.inl y)))
      have w1 := h.wd hz (b := 1) (by omega) (fun y => c (Or.inr (Or.inr y)))
      exact okR.cm h z2_ext (z2_fok h.1) (z2_wd hN h8 w1 w0)
  · rw [zo_8 e]
    split
    · exact okR.brk h
    · rename_i c
      have w0 := h.wd hz (b := 0) (by omega) (fun y => c (Or.inr (Or.inl y)))
      have w1 := h.wd hz (b := 1) (by omega) (fun y => c (Or.inr (Or.inr y)))
      exact okR.cm h z2_ext (z2_fok h.1) (z2_wd hN h8 w1 w0)
  · rw [zo_9 e]
    split
    · exact okR.brk h
    · rename_i c
      have w0 := h.wd hz (b := 0) (by omega) (fun y => c (Or.inr (Or.inl y)))
      have w1 := h.wd hz (b := 1) (by omega) (fun y => c (Or.inr (Or.inr y)))
      split
      · split
        · exact okR.thr h (by decide) h6
        · exact okR.cm h z2_ext (z2_fok h.1) (z2_wd hN h8 w1 w0)
      · split
        · exact okR.sp h
        · split
          · exact okR.cm h z2_ext (z2_fok h.1) (z2_wd hN h8 w1 w0)
          · exact okR.thr h (by decide) h6
  · rw [zo_10 e]
    split
    · exact okR.brk h
    · rename_i c
      have w0 := h.wd hz (b := 0) (by omega) (fun y => c (Or.inr (Or.inl y)))
      have w1 := h.wd hz (b := 1) (by omega) (fun y => c (Or.inr (Or.inr y)))
      split
      · split
        · exact okR.thr h (by decide) h6
        · exact okR.cm h z2_ext (z2_fok h.1) (z2_wd hN h8 w1 w0)
      · split
        · exact okR.sp h
        · split
          · exact okR.cm h z2_ext (z2_fok h.1) (z2_wd hN h8 w1 w0)
          · exact okR.thr h (by decide) h6
  · rw [zo_11 e]
    split
    · exact okR.brk h
    · rename_i c
      exact okR.cm h z1_ext (z1_fok h.1) (z1_wd hN h8 (wd0 c))
  · rw [zo_12 e]
    split
    · exact okR.brk h
    · rename_i c
      have w0 := h.wd hz (b := 0) (by omega) (fun y => c (Or.inr (Or.inl y)))
      have w1 := h.wd hz (b := 1) (by omega) (fun y => c (Or.inr (Or.inr y)))
      exact okR.cm h z2_ext (z2_fok h.1) (z2_wd hN h8 w1 w0)
  · rw [zo_13 e]
    split
    · exact okR.brk h
    · rename_i c
      have w0 := h.wd hz (b := 0) (by omega) (fun y => c (Or.inr (Or.inl y)))
      have w1 := h.wd hz (b := 1) (by omega) (fun y => c (Or.inr (Or.inr y)))
      exact okR.cm h z2_ext (z2_fok h.1) (z2_wd hN h8 w1 w0)
  · rw [zo_14 e]
    split
    · exact okR.brk h
    · rename_i c
      have w0 := h.wd hz (b := 0) (by omega) (fun y => c (Or.inr (Or.inl y)))
      have w1 := h.wd hz (b := 1) (by omega) (fun y => c (Or.inr (Or.inr y)))
      exact okR.cm h z2_ext (z2_fok h.1) (z2_wd hN h8 w1 w0)
  · rw [zo_15 e]
    split
    · exact okR.brk h
    · rename_i c
      have w0 := h.wd hz (b := 0) (by omega) (fun y => c (Or.inr (Or.inl y)))
      have w1 := h.wd hz (b := 1) (by omega) (fun y => c (Or.inr (Or.inr y)))
      exact okR.cm h z2_ext (z2_fok h.1) (z2_wd hN h8 w1 w0)
  · rw [zo_16 e]
    split
    · exact okR.brk h
    · rename_i c
      have w0 := h.wd hz (b := 0) (by omega) (fun y => c (Or.inr (Or.inl y)))
      have w1 := h.wd hz (b := 1) (by omega) (fun y => c (Or.inr (Or.inr y)))
      exact okR.cm h z2_ext (z2_fok h.1) (z2_wd hN h8 w1 w0)
  · rw [zo_17 e]
    exact okR.go h.jump rfl
  · rw [zo_18 e]
    split
    · exact okR.brk h
    · split
      · exact okR.go h.drop.jump rfl
      · split
        · exact okR.sp h
        · exact okR.go h.drop.jump rfl
  · rw [zo_19 e]
    split
    · exact okR.brk h
    · split
      · exact okR.go h.drop.jump rfl
      · split
        · exact okR.sp h
        · exact okR.go h.drop.jump rfl
  · rw [zo_20 e]
    split
    · exact okR.brk h
    · exact okR.go h.drop.jump rfl
  · rw [zo_21 e]
    split
    · exact okR.brk h
    · split
      · exact okR.sp h
      · split
        · exact okR.thr h (by decide) h6
        · split
          · exact okR.thr h (by decide) h6
          · exact okR.go ((h.arr h6).fin (Or.inr (Or.inr ⟨zn S, Nat.lt_succ_self _, rfl⟩))) rfl
  · rw [zo_22 e]
    split
    · exact okR.brk h
    · rename_i c
      have hv : zpk S 1 < 0 := Decidable.byContradiction fun y => c (Or.inr (Or.inr y))
      split
      · exact okR.thr h (by decide) h6
      · rename_i c2
        obtain ⟨j, hj, y⟩ := ((h.pk (b := 1) (by omega)).ref hv (by omega)).resolve_left c2
        rw [y, zar_nI (by omega)]
        split
        · exact okR.sp h
        · split
          · rename_i c3
            exact okR.go (h.fin (h.2.2 j hj _ c3).okv) rfl
          · exact okR.thr h (by decide) h6
  · rw [zo_23 e]
    split
    · exact okR.brk h
    · rename_i c
      have hv : zpk S 2 < 0 := Decidable.byContradiction fun y => c (Or.inr (Or.inr (Or.inr y)))
      split
      · exact okR.thr h (by decide) h6
      · rename_i c2
        obtain ⟨j, hj, y⟩ := ((h.pk (b := 2) (by omega)).ref hv (by omega)).resolve_left c2
        rw [y, zar_nI (by omega)]
        split
        · exact okR.sp h
        · split
          · rename_i c3
            exact okR.go ((h.set (h.wd hz (b := 0) (by omega) (fun y => c (Or.inr (Or.inl y))))).drop.next) rfl
          · exact okR.thr h (by decide) h6
  · rw [zo_24 e]
    split
    · exact okR.brk h
    · rename_i c
      have hv : zpk S 0 < 0 := Decidable.byContradiction fun y => c (Or.inr y)
      split
      · exact okR.thr h (by decide) h6
      · rename_i c2
        obtain ⟨j, hj, y⟩ := ((h.pk (b := 0) (by omega)).ref hv (by omega)).resolve_left c2
        have hl := hz.2.2.2.2.1 j hj
        rw [y, zar_nI (by omega), nI_add]
        exact okR.go (h.fin (Or.inl ⟨zL S j + 128, by omega, rfl⟩)) rfl
  · rw [zo_25 e]
    split
    · exact okR.brk h
    · split
      · exact okR.thr h (by decide) h6
      · exact okR.go (h.call (by omega)) rfl
  · rw [zo_26 e]
    split
    · exact okR.brk h
    · rename_i c
      split
      · refine ⟨Fext.rf, h.1, ⟨rfl, fun e => absurd e (by intro y; cases y)⟩, fun e => absurd e (by intro y; cases y), fun _ e => ?_, fun e => absurd e (by intro y; cases y), by show 1 ≤ 2; decide, fun _ => ?_⟩
        · have e : (if zpk S 0 < 0 then nI 2 else nI 1) = nI 1 := e
          by_cases c2 : zpk S 0 < 0
          · rw [if_pos c2] at e; exact absurd e (by decide)
          · exact h.wd hz (b := 0) (by omega) c2
        · show ¬ (if zpk S 0 < 0 then nI 2 else nI 1) = 0
          split <;> decide
      · exact okR.go (h.leave.fin (h.pk (b := 0) (by omega))) rfl
  · rw [zo_27 e]
    rw [e] at hr
    obtain ⟨i, -, i2, ei⟩ := rg_nat hr (by decide) (by decide)
    rw [ei, nI_clamp (by omega)]
    exact okR.thr h i2 h6
  · rw [zo_28 e]
    split
    · exact okR.brk h
    · exact okR.go (h.fin (Or.inr (Or.inl rfl))) rfl
  · rw [zo_29 e]
    split
    · exact ⟨Fext.rf, h.1, ⟨rfl, fun e => absurd e (by intro y; cases y)⟩, fun e => absurd e (by intro y; cases y), fun _ e => absurd e (by show ¬ nI 6 = nI 1; decide), fun e => absurd e (by intro y; cases y), by show 1 ≤ 2; decide, fun _ => by show ¬ nI 6 = 0; decide⟩
    · split
      · exact okR.brk h
      · rename_i c
        exact okR.cm h z1_ext (z1_fok h.1) (z1_wd hN h8 (wd0 c))
end KP
section KN
variable {S : zW} {F : zF} {G : zG}
/-- all words of a way are numbers -/
def znm (S : zW) (F : zF) : Prop := zok S (256, F.2.1, F.2.2.1, F.2.2.2.1, fun _ => 0)
def okN (S : zW) (F : zF) (r : Nat × zW × zF) : Prop := r.2.2 = F ∧ (zd r.2.1 = zd S ∧ (r.1 = 0 → zo r.2.1 = zo S)) ∧ (r.1 = 0 → znm r.2.1 F) ∧ (r.1 = 1 → zo r.2.1 = nI 1 → isn (zr r.2.1)) ∧ r.1 ≤ 1 ∧ (r.1 = 1 → ¬ zo r.2.1 = 0)
theorem okN.brk : okN S F (zbrk F S) := ⟨rfl, ⟨rfl, fun e => absurd e (by intro y; cases y)⟩, fun e => absurd e (by intro y; cases y), fun _ e => absurd e (by show ¬ nI 5 = nI 1; decide), Nat.le_refl _, fun _ => by show ¬ nI 5 = 0; decide⟩
theorem okN.go {X : zW} (h : znm X F) (hd : (zd X, zo X) = (zd S, zo S)) : okN S F (0, X, F) := ⟨rfl, ⟨(Prod.mk.inj hd).1, fun _ => (Prod.mk.inj hd).2⟩, fun _ => h, fun e => absurd e (by intro y; cases y), Nat.zero_le _, fun e => absurd e (by intro y; cases y)⟩
theorem wd_isn {f g h : Nat → Int32} {v : Int32} (e : wdv (256, f, g, h, fun _ => 0) v) : isn v := by
  obtain ⟨j, hj, rfl⟩ := e
  have hj : j < 256 := hj
  exact (isn_nI (by omega)).mpr hj
theorem okN.cm (h : znm S F) {c j : Nat} (hj : j < 256) : okN S F (zcm S c (nI j, F)) := by
  unfold zcm
  rw [if_neg (fun y => nI_pos (n := j) (by omega) (by rw [show nI j = -1 from y]; decide))]
  exact okN.go (zok.fin h (Or.inl ⟨j, hj, rfl⟩)) rfl
theorem okN.thr {kd : Nat} (h : znm S F) (hkd : kd ≤ 12) : okN S F (zthr G F S kd) := by
  have z := okR.rai (G := G) (pl := zplace S) hkd (F := (256, F.2.1, F.2.2.1, F.2.2.2.1, fun _ => 0)) (Nat.le_refl _) (zt S) S h
  obtain ⟨z1, z2, z3, z4, z5, z6, z7, z8⟩ := z
  have n2 : ¬ (zrai G kd (zplace S) (zt S) S).1 = 2 := zrai_n _ _
  exact ⟨rfl, z3, z4, fun e1 e2 => wd_isn (z5 e1 e2), by have z7 : (zrai G kd (zplace S) (zt S) S).1 ≤ 2 := z7; show (zrai G kd (zplace S) (zt S) S).1 ≤ 1; omega, z8⟩
theorem znm.one (hz : zwf S) (h : znm S F) {c : Nat} {op : Int32} {b : Nat} (hb : b < zh S) (hv : ¬ zpk S b < 0) : okN S F (zcm S c (z1 F op (zpk S b))) := by
  obtain ⟨j, hj, ej⟩ := zok.wd h hz hb hv
  have hj : j < 256 := hj
  have e : isn (zpk S b) := by rw [ej]; exact (isn_nI (by omega)).mpr hj
  unfold z1
  rw [if_pos e, ej]
  obtain ⟨i, hi, ei⟩ := nbA (bR_w1 (op := op) (bR_num hj)).1 (bR_w1 (op := op) (bR_num hj)).2
  rw [ei]
  exact okN.cm h hi
theorem znm.two (hz : zwf S) (h : znm S F) {c n : Nat} {a b : Nat} (ha : a < zh S) (hb : b < zh S) (hv : ¬ zpk S a < 0) (hu : ¬ zpk S b < 0) : okN S F (zcm S c (z2 F n (zpk S a) (zpk S b))) := by
  obtain ⟨j, hj, ej⟩ := zok.wd h hz ha hv
  obtain ⟨k, hk, ek⟩ := zok.wd h hz hb hu
  have hj : j < 256 := hj
  have hk : k < 256 := hk
  have e : isn (zpk S a) := by rw [ej]; exact (isn_nI (by omega)).mpr hj
  have e2 : isn (zpk S b) := by rw [ek]; exact (isn_nI (by omega)).mpr hk
  unfold z2
  rw [if_pos ⟨e, e2⟩, ej, ek]
  obtain ⟨i, hi, ei⟩ := nbA (bR_w2 (k := n) (bR_num hj) (bR_num hk)).1 (bR_w2 (k := n) (bR_num hj) (bR_num hk)).2
  rw [ei]
  exact okN.cm h hi
theorem znm.isn (hz : zwf S) (h : znm S F) {b : Nat} (hb : b < zh S) (hv : ¬ zpk S b < 0) : isn (zpk S b) := wd_isn (zok.wd h hz hb hv)
/-- NUMBERS ALONE: nothing is split, no formula is made -/
theorem zoper_num (hg : gwf G) (hz : zwf S) (h : znm S F) (hp : zpc S < gL G (zq S)) : okN S F (zoper G none F S) := by
  have ho := ((hg.2.2 (zq S) hz.hi.2.1).2.2.1 (zpc S) hp).1
  have hr := ((hg.2.2 (zq S) hz.hi.2.1).2.2.1 (zpc S) hp).2
  have hn4 := hz.2.2.2.1
  have h' : zok S (256, F.2.1, F.2.2.1, F.2.2.2.1, fun _ => 0) := h
  rcases (show gO G (zq S) (zpc S) = 0 ∨ gO G (zq S) (zpc S) = 1 ∨ gO G (zq S) (zpc S) = 2 ∨ gO G (zq S) (zpc S) = 3 ∨ gO G (zq S) (zpc S) = 4 ∨ gO G (zq S) (zpc S) = 5 ∨ gO G (zq S) (zpc S) = 6 ∨ gO G (zq S) (zpc S) = 7 ∨ gO G (zq S) (zpc S) = 8 ∨ gO G (zq S) (zpc S) = 9 ∨ gO G (zq S) (zpc S) = 10 ∨ gO G (zq S) (zpc S) = 11 ∨ gO G (zq S) (zpc S) = 12 ∨ gO G (zq S) (zpc S) = 13 ∨ gO G (zq S) (zpc S) = 14 ∨ gO G (zq S) (zpc S) = 15 ∨ gO G (zq S) (zpc S) = 16 ∨ gO G (zq S) (zpc S) = 17 ∨ gO G (zq S) (zpc S) = 18 ∨ gO G (zq S) (zpc S) = 19 ∨ gO G (zq S) (zpc S) = 20 ∨ gO G (zq S) (zpc S) = 21 ∨ gO G (zq S) (zpc S) = 22 ∨ gO G (zq S) (zpc S) = 23 ∨ gO G (zq S) (zpc S) = 24 ∨ gO G (zq S) (zpc S) = 25 ∨ gO G (zq S) (zpc S) = 26 ∨ gO G (zq S) (zpc S) = 27 ∨ gO G (zq S) (zpc S) = 28 ∨ gO G (zq S) (zpc S) = 29 by omega) with e | e | e | e | e | e | e | e | e | e | e | e | e | e | e | e | e | e | e | e | e | e | e | e | e | e | e | e | e | e
  · rw [zo_0 e]
    split
    · exact okN.brk
    · rw [e] at hr
      have ba : bR (gU G (zq S) (zpc S)) := by
        have h1 : (-128 : Int32).toInt ≤ (gU G (zq S) (zpc S)).toInt := Int32.le_iff_toInt_le.mp hr.1
        have h2 := Int32.le_iff_toInt_le.mp hr.2
        rw [nI_toInt (by decide)] at h2
        exact ⟨h1, h2⟩
      obtain ⟨j, hj, ej⟩ := nbA ba.1 ba.2
      exact okN.go (h'.fin (Or.inl ⟨j, hj, ej⟩)) rfl
  · rw [zo_1 e]
    rw [e] at hr
    obtain ⟨i, -, i2, ei⟩ := rg_nat hr (by decide) (by decide)
    rw [ei, nI_clamp (by omega)]
    split
    · exact okN.brk
    · rename_i c
      exact okN.go (h'.fin ((h'.2.1 (zt S) (Nat.le_refl _) i (by omega)).elim id (fun z => absurd (Or.inr z.2) c))) rfl
  · rw [zo_2 e]
    split
    · exact okN.brk
    · exact okN.go (h'.drop.loc (h'.pk (b := 0) (by omega))).next rfl
  · rw [zo_3 e]
    split
    · exact okN.brk
    · exact okN.go h'.drop.next rfl
  · rw [zo_4 e]
    split
    · exact okN.brk
    · have p0 := h'.pk (b := 0) (by omega)
      exact okN.go (((h'.drop (c := 1)).push p0).push p0).next rfl
  · rw [zo_5 e]
    split
    · exact okN.brk
    · have p0 := h'.pk (b := 0) (by omega)
      have p1 := h'.pk (b := 1) (by omega)
      exact okN.go (((h'.drop (c := 2)).push p0).push p1).next rfl
  · rw [zo_6 e]
    split
    · exact okN.brk
    · rename_i c
      exact znm.two hz h (by omega) (by omega) (fun y => c (Or.inr (Or.inr y))) (fun y => c (Or.inr (Or.inl y)))
  · rw [zo_7 e]
    split
    · exact okN.brk
    · rename_i c
      exact znm.two hz h (by omega) (by omega) (fun y => c (Or.inr (Or.inr y))) (fun y => c (Or.inr (Or.inl y)))
  · rw [zo_8 e]
    split
    · exact okN.brk
    · rename_i c
      exact znm.two hz h (by omega) (by omega) (fun y => c (Or.inr (Or.inr y))) (fun y => c (Or.inr (Or.inl y)))
  · rw [zo_9 e]
    split
    · exact okN.brk
    · rename_i c
      rw [if_pos (znm.isn hz h (b := 0) (by omega) (fun y => c (Or.inr (Or.inl y))))]
      split
      · exact okN.thr h (by decide)
      · exact znm.two hz h (by omega) (by omega) (fun y => c (Or.inr (Or.inr y))) (fun y => c (Or.inr (Or.inl y)))
  · rw [zo_10 e]
    split
    · exact okN.brk
    · rename_i c
      rw [if_pos (znm.isn hz h (b := 0) (by omega) (fun y => c (Or.inr (Or.inl y))))]
      split
      · exact okN.thr h (by decide)
      · exact znm.two hz h (by omega) (by omega) (fun y => c (Or.inr (Or.inr y))) (fun y => c (Or.inr (Or.inl y)))
  · rw [zo_11 e]
    split
    · exact okN.brk
    · rename_i c
      exact znm.one hz h (by omega) (fun y => c (Or.inr y))
  · rw [zo_12 e]
    split
    · exact okN.brk
    · rename_i c
      exact znm.two hz h (by omega) (by omega) (fun y => c (Or.inr (Or.inr y))) (fun y => c (Or.inr (Or.inl y)))
  · rw [zo_13 e]
    split
    · exact okN.brk
    · rename_i c
      exact znm.two hz h (by omega) (by omega) (fun y => c (Or.inr (Or.inr y))) (fun y => c (Or.inr (Or.inl y)))
  · rw [zo_14 e]
    split
    · exact okN.brk
    · rename_i c
      exact znm.two hz h (by omega) (by omega) (fun y => c (Or.inr (Or.inr y))) (fun y => c (Or.inr (Or.inl y)))
  · rw [zo_15 e]
    split
    · exact okN.brk
    · rename_i c
      exact znm.two hz h (by omega) (by omega) (fun y => c (Or.inr (Or.inr y))) (fun y => c (Or.inr (Or.inl y)))
  · rw [zo_16 e]
    split
    · exact okN.brk
    · rename_i c
      exact znm.two hz h (by omega) (by omega) (fun y => c (Or.inr (Or.inr y))) (fun y => c (Or.inr (Or.inl y)))
  · rw [zo_17 e]
    exact okN.go h'.jump rfl
  · rw [zo_18 e]
    split
    · exact okN.brk
    · rename_i c
      rw [if_pos ⟨znm.isn hz h (b := 1) (by omega) (fun y => c (Or.inr (Or.inr y))), znm.isn hz h (b := 0) (by omega) (fun y => c (Or.inr (Or.inl y)))⟩]
      exact okN.go h'.drop.jump rfl
  · rw [zo_19 e]
    split
    · exact okN.brk
    · rename_i c
      rw [if_pos ⟨znm.isn hz h (b := 1) (by omega) (fun y => c (Or.inr (Or.inr y))), znm.isn hz h (b := 0) (by omega) (fun y => c (Or.inr (Or.inl y)))⟩]
      exact okN.go h'.drop.jump rfl
  · rw [zo_20 e]
    split
    · exact okN.brk
    · exact okN.go h'.drop.jump rfl
  · rw [zo_21 e]
    split
    · exact okN.brk
    · rename_i c
      rw [if_pos (znm.isn hz h (b := 0) (by omega) (fun y => c (Or.inr y)))]
      show okN S F (if _ then _ else _)
      split
      · exact okN.thr h (by decide)
      · split
        · exact okN.thr h (by decide)
        · exact okN.go ((h'.arr (Nat.le_refl _)).fin (Or.inr (Or.inr ⟨zn S, Nat.lt_succ_self _, rfl⟩))) rfl
  · rw [zo_22 e]
    split
    · exact okN.brk
    · rename_i c
      have hv : zpk S 1 < 0 := Decidable.byContradiction fun y => c (Or.inr (Or.inr y))
      split
      · exact okN.thr h (by decide)
      · rename_i c2
        obtain ⟨j, hj, y⟩ := ((h'.pk (b := 1) (by omega)).ref hv (show 256 < 2 ^ 31 by decide)).resolve_left c2
        rw [y, zar_nI (by omega), if_pos (znm.isn hz h (b := 0) (by omega) (fun y => c (Or.inr (Or.inl y))))]
        show okN S F (if _ then _ else _)
        split
        · rename_i c3
          exact okN.go (h'.fin (h'.2.2 j hj _ c3).okv) rfl
        · exact okN.thr h (by decide)
  · rw [zo_23 e]
    split
    · exact okN.brk
    · rename_i c
      have hv : zpk S 2 < 0 := Decidable.byContradiction fun y => c (Or.inr (Or.inr (Or.inr y)))
      split
      · exact okN.thr h (by decide)
      · rename_i c2
        obtain ⟨j, hj, y⟩ := ((h'.pk (b := 2) (by omega)).ref hv (show 256 < 2 ^ 31 by decide)).resolve_left c2
        rw [y, zar_nI (by omega), if_pos (znm.isn hz h (b := 1) (by omega) (fun y => c (Or.inr (Or.inr (Or.inl y)))))]
        show okN S F (if _ then _ else _)
        split
        · rename_i c3
          exact okN.go ((h'.set (h'.wd hz (b := 0) (by omega) (fun y => c (Or.inr (Or.inl y))))).drop.next) rfl
        · exact okN.thr h (by decide)
  · rw [zo_24 e]
    split
    · exact okN.brk
    · rename_i c
      have hv : zpk S 0 < 0 := Decidable.byContradiction fun y => c (Or.inr y)
      split
      · exact okN.thr h (by decide)
      · rename_i c2
        obtain ⟨j, hj, y⟩ := ((h'.pk (b := 0) (by omega)).ref hv (show 256 < 2 ^ 31 by decide)).resolve_left c2
        have hl := hz.2.2.2.2.1 j hj
        rw [y, zar_nI (by omega), nI_add]
        exact okN.go (h'.fin (Or.inl ⟨zL S j + 128, by show zL S j + 128 < 256; omega, rfl⟩)) rfl
  · rw [zo_25 e]
    split
    · exact okN.brk
    · split
      · exact okN.thr h (by decide)
      · exact okN.go (h'.call (by omega)) rfl
  · rw [zo_26 e]
    split
    · exact okN.brk
    · rename_i c
      split
      · refine ⟨rfl, ⟨rfl, fun e => absurd e (by intro y; cases y)⟩, fun e => absurd e (by intro y; cases y), fun _ e => ?_, Nat.le_refl _, fun _ => ?_⟩
        · have e : (if zpk S 0 < 0 then nI 2 else nI 1) = nI 1 := e
          by_cases c2 : zpk S 0 < 0
          · rw [if_pos c2] at e; exact absurd e (by decide)
          · exact znm.isn hz h (b := 0) (by omega) c2
        · show ¬ (if zpk S 0 < 0 then nI 2 else nI 1) = 0
          split <;> decide
      · exact okN.go (h'.leave.fin (h'.pk (b := 0) (by omega))) rfl
  · rw [zo_27 e]
    rw [e] at hr
    obtain ⟨i, -, i2, ei⟩ := rg_nat hr (by decide) (by decide)
    rw [ei, nI_clamp (by omega)]
    exact okN.thr h i2
  · rw [zo_28 e]
    split
    · exact okN.brk
    · exact okN.go (h'.fin (Or.inr (Or.inl rfl))) rfl
  · rw [zo_29 e]
    split
    · exact ⟨rfl, ⟨rfl, fun e => absurd e (by intro y; cases y)⟩, fun e => absurd e (by intro y; cases y), fun _ e => absurd e (by show ¬ nI 6 = nI 1; decide), Nat.le_refl _, fun _ => by show ¬ nI 6 = 0; decide⟩
    · split
      · exact okN.brk
      · rename_i c
        exact znm.one hz h (by omega) (fun y => c (Or.inr y))
end KN
