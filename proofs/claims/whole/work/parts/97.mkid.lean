/-! THE REFERENCE'S DIVIDE -/
theorem zRepN.cp {A A' : HA} {b b' : Nat} {S : zW} (h : zRepN b A S) (hz : zwf S) (o : ∀ j, (j ≤ 1 ∨ 5 ≤ j ∧ j < 114) → A' 1688 (b' + j) = A 1688 (b + j)) : zRepN b' A' S := by
  obtain ⟨e1, e2, e3, e4, e5⟩ := h
  have ht := hz.1
  have hn := hz.2.2.2.1
  refine ⟨by have := o 0 (by decide); rw [Nat.add_zero, Nat.add_zero] at this; rw [this]; exact e1, by rw [o 5 (by decide)]; exact e2, by rw [o 1 (by decide)]; exact e3, fun f hf => ?_, fun k hk => ?_⟩
  · have hh := (hz.2.1 f hf).2.2
    obtain ⟨f1, f2, f3, f4⟩ := e4 f hf
    refine ⟨?_, ?_, ?_, fun j hj => ?_⟩
    · rw [show b + 30 + 21 * f = b + (30 + 21 * f) by omega] at f1; rw [show b' + 30 + 21 * f = b' + (30 + 21 * f) by omega, o _ (by omega)]; exact f1
    · rw [show b + 30 + 21 * f + 1 = b + (30 + 21 * f + 1) by omega] at f2; rw [show b' + 30 + 21 * f + 1 = b' + (30 + 21 * f + 1) by omega, o _ (by omega)]; exact f2
    · rw [show b + 30 + 21 * f + 2 = b + (30 + 21 * f + 2) by omega] at f3; rw [show b' + 30 + 21 * f + 2 = b' + (30 + 21 * f + 2) by omega, o _ (by omega)]; exact f3
    · have := f4 j hj
      rw [show b + 30 + 21 * f + (3 + j) = b + (30 + 21 * f + (3 + j)) by omega] at this; rw [show b' + 30 + 21 * f + (3 + j) = b' + (30 + 21 * f + (3 + j)) by omega, o _ (by omega)]; exact this
  · obtain ⟨k1, k2⟩ := e5 k hk
    have hl := hz.2.2.2.2.1 k hk
    refine ⟨?_, fun i hi => ?_⟩
    · rw [show b + 6 + k = b + (6 + k) by omega] at k1; rw [show b' + 6 + k = b' + (6 + k) by omega, o _ (by omega)]; exact k1
    · have := k2 i hi
      rw [show b + 10 + (k * 5 + i) = b + (10 + (k * 5 + i)) by omega] at this; rw [show b' + 10 + (k * 5 + i) = b' + (10 + (k * 5 + i)) by omega, o _ (by omega)]; exact this
def curM (A : HA) (s : Nat) (r : zR) : Prop := A 1688 (520 * s + 2) = nI r.2.1.length ∧ (∀ c p, r.2.1[c]? = some p → A 1688 (520 * s + 114 + 2 * c) = nI p.1 ∧ A 1688 (520 * s + 114 + 2 * c + 1) = nI p.2) ∧ ∀ k, k < 1024 → A 1689 (1024 * s + k) = lv (r.2.2.1 k)
theorem recW.kid {r : zR} {S : zW} {ch : Nat → Nat} {g c : Nat} (h : recW r) (h2 : r.2.1.length < 200) (hp : zplc S < 1000) (hc : c < 8) : recW (zkid r S ch g c) := by
  have ln : (r.2.1 ++ [(zplc S, c)]).length = r.2.1.length + 1 := by rw [List.length_append]; rfl
  refine ⟨?_, fun p hm => ?_, fun k j e => ?_⟩
  · show (r.2.1 ++ [(zplc S, c)]).length ≤ 200
    omega
  · have hm : p ∈ r.2.1 ++ [(zplc S, c)] := hm
    rcases List.mem_append.mp hm with z | z
    · exact h.2.1 p z
    · rw [List.mem_singleton.mp z]; exact ⟨hp, hc⟩
  · show j < (r.2.1 ++ [(zplc S, c)]).length
    have e : zinp r.2.2.1 ch c r.2.1.length k = some j := e
    rw [ln]
    unfold zinp at e
    split at e
    · rename_i i ei
      have := h.2.2 k i ei
      have := Option.some.inj e
      omega
    · split at e
      · cases e
      · have := Option.some.inj e; omega
theorem lv_iff {A : HA} {s : Nat} {r : zR} (hr : recW r) (hl : ∀ k, k < 1024 → A 1689 (1024 * s + k) = lv (r.2.2.1 k)) : ∀ k, k < 1024 → (A 1689 (1024 * s + k) = -1 ↔ (r.2.2.1 k).isNone = true) := by
  intro k hk
  rw [hl k hk]
  cases e : r.2.2.1 k with
  | none => exact ⟨fun _ => rfl, fun _ => rfl⟩
  | some j => exact ⟨fun z => absurd z (lv_s (by have := hr.2.2 k j e; have := hr.1; omega)).1, fun z => by cases z⟩
section MV
variable {A I : HA} {S : zW} {F : zF} {G : zG}
theorem zplc_lt (hz : zwf S) (hp : zpc S < 40) : zplc S < 1000 := by
  have := hz.hi
  unfold zplc
  omega
theorem RMn.prune {ps ws : List Nat} {s : zS} {c : Nat} (h : RMn A I ps ws s) : RMn (sA (sA A 1697 (qN s % 30) (nI (zplc S))) 1698 (qN s % 30) (nI c)) (sI I 1681 26 (nI (qN s + 1))) ps ws (qSet s (qW s, qL s, qN s + 1, un (qK s) (qN s % 30) (zplc S, c)) (qG s)) := by
  obtain ⟨n1, n2, n3, n4, n5, n6, n7, n8, n9, n10, n11, n12, n13⟩ := h
  refine ⟨n1, n2, by rw [sA_na (by decide), sA_na (by decide)]; exact n3, by rw [sA_na (by decide), sA_na (by decide)]; exact n4, by rw [sI_n (by decide)]; exact n5, by rw [sI_n (by decide)]; exact n6, by rw [sA_na (by decide), sA_na (by decide)]; exact n7, by rw [sI_n (by decide)]; exact n8, by rw [sI_n (by decide)]; exact n9, by rw [sI_n (by decide)]; exact n10, sI_e, fun j h1 h2 => ?_, by rw [sI_n (by decide)]; exact n13⟩
  have h2 : j < qN s + 1 := h2
  show _ = nI (un (qK s) (qN s % 30) (zplc S, c) j).1 ∧ _ = nI (un (qK s) (qN s % 30) (zplc S, c) j).2
  by_cases e : j = qN s % 30
  · subst e; rw [sA_n (Or.inl (by decide)), sA_e, sA_e, un_e]; exact ⟨rfl, rfl⟩
  · rw [sA_n (Or.inr e), sA_n (Or.inr e), sA_n (Or.inr e), sA_n (Or.inr e), un_n e]
    refine n12 j h1 ?_
    by_cases z : j = qN s
    · exact absurd (by rw [← z, Nat.mod_eq_of_lt h1]) e
    · omega
theorem RMn.lose {ps ws : List Nat} {s : zS} (h : RMn A I ps ws s) : RMn A (sI I 1681 25 (I 1681 25 + nI 1)) ps ws (qSet s (qW s, qL s + nI 1, qN s, qK s) (qG s)) := by
  obtain ⟨n1, n2, n3, n4, n5, n6, n7, n8, n9, n10, n11, n12, n13⟩ := h
  exact ⟨n1, n2, n3, n4, by rw [sI_n (by decide)]; exact n5, by rw [sI_n (by decide)]; exact n6, n7, by rw [sI_n (by decide)]; exact n8, by rw [sI_n (by decide)]; exact n9, by rw [sI_e, n10]; rfl, by rw [sI_n (by decide)]; exact n11, n12, by rw [sI_n (by decide)]; exact n13⟩
theorem own.kidM {N n : Nat} {cur ps ws : List Nat} (h : own N cur ps ws []) (hn : n < N) (hm : n ∉ cur ++ (ps ++ (ws ++ []))) : own N cur ps (ws ++ [n]) [] := by
  have p : (n :: (cur ++ (ps ++ (ws ++ [])))).Perm (cur ++ (ps ++ ((ws ++ [n]) ++ []))) := by
    have e : cur ++ (ps ++ ((ws ++ [n]) ++ [])) = (cur ++ (ps ++ (ws ++ []))) ++ [n] := by simp
    rw [e]
    exact (List.perm_append_comm (l₁ := [n])).trans (List.Perm.refl _)
  refine ⟨p.nodup_iff.mp (List.nodup_cons.mpr ⟨hm, h.1⟩), fun j hj => ?_⟩
  rcases List.mem_cons.mp (p.mem_iff.mpr hj) with z | z
  · rw [z]; exact hn
  · exact h.2 j z
theorem zFM.mv {A' I' : HA} (h : zFM A I F) (hA : ∀ a, 1691 ≤ a → a ≤ 1694 → A' a = A a) (hI : I' 1681 15 = I 1681 15) : zFM A' I' F := by
  unfold zFM at h ⊢
  rw [hA _ (by decide) (by decide), hA _ (by decide) (by decide), hA _ (by decide) (by decide), hA _ (by decide) (by decide), hI]
  exact h
theorem mem_kid {x t : Nat} {cur ps ws : List Nat} : x ∈ cur ++ (ps ++ (ws ++ [t] ++ [])) ↔ x = t ∨ x ∈ cur ++ (ps ++ (ws ++ [])) := by
  simp only [List.append_nil, List.mem_append, List.mem_singleton]
  constructor
  · rintro (z | z | z | z)
    · exact Or.inr (Or.inl z)
    · exact Or.inr (Or.inr (Or.inl z))
    · exact Or.inr (Or.inr (Or.inr z))
    · exact Or.inl z
  · rintro (z | z | z | z)
    · exact Or.inr (Or.inr (Or.inr z))
    · exact Or.inl z
    · exact Or.inr (Or.inl z)
    · exact Or.inr (Or.inr (Or.inl z))
/-- what divide leaves alone -/
def frD (A I A' I' : HA) : Prop := (∀ a, ¬ (1688 ≤ a ∧ a ≤ 1690 ∨ a = 1695 ∨ a = 1697 ∨ a = 1698 ∨ 1700 ≤ a ∧ a ≤ 1703) → A' a = A a) ∧ (∀ a j, ¬ (a = 1681 ∧ (j = 21 ∨ j = 22 ∨ j = 25 ∨ j = 26 ∨ j = 34)) → I' a j = I a j)
theorem frD.tr {A I A1 I1 A2 I2 : HA} (h : frD A I A1 I1) (g : frD A1 I1 A2 I2) : frD A I A2 I2 := ⟨fun a e => (g.1 a e).trans (h.1 a e), fun a j e => (g.2 a j e).trans (h.2 a j e)⟩
set_option maxRecDepth 100000 in
theorem M_kid {P10 : HA → HA → Prop} {s t c g : Nat} {ps ws : List Nat} {st : zS} {r : zR} {ch : Nat → Nat} (h : RMl A I [s] ps ws st) (hW60 : (qW st).length < 60) (hz : zwf S) (hp : zpc S < 40) (hrep : zRepN (520 * s) A S) (hcur : curM A s r) (hr : recW r) (hr2 : r.2.1.length < 200) (hch : ∀ k, k < 1024 → (r.2.2.1 k).isNone = true → A 1702 k = nI (ch k)) (h8 : ∀ k, ch k < 8) (hc : c < 8) (hs : s < 170) (hg : qG st = g) (ht : t < 170) (htm : t ∉ [s] ++ (ps ++ (ws ++ [])))
    (k : ∀ A' I', RMl A' I' [s] ps (ws ++ [t]) (qSet st (qW st ++ [zkid r S ch g c], qL st, qN st, qK st) g) → offM A A' s → A' 1702 = A 1702 → frD A I A' I' → P10 A' I') :
    D192_copyWay (nI s) (nI t) (sA A 1690 t (nI 1)) I (fun A29 I30 => vp_in ((((nI 520) * nI t) + (nI 114)) + ((nI 2) * nI r.2.1.length)) 88400 ∧ (vp_in (((((nI 520) * nI t) + (nI 114)) + ((nI 2) * nI r.2.1.length)) + (nI 1)) 88400 ∧ (vp_in (((nI 520) * nI t) + (nI 2)) 88400 ∧ (vp_in (((nI 520) * nI t) + (nI 3)) 88400 ∧ (vp_in (((nI 520) * nI t) + (nI 4)) 88400 ∧ ((∀ P36 : Int32 → HA → HA → Prop, (∀ (a37 : Int32) (A40 I41 : HA), (if a37 < (nI 1024) then vp_in (((nI 1024) * nI s) + a37) 174080 ∧ (if (A40 1689 (((nI 1024) * nI s) + a37).toNatClampNeg) = (-1) then vp_in a37 1024 ∧ (if (A40 1702 a37.toNatClampNeg) = nI c then P36 (a37 + nI 1) A40 I41 else vp_in (((nI 1024) * nI t) + a37) 174080 ∧ (P36 (a37 + nI 1) (sA A40 1689 (((nI 1024) * nI t) + a37).toNatClampNeg (vp_nar (bm_ty 1) (Int8.toInt32 (Int32.toInt8 (nI r.2.1.length))))) I41)) else P36 (a37 + nI 1) A40 I41) else vp_in (I41 1681 21) 60 ∧ (P10 (sA A40 1695 (I41 1681 21).toNatClampNeg (nI t)) (sI I41 1681 21 ((I41 1681 21) + (nI 1))))) → P36 a37 A40 I41) → P36 (nI 0) (sA (sA (sA (sA (sA A29 1688 ((((nI 520) * nI t) + (nI 114)) + ((nI 2) * nI r.2.1.length)).toNatClampNeg (zplace S)) 1688 (((((nI 520) * nI t) + (nI 114)) + ((nI 2) * nI r.2.1.length)) + (nI 1)).toNatClampNeg (nI c)) 1688 (((nI 520) * nI t) + (nI 2)).toNatClampNeg (nI r.2.1.length + (nI 1))) 1688 (((nI 520) * nI t) + (nI 3)).toNatClampNeg (nI c)) 1688 (((nI 520) * nI t) + (nI 4)).toNatClampNeg (I30 1681 22)) I30))))))) := by
  obtain ⟨hown, htk, ⟨n1, n2, n3, n4, n5, n6, n7, n8, n9, n10, n11, n12, n13⟩, hPs, hWs⟩ := h
  have hne : s ≠ t := fun e => htm (by rw [e]; simp)
  have hli := lv_iff hr hcur.2.2
  refine M_copyWay hs ht hne (fun k hk => ⟨r.2.2.1 k, by rw [sA_na (by decide)]; exact hcur.2.2 k hk⟩) (fun A1 a1 b1 c1 d1 e1 => ?_)
  rw [sA_na (by decide)] at b1 c1 d1 e1
  rw [pk_mul, nI_add, pk_mul, nI_add, nI_add, nI_add, nI_add, nI_add, vpT (n := 520 * t + 114 + 2 * r.2.1.length) (by omega) (by decide), vpT (n := 520 * t + 114 + 2 * r.2.1.length + 1) (by omega) (by decide), vpT (n := 520 * t + 2) (by omega) (by decide), vpT (n := 520 * t + 3) (by omega) (by decide), vpT (n := 520 * t + 4) (by omega) (by decide), nI_clamp (n := 520 * t + 114 + 2 * r.2.1.length) (by omega), nI_clamp (n := 520 * t + 114 + 2 * r.2.1.length + 1) (by omega), nI_clamp (n := 520 * t + 2) (by omega), nI_clamp (n := 520 * t + 3) (by omega), nI_clamp (n := 520 * t + 4) (by omega), n13, hg, nI_add]
  refine ⟨trivial, trivial, trivial, trivial, trivial, ?_⟩
  intro P36 hP36
  -- the row of the child
  obtain ⟨X, hX⟩ : ∃ X, X = sA (sA (sA (sA (sA A1 1688 (520 * t + 114 + 2 * r.2.1.length) (zplace S)) 1688 (520 * t + 114 + 2 * r.2.1.length + 1) (nI c)) 1688 (520 * t + 2) (nI (r.2.1.length + 1))) 1688 (520 * t + 3) (nI c)) 1688 (520 * t + 4) (nI g) := ⟨_, rfl⟩
  have X0 : ∀ a, a ≠ 1688 → X a = A1 a := fun a ha => by rw [hX, sA_na ha, sA_na ha, sA_na ha, sA_na ha, sA_na ha]
  have X1 : ∀ j, ¬ (j = 520 * t + 114 + 2 * r.2.1.length ∨ j = 520 * t + 114 + 2 * r.2.1.length + 1 ∨ j = 520 * t + 2 ∨ j = 520 * t + 3 ∨ j = 520 * t + 4) → X 1688 j = A1 1688 j := fun j hj => by rw [hX, sA_n (by omega), sA_n (by omega), sA_n (by omega), sA_n (by omega), sA_n (by omega)]
  have Xp : X 1688 (520 * t + 114 + 2 * r.2.1.length) = zplace S := by rw [hX, sA_n (by omega), sA_n (by omega), sA_n (by omega), sA_n (by omega), sA_e]
  have Xc : X 1688 (520 * t + 114 + 2 * r.2.1.length + 1) = nI c := by rw [hX, sA_n (by omega), sA_n (by omega), sA_n (by omega), sA_e]
  have X2 : X 1688 (520 * t + 2) = nI (r.2.1.length + 1) := by rw [hX, sA_n (by omega), sA_n (by omega), sA_e]
  have X3 : X 1688 (520 * t + 3) = nI c := by rw [hX, sA_n (by omega), sA_e]
  have X4 : X 1688 (520 * t + 4) = nI g := by rw [hX, sA_e]
  rw [← hX]
  clear hX
  refine M_left (A := X) (I := I) (s := s) (t := t) (c := c) (n := r.2.1.length) (r := r) (ch := ch) hs ht hne hc (fun k hk => ?_) (fun k hk => ?_) (fun k hk => ?_) (fun k hk e => ?_) h8 hP36 (fun A2 a2 b2 c2 => ?_)
  · rw [X0 _ (by decide), d1 _ (by omega)]; exact hcur.2.2 k hk
  · rw [X0 _ (by decide), d1 _ (by omega)]; exact hli k hk
  · rw [X0 _ (by decide), e1 k hk]; exact hcur.2.2 k hk
  · rw [X0 _ (by decide), a1 _ (by decide) (by decide), sA_na (by decide)]; exact hch k hk e
  rw [n6, n2, vpT (n := (qW st).length) (by omega) (by decide), nI_clamp (n := (qW st).length) (by omega), nI_add]
  refine ⟨trivial, ?_⟩
  have off : ∀ m, m ≠ t → offM A (sA A2 1695 (qW st).length (nI t)) m := fun m hm => ⟨fun j hj => by rw [sA_na (by decide), a2 _ (by decide), X1 _ (by omega), b1 _ (by omega)], fun j hj => by rw [sA_na (by decide), b2 _ (by omega), X0 _ (by decide), d1 _ (by omega)]⟩
  have ot : ∀ a, a ≠ 1688 → a ≠ 1689 → a ≠ 1690 → a ≠ 1695 → sA A2 1695 (qW st).length (nI t) a = A a := fun a h1 h2 h3 h4 => by rw [sA_na h4, a2 a h2, X0 a h1, a1 a h1 h2, sA_na h3]
  have ne : ∀ m, m ∈ ps ∨ m ∈ ws → m ≠ t := fun m hm e => htm (by rw [← e]; rcases hm with z | z <;> simp [z])
  have t1690 : sA A2 1695 (qW st).length (nI t) 1690 = sA A 1690 t (nI 1) 1690 := by rw [sA_na (by decide), a2 _ (by decide), X0 _ (by decide), a1 _ (by decide) (by decide)]
  refine k _ _ ⟨hown.kidM ht htm, ?_, ⟨n1, ?_, by rw [ot _ (by decide) (by decide) (by decide) (by decide)]; exact n3, ?_, by rw [sI_n (by decide)]; exact n5, by rw [sI_e, List.length_append, n2]; rfl, by rw [ot _ (by decide) (by decide) (by decide) (by decide)]; exact n7, by rw [sI_n (by decide)]; exact n8, by rw [sI_n (by decide)]; exact n9, by rw [sI_n (by decide)]; exact n10, by rw [sI_n (by decide)]; exact n11, by rw [ot _ (by decide) (by decide) (by decide) (by decide), ot _ (by decide) (by decide) (by decide) (by decide)]; exact n12, by rw [sI_n (by decide), n13, hg]; rfl⟩, hPs.off (fun s r => mp.off) (fun m hm => off m (ne m (Or.inl hm))), ?_⟩ (off s hne) (by rw [ot _ (by decide) (by decide) (by decide) (by decide)]) ⟨fun a ha => ot a (by omega) (by omega) (by omega) (by omega), fun a j ha => by rw [sI_n (by omega)]⟩
  · intro x hx
    have mem : x ∈ [s] ++ (ps ++ (ws ++ [t] ++ [])) ↔ x = t ∨ x ∈ [s] ++ (ps ++ (ws ++ [])) := mem_kid
    rw [t1690, mem]
    by_cases e : x = t
    · subst e
      exact ⟨fun _ => by rw [sA_e]; decide, fun z => absurd (Or.inl rfl) z⟩
    · rw [sA_n (Or.inr e)]
      exact ⟨fun z => (htk x hx).1 (z.resolve_left e), fun z => (htk x hx).2 (fun y => z (Or.inr y))⟩
  · show (ws ++ [t]).length = (qW st ++ [_]).length
    rw [List.length_append, List.length_append, n2]; rfl
  · have n4' : rowA (A2 1695) ws := by rw [a2 _ (by decide), X0 _ (by decide), a1 _ (by decide) (by decide), sA_na (by decide)]; exact n4
    rw [← n2]
    exact rowA.app (f := A2 1695) n4'
  · refine wsM.app (hWs.off (fun s r => mw.off) (fun m hm => off m (ne m (Or.inr hm)))) n2 ⟨hr.kid hr2 (zplc_lt hz hp) hc, hz, ⟨?_, ?_, ?_, ?_, ?_⟩, ?_⟩
    · show sA A2 1695 _ _ 1688 (520 * t + 2) = nI (r.2.1 ++ [(zplc S, c)]).length
      rw [sA_na (by decide), a2 _ (by decide), X2, List.length_append]; rfl
    · intro c' p e
      show sA A2 1695 _ _ 1688 (520 * t + 114 + 2 * c') = nI p.1 ∧ sA A2 1695 _ _ 1688 (520 * t + 114 + 2 * c' + 1) = nI p.2
      rw [sA_na (by decide), a2 _ (by decide)]
      rcases ap_some e with e | ⟨e1', rfl⟩
      · have hc' := (List.getElem?_eq_some_iff.mp e).1
        have h1 := c1 (114 + 2 * c') (by omega)
        have h2 := c1 (114 + 2 * c' + 1) (by omega)
        have h3 := hcur.2.1 c' p e
        rw [X1 _ (by omega), X1 _ (by omega), show 520 * t + 114 + 2 * c' = 520 * t + (114 + 2 * c') by omega, show 520 * t + (114 + 2 * c') + 1 = 520 * t + (114 + 2 * c' + 1) by omega, h1, h2]
        rw [show 520 * s + 114 + 2 * c' = 520 * s + (114 + 2 * c') by omega, show 520 * s + (114 + 2 * c') + 1 = 520 * s + (114 + 2 * c' + 1) by omega] at h3
        exact h3
      · subst e1'
        exact ⟨Xp, Xc⟩
    · intro k hk
      show sA A2 1695 _ _ 1689 _ = _
      rw [sA_na (by decide)]
      exact c2 k hk
    · show sA A2 1695 _ _ 1688 (520 * t + 3) = nI c
      rw [sA_na (by decide), a2 _ (by decide)]; exact X3
    · show sA A2 1695 _ _ 1688 (520 * t + 4) = nI g
      rw [sA_na (by decide), a2 _ (by decide)]; exact X4
    · have : zRepN (520 * t) (sA A2 1695 (qW st).length (nI t)) S := hrep.cp hz (fun j hj => by rw [sA_na (by decide), a2 _ (by decide), X1 _ (by omega), c1 j (by omega)])
      exact this
end MV
