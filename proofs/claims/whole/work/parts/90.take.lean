/-! HOW A SEARCH LIES IN THE CLASS'S HEAP; a way taken out -/
theorem shift {a ob fl k n : Nat} {P : Int32 → HA → HA → Prop} {Q : HA → HA → Prop} {A I : HA} {ws : List Nat} (hP : ∀ (x : Int32) (A I : HA), (if x < I ob fl then vp_in (x + nI 1) 60 ∧ (vp_in x 60 ∧ P (x + nI 1) (sA A a x.toNatClampNeg (A a (x + nI 1).toNatClampNeg)) I) else Q A I) → P x A I) (hI : I ob fl = nI n) (hn : ws.length = n + 1) (h60 : n + 1 ≤ 60) (hk : k ≤ n) (hr : rowA (A a) ws) (q : ∀ A', (∀ b, b ≠ a → A' b = A b) → rowA (A' a) (ws.eraseIdx k) → Q A' I) : P (nI k) A I := by
  have key : ∀ d i A', d + i = n → k ≤ i → (∀ b, b ≠ a → A' b = A b) → (∀ j x, j < i → (ws.eraseIdx k)[j]? = some x → A' a j = nI x) → (∀ j, i ≤ j → A' a j = A a j) → P (nI i) A' I := by
    intro d
    induction d with
    | zero =>
      intro i A' hi hk h1 h2 h3
      refine hP _ _ _ ?_
      rw [hI, iLt (by omega) (by omega), if_neg (by omega)]
      refine q _ h1 (fun j x hx => h2 j x ?_ hx)
      have := (List.getElem?_eq_some_iff.mp hx).1
      rw [List.length_eraseIdx] at this
      split at this <;> omega
    | succ d ih =>
      intro i A' hi hk h1 h2 h3
      refine hP _ _ _ ?_
      rw [hI, iLt (by omega) (by omega), if_pos (by omega), nI_add, vpT (n := i + 1) (by omega) (by decide), vpT (n := i) (by omega) (by decide), nI_clamp (n := i) (by omega), nI_clamp (n := i + 1) (by omega)]
      refine ⟨trivial, trivial, ih (i + 1) _ (by omega) (by omega) (fun b hb => by rw [sA_na hb]; exact h1 b hb) (fun j x hj hx => ?_) (fun j hj => by rw [sA_n (by omega)]; exact h3 j (by omega))⟩
      by_cases e : j = i
      · subst e
        rw [sA_e, h3 _ (by omega)]
        rw [List.getElem?_eraseIdx, if_neg (by omega)] at hx
        exact hr _ _ hx
      · rw [sA_n (by omega)]
        exact h2 j x (by omega) hx
  refine key (n - k) k A (by omega) (Nat.le_refl _) (fun _ _ => rfl) (fun j x hj hx => ?_) (fun _ _ => rfl)
  rw [List.getElem?_eraseIdx, if_pos hj] at hx
  exact hr _ _ hx
/-- a way of the class, and its record -/
def cw (A I : HA) (i : Nat) (r : zR) : Prop := recC A I (71 + 10 * i) r ∧ zRepC (71 + 10 * i) A I r.1
def wsC (A I : HA) (xs : List Nat) (R : List zR) : Prop := ∀ (k i : Nat) (r : zR), xs[k]? = some i → R[k]? = some r → cw A I i r
def offW (A I A' I' : HA) (i : Nat) : Prop := (∀ a, 71 + 10 * i + 1 ≤ a → a ≤ 71 + 10 * i + 9 → A' a = A a) ∧ ∀ j, I' (71 + 10 * i) j = I (71 + 10 * i) j
theorem recC.off {A I A' I' : HA} {w : Nat} {r : zR} (h : recC A I w r) (ha : A' (w + 7) = A (w + 7)) (hb : A' (w + 9) = A (w + 9)) (h9 : I' w 9 = I w 9) (h16 : I' w 16 = I w 16) (h17 : I' w 17 = I w 17) : recC A' I' w r := by
  obtain ⟨e1, e2, e3, e4, e5⟩ := h
  refine ⟨by rw [h9]; exact e1, fun c p e => by rw [ha]; exact e2 c p e, fun k hk => ?_, by rw [h16]; exact e4, by rw [h17]; exact e5⟩
  unfold inA at e3 ⊢
  rw [hb]
  exact e3 k hk
theorem cw.off {A I A' I' : HA} {i : Nat} {r : zR} (h : cw A I i r) (o : offW A I A' I' i) : cw A' I' i r :=
  ⟨h.1.off (o.1 _ (by omega) (by omega)) (o.1 _ (by omega) (by omega)) (o.2 _) (o.2 _) (o.2 _), h.2.off (fun a a1 a2 => o.1 a (by omega) (by omega)) (funext o.2)⟩
theorem wsC.off {A I A' I' : HA} {xs : List Nat} {R : List zR} (h : wsC A I xs R) (o : ∀ i, i ∈ xs → offW A I A' I' i) : wsC A' I' xs R := fun k i r e1 e2 => (h k i r e1 e2).off (o i (List.mem_of_getElem? e1))
theorem wsC.erase {A I : HA} {xs : List Nat} {R : List zR} (h : wsC A I xs R) (k : Nat) : wsC A I (xs.eraseIdx k) (R.eraseIdx k) := fun j i r e1 e2 => by
  rw [List.getElem?_eraseIdx] at e1 e2
  by_cases c : j < k
  · rw [if_pos c] at e1 e2; exact h j i r e1 e2
  · rw [if_neg c] at e1 e2; exact h (j + 1) i r e1 e2
theorem ap_some {α : Type} {xs : List α} {y x : α} {k : Nat} (h : (xs ++ [y])[k]? = some x) : xs[k]? = some x ∨ k = xs.length ∧ x = y := by
  by_cases c : k < xs.length
  · rw [List.getElem?_append_left c] at h; exact Or.inl h
  · rw [List.getElem?_append_right (by omega)] at h
    right
    have h1 := (List.getElem?_eq_some_iff.mp h).1
    have h1 : k - xs.length < 1 := h1
    have e : k - xs.length = 0 := by omega
    rw [e] at h
    exact ⟨by omega, (Option.some.inj h).symm⟩
theorem wsC.app {A I : HA} {xs : List Nat} {R : List zR} {i : Nat} {r : zR} (h : wsC A I xs R) (hl : xs.length = R.length) (hc : cw A I i r) : wsC A I (xs ++ [i]) (R ++ [r]) := fun k j q e1 e2 => by
  rcases ap_some e1 with e1 | ⟨e1, rfl⟩
  · rcases ap_some e2 with e2 | ⟨e2, rfl⟩
    · exact h k j q e1 e2
    · have := (List.getElem?_eq_some_iff.mp e1).1; omega
  · rcases ap_some e2 with e2 | ⟨e2, rfl⟩
    · have := (List.getElem?_eq_some_iff.mp e2).1; omega
    · exact hc
theorem rowA.app {f : Nat → Int32} {A : HA} {a i : Nat} {xs : List Nat} (h : rowA (A a) xs) : rowA (sA A a xs.length (nI i) a) (xs ++ [i]) := fun k x e => by
  rcases ap_some e with e | ⟨e2, rfl⟩
  · have := (List.getElem?_eq_some_iff.mp e).1
    rw [sA_n (by omega)]
    exact h k x e
  · rw [e2, sA_e]
/-- whose the ways are: the one at hand, paths, those that wait, the spare ones -/
def own (N : Nat) (cur ps ws sp : List Nat) : Prop := (cur ++ (ps ++ (ws ++ sp))).Nodup ∧ (∀ i, i ∈ cur ++ (ps ++ (ws ++ sp)) → i < N)
def RCn (A I : HA) (ps ws sp : List Nat) (s : zS) : Prop := ps.length = (qP s).length ∧ ws.length = (qW s).length ∧ rowA (A 41) ps ∧ rowA (A 40) ws ∧ rowA (A 38) sp ∧ I 20 7 = nI ps.length ∧ I 39 1 = nI ws.length ∧ I 20 4 = nI sp.length ∧ A 42 = qT s ∧ I 20 9 = qC s ∧ I 39 2 = qZ s ∧ I 20 10 = qL s ∧ I 20 12 = nI (qN s) ∧ (∀ j, j < 30 → j < qN s → A 43 j = nI ((qK s j).1 * 8 + (qK s j).2)) ∧ I 20 17 = nI (qG s)
def RCl (A I : HA) (cur ps ws sp : List Nat) (s : zS) : Prop := own 161 cur ps ws sp ∧ (cur.length + (ps.length + (ws.length + sp.length)) = 161) ∧ RCn A I ps ws sp s ∧ wsC A I ps (qP s) ∧ wsC A I ws (qW s)
/-- what a search of the class leaves alone -/
def frC (A I A' I' : HA) : Prop := (∀ a, a < 33 ∨ 1681 ≤ a → A' a = A a) ∧ (∀ a j, a < 20 ∨ 20 < a ∧ a < 32 ∨ 1681 ≤ a → I' a j = I a j) ∧ (∀ j, j = 1 ∨ j = 14 ∨ j = 15 ∨ j = 16 → I' 20 j = I 20 j)
theorem frC.rf {A I : HA} : frC A I A I := ⟨fun _ _ => rfl, fun _ _ _ => rfl, fun _ _ => rfl⟩
theorem frC.tr {A I A1 I1 A2 I2 : HA} (h : frC A I A1 I1) (g : frC A1 I1 A2 I2) : frC A I A2 I2 := ⟨fun a e => (g.1 a e).trans (h.1 a e), fun a j e => (g.2.1 a j e).trans (h.2.1 a j e), fun j e => (g.2.2 j e).trans (h.2.2 j e)⟩
/-- a way taken out of the row -/
def qTake (ord : Nat) (s : zS) : zS := (qF s, qP s, (qW s).eraseIdx (zpick ord (qW s) (qT s) (qZ s)), qT s, qC s, if ord = 2 then znz (qZ s) else qZ s, qL s, qN s, qK s, qG s)
theorem er_perm {ws : List Nat} {k : Nat} (hk : k < ws.length) : (ws[k] :: ws.eraseIdx k).Perm ws := by
  rw [List.eraseIdx_eq_take_drop_succ]
  have e : ws = ws.take k ++ (ws[k] :: ws.drop (k + 1)) := by rw [← List.drop_eq_getElem_cons hk, List.take_append_drop]
  exact (List.perm_middle.symm).trans (List.Perm.of_eq e.symm)
theorem own.take {N k i : Nat} {ps ws sp : List Nat} (h : own N [] ps ws sp) (e : ws[k]? = some i) : own N [i] ps (ws.eraseIdx k) sp := by
  obtain ⟨hk, ek⟩ := List.getElem?_eq_some_iff.mp e
  have p : ([] ++ (ps ++ (ws ++ sp))).Perm ([i] ++ (ps ++ (ws.eraseIdx k ++ sp))) := by
    subst ek
    have p1 : (ws[k] :: ws.eraseIdx k).Perm ws := er_perm hk
    refine (List.Perm.append_left ps (List.Perm.append_right sp p1.symm)).trans ?_
    show (ps ++ (ws[k] :: (ws.eraseIdx k ++ sp))).Perm (ws[k] :: (ps ++ (ws.eraseIdx k ++ sp)))
    exact List.perm_middle
  exact ⟨p.nodup_iff.mp h.1, fun j hj => h.2 j (p.mem_iff.mpr hj)⟩
section TK
variable {A I : HA} {s : zS} {ps ws sp : List Nat}
theorem C_take {Q : Int32 → HA → HA → Prop} {ord : Nat} (ho : ord ≤ 3) (h0 : 0 < (qW s).length) (h60 : (qW s).length ≤ 60) (h : RCl A I [] ps ws sp s) (hs : srt (qW s)) (hw : ∀ r, r ∈ qW s → zwf r.1 ∧ zpc r.1 < 40 ∧ zgr r < 2 ^ 30)
    (q : ∀ i A' I', RCl A' I' [i] ps (ws.eraseIdx (zpick ord (qW s) (qT s) (qZ s))) sp (qTake ord s) → cw A' I' i ((qW s).getD (zpick ord (qW s) (qT s) (qZ s)) z0R) → i < 161 → (∀ a, a ≠ 40 → A' a = A a) → (∀ a, a ≠ 39 → I' a = I a) → Q (nI i) A' I') : D89_take (nI ord) A I Q := by
  obtain ⟨hown, hlen, ⟨n1, n2, n3, n4, n5, n6, n7, n8, n9, n10, n11, n12, n13, n14, n15⟩, hP, hW⟩ := h
  have hc : ckw A I ws (qW s) := by
    intro k i r e1 e2
    have c := hW k i r e1 e2
    have d := hw r (List.mem_of_getElem? e2)
    exact ⟨hown.2 i (by simp [List.mem_of_getElem? e1]), c.2, d.1, d.2.1, c.1.2.2.2.2, d.2.2⟩
  have hk := zpick_lt (ord := ord) (T := qT s) (z := qZ s) h0
  obtain ⟨i, wi, i161, -⟩ := hc.at n2 hk
  have hr : (qW s)[zpick ord (qW s) (qT s) (qZ s)]? = some ((qW s).getD (zpick ord (qW s) (qT s) (qZ s)) z0R) := by rw [List.getD_eq_getElem?_getD, List.getElem?_eq_getElem hk]; rfl
  have hcw := hW _ _ _ wi hr
  unfold D89_take
  rw [n7, n2, if_pos (show (0 : Int32) < nI (qW s).length from (nI_ltI (a := 0) (by decide) (by omega)).mpr h0)]
  refine C_pick ho h0 h60 n2 (by rw [n7, n2]) n11 n4 n9 hc hs ?_
  generalize hkk : zpick ord (qW s) (qT s) (qZ s) = k at q hk wi hr hcw
  rw [vpT (n := k) (by omega) (by decide), nI_clamp (n := k) (by omega), n4 _ _ wi]
  have e39 : (if ord = 2 then sI I 39 2 (znz (qZ s)) else I) 39 1 = nI (qW s).length := by
    split
    · rw [sI_n (by decide), n7, n2]
    · rw [n7, n2]
  have eI : ∀ a, a ≠ 39 → (if ord = 2 then sI I 39 2 (znz (qZ s)) else I) a = I a := by
    intro a ha
    split
    · rw [sI_na ha]
    · rfl
  have ez : (if ord = 2 then sI I 39 2 (znz (qZ s)) else I) 39 2 = if ord = 2 then znz (qZ s) else qZ s := by
    split
    · rw [sI_e]
    · exact n11
  generalize (if ord = 2 then sI I 39 2 (znz (qZ s)) else I) = I1 at e39 eI ez
  refine ⟨trivial, ?_⟩
  intro P hPl
  rw [e39, pk_sub (by omega)]
  have hE : ∀ a, a ≠ 39 → sI I1 39 1 (nI ((qW s).length - 1)) a = I a := fun a ha => by rw [sI_na ha]; exact eI a ha
  refine shift (a := 40) (ob := 39) (fl := 1) (n := (qW s).length - 1) (ws := ws) (Q := fun A' I' => Q (nI i) A' I') hPl sI_e (by omega) (by omega) (by omega) n4 (fun A' a1 a2 => ?_)
  have le : (ws.eraseIdx k).length = ws.length - 1 := by rw [List.length_eraseIdx, if_pos (by omega)]
  have off : ∀ i, offW A I A' (sI I1 39 1 (nI ((qW s).length - 1))) i := fun i => ⟨fun a x1 x2 => a1 a (by omega), fun j => by rw [hE _ (by omega)]⟩
  refine q i _ _ ⟨hown.take wi, by rw [le]; simp at hlen ⊢; omega, ?_, hP.off (fun i _ => off i), ?_⟩ (hcw.off (off i)) i161 a1 hE
  · refine ⟨n1, ?_, by rw [a1 _ (by decide)]; exact n3, a2, by rw [a1 _ (by decide)]; exact n5, by rw [hE _ (by decide)]; exact n6, by rw [sI_e, le, n2], by rw [hE _ (by decide)]; exact n8, by rw [a1 _ (by decide)]; exact n9, by rw [hE _ (by decide)]; exact n10, ?_, by rw [hE _ (by decide)]; exact n12, by rw [hE _ (by decide)]; exact n13, by rw [a1 _ (by decide)]; exact n14, by rw [hE _ (by decide)]; exact n15⟩
    · show _ = ((qW s).eraseIdx _).length
      rw [hkk, le, List.length_eraseIdx, if_pos hk]; omega
    · rw [sI_n (by decide)]; exact ez
  · show wsC _ _ _ ((qW s).eraseIdx _)
    rw [hkk]
    exact (hW.off (fun i _ => off i)).erase k
end TK
