/-! A TURN OF THE SEARCH, pure, and the class's -/
def zre (G : zG) (F : zF) (r : zR) : Nat × zW × zF := match r.2.2.2.1 with
  | none => (0, r.1, F)
  | some c => zoper G (some c) F r.1
abbrev zU : Type := Nat × zW × zF × (Nat → Int32) × Int32
def zfr (G : zG) (bd : Nat) (o : Nat × zW × zF) (T : Nat → Int32) (C : Int32) : zU := if o.1 = 0 then zgo G bd 201 o.2.1 o.2.2 T C else (1, o.2.1, o.2.2, T, C)
def zrun (G : zG) (bd : Nat) (F : zF) (r : zR) (T : Nat → Int32) (C : Int32) : zU := zfr G bd (zre G F r) T C
def qRun (s : zS) (F : zF) (T : Nat → Int32) (C : Int32) : zS := (F, qP s, qW s, T, C, qZ s, qL s, qN s, qK s, qG s)
def qEnd (s : zS) (r : zR) : zS := (qF s, qP s ++ [r], qW s, qT s, qC s, qZ s, qL s, qN s, qK s, qG s)
def zpr (ord : Nat) (s : zS) : zR := (qW s).getD (zpick ord (qW s) (qT s) (qZ s)) z0R
def zur (G : zG) (bd ord : Nat) (s : zS) : zU := zrun G bd (qF s) (zpr ord s) (qT s) (qC s)
def zK (G : zG) (S : zW) : Nat := gO G (zq S) (zpc S)
def zst (G : zG) (ord : Nat) (s : zS) (r : zR) (u : zU) : zS := if u.1 = 2 then qSet (qRun (qTake ord s) u.2.2.1 u.2.2.2.1 u.2.2.2.2) (zspl r u.2.1 (zchk u.2.2.1 (zK G u.2.1) u.2.1) (qG s + 1) (zsi (zK G u.2.1) u.2.1).1 (qGet (qTake ord s))) (qG s + 1) else qEnd (qRun (qTake ord s) u.2.2.1 u.2.2.2.1 u.2.2.2.2) (u.2.1, r.2.1, r.2.2.1, none, r.2.2.2.2)
def zturn (G : zG) (bd ord : Nat) (s : zS) : zS := zst G ord s (zpr ord s) (zur G bd ord s)
/-- what a turn wants -/
def tpr (G : zG) (bd ord : Nat) (s : zS) (r : zR) (u : zU) : Prop := (0 < (qW s).length ∧ (qW s).length ≤ 60 ∧ (qP s).length < 100 ∧ srt (qW s) ∧ ∀ r, r ∈ qW s → zwf r.1 ∧ zpc r.1 < 40 ∧ zgr r < 2 ^ 30) ∧
  (zok r.1 (qF s) ∧ zo r.1 = 0 ∧ zk r.1 = 0 ∧ zd r.1 ≤ bd ∧ recW r) ∧ (r.2.2.2.1 = none → (qF s).1 + (bd - zd r.1) ≤ 32258) ∧
  (∀ c, r.2.2.2.1 = some c → c < 8 ∧ c < (zsi (zK G r.1) r.1).1 ∧ zpc r.1 < gL G (zq r.1) ∧ (zoper G none (qF s) r.1).1 = 2 ∧ (qF s).1 + 1 + (bd - zd r.1) ≤ 32258) ∧ qN s + 8 < 2 ^ 30 ∧ qG s + 1 < 2 ^ 30 ∧
  (u.1 = 2 → r.2.1.length < 200 ∧ zfw u.2.2.1 ∧ zok u.2.1 u.2.2.1 ∧ zpc u.2.1 < gL G (zq u.2.1) ∧ (zoper G none u.2.2.1 u.2.1).1 = 2 ∧ dfs u.2.2.1 (zK G u.2.1) u.2.1 r)
section CT
variable {A I : HA} {S : zW} {F : zF} {G : zG}
theorem va_up_id {A : HA} {a : Nat} : va_up A a (A a) = A := by
  funext b
  by_cases e : b = a
  · subst e; rw [va_up_self]
  · rw [va_up_ne _ _ e]
theorem sI_id {I : HA} {a j : Nat} : sI I a j (I a j) = I := by
  funext b k
  by_cases e : b = a ∧ k = j
  · obtain ⟨rfl, rfl⟩ := e; rw [sI_e]
  · rw [sI_n (by omega)]
theorem C_run {Q : Int32 → HA → HA → Prop} {w bd : Nat} {A0 I0 : HA} {o : Nat × zW × zF} {T : Nat → Int32} {C : Int32} (h : GC w A0 I0 A I o.2.1 o.2.2) (hg : gRC A0 I0 G) (hT : A0 42 = T) (hC : I0 20 9 = C) (hbd : bd ≤ 200) (hb : I0 20 15 = nI bd) (h0 : o.1 = 0 → zok o.2.1 o.2.2 ∧ zo o.2.1 = 0 ∧ zd o.2.1 ≤ bd ∧ o.2.2.1 + (bd - zd o.2.1) ≤ 32258) (h1 : ¬ o.1 = 0 → ¬ zo o.2.1 = 0)
    (k : ∀ A' I', GC w (va_up A0 42 (zfr G bd o T C).2.2.2.1) (sI I0 20 9 (zfr G bd o T C).2.2.2.2) A' I' (zfr G bd o T C).2.1 (zfr G bd o T C).2.2.1 → ((zfr G bd o T C).1 = 2 → Q (nI 1) A' I') ∧ (¬ (zfr G bd o T C).1 = 2 → Q (nI 0) A' I')) : D97_goesToSplit w A I Q := by
  have h' : GC w (va_up A0 42 T) (sI I0 20 9 C) A I o.2.1 o.2.2 := by rw [← hT, ← hC, va_up_id, sI_id]; exact h
  unfold zfr at k
  by_cases c : o.1 = 0
  · rw [if_pos c] at k
    obtain ⟨ok, oz, od, oN⟩ := h0 c
    exact C_go hg hbd hb h' ok oz od (by omega) oN (fun e A' I' g => (k A' I' g).1 e) (fun e A' I' g => (k A' I' g).2 (by omega))
  · rw [if_neg c] at k
    exact C_go0 h hg hbd hb (h1 c) ((k A I h').2 (by show ¬ 1 = 2; decide))
theorem RCl.run {i : Nat} {A' I' A0 I0 : HA} {ps ws sp : List Nat} {s : zS} {T : Nat → Int32} {C : Int32} (h : RCl A I [i] ps ws sp s) (hg : GC (71 + 10 * i) (va_up A0 42 T) (sI I0 20 9 C) A' I' S F) (hA : A0 = A) (hI : ∀ a j, a ≠ 71 + 10 * i → I0 a j = I a j) : RCl A' I' [i] ps ws sp (qRun s F T C) := by
  obtain ⟨hown, hlen, ⟨n1, n2, n3, n4, n5, n6, n7, n8, n9, n10, n11, n12, n13, n14, n15⟩, hPs, hWs⟩ := h
  have hi := hown.2 i (by simp)
  have gA : ∀ a, ¬ (71 + 10 * i + 1 ≤ a ∧ a ≤ 71 + 10 * i + 6) → ¬ (33 ≤ a ∧ a ≤ 36) → a ≠ 42 → A' a = A a := fun a h1 h2 h3 => by rw [hg.2.2.2.2.1 a h1 h2, va_up_ne _ _ h3, hA]
  have gI : ∀ a j, a ≠ 71 + 10 * i → ¬ (a = 32 ∧ j = 4) → ¬ (a = 20 ∧ j = 9) → I' a j = I a j := fun a j h1 h2 h3 => by rw [hg.2.2.2.2.2 a j (by omega) h2, sI_n (by omega), hI a j h1]
  have nd := hown.1
  rw [List.singleton_append, List.nodup_cons] at nd
  have ne : ∀ m, m ∈ ps ∨ m ∈ ws → m ≠ i := fun m hm e => nd.1 (by rw [← e]; simp; rcases hm with z | z <;> simp [z])
  have off : ∀ m, m ∈ ps ∨ m ∈ ws → offW A I A' I' m := fun m hm => by
    have := ne m hm
    exact ⟨fun a a1 a2 => gA a (by omega) (by omega) (by omega), fun j => gI _ j (by omega) (by omega) (by omega)⟩
  refine ⟨hown, hlen, ⟨n1, n2, by rw [gA 41 (by omega) (by omega) (by omega)]; exact n3, by rw [gA 40 (by omega) (by omega) (by omega)]; exact n4, by rw [gA 38 (by omega) (by omega) (by omega)]; exact n5, by rw [gI _ _ (by omega) (by omega) (by omega)]; exact n6, by rw [gI _ _ (by omega) (by omega) (by omega)]; exact n7, by rw [gI _ _ (by omega) (by omega) (by omega)]; exact n8, by rw [hg.2.2.2.2.1 42 (by omega) (by omega), va_up_self]; rfl, by rw [hg.2.2.2.2.2 20 9 (by omega) (by omega), sI_e]; rfl, by rw [gI _ _ (by omega) (by omega) (by omega)]; exact n11, by rw [gI _ _ (by omega) (by omega) (by omega)]; exact n12, by rw [gI _ _ (by omega) (by omega) (by omega)]; exact n13, by rw [gA 43 (by omega) (by omega) (by omega)]; exact n14, by rw [gI _ _ (by omega) (by omega) (by omega)]; exact n15⟩, hPs.off (fun m hm => off m (Or.inl hm)), hWs.off (fun m hm => off m (Or.inr hm))⟩
theorem own.pth {N i : Nat} {ps ws sp : List Nat} (h : own N [i] ps ws sp) : own N [] (ps ++ [i]) ws sp := by
  have p : ([i] ++ (ps ++ (ws ++ sp))).Perm ([] ++ ((ps ++ [i]) ++ (ws ++ sp))) := by
    rw [List.nil_append, List.append_assoc]
    show (i :: (ps ++ (ws ++ sp))).Perm (ps ++ (i :: (ws ++ sp)))
    exact List.perm_middle.symm
  exact ⟨p.nodup_iff.mp h.1, fun j hj => h.2 j (p.mem_iff.mpr hj)⟩
theorem own.spr {N i : Nat} {ps ws sp : List Nat} (h : own N [i] ps ws sp) : own N [] ps ws (sp ++ [i]) := by
  have p : ([i] ++ (ps ++ (ws ++ sp))).Perm ([] ++ (ps ++ (ws ++ (sp ++ [i])))) := by
    have e : [] ++ (ps ++ (ws ++ (sp ++ [i]))) = (ps ++ (ws ++ sp)) ++ [i] := by simp
    rw [e]
    exact List.perm_append_comm
  exact ⟨p.nodup_iff.mp h.1, fun j hj => h.2 j (p.mem_iff.mpr hj)⟩
/-- behind goesToSplit -/
def TB2 (P : HA → HA → Prop) (w : Nat) (v9 v13 : Int32) (A14 I15 : HA) : Prop := if v13 = 0 then vp_in (I15 20 7) 100 ∧ (P (sA A14 41 (I15 20 7).toNatClampNeg v9) (sI I15 20 7 ((I15 20 7) + (nI 1)))) else D98_split w A14 I15 (fun A17 I18 => vp_in (I18 20 4) 161 ∧ (P (sA A17 38 (I18 20 4).toNatClampNeg v9) (sI I18 20 4 ((I18 20 4) + (nI 1)))))
/-- a turn of the class's loop -/
def TB (P : HA → HA → Prop) (A6 I7 : HA) : Prop := D89_take (I7 20 16) A6 I7 (fun v9 A10 I11 => vp_in v9 161 ∧ (if (I11 (71 + 10 * v9.toNatClampNeg) 16) = (-1) then D97_goesToSplit (71 + 10 * v9.toNatClampNeg) A10 I11 (fun v13 A14 I15 => TB2 P (71 + 10 * v9.toNatClampNeg) v9 v13 A14 I15) else D47_opOf (71 + 10 * v9.toNatClampNeg) A10 I11 (fun v20 => D48_act (71 + 10 * v9.toNatClampNeg) v20 (I11 (71 + 10 * v9.toNatClampNeg) 16) A10 I11 (fun A21 I22 => D97_goesToSplit (71 + 10 * v9.toNatClampNeg) A21 (sI I22 (71 + 10 * v9.toNatClampNeg) 16 (-1)) (fun v23 A24 I25 => TB2 P (71 + 10 * v9.toNatClampNeg) v9 v23 A24 I25)))))
theorem gRC.mv {A' I' : HA} (h : gRC A I G) (hA : ∀ a, a < 33 → A' a = A a) (hI : I' 22 0 = I 22 0) : gRC A' I' G := by
  unfold gRC at h ⊢
  rw [hA _ (by decide), hA _ (by decide), hA _ (by decide), hA _ (by decide), hA _ (by decide), hA _ (by decide), hA _ (by decide), hA _ (by decide), hA _ (by decide), hA _ (by decide), hA _ (by decide), hI]
  exact h
theorem zFC.mv {A' I' : HA} (h : zFC A I F) (hA : ∀ a, 33 ≤ a → a ≤ 36 → A' a = A a) (hI : I' 32 4 = I 32 4) : zFC A' I' F := by
  unfold zFC at h ⊢
  rw [hA _ (by decide) (by decide), hA _ (by decide) (by decide), hA _ (by decide) (by decide), hA _ (by decide) (by decide), hI]
  exact h
theorem C_behind {P : HA → HA → Prop} {i bd ord : Nat} {ps ws sp : List Nat} {s : zS} {r : zR} {u : zU} {A0 I0 : HA} {v : Int32} {sT : zS} (h : RCl A I [i] ps ws sp (qTake ord s)) (hg : gRC A I G) (hA : A0 = A) (hI : ∀ a j, a ≠ 71 + 10 * i → I0 a j = I a j) (h16 : I0 (71 + 10 * i) 16 = -1) (hI2 : ∀ j, j ≠ 16 → I0 (71 + 10 * i) j = I (71 + 10 * i) j) (hcw : cw A I i r) (ht : tpr G bd ord s r u) {A' I' : HA} (hG : GC (71 + 10 * i) (va_up A0 42 u.2.2.2.1) (sI I0 20 9 u.2.2.2.2) A' I' u.2.1 u.2.2.1) (hv : (u.1 = 2 → v = nI 1) ∧ (¬ u.1 = 2 → v = nI 0))
    (k : ∀ A2 I2 ps' ws' sp', RCl A2 I2 [] ps' ws' sp' (zst G ord s r u) → zFC A2 I2 u.2.2.1 → frC A I A2 I2 → P A2 I2) : TB2 P (71 + 10 * i) (nI i) v A' I' := by
  have hi : i < 161 := h.1.2 i (by simp)
  have h1 := h.run hG hA hI
  have hps : ps.length = (qP s).length := h.2.2.1.1
  have hws : ws.length = ((qTake ord s).2.2.1).length := h.2.2.1.2.1
  have h100 := ht.1.2.2.1
  have gA : ∀ a, ¬ (71 + 10 * i + 1 ≤ a ∧ a ≤ 71 + 10 * i + 6) → ¬ (33 ≤ a ∧ a ≤ 36) → a ≠ 42 → A' a = A a := fun a h1 h2 h3 => by rw [hG.2.2.2.2.1 a h1 h2, va_up_ne _ _ h3, hA]
  have gI : ∀ a j, a ≠ 71 + 10 * i → ¬ (a = 32 ∧ j = 4) → ¬ (a = 20 ∧ j = 9) → I' a j = I a j := fun a j h1 h2 h3 => by rw [hG.2.2.2.2.2 a j (by omega) h2, sI_n (by omega), hI a j h1]
  have gW : ∀ j, j = 9 ∨ j = 17 → I' (71 + 10 * i) j = I (71 + 10 * i) j := fun j hj => by rw [hG.2.2.2.2.2 _ j (by omega) (by omega), sI_n (by omega), hI2 j (by omega)]
  have g16 : I' (71 + 10 * i) 16 = -1 := by rw [hG.2.2.2.2.2 _ 16 (by omega) (by omega), sI_n (by omega), h16]
  have n6 := h1.2.2.1.2.2.2.2.2.1
  have fr : frC A I A' I' := ⟨fun a e => gA a (by omega) (by omega) (by omega), fun a j e => gI a j (by omega) (by omega) (by omega), fun j e => gI 20 j (by omega) (by omega) (by omega)⟩
  unfold TB2
  by_cases c : u.1 = 2
  · obtain ⟨t1, t2, t3, t4, t5, t6⟩ := ht.2.2.2.2.2.2 c
    rw [hv.1 c, i1]
    have hg' : gRC A' I' G := hg.mv (fun a ha => gA a (by omega) (by omega) (by omega)) (gI _ _ (by omega) (by omega) (by omega))
    have GS := hG.self
    have hsp : spl G u.2.2.1 u.2.1 (zK G u.2.1) := spl_of hg.1 hG.2.1 t3 hG.2.2.2.1.2.1 (by have := hG.2.2.2.1.2.2.1; omega) t4 t5
    refine C_split h1 hg' (by omega) ?_ GS t4 rfl hsp t2 ⟨by rw [gW 9 (by omega)]; exact hcw.1.1, fun c p e => by rw [gA _ (by omega) (by omega) (by omega)]; exact hcw.1.2.1 c p e⟩ (fun k hk => by
      rw [← hcw.1.2.2.1 k hk]
      unfold inA
      rw [gA _ (by omega) (by omega) (by omega)]) ht.2.1.2.2.2.2 t1 t6 ht.2.2.2.2.1 (fun A3 I3 ws3 sp3 hR3 fr3 => ?_)
    · show ((qW s).eraseIdx _).length ≤ 59
      rw [List.length_eraseIdx, if_pos (zpick_lt ht.1.1)]
      have := ht.1.2.1
      omega
    · have n8 := hR3.2.2.1.2.2.2.2.2.2.2.1
      have l3 := hR3.2.1
      have l3 : sp3.length < 161 := by simp at l3; omega
      rw [n8, vpT (n := sp3.length) (by omega) (by decide), nI_clamp (n := sp3.length) (by omega), nI_add]
      refine ⟨trivial, ?_⟩
      have e : zst G ord s r u = qSet (qRun (qTake ord s) u.2.2.1 u.2.2.2.1 u.2.2.2.2) (zspl r u.2.1 (zchk u.2.2.1 (zK G u.2.1) u.2.1) (qG s + 1) (zsi (zK G u.2.1) u.2.1).1 (qGet (qTake ord s))) (qG s + 1) := by unfold zst; rw [if_pos c]
      obtain ⟨hown, hlen, ⟨n1, n2, n3, n4, n5, n6, n7, n8, n9, n10, n11, n12, n13, n14, n15⟩, hPs, hWs⟩ := hR3
      have off : ∀ m, offW A3 I3 (sA A3 38 sp3.length (nI i)) (sI I3 20 4 (nI (sp3.length + 1))) m := fun m => ⟨fun a a1 a2 => by rw [sA_na (by omega)], fun j => by rw [sI_na (by omega)]⟩
      refine k _ _ ps ws3 (sp3 ++ [i]) ?_ ?_ ?_
      · rw [e]
        refine ⟨hown.spr, by simp at hlen ⊢; omega, ⟨n1, n2, by rw [sA_na (by decide)]; exact n3, by rw [sA_na (by decide)]; exact n4, rowA.app (f := A3 38) n5, by rw [sI_n (by decide)]; exact n6, by rw [sI_n (by decide)]; exact n7, by rw [sI_e, List.length_append]; rfl, by rw [sA_na (by decide)]; exact n9, by rw [sI_n (by decide)]; exact n10, by rw [sI_n (by decide)]; exact n11, by rw [sI_n (by decide)]; exact n12, by rw [sI_n (by decide)]; exact n13, by rw [sA_na (by decide)]; exact n14, by rw [sI_n (by decide)]; exact n15⟩, hPs.off (fun m _ => off m), hWs.off (fun m _ => off m)⟩
      · exact (hG.2.2.2.1.mv (fun a h1 h2 => fr3.1 a (by omega)) (fr3.2.1 _ _ (by omega))).mv (fun a h1 h2 => by rw [sA_na (by omega)]) (by rw [sI_na (by decide)])
      · refine fr.tr ⟨fun a e => by rw [sA_na (by omega)]; exact fr3.1 a (by omega), fun a j e => by rw [sI_na (by omega)]; exact fr3.2.1 a j (by omega), fun j e => by rw [sI_n (by omega)]; exact fr3.2.2 j (by omega)⟩
  · rw [hv.2 c, i0, n6, vpT (n := ps.length) (by omega) (by decide), nI_clamp (n := ps.length) (by omega), nI_add]
    refine ⟨trivial, ?_⟩
    have e : zst G ord s r u = qEnd (qRun (qTake ord s) u.2.2.1 u.2.2.2.1 u.2.2.2.2) (u.2.1, r.2.1, r.2.2.1, none, r.2.2.2.2) := by unfold zst; rw [if_neg c]
    obtain ⟨hown, hlen, ⟨n1, n2, n3, n4, n5, n6, n7, n8, n9, n10, n11, n12, n13, n14, n15⟩, hPs, hWs⟩ := h1
    have off : ∀ m, offW A' I' (sA A' 41 ps.length (nI i)) (sI I' 20 7 (nI (ps.length + 1))) m := fun m => ⟨fun a a1 a2 => by rw [sA_na (by omega)], fun j => by rw [sI_na (by omega)]⟩
    have cwn : cw A' I' i (u.2.1, r.2.1, r.2.2.1, none, r.2.2.2.2) := by
      refine ⟨⟨by rw [gW 9 (by omega)]; exact hcw.1.1, fun c p e => by rw [gA _ (by omega) (by omega) (by omega)]; exact hcw.1.2.1 c p e, fun k hk => ?_, g16, by rw [gW 17 (by omega)]; exact hcw.1.2.2.2.2⟩, hG.2.2.1⟩
      refine Eq.trans ?_ (hcw.1.2.2.1 k hk)
      unfold inA
      rw [gA _ (by omega) (by omega) (by omega)]
    refine k _ _ (ps ++ [i]) ws sp ?_ ?_ ?_
    · rw [e]
      refine ⟨hown.pth, by simp at hlen ⊢; omega, ⟨?_, n2, rowA.app (f := A' 41) n3, by rw [sA_na (by decide)]; exact n4, by rw [sA_na (by decide)]; exact n5, by rw [sI_e, List.length_append]; rfl, by rw [sI_n (by decide)]; exact n7, by rw [sI_n (by decide)]; exact n8, by rw [sA_na (by decide)]; exact n9, by rw [sI_n (by decide)]; exact n10, by rw [sI_n (by decide)]; exact n11, by rw [sI_n (by decide)]; exact n12, by rw [sI_n (by decide)]; exact n13, by rw [sA_na (by decide)]; exact n14, by rw [sI_n (by decide)]; exact n15⟩, ?_, hWs.off (fun m _ => off m)⟩
      · show (ps ++ [i]).length = (qP s ++ [_]).length
        rw [List.length_append, List.length_append, hps]; rfl
      · exact wsC.app (hPs.off (fun m _ => off m)) n1 (cwn.off (off i))
    · exact hG.2.2.2.1.mv (fun a h1 h2 => by rw [sA_na (by omega)]) (by rw [sI_na (by decide)])
    · exact fr.tr ⟨fun a e => by rw [sA_na (by omega)], fun a j e => by rw [sI_na (by omega)], fun j e => by rw [sI_n (by omega)]⟩
theorem C_turn {P : HA → HA → Prop} {bd ord : Nat} {ps ws sp : List Nat} {s : zS} (h : RCl A I [] ps ws sp s) (hg : gRC A I G) (hF : zFC A I (qF s)) (hbd : bd ≤ 200) (hb : I 20 15 = nI bd) (ho : ord ≤ 3) (h16 : I 20 16 = nI ord) (ht : tpr G bd ord s (zpr ord s) (zur G bd ord s))
    (k : ∀ A2 I2 ps' ws' sp', RCl A2 I2 [] ps' ws' sp' (zturn G bd ord s) → zFC A2 I2 (qF (zturn G bd ord s)) → frC A I A2 I2 → P A2 I2) : TB P A I := by
  have eF : qF (zturn G bd ord s) = (zur G bd ord s).2.2.1 := by unfold zturn zst; split <;> rfl
  rw [eF] at k
  unfold TB
  rw [h16]
  refine C_take ho ht.1.1 ht.1.2.1 h ht.1.2.2.2.1 ht.1.2.2.2.2 (fun i A1 I1 hR hcw i161 a1 i1 => ?_)
  have hcw : cw A1 I1 i (zpr ord s) := hcw
  have hmem : zpr ord s ∈ qW s := by
    have := zpick_lt (ord := ord) (T := qT s) (z := qZ s) ht.1.1
    refine List.mem_of_getElem? (i := zpick ord (qW s) (qT s) (qZ s)) ?_
    unfold zpr
    rw [List.getD_eq_getElem?_getD, List.getElem?_eq_getElem this]; rfl
  have hz := (ht.1.2.2.2.2 _ hmem).1
  rw [vpT (n := i) (by omega) (by decide), nI_clamp (n := i) (by omega), hcw.1.2.2.2.1]
  refine ⟨trivial, ?_⟩
  have g1 : gRC A1 I1 G := hg.mv (fun a ha => a1 a (by omega)) (by rw [i1 22 (by decide)])
  have f1 : zFC A1 I1 (qF s) := hF.mv (fun a h1 h2 => a1 a (by omega)) (by rw [i1 32 (by decide)])
  have G1 : GC (71 + 10 * i) A1 I1 A1 I1 (zpr ord s).1 (qF s) := ⟨isW_mk i161, hz, hcw.2, f1, fun _ _ _ => rfl, fun _ _ _ _ => rfl⟩
  have b1 : I1 20 15 = nI bd := by rw [i1 20 (by decide)]; exact hb
  have T1 : A1 42 = qT s := hR.2.2.1.2.2.2.2.2.2.2.2.1
  have C1 : I1 20 9 = qC s := hR.2.2.1.2.2.2.2.2.2.2.2.2.1
  have fr1 : frC A I A1 I1 := ⟨fun a e => a1 a (by omega), fun a j e => by rw [i1 a (by omega)], fun j e => by rw [i1 20 (by decide)]⟩
  obtain ⟨p1, p2, p3, p4, p5⟩ := ht.2.1
  cases ha : (zpr ord s).2.2.2.1 with
  | none =>
    rw [show altv none = -1 from rfl, if_pos rfl]
    have eo : zre G (qF s) (zpr ord s) = (0, (zpr ord s).1, qF s) := by unfold zre; rw [ha]
    have eu : zur G bd ord s = zfr G bd (zre G (qF s) (zpr ord s)) (qT s) (qC s) := rfl
    have ht' := ht
    rw [eu] at ht' k
    rw [eo] at ht' k
    refine C_run (o := (0, (zpr ord s).1, qF s)) G1 g1 T1 C1 hbd b1 (fun _ => ⟨p1, p2, p4, ht.2.2.1 ha⟩) (fun z => absurd rfl z) (fun A2 I2 G2 => ?_)
    have kk : ∀ v : Int32, ((zfr G bd (0, (zpr ord s).1, qF s) (qT s) (qC s)).1 = 2 → v = nI 1) ∧ (¬ (zfr G bd (0, (zpr ord s).1, qF s) (qT s) (qC s)).1 = 2 → v = nI 0) → TB2 P (71 + 10 * i) (nI i) v A2 I2 := fun v hv => C_behind (sT := s) hR g1 rfl (fun _ _ _ => rfl) (by rw [hcw.1.2.2.2.1, ha]; rfl) (fun _ _ => rfl) hcw ht' G2 hv (fun A3 I3 ps' ws' sp' hR3 hF3 fr3 => k _ _ _ _ _ (by unfold zturn; rw [eu, eo]; exact hR3) hF3 (fr1.tr fr3))
    exact ⟨fun e => kk _ ⟨fun _ => rfl, fun z => absurd e z⟩, fun e => kk _ ⟨fun z => absurd z e, fun _ => rfl⟩⟩
  | some c =>
    obtain ⟨c8, cz, q1, q2, q3⟩ := ht.2.2.2.1 c ha
    rw [show altv (some c) = nI c from rfl, iNg (by omega) (by decide)]
    have hsp : spl G (qF s) (zpr ord s).1 (zK G (zpr ord s).1) := spl_of hg.1 hz p1 hF.2.1 (by omega) q1 q2
    have eo : zre G (qF s) (zpr ord s) = zoper G (some c) (qF s) (zpr ord s).1 := by unfold zre; rw [ha]
    have eu : zur G bd ord s = zfr G bd (zre G (qF s) (zpr ord s)) (qT s) (qC s) := rfl
    have ht' := ht
    rw [eu] at ht' k
    rw [eo] at ht' k
    have ok := zoper_ok (alt := some c) hg.1 hz p1 hF.2.1 (by omega) q1
    obtain ⟨o1, o2, o3, o4, o5, o6, o7, o8⟩ := ok
    have n2' : ¬ (zoper G (some c) (qF s) (zpr ord s).1).1 = 2 := zop_n2 ((hg.1.2.2 _ hz.hi.2.1).2.2.1 _ q1).1 (fun _ => ⟨c, rfl⟩)
    refine C_opOf G1 g1 q1 (C_resume G1 g1 p1 (by omega) q1 rfl hsp c8 (fun A2 I2 G2 => ?_))
    generalize zoper G (some c) (qF s) (zpr ord s).1 = o at G2 k ht' eo o1 o2 o3 o4 o5 o6 o7 o8 n2'
    have G3 : GC (71 + 10 * i) A1 (sI I1 (71 + 10 * i) 16 (-1)) A2 (sI I2 (71 + 10 * i) 16 (-1)) o.2.1 o.2.2 := by
      obtain ⟨x1, x2, x3, x4, x5, x6⟩ := G2
      refine ⟨x1, x2, ?_, x4.mv (fun _ _ _ => rfl) (by rw [sI_na (by omega)]), x5, fun a j n1 n2 => ?_⟩
      · obtain ⟨y1, y2, y3, y4, y5, y6, y7, y8⟩ := x3
        exact ⟨by rw [sI_n (by omega)]; exact y1, by rw [sI_n (by omega)]; exact y2, by rw [sI_n (by omega)]; exact y3, by rw [sI_n (by omega)]; exact y4, by rw [sI_n (by omega)]; exact y5, by rw [sI_n (by omega)]; exact y6, by rw [sI_n (by omega)]; exact y7, y8⟩
      · by_cases z : a = 71 + 10 * i ∧ j = 16
        · obtain ⟨rfl, rfl⟩ := z; rw [sI_e, sI_e]
        · rw [sI_n (by omega), sI_n (by omega)]; exact x6 a j n1 n2
    refine C_run (o := o) (T := qT s) (C := qC s) G3 (g1.mv (fun _ _ => rfl) (by rw [sI_na (by omega)])) T1 (by rw [sI_na (by omega)]; exact C1) hbd (by rw [sI_na (by omega)]; exact b1) (fun e => ⟨o4 e, (o3.2 e).trans p2, by rw [o3.1]; exact p4, by rw [o3.1]; have := o1.2.1; omega⟩) (fun e => o8 (by omega)) (fun A3 I3 G4 => ?_)
    have kk : ∀ v : Int32, ((zfr G bd o (qT s) (qC s)).1 = 2 → v = nI 1) ∧ (¬ (zfr G bd o (qT s) (qC s)).1 = 2 → v = nI 0) → TB2 P (71 + 10 * i) (nI i) v A3 I3 := fun v hv => C_behind (sT := s) (A0 := A1) (I0 := sI I1 (71 + 10 * i) 16 (-1)) (u := zfr G bd o (qT s) (qC s)) hR g1 rfl (fun a j e => by rw [sI_na e]) sI_e (fun j e => by rw [sI_n (by omega)]) hcw ht' G4 hv (fun A4 I4 ps' ws' sp' hR3 hF3 fr3 => k _ _ _ _ _ (by unfold zturn; rw [eu, eo]; exact hR3) hF3 (fr1.tr fr3))
    exact ⟨fun e => kk _ ⟨fun _ => rfl, fun z => absurd e z⟩, fun e => kk _ ⟨fun z => absurd z e, fun _ => rfl⟩⟩
end CT
