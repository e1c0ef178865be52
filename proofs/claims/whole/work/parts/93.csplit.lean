/-! THE CLASS: all of a split -/
def zchk (F : zF) (K : Nat) (S : zW) (k : Nat) : Nat := zch K ((evs F (xk k) (yk k) (zlf K S).toNatClampNeg).getD 0) ((evs F (xk k) (yk k) (zrt K S).toNatClampNeg).getD 0) (zln K S)
def tkn (r : zR) (ch : Nat → Nat) (c : Nat) : Prop := zany (gch r ch c) 1024 = true
theorem zal_pos {r : zR} {S : zW} {ch : Nat → Nat} {g c : Nat} {t : zT} (h : tkn r ch c) : zal r S ch g c t = if t.1.length = 60 then (t.1, t.2.1 + nI 1, t.2.2) else (t.1 ++ [zkid r S ch g c], t.2) := by unfold tkn at h; unfold zal; rw [if_pos h]
theorem zal_neg {r : zR} {S : zW} {ch : Nat → Nat} {g c : Nat} {t : zT} (h : ¬ tkn r ch c) : zal r S ch g c t = (t.1, t.2.1, t.2.2.1 + 1, un t.2.2.2 (t.2.2.1 % 30) (zplc S, c)) := by unfold tkn at h; unfold zal; rw [if_neg h]
theorem lsx_tkn {r : zR} {ch : Nat → Nat} {c : Nat} : lsx (gch r ch c) 1024 = -1 ↔ ¬ tkn r ch c := lsx_any
/-- the inputs of a way bear what decides a split -/
def dfs (F : zF) (K : Nat) (S : zW) (r : zR) : Prop := ∀ k, k < 1024 → (r.2.2.1 k).isNone = true → (∃ a, evs F (xk k) (yk k) (zlf K S).toNatClampNeg = some a) ∧ ∃ b, evs F (xk k) (yk k) (zrt K S).toNatClampNeg = some b
def frS (A I A' I' : HA) : Prop := (∀ a, a < 40 ∨ a = 41 ∨ a = 42 ∨ 1681 ≤ a → A' a = A a) ∧ (∀ a j, a < 20 ∨ 20 < a ∧ a < 39 ∨ 1681 ≤ a → I' a j = I a j) ∧ (∀ j, ¬ (j = 4 ∨ j = 10 ∨ j = 12 ∨ j = 17) → I' 20 j = I 20 j)
theorem frS.rf {A I : HA} : frS A I A I := ⟨fun _ _ => rfl, fun _ _ _ => rfl, fun _ _ => rfl⟩
theorem frS.tr {A I A1 I1 A2 I2 : HA} (h : frS A I A1 I1) (g : frS A1 I1 A2 I2) : frS A I A2 I2 := ⟨fun a e => (g.1 a e).trans (h.1 a e), fun a j e => (g.2.1 a j e).trans (h.2.1 a j e), fun j e => (g.2.2 j e).trans (h.2.2 j e)⟩
section SPT
variable {A I : HA} {S : zW} {F : zF} {G : zG}
theorem RCn.mv {A' I' : HA} {ps ws sp : List Nat} {s : zS} {g : Nat} (h : RCn A I ps ws sp s) (hA : ∀ a, a = 38 ∨ 40 ≤ a ∧ a ≤ 43 → A' a = A a) (h39 : I' 39 = I 39) (h20 : ∀ j, j ≠ 17 → I' 20 j = I 20 j) (h17 : I' 20 17 = nI g) : RCn A' I' ps ws sp (qSet s (qGet s) g) := by
  obtain ⟨n1, n2, n3, n4, n5, n6, n7, n8, n9, n10, n11, n12, n13, n14, n15⟩ := h
  exact ⟨n1, n2, by rw [hA 41 (by omega)]; exact n3, by rw [hA 40 (by omega)]; exact n4, by rw [hA 38 (by omega)]; exact n5, by rw [h20 _ (by decide)]; exact n6, by rw [h39]; exact n7, by rw [h20 _ (by decide)]; exact n8, by rw [hA 42 (by omega)]; exact n9, by rw [h20 _ (by decide)]; exact n10, by rw [h39]; exact n11, by rw [h20 _ (by decide)]; exact n12, by rw [h20 _ (by decide)]; exact n13, fun j h1 h2 => by rw [hA 43 (by omega)]; exact n14 j h1 h2, h17⟩
theorem RCn.prune {ps ws sp : List Nat} {s : zS} {c : Nat} (h : RCn A I ps ws sp s) (hN : qN s < 2 ^ 30) : RCn (sA A 43 (qN s % 30) (nI (zplc S * 8 + c))) (sI I 20 12 (nI (qN s + 1))) ps ws sp (qSet s (qW s, qL s, qN s + 1, un (qK s) (qN s % 30) (zplc S, c)) (qG s)) := by
  obtain ⟨n1, n2, n3, n4, n5, n6, n7, n8, n9, n10, n11, n12, n13, n14, n15⟩ := h
  refine ⟨n1, n2, by rw [sA_na (by decide)]; exact n3, by rw [sA_na (by decide)]; exact n4, by rw [sA_na (by decide)]; exact n5, by rw [sI_n (by decide)]; exact n6, by rw [sI_n (by decide)]; exact n7, by rw [sI_n (by decide)]; exact n8, by rw [sA_na (by decide)]; exact n9, by rw [sI_n (by decide)]; exact n10, by rw [sI_n (by decide)]; exact n11, by rw [sI_n (by decide)]; exact n12, sI_e, fun j h1 h2 => ?_, by rw [sI_n (by decide)]; exact n15⟩
  have h2 : j < qN s + 1 := h2
  show _ = nI ((un (qK s) (qN s % 30) (zplc S, c) j).1 * 8 + (un (qK s) (qN s % 30) (zplc S, c) j).2)
  by_cases e : j = qN s % 30
  · subst e; rw [sA_e, un_e]
  · rw [sA_n (Or.inr e), un_n e]
    refine n14 j h1 ?_
    by_cases z : j = qN s
    · exact absurd (by rw [← z, Nat.mod_eq_of_lt h1]) e
    · omega
theorem RCn.lose {ps ws sp : List Nat} {s : zS} (h : RCn A I ps ws sp s) : RCn A (sI I 20 10 (I 20 10 + nI 1)) ps ws sp (qSet s (qW s, qL s + nI 1, qN s, qK s) (qG s)) := by
  obtain ⟨n1, n2, n3, n4, n5, n6, n7, n8, n9, n10, n11, n12, n13, n14, n15⟩ := h
  exact ⟨n1, n2, n3, n4, n5, by rw [sI_n (by decide)]; exact n6, by rw [sI_n (by decide)]; exact n7, by rw [sI_n (by decide)]; exact n8, n9, by rw [sI_n (by decide)]; exact n10, by rw [sI_n (by decide)]; exact n11, by rw [sI_e, n12]; rfl, by rw [sI_n (by decide)]; exact n13, n14, by rw [sI_n (by decide)]; exact n15⟩
theorem own.kid {N n : Nat} {cur ps ws sp : List Nat} (h : own N cur ps ws (sp ++ [n])) : own N cur ps (ws ++ [n]) sp := by
  have p : (cur ++ (ps ++ (ws ++ (sp ++ [n])))).Perm (cur ++ (ps ++ ((ws ++ [n]) ++ sp))) := by
    refine List.Perm.append_left cur (List.Perm.append_left ps ?_)
    rw [List.append_assoc]
    exact List.Perm.append_left ws List.perm_append_comm
  exact ⟨p.nodup_iff.mp h.1, fun j hj => h.2 j (p.mem_iff.mpr hj)⟩
theorem own.ne {N n : Nat} {cur ps ws sp : List Nat} (h : own N cur ps ws (sp ++ [n])) : n ∉ cur ∧ n ∉ ps ∧ n ∉ ws := by
  have h1 := h.1
  have p : (cur ++ (ps ++ (ws ++ (sp ++ [n])))).Perm (n :: (cur ++ (ps ++ (ws ++ sp)))) := by
    have e : cur ++ (ps ++ (ws ++ (sp ++ [n]))) = (cur ++ (ps ++ (ws ++ sp))) ++ [n] := by simp
    rw [e]
    exact List.perm_append_comm
  have h2 := (List.nodup_cons.mp (p.nodup_iff.mp h1)).1
  simp at h2
  exact ⟨h2.1, h2.2.1, h2.2.2.1⟩
theorem C_alts {Q : Int32 → Prop} {K n : Nat} (hs : spl G F S K) (q : Q (nI (zsi K S).1)) : D70_alternativesOf (nI K) (nI (zln K S)) Q := by
  rw [hs.si.1] at q
  unfold D70_alternativesOf
  have hK := hs.1
  unfold dcd at hK
  rw [iEq (by omega) (by decide), iEq (by omega) (by decide), iEq (by omega) (by decide), nI_add]
  by_cases c1 : K = 21
  · rw [if_pos c1] at q ⊢; exact q
  · rw [if_neg c1] at q ⊢
    by_cases c2 : K = 22
    · rw [if_pos (Or.inl c2)] at q; rw [if_pos c2]; exact q
    · rw [if_neg c2]
      by_cases c3 : K = 23
      · rw [if_pos (Or.inr c3)] at q; rw [if_pos c3]; exact q
      · rw [if_neg (by omega)] at q; rw [if_neg c3]; exact q
theorem C_lenAt {Q : Int32 → Prop} {w K : Nat} (h : GC w A I A I S F) (hg : gRC A I G) (hs : spl G F S K) (q : Q (nI (zln K S))) : D53_lengthAt w (nI K) A I Q := by
  have hd := hs.1
  unfold dcd at hd
  rcases hs.2.2.2.2.2.2 with ⟨e, -⟩ | ⟨e, -⟩ | ⟨e, -⟩ | ⟨e, hh, j, hj, y, ln, -⟩ | ⟨e, hh, j, hj, y, ln, -⟩
  · have : zln K S = 0 := by unfold zln; rw [if_neg (by omega), if_neg (by omega)]
    rw [this] at q
    exact C_lengthAt0 (by omega) (by omega) q
  · have : zln K S = 0 := by unfold zln; rw [if_neg (by omega), if_neg (by omega)]
    rw [this] at q
    exact C_lengthAt0 (by omega) (by omega) q
  · have : zln K S = 0 := by unfold zln; rw [if_neg (by omega), if_neg (by omega)]
    rw [this] at q
    exact C_lengthAt0 (by omega) (by omega) q
  · rw [ln] at q
    exact C_lengthAtK (b := 1) h hg (by omega) (by omega) (by subst e; rfl) (by omega) hj y q
  · rw [ln] at q
    exact C_lengthAtK (b := 2) h hg (by omega) (by omega) (by subst e; rfl) (by omega) hj y q
theorem zchk_lt {K k : Nat} (hs : spl G F S K) : zchk F K S k < 8 := zch_lt hs.2.2.2.2.2.1
theorem C_split {Q : HA → HA → Prop} {i K : Nat} {ps ws sp : List Nat} {s : zS} {r : zR} (h : RCl A I [i] ps ws sp s) (hg : gRC A I G) (hP : ps.length < 100) (hW60 : (qW s).length ≤ 59) (hG : GC (71 + 10 * i) A I A I S F) (hp : zpc S < gL G (zq S)) (hK : gO G (zq S) (zpc S) = K) (hs : spl G F S K) (hw : zfw F) (hcur : curC A I (71 + 10 * i) r) (hin : ∀ k, k < 1024 → inA A (71 + 10 * i + 9) k = (r.2.2.1 k).isNone) (hr : recW r) (hr2 : r.2.1.length < 200) (hd : dfs F K S r) (hN : qN s + 8 < 2 ^ 30)
    (q : ∀ A' I' ws' sp', RCl A' I' [i] ps ws' sp' (qSet s (zspl r S (zchk F K S) (qG s + 1) (zsi K S).1 (qGet s)) (qG s + 1)) → frS A I A' I' → Q A' I') : D98_split (71 + 10 * i) A I Q := by
  obtain ⟨jl, el, hjl⟩ := hs.2.2.2.1
  obtain ⟨jr, er, hjr⟩ := hs.2.2.2.2.1
  have hF := hG.2.2.2.1.2.2.1
  have h8 := hs.lt.1
  have hi161 : i < 161 := h.1.2 i (by simp)
  unfold D98_split
  refine C_opOf hG hg hp ?_
  rw [hK]
  refine C_lenAt hG hg hs ?_
  refine C_share (ch := zchk F K S) hG (by omega) hw hs.1 hs.2.2.2.2.2.1 hs.2.2.1 hs.2.1 el hjl er hjr (fun k hk e => ?_) (fun A1 I1 a1 i1 s1 s2 => ?_)
  · rw [hin k hk] at e
    obtain ⟨⟨a, ea⟩, b, eb⟩ := hd k hk e
    rw [el, nI_clamp (by omega)] at ea
    rw [er, nI_clamp (by omega)] at eb
    refine ⟨a, b, ea, eb, ?_⟩
    unfold zchk
    rw [el, er, nI_clamp (by omega), nI_clamp (by omega), ea, eb]
    rfl
  · refine C_alts (n := 0) hs ?_
    intro P hP1
    have hsh : shr A1 r (zchk F K S) := by
      refine ⟨fun c k hc hk => ?_, fun c hc => ?_⟩
      · rw [s1 c k hc hk, hin k hk]; rfl
      · rw [s2 c hc]
        exact lsx_congr 1024 (fun k hk => by rw [hin k hk]; rfl)
    have I1o : ∀ a, a ≠ 20 → a ≠ 47 → a ≠ 51 → sI I1 20 17 (I1 20 17 + nI 1) a = I a := fun a h1 h2 h3 => by rw [sI_na h1]; exact i1 a h2 h3
    have I120 : ∀ j, j ≠ 17 → sI I1 20 17 (I1 20 17 + nI 1) 20 j = I 20 j := fun j hj => by rw [sI_n (by omega), i1 20 (by decide) (by decide)]
    obtain ⟨hown, hlen, hn, hPs, hWs⟩ := h
    have off1 : ∀ n, offW A I A1 (sI I1 20 17 (I1 20 17 + nI 1)) n := fun n => ⟨fun a x1 x2 => a1 a (by omega), fun j => by rw [I1o _ (by omega) (by omega) (by omega)]⟩
    have key : ∀ d c A2 I2 ws sp, d + c = (zsi K S).1 → RCl A2 I2 [i] ps ws sp (qSet s (zspl r S (zchk F K S) (qG s + 1) c (qGet s)) (qG s + 1)) → (zspl r S (zchk F K S) (qG s + 1) c (qGet s)).1.length ≤ 60 → (zspl r S (zchk F K S) (qG s + 1) c (qGet s)).2.2.1 ≤ qN s + c → GC (71 + 10 * i) A2 I2 A2 I2 S F → curC A2 I2 (71 + 10 * i) r → shr A2 r (zchk F K S) → frS A I A2 I2 → P (nI c) A2 I2 := by
      intro d
      induction d with
      | zero =>
        intro c A2 I2 ws sp hc hR _ _ _ _ _ hf
        refine hP1 _ _ _ ?_
        rw [iLt (by omega) (by omega), if_neg (by omega)]
        rw [show c = (zsi K S).1 by omega] at hR
        exact q _ _ _ _ hR hf
      | succ d ih =>
        intro c A2 I2 ws sp hc hR h60 hNc hG2 hcur2 hsh2 hf
        have ih := ih (c + 1)
        refine hP1 _ _ _ ?_
        rw [iLt (by omega) (by omega), if_pos (by omega)]
        unfold D106_isTaken
        rw [vpT (n := c) (by omega) (by decide), nI_clamp (n := c) (by omega), nI_add]
        refine ⟨trivial, ?_⟩
        have hv := hsh2.2 c (by omega)
        have hv2 : A2 46 c = -1 ↔ ¬ tkn r (zchk F K S) c := by rw [hv]; exact lsx_tkn
        clear hv
        generalize A2 46 c = v at hv2
        have st : zspl r S (zchk F K S) (qG s + 1) (c + 1) (qGet s) = zal r S (zchk F K S) (qG s + 1) c (zspl r S (zchk F K S) (qG s + 1) c (qGet s)) := rfl
        rw [st] at ih
        generalize zspl r S (zchk F K S) (qG s + 1) c (qGet s) = t at ih hR h60 hNc
        by_cases ct : tkn r (zchk F K S) c
        · rw [if_neg (fun z => hv2.mp z ct)]
          show if nI 1 = 0 then _ else _
          rw [Jvm.Pilot.CPathRunnerLaw_law_r2462_f22676.i1]
          have e1 : zal r S (zchk F K S) (qG s + 1) c t = if t.1.length = 60 then (t.1, t.2.1 + nI 1, t.2.2) else (t.1 ++ [zkid r S (zchk F K S) (qG s + 1) c], t.2) := zal_pos ct
          rw [e1] at ih
          refine C_addAlt hR hP h60 hG2 hcur2 hr hr2 hsh2 (fun k _ _ => zchk_lt hs) (by omega) (fun c60 => ?_) (fun n sp0 A3 I3 esp c60 hcw a3 i3 e40 e4 e39 => ?_)
          · have c60 : t.1.length = 60 := c60
            rw [if_pos c60] at ih
            have o2 : ∀ n, offW A2 I2 A2 (sI I2 20 10 (I2 20 10 + nI 1)) n := fun n => ⟨fun _ _ _ => rfl, fun j => by rw [sI_na (by omega)]⟩
            refine ih _ _ ws sp (by omega) ⟨hR.1, hR.2.1, hR.2.2.1.lose, hR.2.2.2.1.off (fun n _ => o2 n), hR.2.2.2.2.off (fun n _ => o2 n)⟩ (by show t.1.length ≤ 60; omega) (by show t.2.2.1 ≤ _; omega) (hG2.move (fun _ _ => rfl) (sI_na (by omega)) (by rw [sI_na (by decide)])) ⟨by rw [sI_na (by omega)]; exact hcur2.1, hcur2.2⟩ hsh2 (hf.tr ⟨fun _ _ => rfl, fun a j e => by rw [sI_na (by omega)], fun j e => by rw [sI_n (by omega)]⟩)
          · have c60 : t.1.length < 60 := c60
            rw [if_neg (by omega)] at ih
            subst esp
            have hne := hR.1.ne
            have hn161 : n < 161 := hR.1.2 n (by simp)
            have hin : i ≠ n := fun e => hne.1 (by simp [e])
            have o3 : ∀ m, m ≠ n → offW A2 I2 A3 I3 m := fun m hm => ⟨fun a x1 x2 => a3 a (by omega) (by omega), fun j => i3 _ j (by omega) (by omega) (by omega)⟩
            obtain ⟨hown2, hlen2, ⟨n1, n2, n3, n4, n5, n6, n7, n8, n9, n10, n11, n12, n13, n14, n15⟩, hPs2, hWs2⟩ := hR
            refine ih _ _ (ws ++ [n]) sp0 (by omega) ⟨hown2.kid, by simp at hlen2 ⊢; omega, ⟨n1, ?_, by rw [a3 41 (by decide) (by omega)]; exact n3, ?_, ?_, by rw [i3 _ _ (by omega) (by omega) (by omega)]; exact n6, ?_, e4, by rw [a3 42 (by decide) (by omega)]; exact n9, by rw [i3 _ _ (by omega) (by omega) (by omega)]; exact n10, by rw [i3 _ _ (by omega) (by omega) (by omega)]; exact n11, by rw [i3 _ _ (by omega) (by omega) (by omega)]; exact n12, by rw [i3 _ _ (by omega) (by omega) (by omega)]; exact n13, by rw [a3 43 (by decide) (by omega)]; exact n14, by rw [i3 _ _ (by omega) (by omega) (by omega)]; exact n15⟩, hPs2.off (fun m hm => o3 m (fun e => hne.2.1 (e ▸ hm))), ?_⟩ ?_ ?_ (hG2.move (fun a ha => a3 a (by omega) (by omega)) (funext fun j => i3 _ j (by omega) (by omega) (by omega)) (i3 _ _ (by omega) (by omega) (by omega))) ⟨by rw [i3 _ _ (by omega) (by omega) (by omega)]; exact hcur2.1, fun c' p e => by rw [a3 _ (by omega) (by omega)]; exact hcur2.2 c' p e⟩ ⟨fun c' k h1 h2 => by
                rw [← hsh2.1 c' k h1 h2]
                unfold inA
                rw [a3 _ (by omega) (by omega)], fun c' h1 => by rw [a3 46 (by decide) (by omega)]; exact hsh2.2 c' h1⟩ (hf.tr ⟨fun a e => a3 a (by omega) (by omega), fun a j e => i3 a j (by omega) (by omega) (by omega), fun j e => i3 _ j (by omega) (by omega) (by omega)⟩)
            · show (ws ++ [n]).length = (t.1 ++ [_]).length
              rw [List.length_append, List.length_append, n2]; rfl
            · rw [e40]; exact rowA.app (f := A2 40) n4
            · rw [a3 38 (by decide) (by omega)]
              intro k x e
              refine n5 k x ?_
              have := (List.getElem?_eq_some_iff.mp e).1
              rw [List.getElem?_append_left this]; exact e
            · rw [e39, List.length_append]; rfl
            · exact wsC.app (hWs2.off (fun m hm => o3 m (fun e => hne.2.2 (e ▸ hm)))) n2 hcw
            · show (t.1 ++ [_]).length ≤ 60
              rw [List.length_append]
              show t.1.length + 1 ≤ 60
              omega
            · show t.2.2.1 ≤ _
              omega
        · rw [if_pos (hv2.mpr ct)]
          show if nI 0 = 0 then _ else _
          rw [i0]
          have e1 : zal r S (zchk F K S) (qG s + 1) c t = (t.1, t.2.1, t.2.2.1 + 1, un t.2.2.2 (t.2.2.1 % 30) (zplc S, c)) := zal_neg ct
          rw [e1] at ih
          refine C_placeNow hG2 ?_
          have n13 : I2 20 12 = nI t.2.2.1 := hR.2.2.1.2.2.2.2.2.2.2.2.2.2.2.2.1
          rw [n13, nI_rem (by omega) (by decide) (by decide), vpT (n := t.2.2.1 % 30) (by omega) (by decide), nI_clamp (n := t.2.2.1 % 30) (by omega), nI_add]
          unfold zplace
          rw [pk_mul, nI_add]
          refine ⟨trivial, ?_⟩
          have o2 : ∀ n, offW A2 I2 (sA A2 43 (t.2.2.1 % 30) (nI ((100 * zq S + zpc S) * 8 + c))) (sI I2 20 12 (nI (t.2.2.1 + 1))) n := fun n => ⟨fun a _ _ => by rw [sA_na (by omega)], fun j => by rw [sI_na (by omega)]⟩
          have hpr := hR.2.2.1.prune (S := S) (c := c) (by show t.2.2.1 < _; omega)
          refine ih _ _ ws sp (by omega) ⟨hR.1, hR.2.1, hpr, hR.2.2.2.1.off (fun n _ => o2 n), hR.2.2.2.2.off (fun n _ => o2 n)⟩ h60 (by show t.2.2.1 + 1 ≤ _; omega) (hG2.move (fun a ha => by rw [sA_na (by omega)]) (sI_na (by omega)) (by rw [sI_na (by decide)])) ⟨by rw [sI_na (by omega)]; exact hcur2.1, fun c' p e => by rw [sA_na (by omega)]; exact hcur2.2 c' p e⟩ ⟨fun c' k h1 h2 => by
              rw [← hsh2.1 c' k h1 h2]
              unfold inA
              rw [sA_na (by omega)], fun c' h1 => by rw [sA_na (by decide)]; exact hsh2.2 c' h1⟩ (hf.tr ⟨fun a e => by rw [sA_na (by omega)], fun a j e => by rw [sI_na (by omega)], fun j e => by rw [sI_n (by omega)]⟩)
    refine key (zsi K S).1 0 _ _ ws sp (by omega) ⟨hown, hlen, hn.mv (fun a ha => a1 a (by omega)) (I1o 39 (by decide) (by decide) (by decide)) I120 (by rw [sI_e, i1 20 (by decide) (by decide), hn.2.2.2.2.2.2.2.2.2.2.2.2.2.2, nI_add]), hPs.off (fun n _ => off1 n), hWs.off (fun n _ => off1 n)⟩ (by show (qW s).length ≤ 60; omega) (Nat.le_refl _) (hG.move (fun a ha => a1 a (by omega)) (I1o _ (by omega) (by omega) (by omega)) (by rw [I1o 32 (by decide) (by decide) (by decide)])) ⟨by rw [I1o _ (by omega) (by omega) (by omega)]; exact hcur.1, fun c p e => by rw [a1 _ (by omega)]; exact hcur.2 c p e⟩ hsh ⟨fun a e => a1 a (by omega), fun a j e => by rw [I1o _ (by omega) (by omega) (by omega)], fun j e => I120 j (by omega)⟩
end SPT
