/-! THE REFERENCE: all of divide -/
section MX
variable {A I : HA} {S : zW} {F : zF} {G : zG}
theorem own.out {N s : Nat} {ps ws : List Nat} (h : own N [s] ps ws []) : own N [] ps ws [] := by
  have h1 := h.1
  rw [List.singleton_append, List.nodup_cons] at h1
  exact ⟨h1.2, fun j hj => h.2 j (List.mem_cons_of_mem _ hj)⟩
set_option maxRecDepth 100000 in
theorem M_divide {Q : HA → HA → Prop} {s K : Nat} {ps ws : List Nat} {st : zS} {r : zR} (h : RMl A I [s] ps ws st) (hg : gRM A I G) (hP : ps.length < 100) (hW60 : (qW st).length ≤ 59) (hG : GA (520 * s) A I A I S F) (hp : zpc S < gL G (zq S)) (hK : gO G (zq S) (zpc S) = K) (hs : spl G F S K) (h37 : I 1681 37 = nI (zsi K S).1) (h38 : I 1681 38 = (zsi K S).2.1) (h39 : I 1681 39 = (zsi K S).2.2) (hw : zfw F) (hcur : curM A s r) (hr : recW r) (hr2 : r.2.1.length < 200) (hd : dfs F K S r) (hN : qN st + 8 < 2 ^ 30)
    (q : ∀ A' I' ws', RMl A' I' [] ps ws' (qSet st (zspl r S (zchk F K S) (qG st + 1) (zsi K S).1 (qGet st)) (qG st + 1)) → zFM A' I' F → frD A I A' I' → Q A' I') : D187_divide (nI s) A I Q := by
  obtain ⟨jl, el, hjl⟩ := hs.2.2.2.1
  obtain ⟨jr, er, hjr⟩ := hs.2.2.2.2.1
  have hFM := hG.2.2.2.2.1
  have hF := hFM.2.2.1
  have h8 := hs.lt.1
  have hz := hG.wf
  have hzh := hz.hi
  have s170 : s < 170 := h.1.2 s (by simp)
  have hl40 := (hg.1.2.2 (zq S) hzh.2.1).1
  have hli := lv_iff hr hcur.2.2
  have hfr := hG.fr
  have si := hs.si
  unfold D187_divide
  rw [pk_mul, show sI I 1681 35 (nI (520 * s)) = I by rw [← hG.w]; exact sI_id]
  refine M_frame hG.hb hG.w hz.1 hG.t ?_
  rw [hG.ff]
  refine M_place hG ?_
  rw [hG.f, nI_add, nI_add, Nat.add_zero, vpT (n := 520 * s + 30 + 21 * zt S) (by omega) (by decide), vpT (n := 520 * s + 30 + 21 * zt S + 1) (by omega) (by decide), nI_clamp (n := 520 * s + 30 + 21 * zt S) (by omega), nI_clamp (n := 520 * s + 30 + 21 * zt S + 1) (by omega), hfr.1, hfr.2.1, pk_mul, nI_add, vpT (n := 40 * zq S + zpc S) (by omega) (by decide), nI_clamp (n := 40 * zq S + zpc S) (by omega), ((hg.2.2.2 (zq S) hzh.2.1).2.2.1 (zpc S) hp).1, hK]
  refine ⟨trivial, trivial, trivial, ?_⟩
  refine M_choose (ch := zchk F K S) (jl := jl) (jr := jr) (n := zln K S) hFM hw hs.1 s170 hs.2.2.2.2.2.1 (by rw [h38, si.2.1, el]) hjl (by rw [h39, si.2.2, er]) hjr (fun k hk e => ?_) (fun A1 I1 a1 i1 s1 => ?_)
  · obtain ⟨⟨a, ea⟩, b, eb⟩ := hd k hk ((hli k hk).mp e)
    rw [el, nI_clamp (by omega)] at ea
    rw [er, nI_clamp (by omega)] at eb
    refine ⟨a, b, ea, fun _ => eb, ?_⟩
    unfold zchk
    rw [el, er, nI_clamp (by omega), nI_clamp (by omega), ea, eb]
    rfl
  obtain ⟨hown, htk, hn, hPs, hWs⟩ := h
  have i1' : ∀ j, j ≠ 34 → I1 1681 j = I 1681 j := fun j hj => i1 1681 j (by omega)
  have e22 : I1 1681 22 = nI (qG st) := by rw [i1' 22 (by decide)]; exact hn.2.2.2.2.2.2.2.2.2.2.2.2
  rw [e22, nI_add, sI_n (by decide), i1' 35 (by decide), hG.w, nI_add, vpT (n := 520 * s + 2) (by omega) (by decide), nI_clamp (n := 520 * s + 2) (by omega), a1 1688 (by decide), hcur.1]
  refine ⟨trivial, ?_⟩
  intro P hP1
  have hch : ∀ k, k < 1024 → (r.2.2.1 k).isNone = true → A1 1702 k = nI (zchk F K S k) := fun k hk e => s1 k hk ((hli k hk).mpr e)
  have f1 : frD A I A1 (sI I1 1681 22 (nI (qG st + 1))) := ⟨fun a ha => a1 a (by omega), fun a j ha => by rw [sI_n (by omega)]; exact i1 a j (by omega)⟩
  have off1 : ∀ m, offM A A1 m := fun m => ⟨fun j hj => by rw [a1 _ (by decide)], fun j hj => by rw [a1 _ (by decide)]⟩
  have rep : zRepN (520 * s) A S := hG.2.2.2.1.2.2
  have key : ∀ d c A2 I2 ws, d + c = (zsi K S).1 → RMl A2 I2 [s] ps ws (qSet st (zspl r S (zchk F K S) (qG st + 1) c (qGet st)) (qG st + 1)) → (zspl r S (zchk F K S) (qG st + 1) c (qGet st)).1.length ≤ 60 → (zspl r S (zchk F K S) (qG st + 1) c (qGet st)).2.2.1 ≤ qN st + c → offM A A2 s → A2 1702 = A1 1702 → frD A I A2 I2 → P (nI c) A2 I2 := by
    intro d
    induction d with
    | zero =>
      intro c A2 I2 ws hc hR _ _ ho h17 hf
      refine hP1 _ _ _ ?_
      rw [h37, iLt (by omega) (by omega), if_neg (by omega), vpT (n := s) (by omega) (by decide), nI_clamp (n := s) (by omega)]
      refine ⟨trivial, ?_⟩
      rw [show c = (zsi K S).1 by omega] at hR
      obtain ⟨hown2, htk2, ⟨n1, n2, n3, n4, n5, n6, n7, n8, n9, n10, n11, n12, n13⟩, hPs2, hWs2⟩ := hR
      have off : ∀ m, offM A2 (sA A2 1690 s (vp_nar (bm_ty 2) (nI 0))) m := fun m => ⟨fun j hj => by rw [sA_na (by decide)], fun j hj => by rw [sA_na (by decide)]⟩
      have nd := hown2.1
      rw [List.singleton_append, List.nodup_cons] at nd
      refine q _ _ ws ⟨hown2.out, fun x hx => ?_, ⟨n1, n2, by rw [sA_na (by decide)]; exact n3, by rw [sA_na (by decide)]; exact n4, n5, n6, by rw [sA_na (by decide)]; exact n7, n8, n9, n10, n11, by rw [sA_na (by decide), sA_na (by decide)]; exact n12, n13⟩, hPs2.off (fun s r => mp.off) (fun m _ => off m), hWs2.off (fun s r => mw.off) (fun m _ => off m)⟩ ((hFM.mv (fun a h1 h2 => hf.1 a (by omega)) (hf.2 _ _ (by omega))).mv (fun a h1 h2 => by rw [sA_na (by omega)]) rfl) (hf.tr ⟨fun a ha => by rw [sA_na (by omega)], fun _ _ _ => rfl⟩)
      by_cases e : x = s
      · subst e
        exact ⟨fun z => absurd z nd.1, fun _ => by rw [sA_e]; rfl⟩
      · rw [sA_n (Or.inr e)]
        exact ⟨fun z => (htk2 x hx).1 (List.mem_cons_of_mem _ z), fun z => (htk2 x hx).2 (fun y => (List.mem_cons.mp y).elim e z)⟩
    | succ d ih =>
      intro c A2 I2 ws hc hR h60 hNc ho h17 hf
      have ih := ih (c + 1)
      have st1 : zspl r S (zchk F K S) (qG st + 1) (c + 1) (qGet st) = zal r S (zchk F K S) (qG st + 1) c (zspl r S (zchk F K S) (qG st + 1) c (qGet st)) := rfl
      rw [st1] at ih
      generalize zspl r S (zchk F K S) (qG st + 1) c (qGet st) = t at ih hR h60 hNc
      have hcur2 : curM A2 s r := by
        refine ⟨by rw [ho.1 2 (by decide)]; exact hcur.1, fun c' p e => ?_, fun k hk => by rw [ho.2 k hk]; exact hcur.2.2 k hk⟩
        have hc' := (List.getElem?_eq_some_iff.mp e).1
        have := hcur.2.1 c' p e
        rw [show 520 * s + 114 + 2 * c' + 1 = 520 * s + (114 + 2 * c' + 1) by omega, show 520 * s + 114 + 2 * c' = 520 * s + (114 + 2 * c') by omega] at this ⊢
        rw [ho.1 _ (by omega), ho.1 _ (by omega)]
        exact this
      have hli2 := lv_iff hr hcur2.2.2
      have hch2 : ∀ k, k < 1024 → (r.2.2.1 k).isNone = true → A2 1702 k = nI (zchk F K S k) := fun k hk e => by rw [h17]; exact hch k hk e
      refine hP1 _ _ _ ?_
      rw [h37, iLt (by omega) (by omega), if_pos (by omega)]
      refine M_some (r := r) (ch := zchk F K S) s170 (by omega) hli2 hch2 (fun k => zchk_lt hs) (fun ct => ?_) (fun ct => ?_)
      · rw [zal_pos ct] at ih
        have n6 : I2 1681 21 = nI ws.length := hR.2.2.1.2.2.2.2.2.1
        have n2 : ws.length = t.1.length := hR.2.2.1.2.1
        rw [n6, n2, iEq (by omega) (by decide)]
        by_cases c60 : t.1.length = 60
        · rw [if_pos c60] at ih ⊢
          rw [nI_add]
          exact ih A2 _ ws (by omega) ⟨hR.1, hR.2.1, hR.2.2.1.lose, hR.2.2.2.1, hR.2.2.2.2⟩ (by show t.1.length ≤ 60; omega) (by show t.2.2.1 ≤ _; omega) ho h17 (hf.tr ⟨fun _ _ => rfl, fun a j ha => by rw [sI_n (by omega)]⟩)
        · rw [if_neg c60] at ih ⊢
          obtain ⟨t', ht', htm, htb⟩ := free_slot (L := [s] ++ (ps ++ (ws ++ []))) (by simp; omega)
          refine M_slot ht' ((hR.2.1 t' ht').2 htm) (fun i hi => (hR.2.1 i (by omega)).1 (htb i hi)) ?_
          refine M_kid (P10 := fun A I => P (nI c + nI 1) A I) (g := qG st + 1) hR (by show t.1.length < 60; omega) hz (by omega) (rep.cp hz (fun j hj => ho.1 j (by omega))) hcur2 hr hr2 hch2 (fun k => zchk_lt hs) (by omega) s170 rfl ht' htm (fun A3 I3 hR3 o3 e3 f3 => ?_)
          rw [nI_add]
          refine ih A3 I3 _ (by omega) hR3 ?_ (by show t.2.2.1 ≤ _; omega) ⟨fun j hj => (o3.1 j hj).trans (ho.1 j hj), fun k hk => (o3.2 k hk).trans (ho.2 k hk)⟩ (e3.trans h17) (hf.tr f3)
          show (t.1 ++ [_]).length ≤ 60
          rw [List.length_append]
          show t.1.length + 1 ≤ 60
          omega
      · rw [zal_neg ct] at ih
        unfold D191_prune
        have n11 : I2 1681 26 = nI t.2.2.1 := hR.2.2.1.2.2.2.2.2.2.2.2.2.2.1
        rw [n11, nI_rem (by omega) (by decide) (by decide), vpT (n := t.2.2.1 % 30) (by omega) (by decide), nI_clamp (n := t.2.2.1 % 30) (by omega), nI_add, nI_add]
        refine ⟨trivial, trivial, ?_⟩
        have off : ∀ m, offM A2 (sA (sA A2 1697 (t.2.2.1 % 30) (zplace S)) 1698 (t.2.2.1 % 30) (nI c)) m := fun m => ⟨fun j hj => by rw [sA_na (by decide), sA_na (by decide)], fun j hj => by rw [sA_na (by decide), sA_na (by decide)]⟩
        have hpr := hR.2.2.1.prune (S := S) (c := c)
        refine ih _ _ ws (by omega) ⟨hR.1, fun x hx => by rw [sA_na (by decide), sA_na (by decide)]; exact hR.2.1 x hx, hpr, hR.2.2.2.1.off (fun s r => mp.off) (fun m _ => off m), hR.2.2.2.2.off (fun s r => mw.off) (fun m _ => off m)⟩ h60 (by show t.2.2.1 + 1 ≤ _; omega) ⟨fun j hj => ((off s).1 j hj).trans (ho.1 j hj), fun k hk => ((off s).2 k hk).trans (ho.2 k hk)⟩ (by rw [sA_na (by decide), sA_na (by decide)]; exact h17) (hf.tr ⟨fun a ha => by rw [sA_na (by omega), sA_na (by omega)], fun a j ha => by rw [sI_n (by omega)]⟩)
  obtain ⟨n1, n2, n3, n4, n5, n6, n7, n8, n9, n10, n11, n12, n13⟩ := hn
  refine key (zsi K S).1 0 A1 _ ws (by omega) ⟨hown, fun x hx => by rw [a1 _ (by decide)]; exact htk x hx, ⟨n1, n2, by rw [a1 _ (by decide)]; exact n3, by rw [a1 _ (by decide)]; exact n4, by rw [sI_n (by decide), i1' _ (by decide)]; exact n5, by rw [sI_n (by decide), i1' _ (by decide)]; exact n6, by rw [a1 _ (by decide)]; exact n7, by rw [sI_n (by decide), i1' _ (by decide)]; exact n8, by rw [sI_n (by decide), i1' _ (by decide)]; exact n9, by rw [sI_n (by decide), i1' _ (by decide)]; exact n10, by rw [sI_n (by decide), i1' _ (by decide)]; exact n11, by rw [a1 _ (by decide), a1 _ (by decide)]; exact n12, sI_e⟩, hPs.off (fun s r => mp.off) (fun m _ => off1 m), hWs.off (fun s r => mw.off) (fun m _ => off1 m)⟩ (by show (qW st).length ≤ 60; omega) (Nat.le_refl _) (off1 s) rfl f1
end MX
