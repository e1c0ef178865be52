/-! THE INVARIANT OF THE SEARCH -/
def zInv (G : zG) (q bd : Nat) (s : zS) : Prop := (zfw (qF s) ∧ 258 ≤ (qF s).1) ∧ ((qP s).length ≤ 100 ∧ (qW s).length ≤ 60) ∧ (srt (qW s) ∧ ∀ r, r ∈ qW s → zgr r ≤ qG s) ∧ (∀ r, r ∈ qW s → wI G bd (qF s) r ∧ wS G q bd (qF s) r) ∧ (∀ r, r ∈ qP s → pthI bd (qF s) r ∧ pthS G q bd (qF s) r) ∧
  (qF s).1 ≤ 258 + sm f1 (qP s) + sm f1 (qW s) ∧ qG s ≤ sm f2 (qP s) + sm f2 (qW s) ∧ qN s ≤ 8 * qG s ∧ kOK (qN s) (qK s) ∧ ∀ k, k < 1024 → sm (fi k) (qP s) + sm (fi k) (qW s) ≤ 1
section Z2
variable {F F2 : zF} {S S2 : zW} {G : zG}
theorem zop2_S (h1 : S2.1 = S.1) (ho : gO G (zq S) (zpc S) < 30) (h : (zoper G none F S).1 = 2) : (zoper G none F2 S2).1 = 2 := by
  have eq : zq S2 = zq S := by unfold zq zM zt; rw [h1]
  have ec : zpc S2 = zpc S := by unfold zpc zP zt; rw [h1]
  have eh : zh S2 = zh S := by unfold zh zH zt; rw [h1]
  have ek : ∀ b, zpk S2 b = zpk S b := fun b => by unfold zpk; rw [eh]; unfold zV zt; rw [h1]
  by_cases hd : dcd (gO G (zq S) (zpc S))
  · rcases hd with e | e | e | e | e | e | e
    · have e' : gO G (zq S2) (zpc S2) = 9 := by rw [eq, ec]; exact e
      rw [zo_9 e] at h
      rw [zo_9 e', eh, ek, ek]
      by_cases c1 : zh S < 2 ∨ zpk S 0 < 0 ∨ zpk S 1 < 0
      · rw [if_pos c1] at h; exact absurd h n2.brk
      rw [if_neg c1] at h ⊢
      by_cases c2 : isn (zpk S 0)
      · rw [if_pos c2] at h; exact absurd h (n2.ite n2.thr n2.cm)
      rw [if_neg c2]
    · have e' : gO G (zq S2) (zpc S2) = 10 := by rw [eq, ec]; exact e
      rw [zo_10 e] at h
      rw [zo_10 e', eh, ek, ek]
      by_cases c1 : zh S < 2 ∨ zpk S 0 < 0 ∨ zpk S 1 < 0
      · rw [if_pos c1] at h; exact absurd h n2.brk
      rw [if_neg c1] at h ⊢
      by_cases c2 : isn (zpk S 0)
      · rw [if_pos c2] at h; exact absurd h (n2.ite n2.thr n2.cm)
      rw [if_neg c2]
    · have e' : gO G (zq S2) (zpc S2) = 18 := by rw [eq, ec]; exact e
      rw [zo_18 e] at h
      rw [zo_18 e', eh, ek, ek]
      by_cases c1 : zh S < 2 ∨ zpk S 0 < 0 ∨ zpk S 1 < 0
      · rw [if_pos c1] at h; exact absurd h n2.brk
      rw [if_neg c1] at h ⊢
      by_cases c2 : isn (zpk S 1) ∧ isn (zpk S 0)
      · rw [if_pos c2] at h; exact absurd h (n2.go)
      rw [if_neg c2]
    · have e' : gO G (zq S2) (zpc S2) = 19 := by rw [eq, ec]; exact e
      rw [zo_19 e] at h
      rw [zo_19 e', eh, ek, ek]
      by_cases c1 : zh S < 2 ∨ zpk S 0 < 0 ∨ zpk S 1 < 0
      · rw [if_pos c1] at h; exact absurd h n2.brk
      rw [if_neg c1] at h ⊢
      by_cases c2 : isn (zpk S 1) ∧ isn (zpk S 0)
      · rw [if_pos c2] at h; exact absurd h (n2.go)
      rw [if_neg c2]
    · have e' : gO G (zq S2) (zpc S2) = 21 := by rw [eq, ec]; exact e
      rw [zo_21 e] at h
      rw [zo_21 e', eh, ek]
      by_cases c1 : zh S < 1 ∨ zpk S 0 < 0
      · rw [if_pos c1] at h; exact absurd h n2.brk
      rw [if_neg c1] at h ⊢
      by_cases c2 : isn (zpk S 0)
      · rw [if_pos c2] at h; exact absurd h (n2.ite n2.thr (n2.ite n2.thr n2.go))
      rw [if_neg c2]
    · have e' : gO G (zq S2) (zpc S2) = 22 := by rw [eq, ec]; exact e
      rw [zo_22 e] at h
      rw [zo_22 e', eh, ek, ek]
      by_cases c1 : zh S < 2 ∨ zpk S 0 < 0 ∨ ¬ zpk S 1 < 0
      · rw [if_pos c1] at h; exact absurd h n2.brk
      rw [if_neg c1] at h ⊢
      by_cases c3 : zpk S 1 = -1
      · rw [if_pos c3] at h; exact absurd h n2.thr
      rw [if_neg c3] at h ⊢
      by_cases c2 : isn (zpk S 0)
      · rw [if_pos c2] at h; exact absurd h (n2.ite n2.go n2.thr)
      rw [if_neg c2]
    · have e' : gO G (zq S2) (zpc S2) = 23 := by rw [eq, ec]; exact e
      rw [zo_23 e] at h
      rw [zo_23 e', eh, ek, ek, ek]
      by_cases c1 : zh S < 3 ∨ zpk S 0 < 0 ∨ zpk S 1 < 0 ∨ ¬ zpk S 2 < 0
      · rw [if_pos c1] at h; exact absurd h n2.brk
      rw [if_neg c1] at h ⊢
      by_cases c3 : zpk S 2 = -1
      · rw [if_pos c3] at h; exact absurd h n2.thr
      rw [if_neg c3] at h ⊢
      by_cases c2 : isn (zpk S 1)
      · rw [if_pos c2] at h; exact absurd h (n2.ite n2.go n2.thr)
      rw [if_neg c2]
  · exact absurd h (zop_n2 ho (fun z => absurd z hd))
end Z2
section ZI
variable {G : zG} {q bd ord : Nat} {s : zS} {F : zF} {r : zR}
theorem wI.f1 (h : wI G bd F r) (hbd : bd ≤ 200) : f1 r ≤ 199 ∧ f1 r + al r = zd r.1 := by
  unfold Jvm.Pilot.CPathRunnerLaw_law_r2462_f22676.f1
  have h6 := h.2.2.2.1
  cases ha : r.2.2.2.1 with
  | none => have := h.2.2.2.2.2.2.2.2.1 ha; rw [al_n ha]; omega
  | some c => have := (h.2.2.2.2.2.2.2.2.2 c ha).2.2.2.2; rw [al_s ha]; omega
theorem pthI.f1 (h : pthI bd F r) (hbd : bd ≤ 200) : f1 r ≤ 200 := by
  unfold Jvm.Pilot.CPathRunnerLaw_law_r2462_f22676.f1
  have := h.1
  omega
theorem zInv.bnd (h : zInv G q bd s) (hbd : bd ≤ 200) : sm f1 (qP s) ≤ 200 * (qP s).length ∧ sm f1 (qW s) ≤ 199 * (qW s).length ∧ sm f2 (qP s) ≤ 200 * (qP s).length ∧ sm f2 (qW s) ≤ 200 * (qW s).length := by
  obtain ⟨-, -, -, h4, h5, -⟩ := h
  exact ⟨sm_le _ (fun r hr => (h5 r hr).1.f1 hbd), sm_le _ (fun r hr => ((h4 r hr).1.f1 hbd).1), sm_le _ (fun r hr => (h5 r hr).1.2.1.1), sm_le _ (fun r hr => (h4 r hr).1.2.2.2.2.1.1)⟩
theorem zInv.N (h : zInv G q bd s) (hbd : bd ≤ 200) : (qF s).1 ≤ 32198 := by
  obtain ⟨b1, b2, -, -⟩ := h.bnd hbd
  obtain ⟨-, ⟨h1, h2⟩, -, -, -, h3, -⟩ := h
  omega
/-- the way that is taken -/
theorem pr_mem (h0 : 0 < (qW s).length) : zpr ord s ∈ qW s := gD_mem (zpick_lt h0)
theorem pr_sm {f : zR → Nat} (h0 : 0 < (qW s).length) : sm f (qW (qTake ord s)) + f (zpr ord s) = sm f (qW s) := sm_er _ _ (zpick_lt h0)
theorem zInv.room (h : zInv G q bd s) (hbd : bd ≤ 200) (hP : (qP s).length < 100) (h0 : 0 < (qW s).length) : (qF s).1 + al (zpr ord s) + (bd - zd (zpr ord s).1) ≤ 32258 := by
  obtain ⟨b1, -, -, -⟩ := h.bnd hbd
  obtain ⟨-, ⟨h1, h2⟩, -, h4, -, h3, -⟩ := h
  have m := pr_mem (ord := ord) h0
  have e := pr_sm (f := f1) (ord := ord) h0
  have le : sm f1 (qW (qTake ord s)) ≤ 199 * (qW (qTake ord s)).length := sm_le _ (fun r hr => ((h4 r (List.mem_of_mem_eraseIdx hr)).1.f1 hbd).1)
  have ll : (qW (qTake ord s)).length = (qW s).length - 1 := by
    show ((qW s).eraseIdx _).length = _
    rw [List.length_eraseIdx, if_pos (zpick_lt h0)]
  have ff := (h4 _ m).1.f1 hbd
  have dd := (h4 _ m).1.2.2.2.1
  omega
theorem zInv.tpr (h : zInv G q bd s) (hg : gwf G) (hbd : bd ≤ 200) (hP : (qP s).length < 100) (h0 : 0 < (qW s).length) : tpr G bd ord s (zpr ord s) (zur G bd ord s) := by
  have hN := h.room (ord := ord) hbd hP h0
  have hB := h.N hbd
  obtain ⟨-, -, c1, c2⟩ := h.bnd hbd
  obtain ⟨⟨w1, w2⟩, ⟨h1, h2⟩, ⟨h3, h3'⟩, h4, h5, h6, h7, h8, h9, h10⟩ := h
  have m := pr_mem (ord := ord) h0
  obtain ⟨hI, hS⟩ := h4 _ m
  have rA := run_R (T := qT s) (C := qC s) hg hbd hI w1 w2 hN
  have rS := fun k hk hi => run_S (k := k) (T := qT s) (C := qC s) hg hbd hI hS w1 w2 hN hk hi
  have hI' := hI
  obtain ⟨a1, a2, ⟨a3, a4, a5⟩, a6, a7, a8, a9, a10, a11, a12⟩ := hI'
  refine ⟨⟨h0, h2, hP, h3, fun r hr => ⟨(h4 r hr).1.1, (h4 r hr).1.2.2.2.2.2.2.1, by have := h3' r hr; omega⟩⟩, ⟨a2, a3, a5, a6, a7⟩, fun e => by rw [al_n e] at hN; omega, fun c e => ?_, by omega, by omega, fun e => ?_⟩
  · obtain ⟨b1, b2, b3, b4, b5⟩ := a12 c e
    rw [al_s e] at hN
    exact ⟨b1, b2, b3, b4, by omega⟩
  · obtain ⟨x1, x2, x3, x4, x5, x6, x7, x8, x9⟩ := rA
    obtain ⟨y1, y2, y3, y4, y5, y6⟩ := x9 e
    have ee : zur G bd ord s = zrun G bd (qF s) (zpr ord s) (qT s) (qC s) := rfl
    rw [ee] at e ⊢
    generalize zrun G bd (qF s) (zpr ord s) (qT s) (qC s) = u at *
    refine ⟨by omega, x2, y1, y2, y3, fun k hk hi => ?_⟩
    obtain ⟨P', s1, -⟩ := (rS k hk hi).1 e
    exact sim_dec (spl_of hg x3 y1 (by have := x1.1; omega) (by omega) y2 y3) s1 (by omega)
/-- what all the ways that go on waiting keep -/
theorem zInv.upW {F2 : zF} (h : zInv G q bd s) (hg : gwf G) (hbd : bd ≤ 200) (hf : zfw F2) (he : Fge (qF s) F2) : (∀ r, r ∈ qW s → wI G bd F2 r ∧ wS G q bd F2 r) ∧ (∀ r, r ∈ qP s → pthI bd F2 r ∧ pthS G q bd F2 r) := by
  have hB := h.N hbd
  obtain ⟨⟨w1, w2⟩, -, -, h4, h5, -⟩ := h
  exact ⟨fun r hr => ⟨(h4 r hr).1.up hg hf he, (h4 r hr).2.up (h4 r hr).1 hg w2 w1 (by omega) he⟩, fun r hr => ⟨(h5 r hr).1.up he, (h5 r hr).2.up w1 (by omega) he⟩⟩
theorem sim_rs {x y : Int32} {S P : zW} (h : sim F x y S P) (h1 : zo S = 0) (h2 : zpl S = 0) (h3 : zk S = 0) : sim F x y (zrs S) P := by
  obtain ⟨a, b, c1, c2, c3, c4⟩ := h
  exact ⟨a, b, c1, c2.trans h1, c3.trans h2, c4.trans h3⟩
/-- THE TURNS KEEP IT -/
theorem zInv.turn (h : zInv G q bd s) (hg : gwf G) (hbd : bd ≤ 200) (hP : (qP s).length < 100) (h0 : 0 < (qW s).length) : zInv G q bd (zturn G bd ord s) := by
  have hN := h.room (ord := ord) hbd hP h0
  have hB := h.N hbd
  have h' := h
  obtain ⟨⟨w1, w2⟩, ⟨h1, h2⟩, ⟨h3, h3'⟩, h4, h5, h6, h7, h8, h9, h10⟩ := h
  have m := pr_mem (ord := ord) h0
  have pk := zpick_lt (ord := ord) (T := qT s) (z := qZ s) h0
  obtain ⟨hI, hS⟩ := h4 _ m
  have rA := run_R (T := qT s) (C := qC s) hg hbd hI w1 w2 hN
  have rS := fun k hk hi => run_S (k := k) (T := qT s) (C := qC s) hg hbd hI hS w1 w2 hN hk hi
  have e1 := pr_sm (f := f1) (ord := ord) h0
  have e2 := pr_sm (f := f2) (ord := ord) h0
  have e3 := fun k => pr_sm (f := fi k) (ord := ord) h0
  have ff := hI.f1 hbd
  have ll : (qW (qTake ord s)).length = (qW s).length - 1 := by
    show ((qW s).eraseIdx _).length = _
    rw [List.length_eraseIdx, if_pos pk]
  have sr : srt (qW (qTake ord s)) := srt_er h3 pk
  have me : ∀ r, r ∈ qW (qTake ord s) → r ∈ qW s := fun r hr => List.mem_of_mem_eraseIdx hr
  obtain ⟨a1, a2, ⟨a3, a4, a5⟩, a6, a7, a8, a9, a10, a11, a12⟩ := hI
  have ee : zur G bd ord s = zrun G bd (qF s) (zpr ord s) (qT s) (qC s) := rfl
  unfold zturn
  rw [ee]
  generalize zrun G bd (qF s) (zpr ord s) (qT s) (qC s) = u at rA rS
  obtain ⟨x1, x2, x3, x4, x5, x6, x7, x8, x9⟩ := rA
  obtain ⟨uW, uP⟩ := h'.upW hg hbd x2 x1
  have g8 : 258 ≤ u.2.2.1.1 := Nat.le_trans w2 x1.1
  generalize zpr ord s = r at *
  by_cases c : u.1 = 2
  · obtain ⟨y1, y2, y3, ⟨y4, y4', y4''⟩, y5, y6⟩ := x9 c
    have hsp : spl G u.2.2.1 u.2.1 (zK G u.2.1) := spl_of hg x3 y1 g8 (by omega) y2 y3
    have hn8 := hsp.lt.1
    have hp40 := (hg.2.2 _ x3.hi.2.1).1
    have hq6 := x3.hi.2.1
    have hpl : zplc u.2.1 < 1000 := by unfold zplc; omega
    have ex : ∃ c, c < (zsi (zK G u.2.1) u.2.1).1 ∧ tkn r (zchk u.2.2.1 (zK G u.2.1) u.2.1) c := by
      obtain ⟨k, hk, hi⟩ := a10
      refine ⟨zchk u.2.2.1 (zK G u.2.1) u.2.1 k, zch_si hsp, ?_⟩
      unfold tkn
      rw [zany_iff]
      refine ⟨k, hk, ?_⟩
      unfold gch
      rw [hi]
      simp
    unfold zst
    rw [if_pos c]
    have L := spl_l (r := r) (S := u.2.1) (ch := zchk u.2.2.1 (zK G u.2.1) u.2.1) (g := qG s + 1) (t := qGet (qTake ord s)) (by show (qW (qTake ord s)).length ≤ 60; omega) (zsi (zK G u.2.1) u.2.1).1
    have LT := spl_lt (r := r) (S := u.2.1) (ch := zchk u.2.2.1 (zK G u.2.1) u.2.1) (g := qG s + 1) (t := qGet (qTake ord s)) (by show (qW (qTake ord s)).length ≤ 59; omega) (zsi (zK G u.2.1) u.2.1).1 ex
    have SS := spl_s (r := r) (S := u.2.1) (ch := zchk u.2.2.1 (zK G u.2.1) u.2.1) (g := qG s + 1) (t := qGet (qTake ord s)) sr (fun x hx => Nat.le_succ_of_le (h3' x (me x hx))) (zsi (zK G u.2.1) u.2.1).1
    have S1 := spl_f (r := r) (S := u.2.1) (ch := zchk u.2.2.1 (zK G u.2.1) u.2.1) (g := qG s + 1) (t := qGet (qTake ord s)) (f := f1) (v := zd u.2.1 - 1) (fun _ => rfl) (by show (qW (qTake ord s)).length ≤ 60; omega) (zsi (zK G u.2.1) u.2.1).1
    have S2 := spl_f (r := r) (S := u.2.1) (ch := zchk u.2.2.1 (zK G u.2.1) u.2.1) (g := qG s + 1) (t := qGet (qTake ord s)) (f := f2) (v := r.2.1.length + 1) (fun _ => by unfold f2 zkid; simp) (by show (qW (qTake ord s)).length ≤ 60; omega) (zsi (zK G u.2.1) u.2.1).1
    have KK := spl_k (r := r) (S := u.2.1) (ch := zchk u.2.2.1 (zK G u.2.1) u.2.1) (g := qG s + 1) (t := qGet (qTake ord s)) h9 hpl (zsi (zK G u.2.1) u.2.1).1 hn8
    have II := fun k => spl_i (r := r) (S := u.2.1) (ch := zchk u.2.2.1 (zK G u.2.1) u.2.1) (g := qG s + 1) (t := qGet (qTake ord s)) (k := k) (zsi (zK G u.2.1) u.2.1).1
    have MM := spl_m (r := r) (S := u.2.1) (ch := zchk u.2.2.1 (zK G u.2.1) u.2.1) (g := qG s + 1) (t := qGet (qTake ord s)) (zsi (zK G u.2.1) u.2.1).1
    have S1' := S1.2 LT
    have S2' := S2.2 LT
    generalize zspl r u.2.1 (zchk u.2.2.1 (zK G u.2.1) u.2.1) (qG s + 1) (zsi (zK G u.2.1) u.2.1).1 (qGet (qTake ord s)) = t at *
    have t1 : (qGet (qTake ord s)).1 = qW (qTake ord s) := rfl
    have t2 : (qGet (qTake ord s)).2.2.1 = qN s := rfl
    rw [t1] at S1' S2' II MM
    rw [t2] at L
    have er2 : f2 r = r.2.1.length := rfl
    refine ⟨⟨x2, g8⟩, ⟨h1, L.1⟩, SS, fun r' hr' => ?_, uP, ?_, ?_, ?_, KK, fun k hk => ?_⟩
    · rcases MM r' hr' with hm | ⟨c', hc', hk', rfl⟩
      · exact uW r' (me r' hm)
      · have hc8 : c' < 8 := by omega
        constructor
        · refine ⟨x3, y1, ⟨rfl, rfl, rfl⟩, x5, ⟨?_, fun p hp => ?_, fun k c e => ?_⟩, ?_, ?_, ?_, fun e => absurd e (by intro z; cases z), fun c e => ?_⟩
          · show (r.2.1 ++ [_]).length ≤ 200
            rw [List.length_append]; show _ + 1 ≤ 200; omega
          · rcases List.mem_append.mp hp with hp | hp
            · exact a7.2.1 p hp
            · rw [List.mem_singleton.mp hp]; exact ⟨hpl, hc8⟩
          · show c < (r.2.1 ++ [_]).length
            rw [List.length_append]
            show c < r.2.1.length + 1
            have e : zinp r.2.2.1 (zchk u.2.2.1 (zK G u.2.1) u.2.1) c' r.2.1.length k = some c := e
            unfold zinp at e
            cases hh : r.2.2.1 k with
            | none =>
              rw [hh] at e
              have e : (if zchk u.2.2.1 (zK G u.2.1) u.2.1 k = c' then none else some r.2.1.length) = some c := e
              split at e
              · cases e
              · cases e; omega
            | some j =>
              rw [hh] at e
              have e : j = c := Option.some.inj e
              have := a7.2.2 k j hh
              omega
          · show (r.2.1 ++ [_]).length ≤ zd u.2.1
            rw [List.length_append]; show _ + 1 ≤ _; omega
          · show zpc u.2.1 < 40; omega
          · unfold tkn at hk'
            obtain ⟨k, k1, k2⟩ := (zany_iff 1024).mp hk'
            exact ⟨k, k1, by show (zinp r.2.2.1 (zchk u.2.2.1 (zK G u.2.1) u.2.1) c' r.2.1.length k).isNone = true; rw [zinp_none]; exact k2⟩
          · cases e
            exact ⟨hc8, hc', y2, zop2_S (S := u.2.1) rfl ((hg.2.2 _ x3.hi.2.1).2.2.1 _ y2).1 y3, by show 1 ≤ zd u.2.1; omega⟩
        · intro k hk hi
          have hi : (zinp r.2.2.1 (zchk u.2.2.1 (zK G u.2.1) u.2.1) c' r.2.1.length k).isNone = true := hi
          rw [zinp_none] at hi
          have hi1 : (r.2.2.1 k).isNone = true := by
            by_cases z : (r.2.2.1 k).isNone = true
            · exact z
            · simp [z] at hi
          have hi2 : zchk u.2.2.1 (zK G u.2.1) u.2.1 k = c' := by
            rw [hi1] at hi
            simpa using hi
          obtain ⟨P', s1, s2⟩ := (rS k hk hi1).1 c
          exact ⟨P', sim_rs s1 y4 y4' y4'', fun c e => by cases e; exact hi2, s2⟩
    · show u.2.2.1.1 ≤ 258 + sm f1 (qP s) + sm f1 t.1
      omega
    · show qG s + 1 ≤ sm f2 (qP s) + sm f2 t.1
      omega
    · show t.2.2.1 ≤ 8 * (qG s + 1)
      omega
    · show sm (fi k) (qP s) + sm (fi k) t.1 ≤ 1
      have i1 := II k
      have i2 := h10 k hk
      have i3 := e3 k
      have i4 : (if (r.2.2.1 k).isNone = true ∧ zchk u.2.2.1 (zK G u.2.1) u.2.1 k < (zsi (zK G u.2.1) u.2.1).1 then 1 else 0) ≤ fi k r := by
        unfold fi
        by_cases z : (r.2.2.1 k).isNone = true
        · rw [if_pos z]; split <;> omega
        · rw [if_neg (fun y => z y.1)]; exact Nat.zero_le _
      omega
  · have u1 : u.1 = 1 := by omega
    unfold zst
    rw [if_neg c]
    have ez : f1 (u.2.1, r.2.1, r.2.2.1, none, r.2.2.2.2) = zd u.2.1 := rfl
    refine ⟨⟨x2, g8⟩, ⟨?_, ?_⟩, ⟨sr, fun x hx => h3' x (me x hx)⟩, fun r' hr' => uW r' (me r' hr'), fun r' hr' => ?_, ?_, ?_, h8, h9, fun k hk => ?_⟩
    · show (qP s ++ [_]).length ≤ 100
      rw [List.length_append]; show _ + 1 ≤ 100; omega
    · show (qW (qTake ord s)).length ≤ 60
      omega
    · rcases List.mem_append.mp hr' with hm | hm
      · exact uP r' hm
      · rw [List.mem_singleton.mp hm]
        refine ⟨⟨x5, ⟨a7.1, a7.2.1, a7.2.2⟩, by show r.2.1.length ≤ zd u.2.1; omega, (x8 u1).2, (x8 u1).1⟩, fun k hk hi => ?_⟩
        exact (rS k hk hi).2 u1
    · show u.2.2.1.1 ≤ 258 + sm f1 (qP s ++ [_]) + sm f1 (qW (qTake ord s))
      rw [sm_app, ez]
      omega
    · show qG s ≤ sm f2 (qP s ++ [_]) + sm f2 (qW (qTake ord s))
      rw [sm_app]
      show qG s ≤ sm f2 (qP s) + f2 r + sm f2 (qW (qTake ord s))
      omega
    · show sm (fi k) (qP s ++ [_]) + sm (fi k) (qW (qTake ord s)) ≤ 1
      rw [sm_app]
      have i2 := h10 k hk
      have i3 := e3 k
      show sm (fi k) (qP s) + fi k r + sm (fi k) (qW (qTake ord s)) ≤ 1
      omega
theorem zInv.tki (hg : gwf G) (hbd : bd ≤ 200) : tki G bd ord (zInv G q bd) := ⟨fun s h hP h0 => ⟨h.tpr hg hbd hP h0, h.turn hg hbd hP h0⟩, fun s h => by
  obtain ⟨-, -, c1, c2⟩ := h.bnd hbd
  obtain ⟨-, ⟨h1, h2⟩, -, -, -, -, h7, -⟩ := h
  exact ⟨by omega, h1, h2⟩⟩
/-- a search begins with it -/
theorem xk_e {k : Nat} : nI (k / 32 + 112) - nI 128 = xk k := by
  unfold xk
  rw [← nI_add, Int32.sub_eq_add_neg, Int32.add_assoc]
  rfl
theorem yk_e {k : Nat} : nI (k % 32 + 112) - nI 128 = yk k := by
  unfold yk
  rw [← nI_add, Int32.sub_eq_add_neg, Int32.add_assoc]
  rfl
theorem zInv0 {T : Nat → Int32} {sd : Int32} (hq : q < 6) : zInv G q bd (zs0 q T sd) := by
  have v8 : (258 : Nat) ≤ zF0.1 := Nat.le_refl _
  refine ⟨⟨fun j h1 h2 => ?_, v8⟩, ⟨by show 0 ≤ 100; decide, by show 1 ≤ 60; decide⟩, ⟨fun a b h1 h2 => ?_, fun r hr => ?_⟩, fun r hr => ?_, fun r hr => absurd hr (by show r ∉ []; simp), by show 258 ≤ 258 + 0 + _; omega, Nat.zero_le _, Nat.zero_le _, fun j h1 h2 => absurd h2 (Nat.not_lt_zero j), fun k hk => by show 0 + (1 + 0) ≤ 1; omega⟩
  · have h2 : j < 258 := h2
    omega
  · have h2 : b < 1 := h2
    have e1 : b = 0 := by omega
    have e2 : a = 0 := by omega
    rw [e1, e2]; exact Nat.le_refl _
  · rw [List.mem_singleton.mp hr]; exact Nat.le_refl _
  · rw [List.mem_singleton.mp hr]
    constructor
    · refine ⟨zbeg_wf hq, ⟨fun j h1 h2 => ?_, fun f hf j hj => ?_, fun k hk => absurd hk (Nat.not_lt_zero k)⟩, ⟨rfl, rfl, rfl⟩, Nat.zero_le _, ⟨Nat.zero_le _, fun p hp => absurd hp (by show p ∉ []; simp), fun k c e => by cases e⟩, Nat.zero_le _, by show 0 < 40; decide, ⟨0, by decide, rfl⟩, fun _ => rfl, fun c e => by cases e⟩
      · have h2 : j < 258 := h2
        omega
      · have hj : j < 6 := hj
        show okv 258 0 (if j = 0 then nI 256 else if j = 1 then nI 257 else -100) ∨ j < 6 ∧ (if j = 0 then nI 256 else if j = 1 then nI 257 else -100) = -100
        by_cases c0 : j = 0
        · rw [if_pos c0]; exact Or.inl (Or.inl ⟨256, by decide, rfl⟩)
        rw [if_neg c0]
        by_cases c1 : j = 1
        · rw [if_pos c1]; exact Or.inl (Or.inl ⟨257, by decide, rfl⟩)
        rw [if_neg c1]; exact Or.inr ⟨hj, rfl⟩
    · intro k hk hi
      have m32 : k % 32 < 32 := Nat.mod_lt _ (by decide)
      refine ⟨zp0 q k, ⟨⟨rfl, rfl, rfl, rfl, fun f j => ?_⟩, ⟨rfl, rfl, fun f j => ?_⟩, rfl, rfl, rfl, rfl⟩, (fun c e => by cases e), fun F0 => rfl⟩
      · show vR zF0 (xk k) (yk k) (if j = 0 then nI 256 else if j = 1 then nI 257 else -100) (if j = 0 then nI (k / 32 + 112) else if j = 1 then nI (k % 32 + 112) else -100)
        by_cases c0 : j = 0
        · rw [if_pos c0, if_pos c0]
          exact Or.inr ⟨256, k / 32 + 112, by decide, rfl, by omega, rfl, by rw [xk_e]; rfl⟩
        rw [if_neg c0, if_neg c0]
        by_cases c1 : j = 1
        · rw [if_pos c1, if_pos c1]
          exact Or.inr ⟨257, k % 32 + 112, by decide, rfl, by omega, rfl, by rw [yk_e]; rfl⟩
        rw [if_neg c1, if_neg c1]
        exact vR.ng (by decide)
      · show vR zF0 (xk k) (yk k) 0 0
        exact vR.c (i := 0) (by decide) v8
end ZI
