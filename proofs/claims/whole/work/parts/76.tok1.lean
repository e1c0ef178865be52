/-! TOKENS written out: the class's write, the reference's spell -/
/-- a pile at array a: the first on top -/
def opn (A : HA) (a : Nat) : List Nat → Prop
  | [] => True
  | p :: rs => A a rs.length = nI p ∧ opn A a rs
def tkr (F : zF) : List Nat → List Int32
  | [] => []
  | p :: rs => tkr F rs ++ tks F p
theorem opn_up {A : HA} {a i : Nat} {x : Int32} : ∀ rs : List Nat, rs.length ≤ i → opn A a rs → opn (sA A a i x) a rs
  | [], _, _ => trivial
  | p :: rs, h, o => ⟨by have h : rs.length + 1 ≤ i := h; rw [sA_n (by omega)]; exact o.1, opn_up rs (by have h : rs.length + 1 ≤ i := h; omega) o.2⟩
theorem opn_ne {A : HA} {a b i : Nat} {x : Int32} (hb : a ≠ b) : ∀ rs : List Nat, opn A a rs → opn (sA A b i x) a rs
  | [], _ => trivial
  | p :: rs, o => ⟨by rw [sA_n (Or.inl hb)]; exact o.1, opn_ne hb rs o.2⟩
theorem tkr_len {F : zF} (h : zfw F) (hN : F.1 < 2 ^ 31) : ∀ rs : List Nat, (∀ j ∈ rs, j < F.1) → rs.length ≤ (tkr F rs).length
  | [], _ => Nat.le_refl _
  | j :: st, hs => by
    show st.length + 1 ≤ (tkr F st ++ tks F j).length
    rw [List.length_append, tks_len h hN (hs j (List.mem_cons_self))]
    have := zsz_pos h (hs j (List.mem_cons_self)) hN
    have := tkr_len h hN st (fun i hi => hs i (List.mem_cons_of_mem _ hi))
    omega
/-- one formula taken from the pile: what is left of it -/
theorem tkr_pop {F : zF} (h : zfw F) (hN : F.1 < 2 ^ 31) {p : Nat} (hp : p < F.1) (rs : List Nat) : ∃ v, (tks F p).getLastD 0 = v ∧
    ((p < 258 ∧ tkr F (p :: rs) = tkr F rs ++ [v]) ∨ (258 ≤ p ∧ F.2.1 p = v ∧ ∃ l, l < p ∧ F.2.2.1 p = nI l ∧ ((F.2.2.2.1 p = -1 ∧ tkr F (p :: rs) = tkr F (l :: rs) ++ [v]) ∨ ∃ r, r < p ∧ F.2.2.2.1 p = nI r ∧ tkr F (p :: rs) = tkr F (r :: l :: rs) ++ [v]))) := by
  refine ⟨_, rfl, ?_⟩
  by_cases e : p < 256
  · left
    refine ⟨by omega, ?_⟩
    show tkr F rs ++ tks F p = _
    rw [tks_num e]; rfl
  · by_cases e2 : p < 258
    · left
      refine ⟨e2, ?_⟩
      show tkr F rs ++ tks F p = _
      rw [tks_xy e e2]; rfl
    · right
      obtain ⟨-, l, hl, el, ⟨-, er, es⟩ | ⟨k, r, -, hr, -, er, es⟩⟩ := h p (by omega) hp
      · have t := tks_one h hN (by omega) hp hl el er
        refine ⟨by omega, by rw [t, List.getLastD_concat], l, hl, el, Or.inl ⟨er, ?_⟩⟩
        show tkr F rs ++ tks F p = tkr F rs ++ tks F l ++ _
        rw [t, List.getLastD_concat, List.append_assoc]
      · have t := tks_two h hN (by omega) hp hl hr el er
        refine ⟨by omega, by rw [t, ← List.append_assoc, List.getLastD_concat], l, hl, el, Or.inr ⟨r, hr, er, ?_⟩⟩
        show tkr F rs ++ tks F p = tkr F rs ++ tks F l ++ tks F r ++ _
        rw [t, ← List.append_assoc (tks F l), List.getLastD_concat, List.append_assoc, List.append_assoc, List.append_assoc]
theorem get_pre {l w : List Int32} {v : Int32} {i : Nat} (h : i = l.length) : (l ++ ([v] ++ w)).getD i 0 = v := by
  subst h
  simp [List.getD]
theorem nI_pred' {n : Nat} : nI (n + 1) + (-1 : Int32) = nI n := by rw [← nI_pred n, Int32.sub_eq_add_neg]
/-- the place before -/
def zpos : Nat → Int32
  | 0 => -1
  | m + 1 => nI m
theorem zpos_e : ∀ m : Nat, nI m + (-1 : Int32) = zpos m
  | 0 => by decide
  | m + 1 => nI_pred'
section TX
variable {t : Nat} {A I : HA} {F : zF}
theorem isT.far (h : isT t) : t = 14 ∨ t = 47 ∨ t = 51 := h
theorem C_write {Q : HA → HA → Prop} {j : Nat} (ht : isT t) (h : zFC A I F) (hw : zfw F) (hj : j < F.1) (k : ∀ A', (∀ a, a ≠ t + 1 → a ≠ t + 2 → A' a = A a) → (∀ i, i < (tks F j).length → A' (t + 1) i = (tks F j).getD i 0) → Q A' (sI I t 3 (nI (tks F j).length))) : D110_write t (nI j) A I Q := by
  have hN := h.2.2.1
  have hN2 : F.1 < 2 ^ 31 := by omega
  have hl := tks_len hw hN2 hj
  have hs := zsz_le hw.fok hN ⟨j, hj, rfl⟩
  have hp := zsz_pos hw hj hN2
  have hf := ht.far
  unfold D110_write
  refine C_sizeOf h ⟨j, hj, rfl⟩ ?_
  rw [vpT (by omega) (by decide), nI_clamp (n := 0) (by omega)]
  have e60 : (if nI 60 < nI (zsz F (nI j)) then nI 60 else nI (zsz F (nI j))) = nI (tks F j).length := by
    rw [hl, if_neg (fun y => by have := (nI_ltI (by decide) (by omega)).mp y; omega)]
  rw [e60, sI_e, pk_sub (by omega)]
  refine ⟨trivial, ?_⟩
  intro P hP
  generalize hI : sI I t 3 (nI (tks F j).length) = I1 at k
  have hF1 : zFC A I1 F := by
    unfold zFC at h ⊢
    rw [← hI, sI_na (by omega)]
    exact h
  generalize hT : tks F j = T at *
  have key : ∀ (m : Nat) (rs : List Nat) (A1 : HA) (W : List Int32), (tkr F rs).length = m → T = tkr F rs ++ W → (∀ p ∈ rs, p < F.1) → opn A1 (t + 2) rs → (∀ a, a ≠ t + 1 → a ≠ t + 2 → A1 a = A a) → (∀ i, m ≤ i → i < T.length → A1 (t + 1) i = T.getD i 0) → P (nI rs.length) (zpos m) A1 I1 := by
    intro m
    induction m with
    | zero =>
      intro rs A1 W hm hTW hrs ho ha hd
      refine hP _ _ _ _ ?_
      rw [show zpos 0 = -1 from rfl, if_pos (by decide)]
      exact k A1 ha (fun i hi => hd i (Nat.zero_le _) hi)
    | succ m ih =>
      intro rs A1 W hm hTW hrs ho ha hd
      have hTl : (tkr F rs).length + W.length = T.length := by rw [hTW, List.length_append]
      refine hP _ _ _ _ ?_
      rw [show zpos (m + 1) = nI m from rfl, iLt0 (by omega)]
      match rs, hm, hTW, hrs, ho with
      | [], hm, _, _, _ => exact absurd hm (by show ¬ 0 = m + 1; omega)
      | p :: rs, hm, hTW, hrs, ho =>
        have hp0 := hrs p (List.mem_cons_self)
        have hrs' : ∀ q ∈ rs, q < F.1 := fun q hq => hrs q (List.mem_cons_of_mem _ hq)
        have hle := tkr_len hw hN2 (p :: rs) hrs
        have hle : rs.length + 1 ≤ m + 1 := by rw [hm] at hle; exact hle
        have hz1 : nI (p :: rs).length = nI (rs.length + 1) := rfl
        have hF2 : zFC A1 I1 F := by
          unfold zFC at hF1 ⊢
          rw [ha 33 (by omega) (by omega), ha 34 (by omega) (by omega), ha 35 (by omega) (by omega), ha 36 (by omega) (by omega)]
          exact hF1
        rw [hz1, ← nI_0, iLt (by omega) (by omega), if_pos (by omega), show nI (rs.length + 1) + (-1 : Int32) = nI rs.length from nI_pred' , vpT (by omega) (by decide), nI_clamp (n := rs.length) (by omega), ho.1]
        refine ⟨trivial, C_lastTok hF2 hp0 ?_⟩
        obtain ⟨v, hv, cs⟩ := tkr_pop hw hN2 hp0 rs
        rw [hv, vpT (n := m) (by omega) (by decide), nI_clamp (n := m) (by omega)]
        have hF3 : zFC (sA A1 (t + 1) m v) I1 F := by
          unfold zFC at hF2 ⊢
          rw [sA_na (by omega), sA_na (by omega), sA_na (by omega), sA_na (by omega)]
          exact hF2
        have ha3 : ∀ a, a ≠ t + 1 → a ≠ t + 2 → sA A1 (t + 1) m v a = A a := fun a n1 n2 => by rw [sA_na n1]; exact ha a n1 n2
        have ho3 : opn (sA A1 (t + 1) m v) (t + 2) rs := opn_ne (by omega) rs ho.2
        have hd3 : ∀ X, X.length = m → T = X ++ ([v] ++ W) → ∀ i, m ≤ i → i < T.length → sA A1 (t + 1) m v (t + 1) i = T.getD i 0 := fun X hX hT i i1 i2 => by
          by_cases e : i = m
          · subst e; rw [sA_e, hT, get_pre hX.symm]
          · rw [sA_n (by omega)]; exact hd i (by omega) i2
        refine ⟨trivial, ?_⟩
        rw [hm] at hTl
        rcases cs with ⟨e8, et⟩ | ⟨e8, eo, l, hl, el, ⟨er, et⟩ | ⟨r, hr, er, et⟩⟩
        · refine C_leftOfF hF3 hp0 (fun y => absurd y (by omega)) (fun _ => ?_)
          unfold D111_leaveOpen
          rw [if_pos (by decide)]
          refine C_rightOfF hF3 hp0 (fun y => absurd y (by omega)) (fun _ => ?_)
          rw [if_pos (by decide), zpos_e]
          rw [et] at hm hTW
          have hX : (tkr F rs).length = m := by rw [List.length_append] at hm; exact Nat.succ.inj hm
          have hTW : T = tkr F rs ++ ([v] ++ W) := by rw [hTW, List.append_assoc]
          exact ih rs _ ([v] ++ W) hX hTW hrs' ho3 ha3 (hd3 _ hX hTW)
        · refine C_leftOfF hF3 hp0 (fun _ => ?_) (fun y => absurd y (by omega))
          rw [el]
          unfold D111_leaveOpen
          rw [iLt0 (by omega), iLt (by omega) (by decide), if_pos (by omega), vpT (n := rs.length) (by omega) (by decide), nI_clamp (n := rs.length) (by omega), nI_add]
          have hF4 : zFC (sA (sA A1 (t + 1) m v) (t + 2) rs.length (nI l)) I1 F := by
            unfold zFC at hF3 ⊢
            rw [sA_na (a := t + 2) (by omega), sA_na (a := t + 2) (by omega), sA_na (a := t + 2) (by omega), sA_na (a := t + 2) (by omega)]
            exact hF3
          refine ⟨trivial, C_rightOfF hF4 hp0 (fun _ => ?_) (fun y => absurd y (by omega))⟩
          rw [er, if_pos (by decide), zpos_e]
          rw [et] at hm hTW
          have hX : (tkr F (l :: rs)).length = m := by rw [List.length_append] at hm; exact Nat.succ.inj hm
          have hTW : T = tkr F (l :: rs) ++ ([v] ++ W) := by rw [hTW, List.append_assoc]
          refine ih (l :: rs) _ ([v] ++ W) hX hTW (fun q hq => (List.mem_cons.mp hq).elim (fun y => by omega) (hrs' q)) ⟨sA_e, opn_up rs (Nat.le_refl _) ho3⟩ (fun a n1 n2 => by rw [sA_na n2]; exact ha3 a n1 n2) (fun i i1 i2 => by rw [sA_na (by omega)]; exact hd3 _ hX hTW i i1 i2)
        · refine C_leftOfF hF3 hp0 (fun _ => ?_) (fun y => absurd y (by omega))
          rw [et] at hm hTW
          have hX : (tkr F (r :: l :: rs)).length = m := by rw [List.length_append] at hm; exact Nat.succ.inj hm
          have hrs2 : ∀ q ∈ r :: l :: rs, q < F.1 := fun q hq => (List.mem_cons.mp hq).elim (fun y => by omega) (fun hq => (List.mem_cons.mp hq).elim (fun y => by omega) (hrs' q))
          have hle2 := tkr_len hw hN2 (r :: l :: rs) hrs2
          have hle2 : rs.length + 1 + 1 ≤ m := by rw [hX] at hle2; exact hle2
          have hTW : T = tkr F (r :: l :: rs) ++ ([v] ++ W) := by rw [hTW, List.append_assoc]
          rw [el]
          unfold D111_leaveOpen
          rw [iLt0 (by omega), iLt (by omega) (by decide), if_pos (by omega), vpT (n := rs.length) (by omega) (by decide), nI_clamp (n := rs.length) (by omega), nI_add]
          have hF4 : zFC (sA (sA A1 (t + 1) m v) (t + 2) rs.length (nI l)) I1 F := by
            unfold zFC at hF3 ⊢
            rw [sA_na (a := t + 2) (by omega), sA_na (a := t + 2) (by omega), sA_na (a := t + 2) (by omega), sA_na (a := t + 2) (by omega)]
            exact hF3
          refine ⟨trivial, C_rightOfF hF4 hp0 (fun _ => ?_) (fun y => absurd y (by omega))⟩
          rw [er, iLt0 (by omega), iLt (by omega) (by decide), if_pos (by omega), vpT (n := rs.length + 1) (by omega) (by decide), nI_clamp (n := rs.length + 1) (by omega), nI_add, zpos_e]
          refine ⟨trivial, ih (r :: l :: rs) _ ([v] ++ W) hX hTW hrs2 ⟨sA_e, by rw [sA_n (by show _ ∨ rs.length ≠ rs.length + 1; omega)]; exact sA_e, opn_up rs (by omega) (opn_up rs (Nat.le_refl _) ho3)⟩ (fun a n1 n2 => by rw [sA_na n2, sA_na n2]; exact ha3 a n1 n2) (fun i i1 i2 => by rw [sA_na (by omega), sA_na (by omega)]; exact hd3 _ hX hTW i i1 i2)⟩
  have := key T.length [j] _ [] (by show (tkr F [] ++ tks F j).length = _; rw [hT]; rfl) (by show T = ([] ++ tks F j) ++ []; rw [hT]; simp) (fun p hp => by rw [List.mem_singleton.mp hp]; exact hj) ⟨sA_e, trivial⟩ (fun a _ n2 => sA_na n2) (fun i h1 h2 => absurd h2 (by omega))
  obtain ⟨m, hm⟩ : ∃ m, T.length = m + 1 := ⟨T.length - 1, by omega⟩
  rw [hm] at this ⊢
  exact this
end TX
