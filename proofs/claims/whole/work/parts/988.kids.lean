/-! WHAT THE TURNS KEEP -/
def sm (f : zR → Nat) : List zR → Nat
  | [] => 0
  | r :: l => f r + sm f l
theorem sm_app {f : zR → Nat} {x : zR} : ∀ l : List zR, sm f (l ++ [x]) = sm f l + f x
  | [] => by show f x + 0 = 0 + f x; omega
  | r :: l => by
    show f r + sm f (l ++ [x]) = f r + sm f l + f x
    rw [sm_app l]; omega
theorem sm_er {f : zR → Nat} : ∀ (l : List zR) (i : Nat), i < l.length → sm f (l.eraseIdx i) + f (l.getD i z0R) = sm f l
  | [], i, h => absurd h (Nat.not_lt_zero i)
  | r :: l, 0, _ => by show sm f l + f r = f r + sm f l; omega
  | r :: l, i + 1, h => by
    have ih := sm_er (f := f) l i (by have h : i + 1 < l.length + 1 := h; omega)
    show f r + sm f (l.eraseIdx i) + f (l.getD i z0R) = f r + sm f l
    omega
theorem sm_le {f : zR → Nat} {b : Nat} : ∀ l : List zR, (∀ r, r ∈ l → f r ≤ b) → sm f l ≤ b * l.length
  | [], _ => Nat.zero_le _
  | r :: l, h => by
    have h1 := h r List.mem_cons_self
    have h2 := sm_le l (fun x hx => h x (List.mem_cons_of_mem _ hx))
    show f r + sm f l ≤ b * (l.length + 1)
    rw [Nat.mul_add]; omega
theorem sm_mem {f : zR → Nat} {r : zR} : ∀ l : List zR, r ∈ l → f r ≤ sm f l
  | [], h => absurd h (by simp)
  | x :: l, h => by
    show f r ≤ f x + sm f l
    rcases List.mem_cons.mp h with e | e
    · rw [e]; omega
    · have := sm_mem (f := f) l e; omega
theorem gD_app {l : List zR} {x : zR} {a : Nat} : (l ++ [x]).getD a z0R = if a < l.length then l.getD a z0R else if a = l.length then x else z0R := by
  rw [List.getD_eq_getElem?_getD, List.getD_eq_getElem?_getD]
  by_cases c : a < l.length
  · rw [if_pos c, List.getElem?_append_left c]
  · rw [if_neg c, List.getElem?_append_right (by omega)]
    by_cases e : a = l.length
    · rw [if_pos e, e, Nat.sub_self]; rfl
    · rw [if_neg e]
      have : a - l.length = (a - l.length - 1) + 1 := by omega
      rw [this]; rfl
theorem gD_mem {l : List zR} {a : Nat} (h : a < l.length) : l.getD a z0R ∈ l := by
  rw [List.getD_eq_getElem?_getD, List.getElem?_eq_getElem h]
  exact List.getElem_mem h
theorem srt_app {W : List zR} {x : zR} (h : srt W) (hx : ∀ r, r ∈ W → zgr r ≤ zgr x) : srt (W ++ [x]) := by
  intro a b hab hb
  rw [List.length_append] at hb
  have hb : b < W.length + 1 := hb
  rw [gD_app, gD_app]
  by_cases c : b < W.length
  · rw [if_pos c, if_pos (by omega)]; exact h a b hab c
  · rw [if_neg c, if_pos (show b = W.length by omega)]
    by_cases c2 : a < W.length
    · rw [if_pos c2]; exact hx _ (gD_mem c2)
    · rw [if_neg c2, if_pos (by omega)]; exact Nat.le_refl _
theorem gD_er {l : List zR} {i a : Nat} : (l.eraseIdx i).getD a z0R = if a < i then l.getD a z0R else l.getD (a + 1) z0R := by
  rw [List.getD_eq_getElem?_getD, List.getElem?_eraseIdx]
  split <;> rw [List.getD_eq_getElem?_getD]
theorem srt_er {W : List zR} {i : Nat} (h : srt W) (hi : i < W.length) : srt (W.eraseIdx i) := by
  intro a b hab hb
  rw [List.length_eraseIdx, if_pos hi] at hb
  rw [gD_er, gD_er]
  by_cases c : b < i
  · rw [if_pos c, if_pos (by omega)]; exact h a b hab (by omega)
  · rw [if_neg c]
    by_cases c2 : a < i
    · rw [if_pos c2]; exact h a (b + 1) (by omega) (by omega)
    · rw [if_neg c2]; exact h (a + 1) (b + 1) (by omega) (by omega)
/-- an input that goes along -/
def fi (k : Nat) (r : zR) : Nat := if (r.2.2.1 k).isNone = true then 1 else 0
def al (r : zR) : Nat := if r.2.2.2.1.isSome = true then 1 else 0
def f1 (r : zR) : Nat := zd r.1 - al r
def f2 (r : zR) : Nat := r.2.1.length
section ZQ
variable {r : zR} {S : zW} {ch : Nat → Nat} {g : Nat}
theorem zal_c {c : Nat} {t : zT} : (zal r S ch g c t = (t.1 ++ [zkid r S ch g c], t.2) ∧ tkn r ch c ∧ ¬ t.1.length = 60) ∨ (zal r S ch g c t = (t.1, t.2.1 + nI 1, t.2.2) ∧ t.1.length = 60) ∨ (zal r S ch g c t = (t.1, t.2.1, t.2.2.1 + 1, un t.2.2.2 (t.2.2.1 % 30) (zplc S, c)) ∧ ¬ tkn r ch c) := by
  by_cases h : tkn r ch c
  · rw [zal_pos h]
    by_cases e : t.1.length = 60
    · rw [if_pos e]; exact Or.inr (Or.inl ⟨rfl, e⟩)
    · rw [if_neg e]; exact Or.inl ⟨rfl, h, e⟩
  · rw [zal_neg h]; exact Or.inr (Or.inr ⟨rfl, h⟩)
theorem zspl_n {n : Nat} {t : zT} : zspl r S ch g (n + 1) t = zal r S ch g n (zspl r S ch g n t) := rfl
theorem fi_kid {k c : Nat} : fi k (zkid r S ch g c) = if (r.2.2.1 k).isNone = true ∧ ch k = c then 1 else 0 := by
  unfold fi
  show (if (zinp r.2.2.1 ch c r.2.1.length k).isNone = true then 1 else 0) = _
  rw [zinp_none]
  by_cases h1 : (r.2.2.1 k).isNone = true
  · by_cases h2 : ch k = c
    · rw [if_pos (by simp [h1, h2]), if_pos ⟨h1, h2⟩]
    · rw [if_neg (by simp [h2]), if_neg (fun z => h2 z.2)]
  · rw [if_neg (by simp [h1]), if_neg (fun z => h1 z.1)]
theorem spl_m {t : zT} : ∀ n, ∀ r', r' ∈ (zspl r S ch g n t).1 → r' ∈ t.1 ∨ ∃ c, c < n ∧ tkn r ch c ∧ r' = zkid r S ch g c
  | 0, r', h => Or.inl h
  | n + 1, r', h => by
    have ih := spl_m (t := t) n
    have h : r' ∈ (zal r S ch g n (zspl r S ch g n t)).1 := h
    have lift : (r' ∈ t.1 ∨ ∃ c, c < n ∧ tkn r ch c ∧ r' = zkid r S ch g c) → r' ∈ t.1 ∨ ∃ c, c < n + 1 ∧ tkn r ch c ∧ r' = zkid r S ch g c := fun z => z.imp id (fun ⟨c, h1, h2⟩ => ⟨c, by omega, h2⟩)
    rcases zal_c (r := r) (S := S) (ch := ch) (g := g) (c := n) (t := zspl r S ch g n t) with ⟨e, hk, -⟩ | ⟨e, -⟩ | ⟨e, -⟩ <;> rw [e] at h
    · rcases List.mem_append.mp h with h | h
      · exact lift (ih r' h)
      · exact Or.inr ⟨n, Nat.lt_succ_self n, hk, List.mem_singleton.mp h⟩
    · exact lift (ih r' h)
    · exact lift (ih r' h)
theorem spl_l {t : zT} (h : t.1.length ≤ 60) : ∀ n, (zspl r S ch g n t).1.length ≤ 60 ∧ t.1.length ≤ (zspl r S ch g n t).1.length ∧ (zspl r S ch g n t).2.2.1 ≤ t.2.2.1 + n
  | 0 => ⟨h, Nat.le_refl _, Nat.le_refl _⟩
  | n + 1 => by
    obtain ⟨i1, i2, i3⟩ := spl_l h n
    rw [zspl_n]
    rcases zal_c (r := r) (S := S) (ch := ch) (g := g) (c := n) (t := zspl r S ch g n t) with ⟨e, hk, h6⟩ | ⟨e, -⟩ | ⟨e, -⟩ <;> rw [e]
    · refine ⟨?_, ?_, by show (zspl r S ch g n t).2.2.1 ≤ _; omega⟩ <;> (show _ ≤ _; simp; omega)
    · exact ⟨i1, i2, by show (zspl r S ch g n t).2.2.1 ≤ _; omega⟩
    · exact ⟨i1, i2, by show (zspl r S ch g n t).2.2.1 + 1 ≤ _; omega⟩
theorem spl_lt {t : zT} (h : t.1.length ≤ 59) : ∀ n, (∃ c, c < n ∧ tkn r ch c) → t.1.length < (zspl r S ch g n t).1.length
  | 0, ⟨c, h1, _⟩ => absurd h1 (Nat.not_lt_zero c)
  | n + 1, ⟨c, h1, h2⟩ => by
    obtain ⟨i1, i2, i3⟩ := spl_l (r := r) (S := S) (ch := ch) (g := g) (t := t) (by omega) n
    have ih := spl_lt (t := t) h n
    rw [zspl_n]
    rcases zal_c (r := r) (S := S) (ch := ch) (g := g) (c := n) (t := zspl r S ch g n t) with ⟨e, hk, h6⟩ | ⟨e, h6⟩ | ⟨e, hn⟩ <;> rw [e]
    · show _ < _; simp; omega
    · show _ < (zspl r S ch g n t).1.length; omega
    · refine ih ⟨c, ?_, h2⟩
      by_cases ec : c = n
      · rw [ec] at h2; exact absurd h2 hn
      · omega
theorem spl_s {t : zT} (hs : srt t.1) (hg : ∀ x, x ∈ t.1 → zgr x ≤ g) : ∀ n, srt (zspl r S ch g n t).1 ∧ ∀ x, x ∈ (zspl r S ch g n t).1 → zgr x ≤ g
  | 0 => ⟨hs, hg⟩
  | n + 1 => by
    obtain ⟨i1, i2⟩ := spl_s hs hg n
    rw [zspl_n]
    rcases zal_c (r := r) (S := S) (ch := ch) (g := g) (c := n) (t := zspl r S ch g n t) with ⟨e, hk, h6⟩ | ⟨e, h6⟩ | ⟨e, hn⟩ <;> rw [e]
    · refine ⟨srt_app i1 i2, fun x hx => ?_⟩
      rcases List.mem_append.mp hx with h | h
      · exact i2 x h
      · rw [List.mem_singleton.mp h]; exact Nat.le_refl _
    · exact ⟨i1, i2⟩
    · exact ⟨i1, i2⟩
theorem spl_f {t : zT} {f : zR → Nat} {v : Nat} (hf : ∀ c, f (zkid r S ch g c) = v) (h : t.1.length ≤ 60) : ∀ n, sm f t.1 ≤ sm f (zspl r S ch g n t).1 ∧ (t.1.length < (zspl r S ch g n t).1.length → sm f t.1 + v ≤ sm f (zspl r S ch g n t).1)
  | 0 => ⟨Nat.le_refl _, fun z => absurd z (Nat.lt_irrefl _)⟩
  | n + 1 => by
    obtain ⟨i1, i2⟩ := spl_f (t := t) hf h n
    rw [zspl_n]
    rcases zal_c (r := r) (S := S) (ch := ch) (g := g) (c := n) (t := zspl r S ch g n t) with ⟨e, hk, h6⟩ | ⟨e, h6⟩ | ⟨e, hn⟩ <;> rw [e]
    · show sm f t.1 ≤ sm f ((zspl r S ch g n t).1 ++ [zkid r S ch g n]) ∧ (_ → sm f t.1 + v ≤ sm f ((zspl r S ch g n t).1 ++ [zkid r S ch g n]))
      rw [sm_app, hf]
      exact ⟨by omega, fun _ => by omega⟩
    · exact ⟨i1, i2⟩
    · exact ⟨i1, i2⟩
theorem spl_i {t : zT} {k : Nat} : ∀ n, sm (fi k) (zspl r S ch g n t).1 ≤ sm (fi k) t.1 + (if (r.2.2.1 k).isNone = true ∧ ch k < n then 1 else 0)
  | 0 => Nat.le_add_right _ _
  | n + 1 => by
    have ih := spl_i (t := t) (k := k) n
    rw [zspl_n]
    have mono : (if (r.2.2.1 k).isNone = true ∧ ch k < n then 1 else 0) ≤ (if (r.2.2.1 k).isNone = true ∧ ch k < n + 1 then 1 else 0) := by
      by_cases c : (r.2.2.1 k).isNone = true ∧ ch k < n
      · rw [if_pos c, if_pos ⟨c.1, by omega⟩]; exact Nat.le_refl _
      · rw [if_neg c]; exact Nat.zero_le _
    rcases zal_c (r := r) (S := S) (ch := ch) (g := g) (c := n) (t := zspl r S ch g n t) with ⟨e, hk, h6⟩ | ⟨e, h6⟩ | ⟨e, hn⟩ <;> rw [e]
    · show sm (fi k) ((zspl r S ch g n t).1 ++ [zkid r S ch g n]) ≤ _
      rw [sm_app, fi_kid]
      by_cases c1 : (r.2.2.1 k).isNone = true ∧ ch k = n
      · rw [if_neg (fun z => by omega)] at ih
        rw [if_pos c1, if_pos ⟨c1.1, by omega⟩]; omega
      · rw [if_neg c1]; omega
    · exact Nat.le_trans ih (by omega)
    · exact Nat.le_trans ih (by omega)
def kOK (N : Nat) (K : Nat → Nat × Nat) : Prop := ∀ j, j < 30 → j < N → (K j).1 < 1000 ∧ (K j).2 < 8
theorem spl_k {t : zT} (h : kOK t.2.2.1 t.2.2.2) (hp : zplc S < 1000) : ∀ n, n ≤ 8 → kOK (zspl r S ch g n t).2.2.1 (zspl r S ch g n t).2.2.2
  | 0, _ => h
  | n + 1, hn => by
    have ih := spl_k h hp n (by omega)
    rw [zspl_n]
    rcases zal_c (r := r) (S := S) (ch := ch) (g := g) (c := n) (t := zspl r S ch g n t) with ⟨e, -⟩ | ⟨e, -⟩ | ⟨e, -⟩ <;> rw [e]
    · exact ih
    · exact ih
    · generalize zspl r S ch g n t = t2 at ih
      intro j h1 h2
      have h2 : j < t2.2.2.1 + 1 := h2
      show (un t2.2.2.2 (t2.2.2.1 % 30) (zplc S, n) j).1 < 1000 ∧ (un t2.2.2.2 (t2.2.2.1 % 30) (zplc S, n) j).2 < 8
      by_cases e : j = t2.2.2.1 % 30
      · rw [e, un_e]; exact ⟨hp, by show n < 8; omega⟩
      · rw [un_n e]
        refine ih j h1 ?_
        by_cases z : j = t2.2.2.1
        · exact absurd (by rw [← z, Nat.mod_eq_of_lt h1]) e
        · omega
end ZQ
