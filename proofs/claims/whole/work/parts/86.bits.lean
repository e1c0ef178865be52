/-! Integer.bitCount -/
def v4 : List Nat → Nat
  | [] => 0
  | d :: D => d + 4 * v4 D
def v16 : List Nat → Nat
  | [] => 0
  | d :: D => d + 16 * v16 D
theorem and_dig {k d m R M : Nat} (hd : d < 2 ^ k) (hm : m < 2 ^ k) : (d + 2 ^ k * R) &&& (m + 2 ^ k * M) = (d &&& m) + 2 ^ k * (R &&& M) := by
  have hx : d &&& m < 2 ^ k := Nat.lt_of_le_of_lt Nat.and_le_left hd
  apply Nat.eq_of_testBit_eq
  intro j
  rw [Nat.testBit_and, Nat.add_comm d, Nat.add_comm m, Nat.add_comm (d &&& m), Nat.testBit_two_pow_mul_add _ hd, Nat.testBit_two_pow_mul_add _ hm, Nat.testBit_two_pow_mul_add _ hx]
  split
  · rw [Nat.testBit_and]
  · rw [Nat.testBit_and]
theorem s1 : ∀ D : List Nat, (∀ d ∈ D, d < 4) → (v4 D / 2) &&& v4 (D.map fun _ => 1) = v4 (D.map fun d => d / 2)
  | [], _ => rfl
  | d :: D, h => by
    have hd := h d (List.mem_cons_self)
    have ih := s1 D (fun x hx => h x (List.mem_cons_of_mem _ hx))
    show ((d + 4 * v4 D) / 2) &&& (1 + 4 * v4 (D.map fun _ => 1)) = d / 2 + 4 * v4 (D.map fun d => d / 2)
    have e : (d + 4 * v4 D) / 2 = (d / 2 + 2 * (v4 D % 2)) + 2 ^ 2 * (v4 D / 2) := by omega
    rw [e, show (1 + 4 * v4 (D.map fun _ => 1)) = 1 + 2 ^ 2 * v4 (D.map fun _ => 1) by omega, and_dig (by omega) (by omega), ih]
    have : (d / 2 + 2 * (v4 D % 2)) &&& 1 = d / 2 := by
      have a : d / 2 < 2 := by omega
      have c : v4 D % 2 < 2 := Nat.mod_lt _ (by decide)
      generalize d / 2 = u at a
      generalize v4 D % 2 = w at c
      rcases (show u = 0 ∨ u = 1 by omega) with rfl | rfl <;> rcases (show w = 0 ∨ w = 1 by omega) with rfl | rfl <;> rfl
    rw [this]
theorem v4_sub : ∀ D : List Nat, v4 (D.map fun d => d / 2) ≤ v4 D ∧ v4 D - v4 (D.map fun d => d / 2) = v4 (D.map fun d => d - d / 2)
  | [] => ⟨Nat.le_refl _, rfl⟩
  | d :: D => by
    obtain ⟨h1, h2⟩ := v4_sub D
    show d / 2 + 4 * v4 (D.map fun d => d / 2) ≤ d + 4 * v4 D ∧ (d + 4 * v4 D) - (d / 2 + 4 * v4 (D.map fun d => d / 2)) = (d - d / 2) + 4 * v4 (D.map fun d => d - d / 2)
    omega
theorem s2 : ∀ E M : List Nat, E.length = M.length → (∀ d ∈ E, d < 16) → (∀ d ∈ M, d < 16) → v16 E &&& v16 M = v16 (List.zipWith (fun a b => a &&& b) E M)
  | [], [], _, _, _ => rfl
  | d :: E, m :: M, hl, h1, h2 => by
    have ih := s2 E M (Nat.succ.inj hl) (fun x hx => h1 x (List.mem_cons_of_mem _ hx)) (fun x hx => h2 x (List.mem_cons_of_mem _ hx))
    show (d + 2 ^ 4 * v16 E) &&& (m + 2 ^ 4 * v16 M) = (d &&& m) + 16 * v16 (List.zipWith (fun a b => a &&& b) E M)
    rw [and_dig (h1 d (List.mem_cons_self)) (h2 m (List.mem_cons_self)), ih]
theorem a3 {e : Nat} (h : e < 16) : e &&& 3 = e % 4 := by
  have : ∀ e, e < 16 → e &&& 3 = e % 4 := by decide
  exact this e h
theorem a15 {e : Nat} (h : e < 16) : e &&& 15 = e := by
  have : ∀ e, e < 16 → e &&& 15 = e := by decide
  exact this e h
/-- the reckoning of bitCount over natural numbers -/
def bc1 (X : Nat) : Nat := X - ((X / 2) &&& 1431655765)
def bc2 (X : Nat) : Nat := (X &&& 858993459) + ((X / 4) &&& 858993459)
def bc3 (X : Nat) : Nat := (X + X / 16) &&& 252645135
def bc4 (X : Nat) : Nat := X + X / 256
def bc5 (X : Nat) : Nat := (X + X / 65536) &&& 63
def bcN (X : Nat) : Nat := bc5 (bc4 (bc3 (bc2 (bc1 X))))
def pcn (X : Nat) : Nat → Nat
  | 0 => 0
  | j + 1 => pcn X j + X / 2 ^ j % 2
theorem bc45 {a b c d : Nat} (ha : a ≤ 8) (hb : b ≤ 8) (hc : c ≤ 8) (hd : d ≤ 8) : bc5 (bc4 (v16 [a, 0, b, 0, c, 0, d, 0])) = a + b + c + d := by
  have l63 : ∀ Y, Y &&& 63 = Y % 64 := fun Y => Nat.and_two_pow_sub_one_eq_mod Y 6
  have e : v16 [a, 0, b, 0, c, 0, d, 0] = a + 256 * b + 65536 * c + 16777216 * d := by simp only [v16]; omega
  have e4 : bc4 (v16 [a, 0, b, 0, c, 0, d, 0]) = (a + b) + 256 * (b + c) + 65536 * (c + d) + 16777216 * d := by
    unfold bc4
    rw [e]
    omega
  rw [e4]
  clear e e4
  unfold bc5
  have e5 : ((a + b) + 256 * (b + c) + 65536 * (c + d) + 16777216 * d) / 65536 = (c + d) + 256 * d := by omega
  rw [l63, e5]
  omega
theorem bc_dig {d0 d1 d2 d3 d4 d5 d6 d7 d8 d9 da db dc dd de df : Nat} (h0 : d0 < 4) (h1 : d1 < 4) (h2 : d2 < 4) (h3 : d3 < 4) (h4 : d4 < 4) (h5 : d5 < 4) (h6 : d6 < 4) (h7 : d7 < 4) (h8 : d8 < 4) (h9 : d9 < 4) (ha : da < 4) (hb : db < 4) (hc : dc < 4) (hd : dd < 4) (he : de < 4) (hf : df < 4) :
    bcN (v4 [d0, d1, d2, d3, d4, d5, d6, d7, d8, d9, da, db, dc, dd, de, df]) = (d0 - d0 / 2) + (d1 - d1 / 2) + (d2 - d2 / 2) + (d3 - d3 / 2) + (d4 - d4 / 2) + (d5 - d5 / 2) + (d6 - d6 / 2) + (d7 - d7 / 2) + (d8 - d8 / 2) + (d9 - d9 / 2) + (da - da / 2) + (db - db / 2) + (dc - dc / 2) + (dd - dd / 2) + (de - de / 2) + (df - df / 2) := by
  have e1 := s1 [d0, d1, d2, d3, d4, d5, d6, d7, d8, d9, da, db, dc, dd, de, df] (by intro d hd'; simp at hd'; omega)
  simp only [List.map] at e1
  rw [show v4 [1, 1, 1, 1, 1, 1, 1, 1, 1, 1, 1, 1, 1, 1, 1, 1] = 1431655765 by decide] at e1
  obtain ⟨p0, hp0⟩ : ∃ p, p = d0 - d0 / 2 := ⟨_, rfl⟩
  obtain ⟨p1, hp1⟩ : ∃ p, p = d1 - d1 / 2 := ⟨_, rfl⟩
  obtain ⟨p2, hp2⟩ : ∃ p, p = d2 - d2 / 2 := ⟨_, rfl⟩
  obtain ⟨p3, hp3⟩ : ∃ p, p = d3 - d3 / 2 := ⟨_, rfl⟩
  obtain ⟨p4, hp4⟩ : ∃ p, p = d4 - d4 / 2 := ⟨_, rfl⟩
  obtain ⟨p5, hp5⟩ : ∃ p, p = d5 - d5 / 2 := ⟨_, rfl⟩
  obtain ⟨p6, hp6⟩ : ∃ p, p = d6 - d6 / 2 := ⟨_, rfl⟩
  obtain ⟨p7, hp7⟩ : ∃ p, p = d7 - d7 / 2 := ⟨_, rfl⟩
  obtain ⟨p8, hp8⟩ : ∃ p, p = d8 - d8 / 2 := ⟨_, rfl⟩
  obtain ⟨p9, hp9⟩ : ∃ p, p = d9 - d9 / 2 := ⟨_, rfl⟩
  obtain ⟨pa, hpa⟩ : ∃ p, p = da - da / 2 := ⟨_, rfl⟩
  obtain ⟨pb, hpb⟩ : ∃ p, p = db - db / 2 := ⟨_, rfl⟩
  obtain ⟨pc, hpc⟩ : ∃ p, p = dc - dc / 2 := ⟨_, rfl⟩
  obtain ⟨pd, hpd⟩ : ∃ p, p = dd - dd / 2 := ⟨_, rfl⟩
  obtain ⟨pe, hpe⟩ : ∃ p, p = de - de / 2 := ⟨_, rfl⟩
  obtain ⟨pf, hpf⟩ : ∃ p, p = df - df / 2 := ⟨_, rfl⟩
  have i1 : bc1 (v4 [d0, d1, d2, d3, d4, d5, d6, d7, d8, d9, da, db, dc, dd, de, df]) = v16 [p0 + 4 * p1, p2 + 4 * p3, p4 + 4 * p5, p6 + 4 * p7, p8 + 4 * p9, pa + 4 * pb, pc + 4 * pd, pe + 4 * pf] := by
    unfold bc1
    rw [e1]
    have z := (v4_sub [d0, d1, d2, d3, d4, d5, d6, d7, d8, d9, da, db, dc, dd, de, df]).2
    simp only [List.map] at z
    rw [z, ← hp0, ← hp1, ← hp2, ← hp3, ← hp4, ← hp5, ← hp6, ← hp7, ← hp8, ← hp9, ← hpa, ← hpb, ← hpc, ← hpd, ← hpe, ← hpf]
    clear z e1 hp0 hp1 hp2 hp3 hp4 hp5 hp6 hp7 hp8 hp9 hpa hpb hpc hpd hpe hpf h0 h1 h2 h3 h4 h5 h6 h7 h8 h9 ha hb hc hd he hf
    simp only [v4, v16]
    omega
  unfold bcN
  rw [i1, ← hp0, ← hp1, ← hp2, ← hp3, ← hp4, ← hp5, ← hp6, ← hp7, ← hp8, ← hp9, ← hpa, ← hpb, ← hpc, ← hpd, ← hpe, ← hpf]
  have q0 : p0 ≤ 2 := by omega
  have q1 : p1 ≤ 2 := by omega
  have q2 : p2 ≤ 2 := by omega
  have q3 : p3 ≤ 2 := by omega
  have q4 : p4 ≤ 2 := by omega
  have q5 : p5 ≤ 2 := by omega
  have q6 : p6 ≤ 2 := by omega
  have q7 : p7 ≤ 2 := by omega
  have q8 : p8 ≤ 2 := by omega
  have q9 : p9 ≤ 2 := by omega
  have qa : pa ≤ 2 := by omega
  have qb : pb ≤ 2 := by omega
  have qc : pc ≤ 2 := by omega
  have qd : pd ≤ 2 := by omega
  have qe : pe ≤ 2 := by omega
  have qf : pf ≤ 2 := by omega
  clear e1 i1 hp0 hp1 hp2 hp3 hp4 hp5 hp6 hp7 hp8 hp9 hpa hpb hpc hpd hpe hpf h0 h1 h2 h3 h4 h5 h6 h7 h8 h9 ha hb hc hd he hf
  have m3 := s2 [p0 + 4 * p1, p2 + 4 * p3, p4 + 4 * p5, p6 + 4 * p7, p8 + 4 * p9, pa + 4 * pb, pc + 4 * pd, pe + 4 * pf] [3, 3, 3, 3, 3, 3, 3, 3] rfl (by intro d hd'; simp at hd'; omega) (by intro d hd'; simp at hd'; omega)
  have m3 : v16 [p0 + 4 * p1, p2 + 4 * p3, p4 + 4 * p5, p6 + 4 * p7, p8 + 4 * p9, pa + 4 * pb, pc + 4 * pd, pe + 4 * pf] &&& 858993459 = v16 [p0, p2, p4, p6, p8, pa, pc, pe] := by
    rw [show v16 [3, 3, 3, 3, 3, 3, 3, 3] = 858993459 by decide] at m3
    simp only [List.zipWith] at m3
    rw [m3]
    rw [a3 (by omega), a3 (by omega), a3 (by omega), a3 (by omega), a3 (by omega), a3 (by omega), a3 (by omega), a3 (by omega), show (p0 + 4 * p1) % 4 = p0 by omega, show (p2 + 4 * p3) % 4 = p2 by omega, show (p4 + 4 * p5) % 4 = p4 by omega, show (p6 + 4 * p7) % 4 = p6 by omega, show (p8 + 4 * p9) % 4 = p8 by omega, show (pa + 4 * pb) % 4 = pa by omega, show (pc + 4 * pd) % 4 = pc by omega, show (pe + 4 * pf) % 4 = pe by omega]
  have d4' : v16 [p0 + 4 * p1, p2 + 4 * p3, p4 + 4 * p5, p6 + 4 * p7, p8 + 4 * p9, pa + 4 * pb, pc + 4 * pd, pe + 4 * pf] / 4 = v16 [p1 + 4 * p2, p3 + 4 * p4, p5 + 4 * p6, p7 + 4 * p8, p9 + 4 * pa, pb + 4 * pc, pd + 4 * pe, pf] := by
    simp only [v16]
    omega
  have m4 := s2 [p1 + 4 * p2, p3 + 4 * p4, p5 + 4 * p6, p7 + 4 * p8, p9 + 4 * pa, pb + 4 * pc, pd + 4 * pe, pf] [3, 3, 3, 3, 3, 3, 3, 3] rfl (by intro d hd'; simp at hd'; omega) (by intro d hd'; simp at hd'; omega)
  have m4 : v16 [p1 + 4 * p2, p3 + 4 * p4, p5 + 4 * p6, p7 + 4 * p8, p9 + 4 * pa, pb + 4 * pc, pd + 4 * pe, pf] &&& 858993459 = v16 [p1, p3, p5, p7, p9, pb, pd, pf] := by
    rw [show v16 [3, 3, 3, 3, 3, 3, 3, 3] = 858993459 by decide] at m4
    simp only [List.zipWith] at m4
    rw [m4]
    rw [a3 (by omega), a3 (by omega), a3 (by omega), a3 (by omega), a3 (by omega), a3 (by omega), a3 (by omega), a3 (by omega), show (p1 + 4 * p2) % 4 = p1 by omega, show (p3 + 4 * p4) % 4 = p3 by omega, show (p5 + 4 * p6) % 4 = p5 by omega, show (p7 + 4 * p8) % 4 = p7 by omega, show (p9 + 4 * pa) % 4 = p9 by omega, show (pb + 4 * pc) % 4 = pb by omega, show (pd + 4 * pe) % 4 = pd by omega, show pf % 4 = pf by omega]
  have i2 : v16 [p0, p2, p4, p6, p8, pa, pc, pe] + v16 [p1, p3, p5, p7, p9, pb, pd, pf] = v16 [p0 + p1, p2 + p3, p4 + p5, p6 + p7, p8 + p9, pa + pb, pc + pd, pe + pf] := by
    simp only [v16]
    omega
  have d16 : v16 [p0 + p1, p2 + p3, p4 + p5, p6 + p7, p8 + p9, pa + pb, pc + pd, pe + pf] + v16 [p0 + p1, p2 + p3, p4 + p5, p6 + p7, p8 + p9, pa + pb, pc + pd, pe + pf] / 16 = v16 [p0 + p1 + (p2 + p3), p2 + p3 + (p4 + p5), p4 + p5 + (p6 + p7), p6 + p7 + (p8 + p9), p8 + p9 + (pa + pb), pa + pb + (pc + pd), pc + pd + (pe + pf), pe + pf] := by
    simp only [v16]
    omega
  have m5 := s2 [p0 + p1 + (p2 + p3), p2 + p3 + (p4 + p5), p4 + p5 + (p6 + p7), p6 + p7 + (p8 + p9), p8 + p9 + (pa + pb), pa + pb + (pc + pd), pc + pd + (pe + pf), pe + pf] [15, 0, 15, 0, 15, 0, 15, 0] rfl (by intro d hd'; simp at hd'; omega) (by intro d hd'; simp at hd'; omega)
  have m5 : v16 [p0 + p1 + (p2 + p3), p2 + p3 + (p4 + p5), p4 + p5 + (p6 + p7), p6 + p7 + (p8 + p9), p8 + p9 + (pa + pb), pa + pb + (pc + pd), pc + pd + (pe + pf), pe + pf] &&& 252645135 = v16 [p0 + p1 + (p2 + p3), 0, p4 + p5 + (p6 + p7), 0, p8 + p9 + (pa + pb), 0, pc + pd + (pe + pf), 0] := by
    rw [show v16 [15, 0, 15, 0, 15, 0, 15, 0] = 252645135 by decide] at m5
    simp only [List.zipWith] at m5
    rw [m5]
    rw [a15 (by omega), a15 (by omega), a15 (by omega), a15 (by omega), Nat.and_zero, Nat.and_zero, Nat.and_zero, Nat.and_zero]
  have b2 : bc2 (v16 [p0 + 4 * p1, p2 + 4 * p3, p4 + 4 * p5, p6 + 4 * p7, p8 + 4 * p9, pa + 4 * pb, pc + 4 * pd, pe + 4 * pf]) = v16 [p0 + p1, p2 + p3, p4 + p5, p6 + p7, p8 + p9, pa + pb, pc + pd, pe + pf] := by
    unfold bc2
    rw [d4', m3, m4, i2]
  have b3 : bc3 (v16 [p0 + p1, p2 + p3, p4 + p5, p6 + p7, p8 + p9, pa + pb, pc + pd, pe + pf]) = v16 [p0 + p1 + (p2 + p3), 0, p4 + p5 + (p6 + p7), 0, p8 + p9 + (pa + pb), 0, pc + pd + (pe + pf), 0] := by
    unfold bc3
    rw [d16, m5]
  rw [b2, b3]
  rw [bc45 (by omega) (by omega) (by omega) (by omega)]
  clear m3 m4 m5 d4' d16 i2 b2 b3
  omega
