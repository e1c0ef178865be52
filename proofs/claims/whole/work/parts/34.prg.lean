/-! THE PROGRAM's tables agree: what method, operation and handler keep -/
/-- operation j of method q: the same number and operation on both sides, one that was taken -/
def prOp (A : Nat → Nat → Int32) (q j : Nat) : Prop := A 25 (q * 40 + j) = A 1684 (40 * q + j) ∧ A 26 (q * 40 + j) = A 1685 (40 * q + j) ∧ ∃ k, k < 30 ∧ A 25 (q * 40 + j) = nI k ∧ rgP k (A 26 (q * 40 + j))
/-- handler j of method q -/
def prHd (A : Nat → Nat → Int32) (q j : Nat) : Prop := A 28 (q * 4 + j) = A 1687 (16 * q + 4 * j) ∧ A 29 (q * 4 + j) = A 1687 (16 * q + 4 * j + 1) ∧ A 30 (q * 4 + j) = A 1687 (16 * q + 4 * j + 2) ∧ A 31 (q * 4 + j) = A 1687 (16 * q + 4 * j + 3) ∧ hdP (A 28 (q * 4 + j)) (A 29 (q * 4 + j)) (A 30 (q * 4 + j)) (A 31 (q * 4 + j))
def PR (A I : Nat → Nat → Int32) : Prop := ∃ M, M ≤ 6 ∧ I 22 0 = nI M ∧ I 1681 1 = nI M ∧ (∀ q, q < M → A 23 q = A 1682 q ∧ ∃ a, a ≤ 3 ∧ A 23 q = nI a) ∧
  (∀ q, q < 6 → ∃ n, n ≤ 40 ∧ A 24 q = nI n ∧ A 1683 q = nI n ∧ ∀ j, j < n → prOp A q j) ∧ (∀ q, q < 6 → ∃ n, n ≤ 4 ∧ A 27 q = nI n ∧ A 1686 q = nI n ∧ ∀ j, j < n → prHd A q j)
theorem PR_op {A A2 I I2 : Nat → Nat → Int32} {q n : Nat} {op a : Int32} (h : PR A I) (hq : q < 6) (hn : n < 40) (hl : A 24 q = nI n) (hfit : fitsQ op a)
    (e23 : A2 23 = A 23) (e1682 : A2 1682 = A 1682) (e24 : A2 24 = upd (A 24) q (nI (n + 1))) (e1683 : A2 1683 = upd (A 1683) q (nI (n + 1))) (e25 : A2 25 = upd (A 25) (q * 40 + n) op) (e26 : A2 26 = upd (A 26) (q * 40 + n) a) (e1684 : A2 1684 = upd (A 1684) (40 * q + n) op) (e1685 : A2 1685 = upd (A 1685) (40 * q + n) a)
    (e27 : A2 27 = A 27) (e1686 : A2 1686 = A 1686) (e28 : A2 28 = A 28) (e29 : A2 29 = A 29) (e30 : A2 30 = A 30) (e31 : A2 31 = A 31) (e1687 : A2 1687 = A 1687) (i22 : I2 22 0 = I 22 0) (i1681 : I2 1681 1 = I 1681 1) : PR A2 I2 := by
  obtain ⟨M, hM6, m1, m2, hargs, hops, hhds⟩ := h
  refine ⟨M, hM6, i22.trans m1, i1681.trans m2, ?_, ?_, ?_⟩
  · rw [e23, e1682]; exact hargs
  · intro p hp
    obtain ⟨k, hk, k1, k2, k3⟩ := hops p hp
    by_cases hpq : p = q
    · subst hpq
      have hkn : k = n := (nI_eq (by omega) (by omega)).mp (k1.symm.trans hl)
      subst hkn
      refine ⟨k + 1, by omega, by rw [e24, pk_us], by rw [e1683, pk_us], fun j hj => ?_⟩
      unfold prOp
      rw [e25, e26, e1684, e1685]
      by_cases hjk : j = k
      · subst hjk
        rw [pk_us, pk_us, pk_us, pk_us]
        obtain ⟨o, ho, e, hr⟩ := hfit
        exact ⟨rfl, rfl, o, ho, e, hr⟩
      · rw [pk_un (by omega), pk_un (by omega), pk_un (by omega), pk_un (by omega)]
        exact k3 j (by omega)
    · refine ⟨k, hk, by rw [e24, pk_un hpq]; exact k1, by rw [e1683, pk_un hpq]; exact k2, fun j hj => ?_⟩
      unfold prOp
      rw [e25, e26, e1684, e1685, pk_un (by omega), pk_un (by omega), pk_un (by omega), pk_un (by omega)]
      exact k3 j hj
  · intro p hp
    obtain ⟨k, hk, k1, k2, k3⟩ := hhds p hp
    refine ⟨k, hk, by rw [e27]; exact k1, by rw [e1686]; exact k2, fun j hj => ?_⟩
    unfold prHd
    rw [e28, e29, e30, e31, e1687]
    exact k3 j hj
/-- the relation: the three old cells, the programs, and, where something was searched, all that SR says -/
def RelS (SR : (Nat → Nat → Int32) → (Nat → Nat → Int32) → Prop) (xs : Nat → Int32) (A I : Nat → Nat → Int32) : Prop := A 0 = xs ∧ A 1 = lw_takes ∧ A 2 = lw_leaves ∧ PR A I ∧ ((I 3 7 = nI 0 ∧ I 1681 16 = nI 0) ∨ (I 3 7 = nI 1 ∧ I 1681 16 = nI 1 ∧ SR A I))
set_option maxHeartbeats 4000000 in
/-- PROMISE 3: operation and operation -/
theorem ok_operation (L : Nat) (xs : Nat → Int32) (SR : (Nat → Nat → Int32) → (Nat → Nat → Int32) → Prop) : opOK L (RelS SR xs) 3 150 3 := by
  intro A I as hR hlen
  match as, hlen with
  | [m, op, a], _ =>
    obtain ⟨r0, r1, r2, hPR, hS⟩ := id hR
    obtain ⟨M, hM6, m1, m2, hargs, hops, hhds⟩ := id hPR
    have hl1 : ∀ q, q < 6 → ∃ n, n ≤ 40 ∧ A 24 q = nI n := fun q hq => by obtain ⟨n, h1, h2, -⟩ := hops q hq; exact ⟨n, h1, h2⟩
    have hl2 : ∀ q, q < 6 → ∃ n, n ≤ 40 ∧ A 1683 q = nI n := fun q hq => by obtain ⟨n, h1, -, h2, -⟩ := hops q hq; exact ⟨n, h1, h2⟩
    by_cases hok : inR m M ∧ fitsQ op a
    · obtain ⟨⟨q, hq, rfl⟩, hfit⟩ := hok
      obtain ⟨n, hn, n1, n2, -⟩ := hops q (by omega)
      have qe : ∀ p, p < M → nI q = nI p → p = q := fun p hp e => ((nI_eq (by omega) (by omega)).mp e).symm
      by_cases h40 : n = 40
      · subst h40
        refine ⟨-4, A, I, A, I, fun Q hQ => c_operation 9 m1 hM6 hl1 (fun z => absurd ⟨⟨q, hq, rfl⟩, hfit⟩ z) (fun _ _ _ _ _ => hQ) (fun p k hp e _ hk hlt => ?_), rfl, fun Q hQ => c_moperation 9 m2 hM6 hl2 (fun z => absurd ⟨⟨q, hq, rfl⟩, hfit⟩ z) (fun _ _ _ _ _ => hQ) (fun p k hp e _ hk hlt => ?_), hR⟩
        · have := qe p hp e
          subst this
          have := (nI_eq (by omega) (by omega)).mp (hk.symm.trans n1)
          omega
        · have := qe p hp e
          subst this
          have := (nI_eq (by omega) (by omega)).mp (hk.symm.trans n2)
          omega
      · have hlt : n < 40 := by omega
        let A1 := va_up (va_up (va_up A 25 (upd (A 25) (q * 40 + n) op)) 26 (upd (A 26) (q * 40 + n) a)) 24 (upd (A 24) q (nI (n + 1)))
        let I1 := va_up I 3 (upd (I 3) 7 (nI 0))
        have a1683 : A1 1683 = A 1683 := by simp [A1, va_up]
        have i1681 : I1 1681 = I 1681 := by simp [I1, va_up]
        refine ⟨nI (n + 1), A1, I1, va_up (va_up (va_up A1 1684 (upd (A1 1684) (40 * q + n) op)) 1685 (upd (A1 1685) (40 * q + n) a)) 1683 (upd (A1 1683) q (nI (n + 1))), va_up I1 1681 (upd (I1 1681) 16 (nI 0)), fun Q hQ => c_operation 9 m1 hM6 hl1 (fun z => absurd ⟨⟨q, hq, rfl⟩, hfit⟩ z) (fun p hp e _ h4 => ?_) (fun p k hp e _ hk hlt => ?_), by simp [A1, va_up], fun Q hQ => c_moperation 9 (by rw [i1681]; exact m2) hM6 (by rw [a1683]; exact hl2) (fun z => absurd ⟨⟨q, hq, rfl⟩, hfit⟩ z) (fun p hp e _ h4 => ?_) (fun p k hp e _ hk hlt => ?_), ?_⟩
        · have := qe p hp e
          subst this
          have := (nI_eq (by omega) (by omega)).mp (h4.symm.trans n1)
          omega
        · have := qe p hp e
          subst this
          have := (nI_eq (by omega) (by omega)).mp (hk.symm.trans n1)
          subst this
          exact hQ
        · have := qe p hp e
          subst this
          rw [a1683] at h4
          have := (nI_eq (by omega) (by omega)).mp (h4.symm.trans n2)
          omega
        · have := qe p hp e
          subst this
          rw [a1683] at hk
          have := (nI_eq (by omega) (by omega)).mp (hk.symm.trans n2)
          subst this
          exact hQ
        · refine ⟨by simp [A1, va_up]; exact r0, by simp [A1, va_up]; exact r1, by simp [A1, va_up]; exact r2, PR_op (q := q) (n := n) (op := op) (a := a) hPR (by omega) hlt n1 hfit (by simp [A1, va_up]) (by simp [A1, va_up]) (by simp [A1, va_up]) (by simp [A1, va_up]) (by simp [A1, va_up]) (by simp [A1, va_up]) (by simp [A1, va_up]) (by simp [A1, va_up]) (by simp [A1, va_up]) (by simp [A1, va_up]) (by simp [A1, va_up]) (by simp [A1, va_up]) (by simp [A1, va_up]) (by simp [A1, va_up]) (by simp [A1, va_up]) (by simp [I1, va_up]) (by simp [I1, va_up, upd]), Or.inl ⟨?_, ?_⟩⟩
          · simp [I1, va_up, upd]
          · simp [va_up, upd]
    · exact ⟨-2, A, I, A, I, fun Q hQ => c_operation 9 m1 hM6 hl1 (fun _ => hQ) (fun p hp e hf _ => absurd ⟨⟨p, hp, e⟩, hf⟩ hok) (fun p k hp e hf _ _ => absurd ⟨⟨p, hp, e⟩, hf⟩ hok), rfl, fun Q hQ => c_moperation 9 m2 hM6 hl2 (fun _ => hQ) (fun p hp e hf _ => absurd ⟨⟨p, hp, e⟩, hf⟩ hok) (fun p k hp e hf _ _ => absurd ⟨⟨p, hp, e⟩, hf⟩ hok), hR⟩
