/-! method and handler keep the relation -/
theorem PR_hd {A A2 I I2 : Nat → Nat → Int32} {q n : Nat} {f t g k : Int32} (h : PR A I) (hq : q < 6) (hn : n < 4) (hl : A 27 q = nI n) (hok : hdP f t g k)
    (e23 : A2 23 = A 23) (e1682 : A2 1682 = A 1682) (e24 : A2 24 = A 24) (e1683 : A2 1683 = A 1683) (e25 : A2 25 = A 25) (e26 : A2 26 = A 26) (e1684 : A2 1684 = A 1684) (e1685 : A2 1685 = A 1685)
    (e27 : A2 27 = upd (A 27) q (nI (n + 1))) (e1686 : A2 1686 = upd (A 1686) q (nI (n + 1))) (e28 : A2 28 = upd (A 28) (q * 4 + n) f) (e29 : A2 29 = upd (A 29) (q * 4 + n) t) (e30 : A2 30 = upd (A 30) (q * 4 + n) g) (e31 : A2 31 = upd (A 31) (q * 4 + n) k) (e1687 : A2 1687 = upd (upd (upd (upd (A 1687) (16 * q + 4 * n) f) (16 * q + 4 * n + 1) t) (16 * q + 4 * n + 2) g) (16 * q + 4 * n + 3) k) (i22 : I2 22 0 = I 22 0) (i1681 : I2 1681 1 = I 1681 1) : PR A2 I2 := by
  obtain ⟨M, hM6, m1, m2, hargs, hops, hhds⟩ := h
  refine ⟨M, hM6, i22.trans m1, i1681.trans m2, ?_, ?_, ?_⟩
  · rw [e23, e1682]; exact hargs
  · intro p hp
    obtain ⟨z, hz, k1, k2, k3⟩ := hops p hp
    refine ⟨z, hz, by rw [e24]; exact k1, by rw [e1683]; exact k2, fun j hj => ?_⟩
    unfold prOp
    rw [e25, e26, e1684, e1685]
    exact k3 j hj
  · intro p hp
    obtain ⟨z, hz, k1, k2, k3⟩ := hhds p hp
    by_cases hpq : p = q
    · subst hpq
      have hkn : z = n := (nI_eq (by omega) (by omega)).mp (k1.symm.trans hl)
      subst hkn
      refine ⟨z + 1, by omega, by rw [e27, pk_us], by rw [e1686, pk_us], fun j hj => ?_⟩
      unfold prHd
      rw [e28, e29, e30, e31, e1687]
      by_cases hjk : j = z
      · subst hjk
        rw [pk_us, pk_us, pk_us, pk_us]
        refine ⟨?_, ?_, ?_, ?_, hok⟩
        · rw [pk_un (by omega), pk_un (by omega), pk_un (by omega), pk_us]
        · rw [pk_un (by omega), pk_un (by omega), pk_us]
        · rw [pk_un (by omega), pk_us]
        · rw [pk_us]
      · have r : ∀ i, i < 4 → upd (upd (upd (upd (A 1687) (16 * p + 4 * z) f) (16 * p + 4 * z + 1) t) (16 * p + 4 * z + 2) g) (16 * p + 4 * z + 3) k (16 * p + 4 * j + i) = A 1687 (16 * p + 4 * j + i) := fun i hi => by
          rw [pk_un (by omega), pk_un (by omega), pk_un (by omega), pk_un (by omega)]
        have r0 := r 0 (by decide)
        simp only [Nat.add_zero] at r0
        rw [r0, r 1 (by decide), r 2 (by decide), r 3 (by decide), pk_un (by omega), pk_un (by omega), pk_un (by omega), pk_un (by omega)]
        exact k3 j (by omega)
    · refine ⟨z, hz, by rw [e27, pk_un hpq]; exact k1, by rw [e1686, pk_un hpq]; exact k2, fun j hj => ?_⟩
      unfold prHd
      rw [e28, e29, e30, e31, e1687]
      have r : ∀ i, i < 4 → upd (upd (upd (upd (A 1687) (16 * q + 4 * n) f) (16 * q + 4 * n + 1) t) (16 * q + 4 * n + 2) g) (16 * q + 4 * n + 3) k (16 * p + 4 * j + i) = A 1687 (16 * p + 4 * j + i) := fun i hi => by
        rw [pk_un (by omega), pk_un (by omega), pk_un (by omega), pk_un (by omega)]
      have r0 := r 0 (by decide)
      simp only [Nat.add_zero] at r0
      rw [r0, r 1 (by decide), r 2 (by decide), r 3 (by decide), pk_un (by omega), pk_un (by omega), pk_un (by omega), pk_un (by omega)]
      exact k3 j hj
set_option maxHeartbeats 4000000 in
/-- PROMISE 4: handler and handler -/
theorem ok_handler (L : Nat) (xs : Nat → Int32) (SR : (Nat → Nat → Int32) → (Nat → Nat → Int32) → Prop) : opOK L (RelS SR xs) 4 153 5 := by
  intro A I as hR hlen
  match as, hlen with
  | [m, f, t, g, k], _ =>
    obtain ⟨r0, r1, r2, hPR, hS⟩ := id hR
    obtain ⟨M, hM6, m1, m2, hargs, hops, hhds⟩ := id hPR
    have hl1 : ∀ q, q < 6 → ∃ n, n ≤ 4 ∧ A 27 q = nI n := fun q hq => by obtain ⟨n, h1, h2, -⟩ := hhds q hq; exact ⟨n, h1, h2⟩
    have hl2 : ∀ q, q < 6 → ∃ n, n ≤ 4 ∧ A 1686 q = nI n := fun q hq => by obtain ⟨n, h1, -, h2, -⟩ := hhds q hq; exact ⟨n, h1, h2⟩
    by_cases hok : inR m M ∧ hdP f t g k
    · obtain ⟨⟨q, hq, rfl⟩, hfit⟩ := hok
      obtain ⟨n, hn, n1, n2, -⟩ := hhds q (by omega)
      have qe : ∀ p, p < M → nI q = nI p → p = q := fun p hp e => ((nI_eq (by omega) (by omega)).mp e).symm
      by_cases h40 : n = 4
      · subst h40
        refine ⟨-4, A, I, A, I, fun Q hQ => c_handler 10 m1 hM6 hl1 (fun z => absurd ⟨⟨q, hq, rfl⟩, hfit⟩ z) (fun _ _ _ _ _ => hQ) (fun p z hp e _ hk hlt => ?_), rfl, fun Q hQ => c_mhandler 10 m2 hM6 hl2 (fun z => absurd ⟨⟨q, hq, rfl⟩, hfit⟩ z) (fun _ _ _ _ _ => hQ) (fun p z hp e _ hk hlt => ?_), hR⟩
        · have := qe p hp e
          subst this
          have := (nI_eq (by omega) (by omega)).mp (hk.symm.trans n1)
          omega
        · have := qe p hp e
          subst this
          have := (nI_eq (by omega) (by omega)).mp (hk.symm.trans n2)
          omega
      · have hlt : n < 4 := by omega
        let A1 := va_up (va_up (va_up (va_up (va_up A 28 (upd (A 28) (q * 4 + n) f)) 29 (upd (A 29) (q * 4 + n) t)) 30 (upd (A 30) (q * 4 + n) g)) 31 (upd (A 31) (q * 4 + n) k)) 27 (upd (A 27) q (nI (n + 1)))
        let I1 := va_up I 3 (upd (I 3) 7 (nI 0))
        have a1686 : A1 1686 = A 1686 := by simp [A1, va_up]
        have i1681 : I1 1681 = I 1681 := by simp [I1, va_up]
        refine ⟨nI (n + 1), A1, I1, va_up (va_up A1 1687 (upd (upd (upd (upd (A1 1687) (16 * q + 4 * n) f) (16 * q + 4 * n + 1) t) (16 * q + 4 * n + 2) g) (16 * q + 4 * n + 3) k)) 1686 (upd (A1 1686) q (nI (n + 1))), va_up I1 1681 (upd (I1 1681) 16 (nI 0)), fun Q hQ => c_handler 10 m1 hM6 hl1 (fun z => absurd ⟨⟨q, hq, rfl⟩, hfit⟩ z) (fun p hp e _ h4 => ?_) (fun p z hp e _ hk hlt => ?_), by simp [A1, va_up], fun Q hQ => c_mhandler 10 (by rw [i1681]; exact m2) hM6 (by rw [a1686]; exact hl2) (fun z => absurd ⟨⟨q, hq, rfl⟩, hfit⟩ z) (fun p hp e _ h4 => ?_) (fun p z hp e _ hk hlt => ?_), ?_⟩
        · have := qe p hp e
          subst this
          have := (nI_eq (by omega) (by omega)).mp (h4.symm.trans n1)
          omega
        · have := qe p hp e
          subst this
          have := (nI_eq (by omega) (by omega)).mp (hk.symm.trans n1)
          subst this
          exact hQ
        · have := qe p hp e
          subst this
          rw [a1686] at h4
          have := (nI_eq (by omega) (by omega)).mp (h4.symm.trans n2)
          omega
        · have := qe p hp e
          subst this
          rw [a1686] at hk
          have := (nI_eq (by omega) (by omega)).mp (hk.symm.trans n2)
          subst this
          exact hQ
        · refine ⟨by simp [A1, va_up]; exact r0, by simp [A1, va_up]; exact r1, by simp [A1, va_up]; exact r2, PR_hd (q := q) (n := n) (f := f) (t := t) (g := g) (k := k) hPR (by omega) hlt n1 hfit (by simp [A1, va_up]) (by simp [A1, va_up]) (by simp [A1, va_up]) (by simp [A1, va_up]) (by simp [A1, va_up]) (by simp [A1, va_up]) (by simp [A1, va_up]) (by simp [A1, va_up]) (by simp [A1, va_up]) (by simp [A1, va_up]) (by simp [A1, va_up]) (by simp [A1, va_up]) (by simp [A1, va_up]) (by simp [A1, va_up]) (by simp [A1, va_up]) (by simp [I1, va_up]) (by simp [I1, va_up, upd]), Or.inl ⟨?_, ?_⟩⟩
          · simp [I1, va_up, upd]
          · simp [va_up, upd]
    · exact ⟨-2, A, I, A, I, fun Q hQ => c_handler 10 m1 hM6 hl1 (fun _ => hQ) (fun p hp e hf _ => absurd ⟨⟨p, hp, e⟩, hf⟩ hok) (fun p z hp e hf _ _ => absurd ⟨⟨p, hp, e⟩, hf⟩ hok), rfl, fun Q hQ => c_mhandler 10 m2 hM6 hl2 (fun _ => hQ) (fun p hp e hf _ => absurd ⟨⟨p, hp, e⟩, hf⟩ hok) (fun p z hp e hf _ _ => absurd ⟨⟨p, hp, e⟩, hf⟩ hok), hR⟩
/-- a method more changes nothing that was searched -/
def SRm (SR : (Nat → Nat → Int32) → (Nat → Nat → Int32) → Prop) : Prop := ∀ (A I : Nat → Nat → Int32) (M : Nat) (n : Int32), SR A I → I 22 0 = nI M → I 1681 1 = nI M → M < 6 → SR (va_up (va_up A 23 (upd (A 23) M n)) 1682 (upd (A 1682) M n)) (va_up (va_up I 22 (upd (I 22) 0 (nI (M + 1)))) 1681 (upd (I 1681) 1 (nI (M + 1))))
set_option maxHeartbeats 4000000 in
/-- PROMISE 2: method and method -/
theorem ok_method (L : Nat) (xs : Nat → Int32) (SR : (Nat → Nat → Int32) → (Nat → Nat → Int32) → Prop) (hSR : SRm SR) : opOK L (RelS SR xs) 1 148 1 := by
  intro A I as hR hlen
  match as, hlen with
  | [n], _ =>
    obtain ⟨r0, r1, r2, hPR, hS⟩ := id hR
    obtain ⟨M, hM6, m1, m2, hargs, hops, hhds⟩ := id hPR
    by_cases hok : nI 0 ≤ n ∧ n ≤ nI 3
    · by_cases h6 : M = 6
      · subst h6
        exact ⟨-4, A, I, A, I, fun Q hQ => c_method 10 m1 hM6 (fun z => absurd hok z) (fun _ _ => hQ) (fun _ z => absurd z (by decide)), rfl, fun Q hQ => c_mmethod 10 m2 hM6 (fun z => absurd hok z) (fun _ _ => hQ) (fun _ z => absurd z (by decide)), hR⟩
      · have hlt : M < 6 := by omega
        have a1682 : (va_up A 23 (upd (A 23) M n)) 1682 = A 1682 := by simp [va_up]
        have i1681 : (va_up I 22 (upd (I 22) 0 (nI (M + 1)))) 1681 = I 1681 := by simp [va_up]
        refine ⟨nI M, va_up A 23 (upd (A 23) M n), va_up I 22 (upd (I 22) 0 (nI (M + 1))), va_up (va_up A 23 (upd (A 23) M n)) 1682 (upd (A 1682) M n), va_up (va_up I 22 (upd (I 22) 0 (nI (M + 1)))) 1681 (upd (I 1681) 1 (nI (M + 1))), fun Q hQ => c_method 10 m1 hM6 (fun z => absurd hok z) (fun _ z => absurd z h6) (fun _ _ => hQ), by simp [va_up], fun Q hQ => c_mmethod 10 (M := M) (by rw [i1681]; exact m2) hM6 (fun z => absurd hok z) (fun _ z => absurd z h6) (fun _ _ => by rw [a1682, i1681]; exact hQ), by simp [va_up]; exact r0, by simp [va_up]; exact r1, by simp [va_up]; exact r2, ⟨M + 1, by omega, by simp [va_up, upd], by simp [va_up, upd], ?_, ?_, ?_⟩, ?_⟩
        · intro q hq
          have e23 : (va_up (va_up A 23 (upd (A 23) M n)) 1682 (upd (A 1682) M n)) 23 = upd (A 23) M n := by simp [va_up]
          have e82 : (va_up (va_up A 23 (upd (A 23) M n)) 1682 (upd (A 1682) M n)) 1682 = upd (A 1682) M n := by simp [va_up]
          rw [e23, e82]
          by_cases hqM : q = M
          · subst hqM
            rw [pk_us, pk_us]
            obtain ⟨j, hj, e⟩ := nI_of (x := n) (Int32.not_lt.mpr hok.1)
            subst e
            exact ⟨rfl, j, by have := (nI_leI hj (by decide)).mp hok.2; omega, rfl⟩
          · rw [pk_un hqM, pk_un hqM]
            exact hargs q (by omega)
        · intro q hq
          obtain ⟨z, hz, k1, k2, k3⟩ := hops q hq
          refine ⟨z, hz, by simp [va_up]; exact k1, by simp [va_up]; exact k2, fun j hj => ?_⟩
          have := k3 j hj
          unfold prOp at this ⊢
          simpa [va_up] using this
        · intro q hq
          obtain ⟨z, hz, k1, k2, k3⟩ := hhds q hq
          refine ⟨z, hz, by simp [va_up]; exact k1, by simp [va_up]; exact k2, fun j hj => ?_⟩
          have := k3 j hj
          unfold prHd at this ⊢
          simpa [va_up] using this
        · rcases hS with ⟨s1, s2⟩ | ⟨s1, s2, s3⟩
          · exact Or.inl ⟨by simp [va_up]; exact s1, by simp [va_up, upd]; exact s2⟩
          · exact Or.inr ⟨by simp [va_up]; exact s1, by simp [va_up, upd]; exact s2, hSR A I M n s3 m1 m2 hlt⟩
    · exact ⟨-2, A, I, A, I, fun Q hQ => c_method 10 m1 hM6 (fun _ => hQ) (fun z => absurd z hok) (fun z => absurd z hok), rfl, fun Q hQ => c_mmethod 10 m2 hM6 (fun _ => hQ) (fun z => absurd z hok) (fun z => absurd z hok), hR⟩
