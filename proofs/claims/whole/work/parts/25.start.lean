/-! PATHRUNNERMODEL at 1681; the law as far as its loop -/
def md_1 (i : Nat) : Nat → Int32 := fun j => if j < i then 1 else 0
theorem md_1_0 : md_1 0 = zI := by funext j; unfold md_1 zI; rw [if_neg (by omega)]
theorem md_1_up {i : Nat} (hi : i < 2 ^ 31) : upd (md_1 i) (nI i).toNatClampNeg 1 = md_1 (i + 1) := by
  rw [nI_clamp hi]
  funext j
  unfold upd md_1
  by_cases h : j = i
  · subst h; rw [if_pos rfl, if_pos (by omega)]
  · rw [if_neg h]
    by_cases h2 : j < i
    · rw [if_pos h2, if_pos (by omega)]
    · rw [if_neg h2, if_neg (by omega)]
theorem up_same {F : Nat → bm_C} {a : Nat} {x : bm_C} (h : F a = x) : va_up F a x = F := by
  funext k
  by_cases hk : k = a
  · subst hk; rw [va_up_self, h]
  · rw [va_up_ne _ _ hk]
theorem z_iastore {d mi : Nat} {Q : bm_Q} {pc p : Nat} {ls r : List Value} {n s : Nat} {F : Nat → bm_C} {a N : Nat} {f f2 : Nat → Int32} {i x : Int32} (hi : pm_ins mi pc = some (.iastore, 1)) (e : pc + 1 = p) (h3 : 3 ≤ a) (ha : a < n) (hc : F a = .inl (0, N, f)) (hin : vp_in i N) (hf : upd f i.toNatClampNeg x = f2) (k : bm_W (bm_M d) mi Q p ls r (n, s, va_up F a (.inl (0, N, f2)))) : bm_W (bm_M d) mi Q pc ls (.int x :: .int i :: .ref a :: r) (n, s, F) := by
  subst hf
  exact w_iastore hi e h3 ha hc hin k
def mdA (F : Nat → bm_C) (x : Int32) : Nat → bm_C := va_up (va_up (va_up (va_up (va_up (va_up (va_up (va_up (va_up (va_up (va_up (va_up (va_up (va_up (va_up (va_up (va_up (va_up (va_up (va_up (va_up (va_up (va_up (va_up (va_up (va_up (va_up (va_up (va_up (va_up (va_up (va_up (va_up (va_up (va_up (va_up (va_up (va_up (va_up (va_up (va_up (va_up (va_up (va_up (va_up F 1682 (.inl (0, 6, zI))) 1681 (.inr (.inr (10, [.int 0, .int 0, .ref 1682, .null, .null, .null, .null, .null, .null, .null, .null, .null, .null, .null, .null, .int 0, .int 0, .int 0, .int 0, .int 0, .null, .int 0, .int 0, .null, .int 0, .int 0, .int 0, .null, .null, .null, .int 0, .int 0, .null, .null, .int 0, .int 0, .int 0, .int 0, .int 0, .int 0, .null, .null])))) 1683 (.inl (0, 6, zI))) 1681 (.inr (.inr (10, [.int 0, .int 0, .ref 1682, .ref 1683, .null, .null, .null, .null, .null, .null, .null, .null, .null, .null, .null, .int 0, .int 0, .int 0, .int 0, .int 0, .null, .int 0, .int 0, .null, .int 0, .int 0, .int 0, .null, .null, .null, .int 0, .int 0, .null, .null, .int 0, .int 0, .int 0, .int 0, .int 0, .int 0, .null, .null])))) 1684 (.inl (0, 240, zI))) 1681 (.inr (.inr (10, [.int 0, .int 0, .ref 1682, .ref 1683, .ref 1684, .null, .null, .null, .null, .null, .null, .null, .null, .null, .null, .int 0, .int 0, .int 0, .int 0, .int 0, .null, .int 0, .int 0, .null, .int 0, .int 0, .int 0, .null, .null, .null, .int 0, .int 0, .null, .null, .int 0, .int 0, .int 0, .int 0, .int 0, .int 0, .null, .null])))) 1685 (.inl (0, 240, zI))) 1681 (.inr (.inr (10, [.int 0, .int 0, .ref 1682, .ref 1683, .ref 1684, .ref 1685, .null, .null, .null, .null, .null, .null, .null, .null, .null, .int 0, .int 0, .int 0, .int 0, .int 0, .null, .int 0, .int 0, .null, .int 0, .int 0, .int 0, .null, .null, .null, .int 0, .int 0, .null, .null, .int 0, .int 0, .int 0, .int 0, .int 0, .int 0, .null, .null])))) 1686 (.inl (0, 6, zI))) 1681 (.inr (.inr (10, [.int 0, .int 0, .ref 1682, .ref 1683, .ref 1684, .ref 1685, .ref 1686, .null, .null, .null, .null, .null, .null, .null, .null, .int 0, .int 0, .int 0, .int 0, .int 0, .null, .int 0, .int 0, .null, .int 0, .int 0, .int 0, .null, .null, .null, .int 0, .int 0, .null, .null, .int 0, .int 0, .int 0, .int 0, .int 0, .int 0, .null, .null])))) 1687 (.inl (0, 96, zI))) 1681 (.inr (.inr (10, [.int 0, .int 0, .ref 1682, .ref 1683, .ref 1684, .ref 1685, .ref 1686, .ref 1687, .null, .null, .null, .null, .null, .null, .null, .int 0, .int 0, .int 0, .int 0, .int 0, .null, .int 0, .int 0, .null, .int 0, .int 0, .int 0, .null, .null, .null, .int 0, .int 0, .null, .null, .int 0, .int 0, .int 0, .int 0, .int 0, .int 0, .null, .null])))) 1688 (.inl (0, 88400, zI))) 1681 (.inr (.inr (10, [.int 0, .int 0, .ref 1682, .ref 1683, .ref 1684, .ref 1685, .ref 1686, .ref 1687, .ref 1688, .null, .null, .null, .null, .null, .null, .int 0, .int 0, .int 0, .int 0, .int 0, .null, .int 0, .int 0, .null, .int 0, .int 0, .int 0, .null, .null, .null, .int 0, .int 0, .null, .null, .int 0, .int 0, .int 0, .int 0, .int 0, .int 0, .null, .null])))) 1689 (.inl (1, 174080, zI))) 1681 (.inr (.inr (10, [.int 0, .int 0, .ref 1682, .ref 1683, .ref 1684, .ref 1685, .ref 1686, .ref 1687, .ref 1688, .ref 1689, .null, .null, .null, .null, .null, .int 0, .int 0, .int 0, .int 0, .int 0, .null, .int 0, .int 0, .null, .int 0, .int 0, .int 0, .null, .null, .null, .int 0, .int 0, .null, .null, .int 0, .int 0, .int 0, .int 0, .int 0, .int 0, .null, .null])))) 1690 (.inl (2, 170, zI))) 1681 (.inr (.inr (10, [.int 0, .int 0, .ref 1682, .ref 1683, .ref 1684, .ref 1685, .ref 1686, .ref 1687, .ref 1688, .ref 1689, .ref 1690, .null, .null, .null, .null, .int 0, .int 0, .int 0, .int 0, .int 0, .null, .int 0, .int 0, .null, .int 0, .int 0, .int 0, .null, .null, .null, .int 0, .int 0, .null, .null, .int 0, .int 0, .int 0, .int 0, .int 0, .int 0, .null, .null])))) 1691 (.inl (0, 45000, zI))) 1681 (.inr (.inr (10, [.int 0, .int 0, .ref 1682, .ref 1683, .ref 1684, .ref 1685, .ref 1686, .ref 1687, .ref 1688, .ref 1689, .ref 1690, .ref 1691, .null, .null, .null, .int 0, .int 0, .int 0, .int 0, .int 0, .null, .int 0, .int 0, .null, .int 0, .int 0, .int 0, .null, .null, .null, .int 0, .int 0, .null, .null, .int 0, .int 0, .int 0, .int 0, .int 0, .int 0, .null, .null])))) 1692 (.inl (0, 45000, zI))) 1681 (.inr (.inr (10, [.int 0, .int 0, .ref 1682, .ref 1683, .ref 1684, .ref 1685, .ref 1686, .ref 1687, .ref 1688, .ref 1689, .ref 1690, .ref 1691, .ref 1692, .null, .null, .int 0, .int 0, .int 0, .int 0, .int 0, .null, .int 0, .int 0, .null, .int 0, .int 0, .int 0, .null, .null, .null, .int 0, .int 0, .null, .null, .int 0, .int 0, .int 0, .int 0, .int 0, .int 0, .null, .null])))) 1693 (.inl (0, 45000, zI))) 1681 (.inr (.inr (10, [.int 0, .int 0, .ref 1682, .ref 1683, .ref 1684, .ref 1685, .ref 1686, .ref 1687, .ref 1688, .ref 1689, .ref 1690, .ref 1691, .ref 1692, .ref 1693, .null, .int 0, .int 0, .int 0, .int 0, .int 0, .null, .int 0, .int 0, .null, .int 0, .int 0, .int 0, .null, .null, .null, .int 0, .int 0, .null, .null, .int 0, .int 0, .int 0, .int 0, .int 0, .int 0, .null, .null])))) 1694 (.inl (0, 45000, zI))) 1681 (.inr (.inr (10, [.int 0, .int 0, .ref 1682, .ref 1683, .ref 1684, .ref 1685, .ref 1686, .ref 1687, .ref 1688, .ref 1689, .ref 1690, .ref 1691, .ref 1692, .ref 1693, .ref 1694, .int 0, .int 0, .int 0, .int 0, .int 0, .null, .int 0, .int 0, .null, .int 0, .int 0, .int 0, .null, .null, .null, .int 0, .int 0, .null, .null, .int 0, .int 0, .int 0, .int 0, .int 0, .int 0, .null, .null])))) 1695 (.inl (0, 60, zI))) 1681 (.inr (.inr (10, [.int 0, .int 0, .ref 1682, .ref 1683, .ref 1684, .ref 1685, .ref 1686, .ref 1687, .ref 1688, .ref 1689, .ref 1690, .ref 1691, .ref 1692, .ref 1693, .ref 1694, .int 0, .int 0, .int 0, .int 0, .int 0, .ref 1695, .int 0, .int 0, .null, .int 0, .int 0, .int 0, .null, .null, .null, .int 0, .int 0, .null, .null, .int 0, .int 0, .int 0, .int 0, .int 0, .int 0, .null, .null])))) 1696 (.inl (0, 100, zI))) 1681 (.inr (.inr (10, [.int 0, .int 0, .ref 1682, .ref 1683, .ref 1684, .ref 1685, .ref 1686, .ref 1687, .ref 1688, .ref 1689, .ref 1690, .ref 1691, .ref 1692, .ref 1693, .ref 1694, .int 0, .int 0, .int 0, .int 0, .int 0, .ref 1695, .int 0, .int 0, .ref 1696, .int 0, .int 0, .int 0, .null, .null, .null, .int 0, .int 0, .null, .null, .int 0, .int 0, .int 0, .int 0, .int 0, .int 0, .null, .null])))) 1697 (.inl (0, 30, zI))) 1681 (.inr (.inr (10, [.int 0, .int 0, .ref 1682, .ref 1683, .ref 1684, .ref 1685, .ref 1686, .ref 1687, .ref 1688, .ref 1689, .ref 1690, .ref 1691, .ref 1692, .ref 1693, .ref 1694, .int 0, .int 0, .int 0, .int 0, .int 0, .ref 1695, .int 0, .int 0, .ref 1696, .int 0, .int 0, .int 0, .ref 1697, .null, .null, .int 0, .int 0, .null, .null, .int 0, .int 0, .int 0, .int 0, .int 0, .int 0, .null, .null])))) 1698 (.inl (0, 30, zI))) 1681 (.inr (.inr (10, [.int 0, .int 0, .ref 1682, .ref 1683, .ref 1684, .ref 1685, .ref 1686, .ref 1687, .ref 1688, .ref 1689, .ref 1690, .ref 1691, .ref 1692, .ref 1693, .ref 1694, .int 0, .int 0, .int 0, .int 0, .int 0, .ref 1695, .int 0, .int 0, .ref 1696, .int 0, .int 0, .int 0, .ref 1697, .ref 1698, .null, .int 0, .int 0, .null, .null, .int 0, .int 0, .int 0, .int 0, .int 0, .int 0, .null, .null])))) 1699 (.inl (0, 240, zI))) 1681 (.inr (.inr (10, [.int 0, .int 0, .ref 1682, .ref 1683, .ref 1684, .ref 1685, .ref 1686, .ref 1687, .ref 1688, .ref 1689, .ref 1690, .ref 1691, .ref 1692, .ref 1693, .ref 1694, .int 0, .int 0, .int 0, .int 0, .int 0, .ref 1695, .int 0, .int 0, .ref 1696, .int 0, .int 0, .int 0, .ref 1697, .ref 1698, .ref 1699, .int 0, .int 0, .null, .null, .int 0, .int 0, .int 0, .int 0, .int 0, .int 0, .null, .null])))) 1700 (.inl (0, 130, zI))) 1681 (.inr (.inr (10, [.int 0, .int 0, .ref 1682, .ref 1683, .ref 1684, .ref 1685, .ref 1686, .ref 1687, .ref 1688, .ref 1689, .ref 1690, .ref 1691, .ref 1692, .ref 1693, .ref 1694, .int 0, .int 0, .int 0, .int 0, .int 0, .ref 1695, .int 0, .int 0, .ref 1696, .int 0, .int 0, .int 0, .ref 1697, .ref 1698, .ref 1699, .int 0, .int 0, .ref 1700, .null, .int 0, .int 0, .int 0, .int 0, .int 0, .int 0, .null, .null])))) 1701 (.inl (0, 61, zI))) 1681 (.inr (.inr (10, [.int 0, .int 0, .ref 1682, .ref 1683, .ref 1684, .ref 1685, .ref 1686, .ref 1687, .ref 1688, .ref 1689, .ref 1690, .ref 1691, .ref 1692, .ref 1693, .ref 1694, .int 0, .int 0, .int 0, .int 0, .int 0, .ref 1695, .int 0, .int 0, .ref 1696, .int 0, .int 0, .int 0, .ref 1697, .ref 1698, .ref 1699, .int 0, .int 0, .ref 1700, .ref 1701, .int 0, .int 0, .int 0, .int 0, .int 0, .int 0, .null, .null])))) 1702 (.inl (0, 1024, zI))) 1681 (.inr (.inr (10, [.int 0, .int 0, .ref 1682, .ref 1683, .ref 1684, .ref 1685, .ref 1686, .ref 1687, .ref 1688, .ref 1689, .ref 1690, .ref 1691, .ref 1692, .ref 1693, .ref 1694, .int 0, .int 0, .int 0, .int 0, .int 0, .ref 1695, .int 0, .int 0, .ref 1696, .int 0, .int 0, .int 0, .ref 1697, .ref 1698, .ref 1699, .int 0, .int 0, .ref 1700, .ref 1701, .int 0, .int 0, .int 0, .int 0, .int 0, .int 0, .ref 1702, .null])))) 1703 (.inl (0, 1024, zI))) 1681 (.inr (.inr (10, [.int 0, .int 0, .ref 1682, .ref 1683, .ref 1684, .ref 1685, .ref 1686, .ref 1687, .ref 1688, .ref 1689, .ref 1690, .ref 1691, .ref 1692, .ref 1693, .ref 1694, .int 0, .int 0, .int 0, .int 0, .int 0, .ref 1695, .int 0, .int 0, .ref 1696, .int 0, .int 0, .int 0, .ref 1697, .ref 1698, .ref 1699, .int 0, .int 0, .ref 1700, .ref 1701, .int 0, .int 0, .int 0, .int 0, .int 0, .int 0, .ref 1702, .ref 1703])))) 1681 (.inr (.inr (10, [.int x, .int 0, .ref 1682, .ref 1683, .ref 1684, .ref 1685, .ref 1686, .ref 1687, .ref 1688, .ref 1689, .ref 1690, .ref 1691, .ref 1692, .ref 1693, .ref 1694, .int 0, .int 0, .int 0, .int 0, .int 0, .ref 1695, .int 0, .int 0, .ref 1696, .int 0, .int 0, .int 0, .ref 1697, .ref 1698, .ref 1699, .int 0, .int 0, .ref 1700, .ref 1701, .int 0, .int 0, .int 0, .int 0, .int 0, .int 0, .ref 1702, .ref 1703])))
theorem mdA_1681 (F : Nat → bm_C) (x : Int32) : mdA F x 1681 = .inr (.inr (10, [.int x, .int 0, .ref 1682, .ref 1683, .ref 1684, .ref 1685, .ref 1686, .ref 1687, .ref 1688, .ref 1689, .ref 1690, .ref 1691, .ref 1692, .ref 1693, .ref 1694, .int 0, .int 0, .int 0, .int 0, .int 0, .ref 1695, .int 0, .int 0, .ref 1696, .int 0, .int 0, .int 0, .ref 1697, .ref 1698, .ref 1699, .int 0, .int 0, .ref 1700, .ref 1701, .int 0, .int 0, .int 0, .int 0, .int 0, .int 0, .ref 1702, .ref 1703])) := up_here
theorem mdA_1694 (F : Nat → bm_C) (x : Int32) : mdA F x 1694 = .inl (0, 45000, zI) := (up_old (up_old (up_old (up_old (up_old (up_old (up_old (up_old (up_old (up_old (up_old (up_old (up_old (up_old (up_old (up_old (up_old (up_old (up_old (up_old up_here (by decide)) (by decide)) (by decide)) (by decide)) (by decide)) (by decide)) (by decide)) (by decide)) (by decide)) (by decide)) (by decide)) (by decide)) (by decide)) (by decide)) (by decide)) (by decide)) (by decide)) (by decide)) (by decide)) (by decide))
def mdN (F : Nat → bm_C) (x : Int32) : Nat → bm_C := va_up (va_up (mdA F x) 1694 (.inl (0, 45000, md_1 258))) 1681 (.inr (.inr (10, [.int x, .int 0, .ref 1682, .ref 1683, .ref 1684, .ref 1685, .ref 1686, .ref 1687, .ref 1688, .ref 1689, .ref 1690, .ref 1691, .ref 1692, .ref 1693, .ref 1694, .int 258, .int 0, .int 0, .int 0, .int 0, .ref 1695, .int 0, .int 0, .ref 1696, .int 0, .int 0, .int 0, .ref 1697, .ref 1698, .ref 1699, .int 0, .int 0, .ref 1700, .ref 1701, .int 0, .int 0, .int 0, .int 0, .int 0, .int 0, .ref 1702, .ref 1703])))
theorem md_loop (d s : Nat) {F : Nat → bm_C} {Q : bm_Q} {x : Int32} (hQ : Q none (1704, s, mdN F x)) : ∀ (m i : Nat), i + m = 258 → bm_W (bm_M d) 147 Q 194 [.ref 1681, .int x, .int (nI i)] [] (1704, s, va_up (mdA F x) 1694 (.inl (0, 45000, md_1 i))) := by
  intro m
  induction m with
  | zero =>
    intro i hi
    obtain rfl : i = 258 := by omega
    refine w_iload_n (p := 195) (pI pM_147 rfl) rfl rfl ?_
    refine w_sipush (p := 198) (v := nI 258) (pI pM_147 rfl) rfl rfl ?_
    refine w_icmp_ge (p := 201) (q := 214) (pI pM_147 rfl) rfl rfl rfl (fun c_1 => ?_) (fun c_1 => ?_)
    · refine w_aload_n (p := 215) (pI pM_147 rfl) rfl rfl ?_
      refine w_sipush (p := 218) (v := 258) (pI pM_147 rfl) rfl (by decide) ?_
      refine z_putfield (p := 221) (a := 1681) (fs := [.int x, .int 0, .ref 1682, .ref 1683, .ref 1684, .ref 1685, .ref 1686, .ref 1687, .ref 1688, .ref 1689, .ref 1690, .ref 1691, .ref 1692, .ref 1693, .ref 1694, .int 0, .int 0, .int 0, .int 0, .int 0, .ref 1695, .int 0, .int 0, .ref 1696, .int 0, .int 0, .int 0, .ref 1697, .ref 1698, .ref 1699, .int 0, .int 0, .ref 1700, .ref 1701, .int 0, .int 0, .int 0, .int 0, .int 0, .int 0, .ref 1702, .ref 1703]) (fs2 := [.int x, .int 0, .ref 1682, .ref 1683, .ref 1684, .ref 1685, .ref 1686, .ref 1687, .ref 1688, .ref 1689, .ref 1690, .ref 1691, .ref 1692, .ref 1693, .ref 1694, .int 258, .int 0, .int 0, .int 0, .int 0, .ref 1695, .int 0, .int 0, .ref 1696, .int 0, .int 0, .int 0, .ref 1697, .ref 1698, .ref 1699, .int 0, .int 0, .ref 1700, .ref 1701, .int 0, .int 0, .int 0, .int 0, .int 0, .int 0, .ref 1702, .ref 1703]) (pI pM_147 rfl) rfl rfl rfl (by decide) (by decide) rfl (up_old (mdA_1681 F x) (by decide)) rfl rfl rfl rfl (Or.inl rfl) rfl ?_
      exact w_return (pI pM_147 rfl) rfl hQ
    · exact absurd (Int32.le_refl _) c_1
  | succ m ih =>
    intro i hi
    have hi8 : i < 258 := by omega
    refine w_iload_n (p := 195) (pI pM_147 rfl) rfl rfl ?_
    refine w_sipush (p := 198) (v := nI 258) (pI pM_147 rfl) rfl rfl ?_
    refine w_icmp_ge (p := 201) (q := 214) (pI pM_147 rfl) rfl rfl rfl (fun c_1 => ?_) (fun c_1 => ?_)
    · exact absurd c_1 (nI_ge hi8 (by decide))
    · refine w_aload_n (p := 202) (pI pM_147 rfl) rfl rfl ?_
      refine z_getfield (p := 205) (fs := [.int x, .int 0, .ref 1682, .ref 1683, .ref 1684, .ref 1685, .ref 1686, .ref 1687, .ref 1688, .ref 1689, .ref 1690, .ref 1691, .ref 1692, .ref 1693, .ref 1694, .int 0, .int 0, .int 0, .int 0, .int 0, .ref 1695, .int 0, .int 0, .ref 1696, .int 0, .int 0, .int 0, .ref 1697, .ref 1698, .ref 1699, .int 0, .int 0, .ref 1700, .ref 1701, .int 0, .int 0, .int 0, .int 0, .int 0, .int 0, .ref 1702, .ref 1703]) (pI pM_147 rfl) rfl rfl rfl (by decide) (by decide) (up_old (mdA_1681 F x) (by decide)) rfl ?_
      refine w_iload_n (p := 206) (pI pM_147 rfl) rfl rfl ?_
      refine w_iconst (p := 207) (v := 1) (pI pM_147 rfl) rfl rfl ?_
      refine z_iastore (p := 208) (pI pM_147 rfl) rfl (by decide) (by decide) up_here (vp_in_nI (by omega) (by decide)) (md_1_up (by omega)) ?_
      rw [bx_uu]
      refine w_iinc (p := 211) (v := nI (i + 1)) (pI pM_147 rfl) rfl rfl (by rw [← nI_1]; rfl) rfl ?_
      refine w_goto (p := 194) (pI pM_147 rfl) rfl rfl ?_
      exact ih (i + 1) (by omega)
theorem k_Model (d : Nat) {s : Nat} {F : Nat → bm_C} {Q : bm_Q} {x : Int32} (hc : F 1681 = .inr (.inr (10, [.int 0, .int 0, .null, .null, .null, .null, .null, .null, .null, .null, .null, .null, .null, .null, .null, .int 0, .int 0, .int 0, .int 0, .int 0, .null, .int 0, .int 0, .null, .int 0, .int 0, .int 0, .null, .null, .null, .int 0, .int 0, .null, .null, .int 0, .int 0, .int 0, .int 0, .int 0, .int 0, .null, .null]))) (hQ : Q none (1704, s + 6 + 6 + 240 + 240 + 6 + 96 + 88400 + 174080 + 170 + 45000 + 45000 + 45000 + 45000 + 60 + 100 + 30 + 30 + 240 + 130 + 61 + 1024 + 1024, mdN F x)) : bm_M (d + 1) 147 [.ref 1681, .int x] (1682, s, F) Q := by
  refine bw_enter rfl rfl rfl rfl ?_
  refine w_aload_n (p := 1) (pI pM_147 rfl) rfl rfl ?_
  refine w_objinit (p := 4) (pI pM_147 rfl) rfl rfl rfl rfl rfl ?_
  refine w_aload_n (p := 5) (pI pM_147 rfl) rfl rfl ?_
  refine w_bipush (p := 7) (v := 6) (pI pM_147 rfl) rfl (by decide) ?_
  refine z_newarray (p := 9) (N := 6) (t := 0) (pI pM_147 rfl) rfl rfl rfl rfl rfl ?_
  refine z_putfield (p := 12) (a := 1681) (fs := [.int 0, .int 0, .null, .null, .null, .null, .null, .null, .null, .null, .null, .null, .null, .null, .null, .int 0, .int 0, .int 0, .int 0, .int 0, .null, .int 0, .int 0, .null, .int 0, .int 0, .int 0, .null, .null, .null, .int 0, .int 0, .null, .null, .int 0, .int 0, .int 0, .int 0, .int 0, .int 0, .null, .null]) (fs2 := [.int 0, .int 0, .ref 1682, .null, .null, .null, .null, .null, .null, .null, .null, .null, .null, .null, .null, .int 0, .int 0, .int 0, .int 0, .int 0, .null, .int 0, .int 0, .null, .int 0, .int 0, .int 0, .null, .null, .null, .int 0, .int 0, .null, .null, .int 0, .int 0, .int 0, .int 0, .int 0, .int 0, .null, .null]) (pI pM_147 rfl) rfl rfl rfl (by decide) (by decide) rfl (up_old hc (by decide)) rfl rfl rfl rfl (Or.inr ⟨rfl, rfl, rfl⟩) rfl ?_
  refine w_aload_n (p := 13) (pI pM_147 rfl) rfl rfl ?_
  refine w_bipush (p := 15) (v := 6) (pI pM_147 rfl) rfl (by decide) ?_
  refine z_newarray (p := 17) (N := 6) (t := 0) (pI pM_147 rfl) rfl rfl rfl rfl rfl ?_
  refine z_putfield (p := 20) (a := 1681) (fs := [.int 0, .int 0, .ref 1682, .null, .null, .null, .null, .null, .null, .null, .null, .null, .null, .null, .null, .int 0, .int 0, .int 0, .int 0, .int 0, .null, .int 0, .int 0, .null, .int 0, .int 0, .int 0, .null, .null, .null, .int 0, .int 0, .null, .null, .int 0, .int 0, .int 0, .int 0, .int 0, .int 0, .null, .null]) (fs2 := [.int 0, .int 0, .ref 1682, .ref 1683, .null, .null, .null, .null, .null, .null, .null, .null, .null, .null, .null, .int 0, .int 0, .int 0, .int 0, .int 0, .null, .int 0, .int 0, .null, .int 0, .int 0, .int 0, .null, .null, .null, .int 0, .int 0, .null, .null, .int 0, .int 0, .int 0, .int 0, .int 0, .int 0, .null, .null]) (pI pM_147 rfl) rfl rfl rfl (by decide) (by decide) rfl (up_old up_here (by decide)) rfl rfl rfl rfl (Or.inr ⟨rfl, rfl, rfl⟩) rfl ?_
  refine w_aload_n (p := 21) (pI pM_147 rfl) rfl rfl ?_
  refine w_sipush (p := 24) (v := 240) (pI pM_147 rfl) rfl (by decide) ?_
  refine z_newarray (p := 26) (N := 240) (t := 0) (pI pM_147 rfl) rfl rfl rfl rfl rfl ?_
  refine z_putfield (p := 29) (a := 1681) (fs := [.int 0, .int 0, .ref 1682, .ref 1683, .null, .null, .null, .null, .null, .null, .null, .null, .null, .null, .null, .int 0, .int 0, .int 0, .int 0, .int 0, .null, .int 0, .int 0, .null, .int 0, .int 0, .int 0, .null, .null, .null, .int 0, .int 0, .null, .null, .int 0, .int 0, .int 0, .int 0, .int 0, .int 0, .null, .null]) (fs2 := [.int 0, .int 0, .ref 1682, .ref 1683, .ref 1684, .null, .null, .null, .null, .null, .null, .null, .null, .null, .null, .int 0, .int 0, .int 0, .int 0, .int 0, .null, .int 0, .int 0, .null, .int 0, .int 0, .int 0, .null, .null, .null, .int 0, .int 0, .null, .null, .int 0, .int 0, .int 0, .int 0, .int 0, .int 0, .null, .null]) (pI pM_147 rfl) rfl rfl rfl (by decide) (by decide) rfl (up_old up_here (by decide)) rfl rfl rfl rfl (Or.inr ⟨rfl, rfl, rfl⟩) rfl ?_
  refine w_aload_n (p := 30) (pI pM_147 rfl) rfl rfl ?_
  refine w_sipush (p := 33) (v := 240) (pI pM_147 rfl) rfl (by decide) ?_
  refine z_newarray (p := 35) (N := 240) (t := 0) (pI pM_147 rfl) rfl rfl rfl rfl rfl ?_
  refine z_putfield (p := 38) (a := 1681) (fs := [.int 0, .int 0, .ref 1682, .ref 1683, .ref 1684, .null, .null, .null, .null, .null, .null, .null, .null, .null, .null, .int 0, .int 0, .int 0, .int 0, .int 0, .null, .int 0, .int 0, .null, .int 0, .int 0, .int 0, .null, .null, .null, .int 0, .int 0, .null, .null, .int 0, .int 0, .int 0, .int 0, .int 0, .int 0, .null, .null]) (fs2 := [.int 0, .int 0, .ref 1682, .ref 1683, .ref 1684, .ref 1685, .null, .null, .null, .null, .null, .null, .null, .null, .null, .int 0, .int 0, .int 0, .int 0, .int 0, .null, .int 0, .int 0, .null, .int 0, .int 0, .int 0, .null, .null, .null, .int 0, .int 0, .null, .null, .int 0, .int 0, .int 0, .int 0, .int 0, .int 0, .null, .null]) (pI pM_147 rfl) rfl rfl rfl (by decide) (by decide) rfl (up_old up_here (by decide)) rfl rfl rfl rfl (Or.inr ⟨rfl, rfl, rfl⟩) rfl ?_
  refine w_aload_n (p := 39) (pI pM_147 rfl) rfl rfl ?_
  refine w_bipush (p := 41) (v := 6) (pI pM_147 rfl) rfl (by decide) ?_
  refine z_newarray (p := 43) (N := 6) (t := 0) (pI pM_147 rfl) rfl rfl rfl rfl rfl ?_
  refine z_putfield (p := 46) (a := 1681) (fs := [.int 0, .int 0, .ref 1682, .ref 1683, .ref 1684, .ref 1685, .null, .null, .null, .null, .null, .null, .null, .null, .null, .int 0, .int 0, .int 0, .int 0, .int 0, .null, .int 0, .int 0, .null, .int 0, .int 0, .int 0, .null, .null, .null, .int 0, .int 0, .null, .null, .int 0, .int 0, .int 0, .int 0, .int 0, .int 0, .null, .null]) (fs2 := [.int 0, .int 0, .ref 1682, .ref 1683, .ref 1684, .ref 1685, .ref 1686, .null, .null, .null, .null, .null, .null, .null, .null, .int 0, .int 0, .int 0, .int 0, .int 0, .null, .int 0, .int 0, .null, .int 0, .int 0, .int 0, .null, .null, .null, .int 0, .int 0, .null, .null, .int 0, .int 0, .int 0, .int 0, .int 0, .int 0, .null, .null]) (pI pM_147 rfl) rfl rfl rfl (by decide) (by decide) rfl (up_old up_here (by decide)) rfl rfl rfl rfl (Or.inr ⟨rfl, rfl, rfl⟩) rfl ?_
  refine w_aload_n (p := 47) (pI pM_147 rfl) rfl rfl ?_
  refine w_bipush (p := 49) (v := 96) (pI pM_147 rfl) rfl (by decide) ?_
  refine z_newarray (p := 51) (N := 96) (t := 0) (pI pM_147 rfl) rfl rfl rfl rfl rfl ?_
  refine z_putfield (p := 54) (a := 1681) (fs := [.int 0, .int 0, .ref 1682, .ref 1683, .ref 1684, .ref 1685, .ref 1686, .null, .null, .null, .null, .null, .null, .null, .null, .int 0, .int 0, .int 0, .int 0, .int 0, .null, .int 0, .int 0, .null, .int 0, .int 0, .int 0, .null, .null, .null, .int 0, .int 0, .null, .null, .int 0, .int 0, .int 0, .int 0, .int 0, .int 0, .null, .null]) (fs2 := [.int 0, .int 0, .ref 1682, .ref 1683, .ref 1684, .ref 1685, .ref 1686, .ref 1687, .null, .null, .null, .null, .null, .null, .null, .int 0, .int 0, .int 0, .int 0, .int 0, .null, .int 0, .int 0, .null, .int 0, .int 0, .int 0, .null, .null, .null, .int 0, .int 0, .null, .null, .int 0, .int 0, .int 0, .int 0, .int 0, .int 0, .null, .null]) (pI pM_147 rfl) rfl rfl rfl (by decide) (by decide) rfl (up_old up_here (by decide)) rfl rfl rfl rfl (Or.inr ⟨rfl, rfl, rfl⟩) rfl ?_
  refine w_aload_n (p := 55) (pI pM_147 rfl) rfl rfl ?_
  refine w_ldc (p := 57) (v := 88400) (pI pM_147 rfl) rfl rfl rfl ?_
  refine z_newarray (p := 59) (N := 88400) (t := 0) (pI pM_147 rfl) rfl rfl rfl rfl rfl ?_
  refine z_putfield (p := 62) (a := 1681) (fs := [.int 0, .int 0, .ref 1682, .ref 1683, .ref 1684, .ref 1685, .ref 1686, .ref 1687, .null, .null, .null, .null, .null, .null, .null, .int 0, .int 0, .int 0, .int 0, .int 0, .null, .int 0, .int 0, .null, .int 0, .int 0, .int 0, .null, .null, .null, .int 0, .int 0, .null, .null, .int 0, .int 0, .int 0, .int 0, .int 0, .int 0, .null, .null]) (fs2 := [.int 0, .int 0, .ref 1682, .ref 1683, .ref 1684, .ref 1685, .ref 1686, .ref 1687, .ref 1688, .null, .null, .null, .null, .null, .null, .int 0, .int 0, .int 0, .int 0, .int 0, .null, .int 0, .int 0, .null, .int 0, .int 0, .int 0, .null, .null, .null, .int 0, .int 0, .null, .null, .int 0, .int 0, .int 0, .int 0, .int 0, .int 0, .null, .null]) (pI pM_147 rfl) rfl rfl rfl (by decide) (by decide) rfl (up_old up_here (by decide)) rfl rfl rfl rfl (Or.inr ⟨rfl, rfl, rfl⟩) rfl ?_
  refine w_aload_n (p := 63) (pI pM_147 rfl) rfl rfl ?_
  refine w_ldc (p := 65) (v := 174080) (pI pM_147 rfl) rfl rfl rfl ?_
  refine z_newarray (p := 67) (N := 174080) (t := 1) (pI pM_147 rfl) rfl rfl rfl rfl rfl ?_
  refine z_putfield (p := 70) (a := 1681) (fs := [.int 0, .int 0, .ref 1682, .ref 1683, .ref 1684, .ref 1685, .ref 1686, .ref 1687, .ref 1688, .null, .null, .null, .null, .null, .null, .int 0, .int 0, .int 0, .int 0, .int 0, .null, .int 0, .int 0, .null, .int 0, .int 0, .int 0, .null, .null, .null, .int 0, .int 0, .null, .null, .int 0, .int 0, .int 0, .int 0, .int 0, .int 0, .null, .null]) (fs2 := [.int 0, .int 0, .ref 1682, .ref 1683, .ref 1684, .ref 1685, .ref 1686, .ref 1687, .ref 1688, .ref 1689, .null, .null, .null, .null, .null, .int 0, .int 0, .int 0, .int 0, .int 0, .null, .int 0, .int 0, .null, .int 0, .int 0, .int 0, .null, .null, .null, .int 0, .int 0, .null, .null, .int 0, .int 0, .int 0, .int 0, .int 0, .int 0, .null, .null]) (pI pM_147 rfl) rfl rfl rfl (by decide) (by decide) rfl (up_old up_here (by decide)) rfl rfl rfl rfl (Or.inr ⟨rfl, rfl, rfl⟩) rfl ?_
  refine w_aload_n (p := 71) (pI pM_147 rfl) rfl rfl ?_
  refine w_sipush (p := 74) (v := 170) (pI pM_147 rfl) rfl (by decide) ?_
  refine z_newarray (p := 76) (N := 170) (t := 2) (pI pM_147 rfl) rfl rfl rfl rfl rfl ?_
  refine z_putfield (p := 79) (a := 1681) (fs := [.int 0, .int 0, .ref 1682, .ref 1683, .ref 1684, .ref 1685, .ref 1686, .ref 1687, .ref 1688, .ref 1689, .null, .null, .null, .null, .null, .int 0, .int 0, .int 0, .int 0, .int 0, .null, .int 0, .int 0, .null, .int 0, .int 0, .int 0, .null, .null, .null, .int 0, .int 0, .null, .null, .int 0, .int 0, .int 0, .int 0, .int 0, .int 0, .null, .null]) (fs2 := [.int 0, .int 0, .ref 1682, .ref 1683, .ref 1684, .ref 1685, .ref 1686, .ref 1687, .ref 1688, .ref 1689, .ref 1690, .null, .null, .null, .null, .int 0, .int 0, .int 0, .int 0, .int 0, .null, .int 0, .int 0, .null, .int 0, .int 0, .int 0, .null, .null, .null, .int 0, .int 0, .null, .null, .int 0, .int 0, .int 0, .int 0, .int 0, .int 0, .null, .null]) (pI pM_147 rfl) rfl rfl rfl (by decide) (by decide) rfl (up_old up_here (by decide)) rfl rfl rfl rfl (Or.inr ⟨rfl, rfl, rfl⟩) rfl ?_
  refine w_aload_n (p := 80) (pI pM_147 rfl) rfl rfl ?_
  refine w_ldc (p := 82) (v := 45000) (pI pM_147 rfl) rfl rfl rfl ?_
  refine z_newarray (p := 84) (N := 45000) (t := 0) (pI pM_147 rfl) rfl rfl rfl rfl rfl ?_
  refine z_putfield (p := 87) (a := 1681) (fs := [.int 0, .int 0, .ref 1682, .ref 1683, .ref 1684, .ref 1685, .ref 1686, .ref 1687, .ref 1688, .ref 1689, .ref 1690, .null, .null, .null, .null, .int 0, .int 0, .int 0, .int 0, .int 0, .null, .int 0, .int 0, .null, .int 0, .int 0, .int 0, .null, .null, .null, .int 0, .int 0, .null, .null, .int 0, .int 0, .int 0, .int 0, .int 0, .int 0, .null, .null]) (fs2 := [.int 0, .int 0, .ref 1682, .ref 1683, .ref 1684, .ref 1685, .ref 1686, .ref 1687, .ref 1688, .ref 1689, .ref 1690, .ref 1691, .null, .null, .null, .int 0, .int 0, .int 0, .int 0, .int 0, .null, .int 0, .int 0, .null, .int 0, .int 0, .int 0, .null, .null, .null, .int 0, .int 0, .null, .null, .int 0, .int 0, .int 0, .int 0, .int 0, .int 0, .null, .null]) (pI pM_147 rfl) rfl rfl rfl (by decide) (by decide) rfl (up_old up_here (by decide)) rfl rfl rfl rfl (Or.inr ⟨rfl, rfl, rfl⟩) rfl ?_
  refine w_aload_n (p := 88) (pI pM_147 rfl) rfl rfl ?_
  refine w_ldc (p := 90) (v := 45000) (pI pM_147 rfl) rfl rfl rfl ?_
  refine z_newarray (p := 92) (N := 45000) (t := 0) (pI pM_147 rfl) rfl rfl rfl rfl rfl ?_
  refine z_putfield (p := 95) (a := 1681) (fs := [.int 0, .int 0, .ref 1682, .ref 1683, .ref 1684, .ref 1685, .ref 1686, .ref 1687, .ref 1688, .ref 1689, .ref 1690, .ref 1691, .null, .null, .null, .int 0, .int 0, .int 0, .int 0, .int 0, .null, .int 0, .int 0, .null, .int 0, .int 0, .int 0, .null, .null, .null, .int 0, .int 0, .null, .null, .int 0, .int 0, .int 0, .int 0, .int 0, .int 0, .null, .null]) (fs2 := [.int 0, .int 0, .ref 1682, .ref 1683, .ref 1684, .ref 1685, .ref 1686, .ref 1687, .ref 1688, .ref 1689, .ref 1690, .ref 1691, .ref 1692, .null, .null, .int 0, .int 0, .int 0, .int 0, .int 0, .null, .int 0, .int 0, .null, .int 0, .int 0, .int 0, .null, .null, .null, .int 0, .int 0, .null, .null, .int 0, .int 0, .int 0, .int 0, .int 0, .int 0, .null, .null]) (pI pM_147 rfl) rfl rfl rfl (by decide) (by decide) rfl (up_old up_here (by decide)) rfl rfl rfl rfl (Or.inr ⟨rfl, rfl, rfl⟩) rfl ?_
  refine w_aload_n (p := 96) (pI pM_147 rfl) rfl rfl ?_
  refine w_ldc (p := 98) (v := 45000) (pI pM_147 rfl) rfl rfl rfl ?_
  refine z_newarray (p := 100) (N := 45000) (t := 0) (pI pM_147 rfl) rfl rfl rfl rfl rfl ?_
  refine z_putfield (p := 103) (a := 1681) (fs := [.int 0, .int 0, .ref 1682, .ref 1683, .ref 1684, .ref 1685, .ref 1686, .ref 1687, .ref 1688, .ref 1689, .ref 1690, .ref 1691, .ref 1692, .null, .null, .int 0, .int 0, .int 0, .int 0, .int 0, .null, .int 0, .int 0, .null, .int 0, .int 0, .int 0, .null, .null, .null, .int 0, .int 0, .null, .null, .int 0, .int 0, .int 0, .int 0, .int 0, .int 0, .null, .null]) (fs2 := [.int 0, .int 0, .ref 1682, .ref 1683, .ref 1684, .ref 1685, .ref 1686, .ref 1687, .ref 1688, .ref 1689, .ref 1690, .ref 1691, .ref 1692, .ref 1693, .null, .int 0, .int 0, .int 0, .int 0, .int 0, .null, .int 0, .int 0, .null, .int 0, .int 0, .int 0, .null, .null, .null, .int 0, .int 0, .null, .null, .int 0, .int 0, .int 0, .int 0, .int 0, .int 0, .null, .null]) (pI pM_147 rfl) rfl rfl rfl (by decide) (by decide) rfl (up_old up_here (by decide)) rfl rfl rfl rfl (Or.inr ⟨rfl, rfl, rfl⟩) rfl ?_
  refine w_aload_n (p := 104) (pI pM_147 rfl) rfl rfl ?_
  refine w_ldc (p := 106) (v := 45000) (pI pM_147 rfl) rfl rfl rfl ?_
  refine z_newarray (p := 108) (N := 45000) (t := 0) (pI pM_147 rfl) rfl rfl rfl rfl rfl ?_
  refine z_putfield (p := 111) (a := 1681) (fs := [.int 0, .int 0, .ref 1682, .ref 1683, .ref 1684, .ref 1685, .ref 1686, .ref 1687, .ref 1688, .ref 1689, .ref 1690, .ref 1691, .ref 1692, .ref 1693, .null, .int 0, .int 0, .int 0, .int 0, .int 0, .null, .int 0, .int 0, .null, .int 0, .int 0, .int 0, .null, .null, .null, .int 0, .int 0, .null, .null, .int 0, .int 0, .int 0, .int 0, .int 0, .int 0, .null, .null]) (fs2 := [.int 0, .int 0, .ref 1682, .ref 1683, .ref 1684, .ref 1685, .ref 1686, .ref 1687, .ref 1688, .ref 1689, .ref 1690, .ref 1691, .ref 1692, .ref 1693, .ref 1694, .int 0, .int 0, .int 0, .int 0, .int 0, .null, .int 0, .int 0, .null, .int 0, .int 0, .int 0, .null, .null, .null, .int 0, .int 0, .null, .null, .int 0, .int 0, .int 0, .int 0, .int 0, .int 0, .null, .null]) (pI pM_147 rfl) rfl rfl rfl (by decide) (by decide) rfl (up_old up_here (by decide)) rfl rfl rfl rfl (Or.inr ⟨rfl, rfl, rfl⟩) rfl ?_
  refine w_aload_n (p := 112) (pI pM_147 rfl) rfl rfl ?_
  refine w_bipush (p := 114) (v := 60) (pI pM_147 rfl) rfl (by decide) ?_
  refine z_newarray (p := 116) (N := 60) (t := 0) (pI pM_147 rfl) rfl rfl rfl rfl rfl ?_
  refine z_putfield (p := 119) (a := 1681) (fs := [.int 0, .int 0, .ref 1682, .ref 1683, .ref 1684, .ref 1685, .ref 1686, .ref 1687, .ref 1688, .ref 1689, .ref 1690, .ref 1691, .ref 1692, .ref 1693, .ref 1694, .int 0, .int 0, .int 0, .int 0, .int 0, .null, .int 0, .int 0, .null, .int 0, .int 0, .int 0, .null, .null, .null, .int 0, .int 0, .null, .null, .int 0, .int 0, .int 0, .int 0, .int 0, .int 0, .null, .null]) (fs2 := [.int 0, .int 0, .ref 1682, .ref 1683, .ref 1684, .ref 1685, .ref 1686, .ref 1687, .ref 1688, .ref 1689, .ref 1690, .ref 1691, .ref 1692, .ref 1693, .ref 1694, .int 0, .int 0, .int 0, .int 0, .int 0, .ref 1695, .int 0, .int 0, .null, .int 0, .int 0, .int 0, .null, .null, .null, .int 0, .int 0, .null, .null, .int 0, .int 0, .int 0, .int 0, .int 0, .int 0, .null, .null]) (pI pM_147 rfl) rfl rfl rfl (by decide) (by decide) rfl (up_old up_here (by decide)) rfl rfl rfl rfl (Or.inr ⟨rfl, rfl, rfl⟩) rfl ?_
  refine w_aload_n (p := 120) (pI pM_147 rfl) rfl rfl ?_
  refine w_bipush (p := 122) (v := 100) (pI pM_147 rfl) rfl (by decide) ?_
  refine z_newarray (p := 124) (N := 100) (t := 0) (pI pM_147 rfl) rfl rfl rfl rfl rfl ?_
  refine z_putfield (p := 127) (a := 1681) (fs := [.int 0, .int 0, .ref 1682, .ref 1683, .ref 1684, .ref 1685, .ref 1686, .ref 1687, .ref 1688, .ref 1689, .ref 1690, .ref 1691, .ref 1692, .ref 1693, .ref 1694, .int 0, .int 0, .int 0, .int 0, .int 0, .ref 1695, .int 0, .int 0, .null, .int 0, .int 0, .int 0, .null, .null, .null, .int 0, .int 0, .null, .null, .int 0, .int 0, .int 0, .int 0, .int 0, .int 0, .null, .null]) (fs2 := [.int 0, .int 0, .ref 1682, .ref 1683, .ref 1684, .ref 1685, .ref 1686, .ref 1687, .ref 1688, .ref 1689, .ref 1690, .ref 1691, .ref 1692, .ref 1693, .ref 1694, .int 0, .int 0, .int 0, .int 0, .int 0, .ref 1695, .int 0, .int 0, .ref 1696, .int 0, .int 0, .int 0, .null, .null, .null, .int 0, .int 0, .null, .null, .int 0, .int 0, .int 0, .int 0, .int 0, .int 0, .null, .null]) (pI pM_147 rfl) rfl rfl rfl (by decide) (by decide) rfl (up_old up_here (by decide)) rfl rfl rfl rfl (Or.inr ⟨rfl, rfl, rfl⟩) rfl ?_
  refine w_aload_n (p := 128) (pI pM_147 rfl) rfl rfl ?_
  refine w_bipush (p := 130) (v := 30) (pI pM_147 rfl) rfl (by decide) ?_
  refine z_newarray (p := 132) (N := 30) (t := 0) (pI pM_147 rfl) rfl rfl rfl rfl rfl ?_
  refine z_putfield (p := 135) (a := 1681) (fs := [.int 0, .int 0, .ref 1682, .ref 1683, .ref 1684, .ref 1685, .ref 1686, .ref 1687, .ref 1688, .ref 1689, .ref 1690, .ref 1691, .ref 1692, .ref 1693, .ref 1694, .int 0, .int 0, .int 0, .int 0, .int 0, .ref 1695, .int 0, .int 0, .ref 1696, .int 0, .int 0, .int 0, .null, .null, .null, .int 0, .int 0, .null, .null, .int 0, .int 0, .int 0, .int 0, .int 0, .int 0, .null, .null]) (fs2 := [.int 0, .int 0, .ref 1682, .ref 1683, .ref 1684, .ref 1685, .ref 1686, .ref 1687, .ref 1688, .ref 1689, .ref 1690, .ref 1691, .ref 1692, .ref 1693, .ref 1694, .int 0, .int 0, .int 0, .int 0, .int 0, .ref 1695, .int 0, .int 0, .ref 1696, .int 0, .int 0, .int 0, .ref 1697, .null, .null, .int 0, .int 0, .null, .null, .int 0, .int 0, .int 0, .int 0, .int 0, .int 0, .null, .null]) (pI pM_147 rfl) rfl rfl rfl (by decide) (by decide) rfl (up_old up_here (by decide)) rfl rfl rfl rfl (Or.inr ⟨rfl, rfl, rfl⟩) rfl ?_
  refine w_aload_n (p := 136) (pI pM_147 rfl) rfl rfl ?_
  refine w_bipush (p := 138) (v := 30) (pI pM_147 rfl) rfl (by decide) ?_
  refine z_newarray (p := 140) (N := 30) (t := 0) (pI pM_147 rfl) rfl rfl rfl rfl rfl ?_
  refine z_putfield (p := 143) (a := 1681) (fs := [.int 0, .int 0, .ref 1682, .ref 1683, .ref 1684, .ref 1685, .ref 1686, .ref 1687, .ref 1688, .ref 1689, .ref 1690, .ref 1691, .ref 1692, .ref 1693, .ref 1694, .int 0, .int 0, .int 0, .int 0, .int 0, .ref 1695, .int 0, .int 0, .ref 1696, .int 0, .int 0, .int 0, .ref 1697, .null, .null, .int 0, .int 0, .null, .null, .int 0, .int 0, .int 0, .int 0, .int 0, .int 0, .null, .null]) (fs2 := [.int 0, .int 0, .ref 1682, .ref 1683, .ref 1684, .ref 1685, .ref 1686, .ref 1687, .ref 1688, .ref 1689, .ref 1690, .ref 1691, .ref 1692, .ref 1693, .ref 1694, .int 0, .int 0, .int 0, .int 0, .int 0, .ref 1695, .int 0, .int 0, .ref 1696, .int 0, .int 0, .int 0, .ref 1697, .ref 1698, .null, .int 0, .int 0, .null, .null, .int 0, .int 0, .int 0, .int 0, .int 0, .int 0, .null, .null]) (pI pM_147 rfl) rfl rfl rfl (by decide) (by decide) rfl (up_old up_here (by decide)) rfl rfl rfl rfl (Or.inr ⟨rfl, rfl, rfl⟩) rfl ?_
  refine w_aload_n (p := 144) (pI pM_147 rfl) rfl rfl ?_
  refine w_sipush (p := 147) (v := 240) (pI pM_147 rfl) rfl (by decide) ?_
  refine z_newarray (p := 149) (N := 240) (t := 0) (pI pM_147 rfl) rfl rfl rfl rfl rfl ?_
  refine z_putfield (p := 152) (a := 1681) (fs := [.int 0, .int 0, .ref 1682, .ref 1683, .ref 1684, .ref 1685, .ref 1686, .ref 1687, .ref 1688, .ref 1689, .ref 1690, .ref 1691, .ref 1692, .ref 1693, .ref 1694, .int 0, .int 0, .int 0, .int 0, .int 0, .ref 1695, .int 0, .int 0, .ref 1696, .int 0, .int 0, .int 0, .ref 1697, .ref 1698, .null, .int 0, .int 0, .null, .null, .int 0, .int 0, .int 0, .int 0, .int 0, .int 0, .null, .null]) (fs2 := [.int 0, .int 0, .ref 1682, .ref 1683, .ref 1684, .ref 1685, .ref 1686, .ref 1687, .ref 1688, .ref 1689, .ref 1690, .ref 1691, .ref 1692, .ref 1693, .ref 1694, .int 0, .int 0, .int 0, .int 0, .int 0, .ref 1695, .int 0, .int 0, .ref 1696, .int 0, .int 0, .int 0, .ref 1697, .ref 1698, .ref 1699, .int 0, .int 0, .null, .null, .int 0, .int 0, .int 0, .int 0, .int 0, .int 0, .null, .null]) (pI pM_147 rfl) rfl rfl rfl (by decide) (by decide) rfl (up_old up_here (by decide)) rfl rfl rfl rfl (Or.inr ⟨rfl, rfl, rfl⟩) rfl ?_
  refine w_aload_n (p := 153) (pI pM_147 rfl) rfl rfl ?_
  refine w_sipush (p := 156) (v := 130) (pI pM_147 rfl) rfl (by decide) ?_
  refine z_newarray (p := 158) (N := 130) (t := 0) (pI pM_147 rfl) rfl rfl rfl rfl rfl ?_
  refine z_putfield (p := 161) (a := 1681) (fs := [.int 0, .int 0, .ref 1682, .ref 1683, .ref 1684, .ref 1685, .ref 1686, .ref 1687, .ref 1688, .ref 1689, .ref 1690, .ref 1691, .ref 1692, .ref 1693, .ref 1694, .int 0, .int 0, .int 0, .int 0, .int 0, .ref 1695, .int 0, .int 0, .ref 1696, .int 0, .int 0, .int 0, .ref 1697, .ref 1698, .ref 1699, .int 0, .int 0, .null, .null, .int 0, .int 0, .int 0, .int 0, .int 0, .int 0, .null, .null]) (fs2 := [.int 0, .int 0, .ref 1682, .ref 1683, .ref 1684, .ref 1685, .ref 1686, .ref 1687, .ref 1688, .ref 1689, .ref 1690, .ref 1691, .ref 1692, .ref 1693, .ref 1694, .int 0, .int 0, .int 0, .int 0, .int 0, .ref 1695, .int 0, .int 0, .ref 1696, .int 0, .int 0, .int 0, .ref 1697, .ref 1698, .ref 1699, .int 0, .int 0, .ref 1700, .null, .int 0, .int 0, .int 0, .int 0, .int 0, .int 0, .null, .null]) (pI pM_147 rfl) rfl rfl rfl (by decide) (by decide) rfl (up_old up_here (by decide)) rfl rfl rfl rfl (Or.inr ⟨rfl, rfl, rfl⟩) rfl ?_
  refine w_aload_n (p := 162) (pI pM_147 rfl) rfl rfl ?_
  refine w_bipush (p := 164) (v := 61) (pI pM_147 rfl) rfl (by decide) ?_
  refine z_newarray (p := 166) (N := 61) (t := 0) (pI pM_147 rfl) rfl rfl rfl rfl rfl ?_
  refine z_putfield (p := 169) (a := 1681) (fs := [.int 0, .int 0, .ref 1682, .ref 1683, .ref 1684, .ref 1685, .ref 1686, .ref 1687, .ref 1688, .ref 1689, .ref 1690, .ref 1691, .ref 1692, .ref 1693, .ref 1694, .int 0, .int 0, .int 0, .int 0, .int 0, .ref 1695, .int 0, .int 0, .ref 1696, .int 0, .int 0, .int 0, .ref 1697, .ref 1698, .ref 1699, .int 0, .int 0, .ref 1700, .null, .int 0, .int 0, .int 0, .int 0, .int 0, .int 0, .null, .null]) (fs2 := [.int 0, .int 0, .ref 1682, .ref 1683, .ref 1684, .ref 1685, .ref 1686, .ref 1687, .ref 1688, .ref 1689, .ref 1690, .ref 1691, .ref 1692, .ref 1693, .ref 1694, .int 0, .int 0, .int 0, .int 0, .int 0, .ref 1695, .int 0, .int 0, .ref 1696, .int 0, .int 0, .int 0, .ref 1697, .ref 1698, .ref 1699, .int 0, .int 0, .ref 1700, .ref 1701, .int 0, .int 0, .int 0, .int 0, .int 0, .int 0, .null, .null]) (pI pM_147 rfl) rfl rfl rfl (by decide) (by decide) rfl (up_old up_here (by decide)) rfl rfl rfl rfl (Or.inr ⟨rfl, rfl, rfl⟩) rfl ?_
  refine w_aload_n (p := 170) (pI pM_147 rfl) rfl rfl ?_
  refine w_sipush (p := 173) (v := 1024) (pI pM_147 rfl) rfl (by decide) ?_
  refine z_newarray (p := 175) (N := 1024) (t := 0) (pI pM_147 rfl) rfl rfl rfl rfl rfl ?_
  refine z_putfield (p := 178) (a := 1681) (fs := [.int 0, .int 0, .ref 1682, .ref 1683, .ref 1684, .ref 1685, .ref 1686, .ref 1687, .ref 1688, .ref 1689, .ref 1690, .ref 1691, .ref 1692, .ref 1693, .ref 1694, .int 0, .int 0, .int 0, .int 0, .int 0, .ref 1695, .int 0, .int 0, .ref 1696, .int 0, .int 0, .int 0, .ref 1697, .ref 1698, .ref 1699, .int 0, .int 0, .ref 1700, .ref 1701, .int 0, .int 0, .int 0, .int 0, .int 0, .int 0, .null, .null]) (fs2 := [.int 0, .int 0, .ref 1682, .ref 1683, .ref 1684, .ref 1685, .ref 1686, .ref 1687, .ref 1688, .ref 1689, .ref 1690, .ref 1691, .ref 1692, .ref 1693, .ref 1694, .int 0, .int 0, .int 0, .int 0, .int 0, .ref 1695, .int 0, .int 0, .ref 1696, .int 0, .int 0, .int 0, .ref 1697, .ref 1698, .ref 1699, .int 0, .int 0, .ref 1700, .ref 1701, .int 0, .int 0, .int 0, .int 0, .int 0, .int 0, .ref 1702, .null]) (pI pM_147 rfl) rfl rfl rfl (by decide) (by decide) rfl (up_old up_here (by decide)) rfl rfl rfl rfl (Or.inr ⟨rfl, rfl, rfl⟩) rfl ?_
  refine w_aload_n (p := 179) (pI pM_147 rfl) rfl rfl ?_
  refine w_sipush (p := 182) (v := 1024) (pI pM_147 rfl) rfl (by decide) ?_
  refine z_newarray (p := 184) (N := 1024) (t := 0) (pI pM_147 rfl) rfl rfl rfl rfl rfl ?_
  refine z_putfield (p := 187) (a := 1681) (fs := [.int 0, .int 0, .ref 1682, .ref 1683, .ref 1684, .ref 1685, .ref 1686, .ref 1687, .ref 1688, .ref 1689, .ref 1690, .ref 1691, .ref 1692, .ref 1693, .ref 1694, .int 0, .int 0, .int 0, .int 0, .int 0, .ref 1695, .int 0, .int 0, .ref 1696, .int 0, .int 0, .int 0, .ref 1697, .ref 1698, .ref 1699, .int 0, .int 0, .ref 1700, .ref 1701, .int 0, .int 0, .int 0, .int 0, .int 0, .int 0, .ref 1702, .null]) (fs2 := [.int 0, .int 0, .ref 1682, .ref 1683, .ref 1684, .ref 1685, .ref 1686, .ref 1687, .ref 1688, .ref 1689, .ref 1690, .ref 1691, .ref 1692, .ref 1693, .ref 1694, .int 0, .int 0, .int 0, .int 0, .int 0, .ref 1695, .int 0, .int 0, .ref 1696, .int 0, .int 0, .int 0, .ref 1697, .ref 1698, .ref 1699, .int 0, .int 0, .ref 1700, .ref 1701, .int 0, .int 0, .int 0, .int 0, .int 0, .int 0, .ref 1702, .ref 1703]) (pI pM_147 rfl) rfl rfl rfl (by decide) (by decide) rfl (up_old up_here (by decide)) rfl rfl rfl rfl (Or.inr ⟨rfl, rfl, rfl⟩) rfl ?_
  refine w_aload_n (p := 188) (pI pM_147 rfl) rfl rfl ?_
  refine w_iload_n (p := 189) (pI pM_147 rfl) rfl rfl ?_
  refine z_putfield (p := 192) (a := 1681) (fs := [.int 0, .int 0, .ref 1682, .ref 1683, .ref 1684, .ref 1685, .ref 1686, .ref 1687, .ref 1688, .ref 1689, .ref 1690, .ref 1691, .ref 1692, .ref 1693, .ref 1694, .int 0, .int 0, .int 0, .int 0, .int 0, .ref 1695, .int 0, .int 0, .ref 1696, .int 0, .int 0, .int 0, .ref 1697, .ref 1698, .ref 1699, .int 0, .int 0, .ref 1700, .ref 1701, .int 0, .int 0, .int 0, .int 0, .int 0, .int 0, .ref 1702, .ref 1703]) (fs2 := [.int x, .int 0, .ref 1682, .ref 1683, .ref 1684, .ref 1685, .ref 1686, .ref 1687, .ref 1688, .ref 1689, .ref 1690, .ref 1691, .ref 1692, .ref 1693, .ref 1694, .int 0, .int 0, .int 0, .int 0, .int 0, .ref 1695, .int 0, .int 0, .ref 1696, .int 0, .int 0, .int 0, .ref 1697, .ref 1698, .ref 1699, .int 0, .int 0, .ref 1700, .ref 1701, .int 0, .int 0, .int 0, .int 0, .int 0, .int 0, .ref 1702, .ref 1703]) (pI pM_147 rfl) rfl rfl rfl (by decide) (by decide) rfl up_here rfl rfl rfl rfl (Or.inr ⟨rfl, rfl, rfl⟩) rfl ?_
  refine w_iconst (p := 193) (v := nI 0) (pI pM_147 rfl) rfl rfl ?_
  refine w_istore_n (p := 194) (pI pM_147 rfl) rfl rfl rfl ?_
  have k := md_loop d (s + 6 + 6 + 240 + 240 + 6 + 96 + 88400 + 174080 + 170 + 45000 + 45000 + 45000 + 45000 + 60 + 100 + 30 + 30 + 240 + 130 + 61 + 1024 + 1024) (F := F) (x := x) hQ 258 0 rfl
  rw [md_1_0, up_same (mdA_1694 F x)] at k
  exact k
def lw_seed (L : Nat) (xs : Nat → Int32) : Int32 := if 0 < L then xs 0 else 0
theorem c_cell0 (d : Nat) {h : bm_H} {Q : bm_Q} {L : Nat} {xs : Nat → Int32} (h0 : 0 < h.1) (hc : h.2.2 0 = .inl (0, L, xs)) (hL : L < 2 ^ 31) (hQ : Q (some (.int (lw_seed L xs))) h) : bm_M (d + 1) 211 [.ref 0, .int (nI 0)] h Q := by
  refine bw_enter rfl rfl rfl rfl ?_
  refine w_iload_n (p := 1) (pI pM_211 rfl) rfl rfl ?_
  refine w_aload_n (p := 2) (pI pM_211 rfl) rfl rfl ?_
  refine w_alen (p := 3) (x := nI L) (pI pM_211 rfl) rfl h0 hc rfl ?_
  refine w_icmp_ge (p := 6) (q := 12) (pI pM_211 rfl) rfl rfl rfl (fun c_1 => ?_) (fun c_1 => ?_)
  · refine w_iconst (p := 13) (v := 0) (pI pM_211 rfl) rfl rfl ?_
    have e : lw_seed L xs = 0 := by
      unfold lw_seed
      rw [if_neg (fun z => nI_ge z hL c_1)]
    rw [e] at hQ
    exact w_ireturn (pI pM_211 rfl) rfl rfl rfl hQ
  · have hp : 0 < L := Nat.pos_of_ne_zero (fun z => c_1 (by subst z; exact Int32.le_refl _))
    refine w_aload_n (p := 7) (pI pM_211 rfl) rfl rfl ?_
    refine w_iload_n (p := 8) (pI pM_211 rfl) rfl rfl ?_
    refine w_iaload (p := 9) (pI pM_211 rfl) rfl h0 hc (vp_in_nI hp hL) rfl ?_
    refine w_goto (p := 13) (pI pM_211 rfl) rfl rfl ?_
    have e : lw_seed L xs = xs (nI 0).toNatClampNeg := by
      unfold lw_seed
      rw [if_pos hp]
      rfl
    rw [e] at hQ
    exact w_ireturn (pI pM_211 rfl) rfl rfl rfl hQ
def h0_F (L : Nat) (xs : Nat → Int32) : Nat → bm_C := (bm_h0 L xs).2.2
def lwN (L : Nat) (xs : Nat → Int32) : Nat → bm_C := mdN (va_up (prN (va_up (h0_F L xs) 3 (.inr (.inr (0, [.null, .null, .null, .null, .null, .null, .null, .int 0])))) (lw_seed L xs)) 1681 (.inr (.inr (10, [.int 0, .int 0, .null, .null, .null, .null, .null, .null, .null, .null, .null, .null, .null, .null, .null, .int 0, .int 0, .int 0, .int 0, .int 0, .null, .int 0, .int 0, .null, .int 0, .int 0, .int 0, .null, .null, .null, .int 0, .int 0, .null, .null, .int 0, .int 0, .int 0, .int 0, .int 0, .int 0, .null, .null])))) (lw_seed L xs)
def A0 (xs : Nat → Int32) : Nat → Nat → Int32 := fun k => if k = 0 then xs else if k = 1 then lw_takes else if k = 1694 then md_1 258 else if 3 ≤ k ∧ k < 1704 then zI else lw_leaves
def I0 (x : Int32) : Nat → Nat → Int32 := fun k j => if k = 20 then (if j = 1 then x else 0) else if k = 32 then (if j = 4 then 258 else 0) else if k = 1681 then (if j = 0 then x else if j = 15 then 258 else 0) else 0
set_option maxRecDepth 100000 in
set_option maxHeartbeats 4000000 in
theorem lwN_lo (L : Nat) (xs : Nat → Int32) : ∀ k, k < 71 → lwN L xs k = hc (sk L k) (A0 xs k) (I0 (lw_seed L xs) k) := by
  intro k hk
  match k, hk with
  | 0, _ => rfl
  | 1, _ => rfl
  | 2, _ => rfl
  | 3, _ => rfl
  | 4, _ => rfl
  | 5, _ => rfl
  | 6, _ => rfl
  | 7, _ => rfl
  | 8, _ => rfl
  | 9, _ => rfl
  | 10, _ => rfl
  | 11, _ => rfl
  | 12, _ => rfl
  | 13, _ => rfl
  | 14, _ => rfl
  | 15, _ => rfl
  | 16, _ => rfl
  | 17, _ => rfl
  | 18, _ => rfl
  | 19, _ => rfl
  | 20, _ => rfl
  | 21, _ => rfl
  | 22, _ => rfl
  | 23, _ => rfl
  | 24, _ => rfl
  | 25, _ => rfl
  | 26, _ => rfl
  | 27, _ => rfl
  | 28, _ => rfl
  | 29, _ => rfl
  | 30, _ => rfl
  | 31, _ => rfl
  | 32, _ => rfl
  | 33, _ => rfl
  | 34, _ => rfl
  | 35, _ => rfl
  | 36, _ => rfl
  | 37, _ => rfl
  | 38, _ => rfl
  | 39, _ => rfl
  | 40, _ => rfl
  | 41, _ => rfl
  | 42, _ => rfl
  | 43, _ => rfl
  | 44, _ => rfl
  | 45, _ => rfl
  | 46, _ => rfl
  | 47, _ => rfl
  | 48, _ => rfl
  | 49, _ => rfl
  | 50, _ => rfl
  | 51, _ => rfl
  | 52, _ => rfl
  | 53, _ => rfl
  | 54, _ => rfl
  | 55, _ => rfl
  | 56, _ => rfl
  | 57, _ => rfl
  | 58, _ => rfl
  | 59, _ => rfl
  | 60, _ => rfl
  | 61, _ => rfl
  | 62, _ => rfl
  | 63, _ => rfl
  | 64, _ => rfl
  | 65, _ => rfl
  | 66, _ => rfl
  | 67, _ => rfl
  | 68, _ => rfl
  | 69, _ => rfl
  | 70, _ => rfl
  | k + 71, hk => exact absurd hk (by omega)
