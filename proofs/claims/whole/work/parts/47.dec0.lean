/-! THE FORMULAS of the methods: what they are made of. D of a method is its weakest precondition over the numbers A, I; then no machine is left -/
abbrev HA : Type := Nat → Nat → Int32
/-- the array at a holds x at i -/
def sA (A : HA) (a i : Nat) (x : Int32) : HA := va_up A a (upd (A a) i x)
/-- number j of the object at a is x -/
def sI (I : HA) (a j : Nat) (x : Int32) : HA := va_up I a (upd (I a) j x)
/-- n places of the array at b, from dp on, are those of the array at a from sp on -/
def sC (A : HA) (a b sp dp n : Nat) : HA := va_up A b (va_cpy (A a) (A b) sp dp n)
/-- the first n places of the array at a hold v -/
def sF (A : HA) (a : Nat) (v : Int32) (n : Nat) : HA := va_up A a (fl_f (A a) v n)
def isN (u : Nat) : Prop := u = 18 ∨ (∃ w, isW w ∧ u = w + 8) ∨ ∃ i, i < 8 ∧ u = 55 + 2 * i
def isT (v : Nat) : Prop := v = 14 ∨ v = 47 ∨ v = 51
theorem isW4 : isW 4 := Or.inl rfl
theorem isN18 : isN 18 := Or.inl rfl
theorem isT14 : isT 14 := Or.inl rfl
theorem isT47 : isT 47 := Or.inr (Or.inl rfl)
theorem isT51 : isT 51 := Or.inr (Or.inr rfl)
theorem isW_mk {i : Nat} (h : i < 161) : isW (71 + 10 * i) := Or.inr ⟨i, h, rfl⟩
theorem isN_mk {i : Nat} (h : i < 8) : isN (55 + 2 * i) := Or.inr (Or.inr ⟨i, h, rfl⟩)
theorem isN_w {w : Nat} (h : isW w) : isN (w + 8) := Or.inr (Or.inl ⟨w, h, rfl⟩)
def sk_ncell (u o : Nat) : sk_T := match o with
  | 0 => .inr (.inr (2, [some (u + 1)]))
  | _ => .inl (0, 32)
def sk_tcell (v o : Nat) : sk_T := match o with
  | 0 => .inr (.inr (8, [some (v + 1), some (v + 2), some (v + 3), none]))
  | 1 => .inl (0, 60)
  | 2 => .inl (0, 61)
  | _ => .inl (0, 60)
theorem isN.ge {u : Nat} (h : isN u) (o : Nat) : 3 ≤ u + o := by
  rcases h with rfl | ⟨w, hw, rfl⟩ | ⟨i, hi, rfl⟩ <;> omega
theorem isN.lt {u : Nat} (h : isN u) (o : Nat) (ho : o < 2) : u + o < 1704 := by
  rcases h with rfl | ⟨w, hw, rfl⟩ | ⟨i, hi, rfl⟩
  · omega
  · have := hw.lt 9 (by decide); omega
  · omega
theorem isN.sk {L u : Nat} (h : isN u) (o : Nat) (ho : o < 2) : sk L (u + o) = sk_ncell u o := by
  rcases h with rfl | ⟨w, hw, rfl⟩ | ⟨i, hi, rfl⟩
  · rcases (show o = 0 ∨ o = 1 by omega) with rfl | rfl <;> rfl
  · rcases (show o = 0 ∨ o = 1 by omega) with rfl | rfl
    · exact hw.sk 8 (by decide)
    · exact hw.sk 9 (by decide)
  · rcases (show i = 0 ∨ i = 1 ∨ i = 2 ∨ i = 3 ∨ i = 4 ∨ i = 5 ∨ i = 6 ∨ i = 7 by omega) with rfl | rfl | rfl | rfl | rfl | rfl | rfl | rfl <;> rcases (show o = 0 ∨ o = 1 by omega) with rfl | rfl <;> rfl
theorem isT.ge {u : Nat} (h : isT u) (o : Nat) : 3 ≤ u + o := by
  rcases h with rfl | rfl | rfl <;> omega
theorem isT.lt {u : Nat} (h : isT u) (o : Nat) (ho : o < 4) : u + o < 1704 := by
  rcases h with rfl | rfl | rfl <;> omega
theorem isT.sk {L u : Nat} (h : isT u) (o : Nat) (ho : o < 4) : sk L (u + o) = sk_tcell u o := by
  rcases h with rfl | rfl | rfl <;> rcases (show o = 0 ∨ o = 1 ∨ o = 2 ∨ o = 3 by omega) with rfl | rfl | rfl | rfl <;> rfl
theorem vp_lt {i : Int32} {n : Nat} (h : vp_in i n) : i.toNatClampNeg < n := Nat.not_le.mp fun z => h (Or.inr z)
theorem itp {c a b : Prop} [Decidable c] (h : c) (k : if c then a else b) : a := by rw [if_pos h] at k; exact k
theorem itn {c a b : Prop} [Decidable c] (h : ¬ c) (k : if c then a else b) : b := by rw [if_neg h] at k; exact k
theorem itm {c a b a' b' : Prop} [Decidable c] (k : if c then a else b) (h1 : a → a') (h2 : b → b') : if c then a' else b' := by
  by_cases h : c
  · rw [if_pos h] at k ⊢; exact h1 k
  · rw [if_neg h] at k ⊢; exact h2 k
theorem neT {x : Int32} (n : Nat) (hn : decide (n < 2 ^ 31) = true) (h : ¬ x = nI n) : x.toInt ≠ n := fun e => h (Int32.toInt_inj.mp (e.trans (nI_toInt (of_decide_eq_true hn)).symm))
theorem sw_at {lo hi d off : Int} {offs : Array Int} {x y : Int32} (c : x = y) (h : bm_sw lo hi d offs y = some off) : bm_sw lo hi d offs x = some off := by rw [c]; exact h
theorem sw_df {lo hi d : Int} {offs : Array Int} {x : Int32} (h : lo ≤ x.toInt → x.toInt ≤ hi → offs[(x.toInt - lo).toNat]? = some d) : bm_sw lo hi d offs x = some d := by
  unfold bm_sw
  by_cases c : x.toInt < lo ∨ hi < x.toInt
  · rw [if_pos c]
  · rw [if_neg c]
    exact h (Int.not_lt.mp fun z => c (Or.inl z)) (Int.not_lt.mp fun z => c (Or.inr z))
theorem lk_at {ps : List (Int × Int)} {d off : Int} {x y : Int32} (c : x = y) (h : Op.lookupswitch.offset ps d y.toInt = off) : Op.lookupswitch.offset ps d x.toInt = off := by rw [c]; exact h
theorem lk_nil {d k : Int} : Op.lookupswitch.offset [] d k = d := rfl
theorem lk_cons {a o d k : Int} {r : List (Int × Int)} (h : ¬ k = a) (t : Op.lookupswitch.offset r d k = d) : Op.lookupswitch.offset ((a, o) :: r) d k = d := by
  show (if a = k then o else Op.lookupswitch.offset r d k) = d
  rw [if_neg (fun e => h e.symm)]
  exact t
section SP
variable {d mi : Nat} {Q : bm_Q} {pc p : Nat} {ls r : List Value} {L : Nat} {A I : HA}
theorem s_putI {n a ci kf ne : Nat} {x : Int32} {tm : List (Option Nat)} {cq : vw_C} (hi : pm_ins mi pc = some (.putfield n, 3)) (e : pc + 3 = p) (hx : decide (n < 1000) = true) (hf : pm_fT.lookup (bm_key mi n) = some (ci, kf, ne)) (h3 : 3 ≤ a) (ha : a < 1704) (hs : sk L a = .inr (.inr (ci, tm))) (ht : tm[kf]? = some none) (hn : narrow (pm_ty ci kf) (.int x) = .int x) (hft : fits (pm_ty ci kf) (.int x) = true) (hcq : pm_cl[ci]? = some cq) (hor : (cq.2.1 kf).2.2.2 = false) (k : bm_W (bm_M d) mi Q p ls r (hp L A (sI I a kf x))) : bm_W (bm_M d) mi Q pc ls (.int x :: .ref a :: r) (hp L A I) := v_putI hi e hx hf h3 ha hs ht hn hft hcq hor k
theorem s_iast {a n : Nat} {i x : Int32} (hi : pm_ins mi pc = some (.iastore, 1)) (e : pc + 1 = p) (h3 : 3 ≤ a) (ha : a < 1704) (hs : sk L a = .inl (0, n)) (hin : vp_in i n) (k : bm_W (bm_M d) mi Q p ls r (hp L (sA A a i.toNatClampNeg x) I)) : bm_W (bm_M d) mi Q pc ls (.int x :: .int i :: .ref a :: r) (hp L A I) := v_iast hi e h3 ha hs hin k
theorem s_bast {a t n : Nat} {i x : Int32} (hi : pm_ins mi pc = some (.bastore, 1)) (e : pc + 1 = p) (h3 : 3 ≤ a) (ha : a < 1704) (hs : sk L a = .inl (t, n)) (ht : t = 1 ∨ t = 2) (hin : vp_in i n) (k : bm_W (bm_M d) mi Q p ls r (hp L (sA A a i.toNatClampNeg (vp_nar (bm_ty t) x)) I)) : bm_W (bm_M d) mi Q pc ls (.int x :: .int i :: .ref a :: r) (hp L A I) := v_bast hi e h3 ha hs ht hin k
theorem s_copy {m u v a b na nb : Nat} {n dp sp : Int32} (hi : pm_ins mi pc = some (.invokestatic m, 3)) (e : pc + 3 = p) (hx : decide (m < 1000) = true) (hq : pm_cT.lookup (bm_key mi m) = some (4, u, v)) (hf : bm_fit4 mi = true) (hal : bm_all r = true) (ha3 : 3 ≤ a) (ha : a < 1704) (hb3 : 3 ≤ b) (hb : b < 1704) (h1 : ¬ sp < 0) (h2 : ¬ dp < 0) (h3 : ¬ n < 0) (hsa : sk L a = .inl (0, na)) (hsb : sk L b = .inl (0, nb)) (h4 : sp.toNatClampNeg + n.toNatClampNeg ≤ na) (h5 : dp.toNatClampNeg + n.toNatClampNeg ≤ nb) (k : bm_W (bm_M d) mi Q p ls r (hp L (sC A a b sp.toNatClampNeg dp.toNatClampNeg n.toNatClampNeg) I)) : bm_W (bm_M d) mi Q pc ls (.int n :: .int dp :: .ref b :: .int sp :: .ref a :: r) (hp L A I) := v_copy hi e hx hq hf hal ha3 ha hb3 hb h1 h2 h3 hsa hsb h4 h5 k
end SP
