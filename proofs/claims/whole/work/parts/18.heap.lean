/-! THE HEAP behind the two constructors: what lies where is fixed; only numbers change: A k, what the array at k holds; I k, the numbers in the object at k -/
abbrev sk_T : Type := (Nat × Nat) ⊕ ((Nat × Nat × (Nat → Option Nat)) ⊕ (Nat × List (Option Nat)))
def sk_way (w : Nat) : List (Option Nat) := [some (w + 1), some (w + 2), some (w + 3), some (w + 4), none, some (w + 5), some (w + 6), none, some (w + 7), none, some (w + 8), none, none, none, none, none, none, none]
/-- a way: the object at w, its arrays behind it -/
def sk_wcell (w o : Nat) : sk_T := match o with
  | 0 => .inr (.inr (9, sk_way w))
  | 1 => .inl (0, 4)
  | 2 => .inl (0, 4)
  | 3 => .inl (0, 4)
  | 4 => .inl (0, 72)
  | 5 => .inl (0, 4)
  | 6 => .inl (0, 20)
  | 7 => .inl (0, 200)
  | 8 => .inr (.inr (2, [some (w + 9)]))
  | _ => .inl (0, 32)
def sk_lo : List sk_T := [.inl (0, 0), .inl (0, 30), .inl (0, 30), .inr (.inr (0, [some 20, some 21, some 22, some 32, some 4, some 14, some 18, none])), sk_wcell 4 0, sk_wcell 4 1, sk_wcell 4 2, sk_wcell 4 3, sk_wcell 4 4, sk_wcell 4 5, sk_wcell 4 6, sk_wcell 4 7, sk_wcell 4 8, sk_wcell 4 9, .inr (.inr (8, [some 15, some 16, some 17, none])), .inl (0, 60), .inl (0, 61), .inl (0, 60), .inr (.inr (2, [some 19])), .inl (0, 32), .inr (.inr (6, [some 21, none, some 37, some 38, none, some 39, some 41, none, some 42, none, none, some 43, none, some 44, none, none, none, none])), .inr (.inr (3, [some 22, some 32])), .inr (.inr (4, [none, some 23, some 24, some 25, some 26, some 27, some 28, some 29, some 30, some 31])), .inl (0, 6), .inl (0, 6), .inl (0, 240), .inl (0, 240), .inl (0, 6), .inl (0, 24), .inl (0, 24), .inl (0, 24), .inl (0, 24), .inr (.inr (1, [some 33, some 34, some 35, some 36, none])), .inl (0, 32258), .inl (0, 32258), .inl (0, 32258), .inl (0, 32258), .inr (.inl (9, 161, fun j => if j < 161 then some (71 + 10 * j) else none)), .inl (0, 161), .inr (.inr (5, [some 40, none, none])), .inl (0, 60), .inl (0, 100), .inl (0, 240), .inl (0, 30), .inr (.inr (7, [some 45, some 46, some 47, some 51])), .inr (.inl (2, 8, fun j => if j < 8 then some (55 + 2 * j) else none)), .inl (0, 8), .inr (.inr (8, [some 48, some 49, some 50, none])), .inl (0, 60), .inl (0, 61), .inl (0, 60), .inr (.inr (8, [some 52, some 53, some 54, none])), .inl (0, 60), .inl (0, 61), .inl (0, 60), .inr (.inr (2, [some 56])), .inl (0, 32), .inr (.inr (2, [some 58])), .inl (0, 32), .inr (.inr (2, [some 60])), .inl (0, 32), .inr (.inr (2, [some 62])), .inl (0, 32), .inr (.inr (2, [some 64])), .inl (0, 32), .inr (.inr (2, [some 66])), .inl (0, 32), .inr (.inr (2, [some 68])), .inl (0, 32), .inr (.inr (2, [some 70])), .inl (0, 32)]
def sk_hi : List sk_T := [.inr (.inr (10, [none, none, some 1682, some 1683, some 1684, some 1685, some 1686, some 1687, some 1688, some 1689, some 1690, some 1691, some 1692, some 1693, some 1694, none, none, none, none, none, some 1695, none, none, some 1696, none, none, none, some 1697, some 1698, some 1699, none, none, some 1700, some 1701, none, none, none, none, none, none, some 1702, some 1703])), .inl (0, 6), .inl (0, 6), .inl (0, 240), .inl (0, 240), .inl (0, 6), .inl (0, 96), .inl (0, 88400), .inl (1, 174080), .inl (2, 170), .inl (0, 45000), .inl (0, 45000), .inl (0, 45000), .inl (0, 45000), .inl (0, 60), .inl (0, 100), .inl (0, 30), .inl (0, 30), .inl (0, 240), .inl (0, 130), .inl (0, 61), .inl (0, 1024), .inl (0, 1024)]
def sk (L k : Nat) : sk_T := if k = 0 then .inl (0, L) else if k < 71 then sk_lo.getD k (.inl (0, 0)) else if k < 1681 then sk_wcell (k - (k - 71) % 10) ((k - 71) % 10) else if k < 1704 then sk_hi.getD (k - 1681) (.inl (0, 0)) else .inl (0, 30)
def sk_v (e : Option Nat) (x : Int32) : Value := match e with
  | some b => .ref b
  | none => .int x
def sk_go (i : Nat → Int32) : Nat → List (Option Nat) → List Value
  | _, [] => []
  | j, e :: t => sk_v e (i j) :: sk_go i (j + 1) t
def sk_fs (tm : List (Option Nat)) (i : Nat → Int32) : List Value := sk_go i 0 tm
def hc (s : sk_T) (a i : Nat → Int32) : bm_C := match s with
  | .inl (t, n) => .inl (t, n, a)
  | .inr (.inl x) => .inr (.inl x)
  | .inr (.inr (ci, tm)) => .inr (.inr (ci, sk_fs tm i))
def hp (L : Nat) (A I : Nat → Nat → Int32) : bm_H := (1704, 635439, fun k => hc (sk L k) (A k) (I k))
theorem sk_go_get (i : Nat → Int32) : ∀ (tm : List (Option Nat)) (j q : Nat), (sk_go i j tm)[q]? = (tm[q]?).map fun e => sk_v e (i (j + q))
  | [], _, _ => rfl
  | e :: t, j, 0 => rfl
  | e :: t, j, q + 1 => by
    show (sk_go i (j + 1) t)[q]? = (t[q]?).map fun e => sk_v e (i (j + (q + 1)))
    rw [sk_go_get i t (j + 1) q, show j + 1 + q = j + (q + 1) by omega]
theorem sk_go_len (i : Nat → Int32) : ∀ (tm : List (Option Nat)) (j : Nat), (sk_go i j tm).length = tm.length
  | [], _ => rfl
  | e :: t, j => by
    show (sk_go i (j + 1) t).length + 1 = t.length + 1
    rw [sk_go_len i t (j + 1)]
theorem sk_fs_at (tm : List (Option Nat)) (i : Nat → Int32) (j : Nat) : (sk_fs tm i)[j]? = (tm[j]?).map fun e => sk_v e (i j) := by
  unfold sk_fs
  rw [sk_go_get, Nat.zero_add]
theorem sk_fs_get {tm : List (Option Nat)} {i : Nat → Int32} {j : Nat} {e : Option Nat} (h : tm[j]? = some e) : (sk_fs tm i)[j]? = some (sk_v e (i j)) := by
  rw [sk_fs_at, h]
  rfl
theorem sk_fs_len (tm : List (Option Nat)) (i : Nat → Int32) : (sk_fs tm i).length = tm.length := by
  unfold sk_fs; exact sk_go_len i tm 0
theorem sk_fs_set {tm : List (Option Nat)} {i : Nat → Int32} {j : Nat} (h : tm[j]? = some none) (x : Int32) : (sk_fs tm i).set j (.int x) = sk_fs tm (upd i j x) := by
  apply List.ext_getElem?
  intro q
  by_cases hq : q = j
  · subst hq
    have hl : q < (sk_fs tm i).length := by rw [sk_fs_len]; exact (List.getElem?_eq_some_iff.mp h).1
    rw [List.getElem?_set_self hl, sk_fs_get h]
    show some (Value.int x) = some (Value.int (upd i q x q))
    rw [pk_us]
  · rw [List.getElem?_set_ne (Ne.symm hq), sk_fs_at, sk_fs_at, pk_un hq]
theorem hp_at (L : Nat) (A I : Nat → Nat → Int32) (k : Nat) : (hp L A I).2.2 k = hc (sk L k) (A k) (I k) := rfl
theorem hp_arr {L : Nat} {A I : Nat → Nat → Int32} {a t n : Nat} (hs : sk L a = .inl (t, n)) : (hp L A I).2.2 a = .inl (t, n, A a) := by rw [hp_at, hs]; rfl
theorem hp_obj {L : Nat} {A I : Nat → Nat → Int32} {a ci : Nat} {tm : List (Option Nat)} (hs : sk L a = .inr (.inr (ci, tm))) : (hp L A I).2.2 a = .inr (.inr (ci, sk_fs tm (I a))) := by rw [hp_at, hs]; rfl
theorem hp_rar {L : Nat} {A I : Nat → Nat → Int32} {a ci n : Nat} {f : Nat → Option Nat} (hs : sk L a = .inr (.inl (ci, n, f))) : (hp L A I).2.2 a = .inr (.inl (ci, n, f)) := by rw [hp_at, hs]; rfl
theorem hp_setA {L : Nat} {A I : Nat → Nat → Int32} {a t n : Nat} (hs : sk L a = .inl (t, n)) (f : Nat → Int32) : bm_set (hp L A I) a (.inl (t, n, f)) = hp L (va_up A a f) I := by
  unfold bm_set hp
  refine Prod.ext rfl (Prod.ext rfl (funext fun k => ?_))
  show va_up _ a _ k = hc (sk L k) (va_up A a f k) (I k)
  by_cases hk : k = a
  · subst hk; rw [va_up_self, va_up_self, hs]; rfl
  · rw [va_up_ne _ _ hk, va_up_ne _ _ hk]
theorem hp_setI {L : Nat} {A I : Nat → Nat → Int32} {a ci kf : Nat} {tm : List (Option Nat)} (hs : sk L a = .inr (.inr (ci, tm))) (ht : tm[kf]? = some none) (x : Int32) : bm_set (hp L A I) a (.inr (.inr (ci, (sk_fs tm (I a)).set kf (.int x)))) = hp L A (va_up I a (upd (I a) kf x)) := by
  rw [sk_fs_set ht]
  unfold bm_set hp
  refine Prod.ext rfl (Prod.ext rfl (funext fun k => ?_))
  show va_up _ a _ k = hc (sk L k) (A k) (va_up I a (upd (I a) kf x) k)
  by_cases hk : k = a
  · subst hk; rw [va_up_self, va_up_self, hs]; rfl
  · rw [va_up_ne _ _ hk, va_up_ne _ _ hk]
theorem pI {mi pc : Nat} {x : Instr × Nat} {m : pm_Me} (hM : pm_M mi = m) (h : m.2.2.2.2.2.2.2.2.2.lookup pc = some x) : pm_ins mi pc = some x := by unfold pm_ins; rw [hM]; exact h
section HP
variable {d mi : Nat} {Q : bm_Q} {pc p : Nat} {ls r : List Value} {L : Nat} {A I : Nat → Nat → Int32}
theorem v_getR {n a ci kf ne b : Nat} {tm : List (Option Nat)} (hi : pm_ins mi pc = some (.getfield n, 3)) (e : pc + 3 = p) (hx : decide (n < 1000) = true) (hf : pm_fT.lookup (bm_key mi n) = some (ci, kf, ne)) (h3 : 3 ≤ a) (ha : a < 1704) (hs : sk L a = .inr (.inr (ci, tm))) (ht : tm[kf]? = some (some b)) (k : bm_W (bm_M d) mi Q p ls (.ref b :: r) (hp L A I)) : bm_W (bm_M d) mi Q pc ls (.ref a :: r) (hp L A I) :=
  w_getfield hi e hx hf h3 ha (hp_obj hs) (sk_fs_get ht) k
theorem v_getI {n a ci kf ne : Nat} {x : Int32} {tm : List (Option Nat)} (hi : pm_ins mi pc = some (.getfield n, 3)) (e : pc + 3 = p) (hx : decide (n < 1000) = true) (hf : pm_fT.lookup (bm_key mi n) = some (ci, kf, ne)) (h3 : 3 ≤ a) (ha : a < 1704) (hs : sk L a = .inr (.inr (ci, tm))) (ht : tm[kf]? = some none) (hv : I a kf = x) (k : bm_W (bm_M d) mi Q p ls (.int x :: r) (hp L A I)) : bm_W (bm_M d) mi Q pc ls (.ref a :: r) (hp L A I) := by
  subst hv
  exact w_getfield hi e hx hf h3 ha (hp_obj hs) (sk_fs_get ht) k
theorem v_putI {n a ci kf ne : Nat} {x : Int32} {tm : List (Option Nat)} {cq : vw_C} (hi : pm_ins mi pc = some (.putfield n, 3)) (e : pc + 3 = p) (hx : decide (n < 1000) = true) (hf : pm_fT.lookup (bm_key mi n) = some (ci, kf, ne)) (h3 : 3 ≤ a) (ha : a < 1704) (hs : sk L a = .inr (.inr (ci, tm))) (ht : tm[kf]? = some none) (hn : narrow (pm_ty ci kf) (.int x) = .int x) (hft : fits (pm_ty ci kf) (.int x) = true) (hcq : pm_cl[ci]? = some cq) (hor : (cq.2.1 kf).2.2.2 = false) (k : bm_W (bm_M d) mi Q p ls r (hp L A (va_up I a (upd (I a) kf x)))) : bm_W (bm_M d) mi Q pc ls (.int x :: .ref a :: r) (hp L A I) :=
  w_putfield hi e hx hf h3 ha rfl (hp_obj hs) (by rw [sk_fs_len]; exact (List.getElem?_eq_some_iff.mp ht).1) hn hft hcq (Or.inl hor) (by rw [hp_setI hs ht]; exact k)
theorem v_iald {a n : Nat} {i x : Int32} (hi : pm_ins mi pc = some (.iaload, 1)) (e : pc + 1 = p) (ha : a < 1704) (hs : sk L a = .inl (0, n)) (hin : vp_in i n) (hv : A a i.toNatClampNeg = x) (k : bm_W (bm_M d) mi Q p ls (.int x :: r) (hp L A I)) : bm_W (bm_M d) mi Q pc ls (.int i :: .ref a :: r) (hp L A I) := w_iaload hi e ha (hp_arr hs) hin hv k
theorem v_bald {a t n : Nat} {i x : Int32} (hi : pm_ins mi pc = some (.baload, 1)) (e : pc + 1 = p) (h3 : 3 ≤ a) (ha : a < 1704) (hs : sk L a = .inl (t, n)) (ht : t = 1 ∨ t = 2) (hin : vp_in i n) (hv : A a i.toNatClampNeg = x) (k : bm_W (bm_M d) mi Q p ls (.int x :: r) (hp L A I)) : bm_W (bm_M d) mi Q pc ls (.int i :: .ref a :: r) (hp L A I) := w_baload hi e h3 ha (hp_arr hs) ht hin hv k
theorem v_iast {a n : Nat} {i x : Int32} (hi : pm_ins mi pc = some (.iastore, 1)) (e : pc + 1 = p) (h3 : 3 ≤ a) (ha : a < 1704) (hs : sk L a = .inl (0, n)) (hin : vp_in i n) (k : bm_W (bm_M d) mi Q p ls r (hp L (va_up A a (upd (A a) i.toNatClampNeg x)) I)) : bm_W (bm_M d) mi Q pc ls (.int x :: .int i :: .ref a :: r) (hp L A I) := w_iastore hi e h3 ha (hp_arr hs) hin (by rw [hp_setA hs]; exact k)
theorem v_bast {a t n : Nat} {i x : Int32} (hi : pm_ins mi pc = some (.bastore, 1)) (e : pc + 1 = p) (h3 : 3 ≤ a) (ha : a < 1704) (hs : sk L a = .inl (t, n)) (ht : t = 1 ∨ t = 2) (hin : vp_in i n) (k : bm_W (bm_M d) mi Q p ls r (hp L (va_up A a (upd (A a) i.toNatClampNeg (vp_nar (bm_ty t) x))) I)) : bm_W (bm_M d) mi Q pc ls (.int x :: .int i :: .ref a :: r) (hp L A I) := w_bastore hi e h3 ha (hp_arr hs) ht hin (by rw [hp_setA hs]; exact k)
theorem v_aald {a ci n b : Nat} {f : Nat → Option Nat} {i : Int32} (hi : pm_ins mi pc = some (.aaload, 1)) (e : pc + 1 = p) (h3 : 3 ≤ a) (ha : a < 1704) (hs : sk L a = .inr (.inl (ci, n, f))) (hin : vp_in i n) (hv : f i.toNatClampNeg = some b) (k : bm_W (bm_M d) mi Q p ls (.ref b :: r) (hp L A I)) : bm_W (bm_M d) mi Q pc ls (.int i :: .ref a :: r) (hp L A I) := w_aaload hi e h3 ha (hp_rar hs) hin hv k
theorem v_alen {a n : Nat} {x : Int32} (hi : pm_ins mi pc = some (.arraylength, 1)) (e : pc + 1 = p) (ha : a < 1704) (hs : sk L a = .inl (0, n)) (hv : Int32.ofNat n = x) (k : bm_W (bm_M d) mi Q p ls (.int x :: r) (hp L A I)) : bm_W (bm_M d) mi Q pc ls (.ref a :: r) (hp L A I) := w_alen hi e ha (hp_arr hs) hv k
theorem v_virtual {st as : List Value} {n mj ne m a : Nat} {tm : List (Option Nat)} (hi : pm_ins mi pc = some (.invokevirtual m, 3)) (e : pc + 3 = p) (hx : decide (m < 1000) = true) (hq : pm_cT.lookup (bm_key mi m) = some (0, mj, ne)) (hf : bm_fit mi mj = true) (hn : pm_n mj = n) (hl : decide (n ≤ st.length) = true) (hd : st.drop n = .ref a :: r) (ht : (st.take n).reverse = as) (ha : bm_all (.ref a :: r) = true) (ha2 : bm_all r = true) (h3 : 3 ≤ a) (hal : a < 1704) (hs : sk L a = .inr (.inr (pm_own mj, tm))) (k : bm_M d mj (.ref a :: as) (hp L A I) (fun v h2 => bm_W (bm_M d) mi Q p ls (v.toList ++ r) h2)) : bm_W (bm_M d) mi Q pc ls st (hp L A I) := w_virtual hi e hx hq hf hn hl hd ht ha ha2 h3 hal (hp_obj hs) k
theorem v_copy {m u v a b na nb : Nat} {n dp sp : Int32} (hi : pm_ins mi pc = some (.invokestatic m, 3)) (e : pc + 3 = p) (hx : decide (m < 1000) = true) (hq : pm_cT.lookup (bm_key mi m) = some (4, u, v)) (hf : bm_fit4 mi = true) (hal : bm_all r = true) (ha3 : 3 ≤ a) (ha : a < 1704) (hb3 : 3 ≤ b) (hb : b < 1704) (h1 : ¬ sp < 0) (h2 : ¬ dp < 0) (h3 : ¬ n < 0) (hsa : sk L a = .inl (0, na)) (hsb : sk L b = .inl (0, nb)) (h4 : sp.toNatClampNeg + n.toNatClampNeg ≤ na) (h5 : dp.toNatClampNeg + n.toNatClampNeg ≤ nb) (k : bm_W (bm_M d) mi Q p ls r (hp L (va_up A b (va_cpy (A a) (A b) sp.toNatClampNeg dp.toNatClampNeg n.toNatClampNeg)) I)) : bm_W (bm_M d) mi Q pc ls (.int n :: .int dp :: .ref b :: .int sp :: .ref a :: r) (hp L A I) := w_copy hi e hx hq hf hal ha3 ha hb3 hb h1 h2 h3 (hp_arr hsa) (hp_arr hsb) h4 h5 (by rw [hp_setA hsb]; exact k)
end HP
