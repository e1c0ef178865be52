/-! THE PLAIN MACHINE: the same bytecode over a plain heap. A cell is an array of ints, bytes or booleans (0, 1, 2; its length; what it holds), an array of references (its component's class, its length, what it holds), or an object (its class, its fields). Addresses are 0, 1, ..: 0 is the script, 1 and 2 the two static arrays; these three are never written. -/
abbrev bm_C : Type := (Nat × Nat × (Nat → Int32)) ⊕ ((Nat × Nat × (Nat → Option Nat)) ⊕ (Nat × List Value))
/-- how many cells, how many slots they have, what they are -/
abbrev bm_H : Type := Nat × Nat × (Nat → bm_C)
abbrev bm_Q : Type := Option Value → bm_H → Prop
/-- how a method's calls go: number, arguments, heap, what holds behind it -/
abbrev bm_K : Type := Nat → List Value → bm_H → bm_Q → Prop
def bm_set (h : bm_H) (a : Nat) (x : bm_C) : bm_H := (h.1, h.2.1, va_up h.2.2 a x)
def bm_new (h : bm_H) (n : Nat) (x : bm_C) : bm_H := (h.1 + 1, h.2.1 + n, va_up h.2.2 h.1 x)
def bm_i1 (st : List Value) (k : Int32 → List Value → Prop) : Prop := match st with
  | .int x :: r => k x r
  | _ => False
def bm_i2 (st : List Value) (k : Int32 → Int32 → List Value → Prop) : Prop := match st with
  | .int y :: .int x :: r => k x y r
  | _ => False
def bm_r1 (st : List Value) (k : Nat → List Value → Prop) : Prop := match st with
  | .ref a :: r => k a r
  | _ => False
/-- an index, an array below it -/
def bm_ri (st : List Value) (k : Nat → Int32 → List Value → Prop) : Prop := match st with
  | .int i :: .ref a :: r => k a i r
  | _ => False
/-- a number, an index, an array -/
def bm_rii (st : List Value) (k : Nat → Int32 → Int32 → List Value → Prop) : Prop := match st with
  | .int x :: .int i :: .ref a :: r => k a i x r
  | _ => False
/-- a reference, an index, an array -/
def bm_rir (st : List Value) (k : Nat → Int32 → Nat → List Value → Prop) : Prop := match st with
  | .ref v :: .int i :: .ref a :: r => k a i v r
  | _ => False
/-- a value, an object below it -/
def bm_rv (st : List Value) (k : Nat → Value → List Value → Prop) : Prop := match st with
  | v :: .ref a :: r => k a v r
  | _ => False
/-- a value of one word -/
def bm_ok (v : Value) : Bool := match v with
  | .int _ => true
  | .ref _ => true
  | _ => false
def bm_v1 (st : List Value) (k : Value → List Value → Prop) : Prop := match st with
  | v :: r => bm_ok v = true ∧ k v r
  | _ => False
def bm_v2 (st : List Value) (k : Value → Value → List Value → Prop) : Prop := match st with
  | v :: w :: r => bm_ok v = true ∧ bm_ok w = true ∧ k v w r
  | _ => False
def bm_lI (ls : List Value) (i : Nat) (k : Int32 → Prop) : Prop := match ls[i]? with
  | some (.int x) => k x
  | _ => False
def bm_lR (ls : List Value) (i : Nat) (k : Nat → Prop) : Prop := match ls[i]? with
  | some (.ref a) => k a
  | _ => False
def bm_opt {α : Type} (x : Option α) (k : α → Prop) : Prop := match x with
  | some v => k v
  | none => False
def bm_ints (x : bm_C) (k : Nat → Nat → (Nat → Int32) → Prop) : Prop := match x with
  | .inl (t, n, f) => k t n f
  | _ => False
def bm_refs (x : bm_C) (k : Nat → Nat → (Nat → Option Nat) → Prop) : Prop := match x with
  | .inr (.inl (ci, n, f)) => k ci n f
  | _ => False
def bm_obj (x : bm_C) (k : Nat → List Value → Prop) : Prop := match x with
  | .inr (.inr (ci, fs)) => k ci fs
  | _ => False
def bm_ty (t : Nat) : FieldType := if t = 0 then .int else if t = 1 then .byte else .boolean
def bm_tag (a : ClassFile.ArrayType) : Option Nat := match a with
  | .int => some 0
  | .byte => some 1
  | .boolean => some 2
  | _ => none
def bm_key (mi k : Nat) : Nat := 1000 * pm_own mi + k
def bm_tg (pc : Nat) (off : Int) : Nat := ((pc : Int) + off).toNat
def bm_c1 (c : ClassFile.Cond) (x : Int32) : Prop := match c with
  | .eq => x = 0
  | .ne => ¬ x = 0
  | .lt => x < 0
  | .ge => 0 ≤ x
  | .gt => 0 < x
  | .le => x ≤ 0
def bm_c2 (c : ClassFile.Cond) (x y : Int32) : Prop := match c with
  | .eq => x = y
  | .ne => ¬ x = y
  | .lt => x < y
  | .ge => y ≤ x
  | .gt => y < x
  | .le => x ≤ y
/-- a branch to pc + off that stays within the code's numbers -/
def bm_br (pc : Nat) (off : Int) (k : Nat → Prop) : Prop := 0 ≤ (pc : Int) + off ∧ k (bm_tg pc off)
def bm_sw (lo hi d : Int) (offs : Array Int) (x : Int32) : Option Int := if x.toInt < lo ∨ hi < x.toInt then some d else offs[(x.toInt - lo).toNat]?
/-- the room that a call of mj takes within mi's -/
def bm_fit (mi mj : Nat) : Bool := decide (pm_fr mj + 1 ≤ pm_fr mi) && decide (8 + (pm_L mj + 11) + pm_lo mj ≤ pm_lo mi)
/-- the least that a call of Object's constructor, or of System.arraycopy, takes -/
def bm_fit0 (mi : Nat) : Bool := decide (1 ≤ pm_fr mi) && decide (20 ≤ pm_lo mi)
def bm_fit4 (mi : Nat) : Bool := decide (1 ≤ pm_fr mi) && decide (72 ≤ pm_lo mi)
def bm_fit5 (mi : Nat) : Bool := decide (1 ≤ pm_fr mi) && decide (21 ≤ pm_lo mi)
def bm_all (st : List Value) : Bool := st.all bm_ok && decide (st.length ≤ 8)
def bm_args (n : Nat) (st : List Value) (k : List Value → List Value → Prop) : Prop := n ≤ st.length ∧ bm_all (st.drop n) = true ∧ k (st.take n).reverse (st.drop n)
/-- a call -/
def bm_inv (C : bm_K) (mi : Nat) (P : List Value → bm_H → Prop) (how k : Nat) (st : List Value) (h : bm_H) : Prop :=
  bm_opt (pm_cT.lookup (bm_key mi k)) fun q => q.1 = how ∧ bm_fit mi q.2.1 = true ∧
    bm_args (pm_n q.2.1) st fun as r => match how with
      | 1 => C q.2.1 as h (fun v h2 => P (v.toList ++ r) h2)
      | _ => bm_r1 r fun a r => a < h.1 ∧ 3 ≤ a ∧ bm_all r = true ∧ bm_obj (h.2.2 a) fun ci _ => ci = pm_own q.2.1 ∧ C q.2.1 (.ref a :: as) h (fun v h2 => P (v.toList ++ r) h2)
/-- Object's constructor, System.arraycopy -/
def bm_spec (C : bm_K) (mi : Nat) (P : List Value → bm_H → Prop) (k : Nat) (st : List Value) (h : bm_H) : Prop :=
  bm_opt (pm_cT.lookup (bm_key mi k)) fun q => if q.1 = 3 then bm_fit0 mi = true ∧ bm_r1 st fun _ r => bm_all r = true ∧ P r h else bm_inv C mi P 2 k st h
def bm_copy (mi : Nat) (P : List Value → bm_H → Prop) (st : List Value) (h : bm_H) : Prop := match st with
  | .int n :: .int dp :: .ref b :: .int sp :: .ref a :: r => bm_fit4 mi = true ∧ bm_all r = true ∧ 3 ≤ a ∧ a < h.1 ∧ 3 ≤ b ∧ b < h.1 ∧ ¬ sp < 0 ∧ ¬ dp < 0 ∧ ¬ n < 0 ∧
      bm_ints (h.2.2 a) fun t na f => bm_ints (h.2.2 b) fun t2 nb g => t = 0 ∧ t2 = 0 ∧ sp.toNatClampNeg + n.toNatClampNeg ≤ na ∧ dp.toNatClampNeg + n.toNatClampNeg ≤ nb ∧
        P r (bm_set h b (.inl (0, nb, va_cpy f g sp.toNatClampNeg dp.toNatClampNeg n.toNatClampNeg)))
  | _ => False
def bm_min (mi : Nat) (P : List Value → bm_H → Prop) (st : List Value) (h : bm_H) : Prop := bm_i2 st fun x y r => bm_fit5 mi = true ∧ bm_all r = true ∧ P (.int (if y < x then y else x) :: r) h
def bm_stat (C : bm_K) (mi : Nat) (P : List Value → bm_H → Prop) (k : Nat) (st : List Value) (h : bm_H) : Prop :=
  bm_opt (pm_cT.lookup (bm_key mi k)) fun q => if q.1 = 4 then bm_copy mi P st h else if q.1 = 5 then bm_min mi P st h else bm_inv C mi P 1 k st h
def bm_isRef (t : Option FieldType) : Bool := match t with
  | some (.object _) => true
  | some (.array _) => true
  | _ => false
/-- ONE INSTRUCTION -/
def bm_do (C : bm_K) (mi : Nat) (Q : bm_Q) (P : Nat → List Value → List Value → bm_H → Prop) (i : Instr) (pc : Nat) (ls st : List Value) (h : bm_H) : Prop := match i with
  | .iconst n => P (pc + 1) ls (.int (Int32.ofInt n) :: st) h
  | .bipush n => P (pc + 2) ls (.int (Int8.ofInt n).toInt32 :: st) h
  | .sipush n => P (pc + 3) ls (.int (Int16.ofInt n).toInt32 :: st) h
  | .ldc k => bm_opt (pm_kT.lookup (bm_key mi k)) fun v => P (pc + 2) ls (.int v :: st) h
  | .ldc_w k => bm_opt (pm_kT.lookup (bm_key mi k)) fun v => P (pc + 3) ls (.int v :: st) h
  | .iload_n k => bm_lI ls k fun x => P (pc + 1) ls (.int x :: st) h
  | .iload k => bm_lI ls k fun x => P (pc + 2) ls (.int x :: st) h
  | .aload_n k => bm_lR ls k fun a => P (pc + 1) ls (.ref a :: st) h
  | .aload k => bm_lR ls k fun a => P (pc + 2) ls (.ref a :: st) h
  | .istore_n k => bm_i1 st fun x r => (k : Nat) < ls.length ∧ P (pc + 1) (ls.set k (.int x)) r h
  | .istore k => bm_i1 st fun x r => k < ls.length ∧ P (pc + 2) (ls.set k (.int x)) r h
  | .astore_n k => bm_r1 st fun a r => (k : Nat) < ls.length ∧ P (pc + 1) (ls.set k (.ref a)) r h
  | .astore k => bm_r1 st fun a r => k < ls.length ∧ P (pc + 2) (ls.set k (.ref a)) r h
  | .iinc k n => bm_lI ls k fun x => P (pc + 3) (ls.set k (.int (x + Int32.ofInt n))) st h
  | .iadd => bm_i2 st fun x y r => P (pc + 1) ls (.int (x + y) :: r) h
  | .isub => bm_i2 st fun x y r => P (pc + 1) ls (.int (x - y) :: r) h
  | .imul => bm_i2 st fun x y r => P (pc + 1) ls (.int (x * y) :: r) h
  | .idiv => bm_i2 st fun x y r => ¬ y = 0 ∧ P (pc + 1) ls (.int (x / y) :: r) h
  | .irem => bm_i2 st fun x y r => ¬ y = 0 ∧ P (pc + 1) ls (.int (x - x / y * y) :: r) h
  | .ineg => bm_i1 st fun x r => P (pc + 1) ls (.int (-x) :: r) h
  | .iand => bm_i2 st fun x y r => P (pc + 1) ls (.int (x &&& y) :: r) h
  | .ior => bm_i2 st fun x y r => P (pc + 1) ls (.int (x ||| y) :: r) h
  | .ixor => bm_i2 st fun x y r => P (pc + 1) ls (.int (x ^^^ y) :: r) h
  | .ishl => bm_i2 st fun x y r => P (pc + 1) ls (.int (x <<< (y &&& 31)) :: r) h
  | .ishr => bm_i2 st fun x y r => P (pc + 1) ls (.int (x >>> (y &&& 31)) :: r) h
  | .iushr => bm_i2 st fun x y r => P (pc + 1) ls (.int (x.toUInt32 >>> (y.toUInt32 &&& Int32.toUInt32 31)).toInt32 :: r) h
  | .i2b => bm_i1 st fun x r => P (pc + 1) ls (.int x.toInt8.toInt32 :: r) h
  | .dup => bm_v1 st fun v r => P (pc + 1) ls (v :: v :: r) h
  | .pop => bm_v1 st fun _ r => P (pc + 1) ls r h
  | .dup2 => bm_v2 st fun v w r => P (pc + 1) ls (v :: w :: v :: w :: r) h
  | .ifCond c off => bm_i1 st fun x r => bm_br pc off fun t => (bm_c1 c x → P t ls r h) ∧ (¬ bm_c1 c x → P (pc + 3) ls r h)
  | .if_icmp c off => bm_i2 st fun x y r => bm_br pc off fun t => (bm_c2 c x y → P t ls r h) ∧ (¬ bm_c2 c x y → P (pc + 3) ls r h)
  | .goto off => bm_br pc off fun t => P t ls st h
  | .tableswitch d lo hi offs => bm_i1 st fun x r => bm_opt (bm_sw lo hi d offs x) fun off => bm_br pc off fun t => P t ls r h
  | .lookupswitch d ps => bm_i1 st fun x r => (ps.toList.zip (ps.toList.drop 1)).all (fun (a, next) => a.1 < next.1) = true ∧ bm_br pc (Op.lookupswitch.offset ps.toList d x.toInt) fun t => P t ls r h
  | .getfield k => bm_r1 st fun a r => 3 ≤ a ∧ a < h.1 ∧ bm_obj (h.2.2 a) fun ci fs => bm_opt (pm_fT.lookup (bm_key mi k)) fun q => q.1 = ci ∧ bm_opt (fs[q.2.1]?) fun v => P (pc + 3) ls (v :: r) h
  | .putfield k => bm_rv st fun a v r => 3 ≤ a ∧ a < h.1 ∧ bm_ok v = true ∧ bm_obj (h.2.2 a) fun ci fs => bm_opt (pm_fT.lookup (bm_key mi k)) fun q => q.1 = ci ∧ q.2.1 < fs.length ∧ narrow (pm_ty ci q.2.1) v = v ∧ fits (pm_ty ci q.2.1) v = true ∧
      bm_opt (pm_cl[ci]?) fun cq => ((cq.2.1 q.2.1).2.2.2 = false ∨ ((pm_M mi).2.1 = "<init>" ∧ pm_own mi = ci ∧ q.2.2 = 0)) ∧ P (pc + 3) ls r (bm_set h a (.inr (.inr (ci, fs.set q.2.1 v))))
  | .getstatic k => bm_opt (pm_sT.lookup (bm_key mi k)) fun e => P (pc + 3) ls (.ref e :: st) h
  | .new k => bm_opt (pm_nT.lookup (bm_key mi k)) fun ci => bm_opt (pm_cl[ci]?) fun q => P (pc + 3) ls (.ref h.1 :: st) (bm_new h q.2.2 (.inr (.inr (ci, (List.range q.2.2).map fun j => defaultValue (pm_ty ci j)))))
  | .newarray a => bm_i1 st fun n r => ¬ n < 0 ∧ n.toNatClampNeg ≤ 1000000 ∧ bm_opt (bm_tag a) fun t => P (pc + 2) ls (.ref h.1 :: r) (bm_new h n.toNatClampNeg (.inl (t, n.toNatClampNeg, fun _ => 0)))
  | .anewarray k => bm_i1 st fun n r => ¬ n < 0 ∧ n.toNatClampNeg ≤ 1000000 ∧ bm_opt (pm_aT.lookup (bm_key mi k)) fun ci => P (pc + 3) ls (.ref h.1 :: r) (bm_new h n.toNatClampNeg (.inr (.inl (ci, n.toNatClampNeg, fun _ => none))))
  | .iaload => bm_ri st fun a i r => a < h.1 ∧ bm_ints (h.2.2 a) fun t n f => t = 0 ∧ vp_in i n ∧ P (pc + 1) ls (.int (f i.toNatClampNeg) :: r) h
  | .baload => bm_ri st fun a i r => 3 ≤ a ∧ a < h.1 ∧ bm_ints (h.2.2 a) fun t n f => (t = 1 ∨ t = 2) ∧ vp_in i n ∧ P (pc + 1) ls (.int (f i.toNatClampNeg) :: r) h
  | .iastore => bm_rii st fun a i x r => 3 ≤ a ∧ a < h.1 ∧ bm_ints (h.2.2 a) fun t n f => t = 0 ∧ vp_in i n ∧ P (pc + 1) ls r (bm_set h a (.inl (0, n, upd f i.toNatClampNeg x)))
  | .bastore => bm_rii st fun a i x r => 3 ≤ a ∧ a < h.1 ∧ bm_ints (h.2.2 a) fun t n f => (t = 1 ∨ t = 2) ∧ vp_in i n ∧ P (pc + 1) ls r (bm_set h a (.inl (t, n, upd f i.toNatClampNeg (vp_nar (bm_ty t) x))))
  | .aaload => bm_ri st fun a i r => 3 ≤ a ∧ a < h.1 ∧ bm_refs (h.2.2 a) fun _ n f => vp_in i n ∧ bm_opt (f i.toNatClampNeg) fun b => P (pc + 1) ls (.ref b :: r) h
  | .aastore => bm_rir st fun a i v r => 3 ≤ a ∧ a < h.1 ∧ 3 ≤ v ∧ v < h.1 ∧ bm_refs (h.2.2 a) fun ci n f => vp_in i n ∧ bm_obj (h.2.2 v) fun cv _ => cv = ci ∧ P (pc + 1) ls r (bm_set h a (.inr (.inl (ci, n, va_up f i.toNatClampNeg (some v)))))
  | .arraylength => bm_r1 st fun a r => a < h.1 ∧ bm_ints (h.2.2 a) fun t n _ => t = 0 ∧ P (pc + 1) ls (.int (Int32.ofNat n) :: r) h
  | .invokevirtual k => bm_inv C mi (fun st h => P (pc + 3) ls st h) 0 k st h
  | .invokestatic k => bm_stat C mi (fun st h => P (pc + 3) ls st h) k st h
  | .invokespecial k => bm_spec C mi (fun st h => P (pc + 3) ls st h) k st h
  | .ireturn => bm_i1 st fun x r => r = [] ∧ bm_opt (pm_r mi) fun ty => bm_isRef (some ty) = false ∧ narrow ty (.int x) = .int x ∧ Q (some (.int x)) h
  | .areturn => bm_r1 st fun a r => r = [] ∧ bm_isRef (pm_r mi) = true ∧ Q (some (.ref a)) h
  | .return_ => st = [] ∧ pm_r mi = none ∧ Q none h
  | _ => False
/-- how long an instruction is -/
def bm_ln (i : Instr) (n : Nat) : Nat := match i with
  | .iconst _ | .iload_n _ | .aload_n _ | .istore_n _ | .astore_n _ | .iadd | .isub | .imul | .idiv | .irem | .ineg | .iand | .ior | .ixor | .ishl | .ishr | .iushr | .i2b | .dup | .pop | .dup2 | .iaload | .baload | .iastore | .bastore | .aaload | .aastore | .arraylength | .ireturn | .areturn | .return_ => 1
  | .bipush _ | .ldc _ | .iload _ | .aload _ | .istore _ | .astore _ | .newarray _ => 2
  | .sipush _ | .ldc_w _ | .iinc _ _ | .ifCond _ _ | .if_icmp _ _ | .goto _ | .getfield _ | .putfield _ | .getstatic _ | .new _ | .anewarray _ | .invokevirtual _ | .invokestatic _ | .invokespecial _ => 3
  | _ => n
/-- an entry of the pool that the tables' keys can tell -/
def bm_ix (i : Instr) : Bool := match i with
  | .ldc k | .ldc_w k | .getfield k | .putfield k | .getstatic k | .new k | .anewarray k | .invokevirtual k | .invokestatic k | .invokespecial k => decide (k < 1000)
  | _ => true
def bm_step (C : bm_K) (mi : Nat) (Q : bm_Q) (P : Nat → List Value → List Value → bm_H → Prop) (pc : Nat) (ls st : List Value) (h : bm_H) : Prop :=
  bm_opt (pm_ins mi pc) fun i => i.2 = bm_ln i.1 i.2 ∧ bm_ix i.1 = true ∧ bm_do C mi Q P i.1 pc ls st h
/-- THE RUN of a method's body from a place on: the least that its steps close -/
def bm_W (C : bm_K) (mi : Nat) (Q : bm_Q) (pc : Nat) (ls st : List Value) (h : bm_H) : Prop :=
  ∀ P : Nat → List Value → List Value → bm_H → Prop, (∀ pc ls st h, bm_step C mi Q P pc ls st h → P pc ls st h) → P pc ls st h
/-- the locals at a method's entry: the arguments, then nothing -/
def bm_en (L : Nat) (as : List Value) : List Value := as ++ List.replicate (L - as.length) (.retAddr 0)
/-- THE CALL of a method, calls d deep at most -/
def bm_M : Nat → bm_K
  | 0 => fun _ _ _ _ => False
  | d + 1 => fun mi as h Q => as.length ≤ pm_L mi ∧ as.all bm_ok = true ∧ bm_W (bm_M d) mi Q 0 (bm_en (pm_L mi) as) [] h
