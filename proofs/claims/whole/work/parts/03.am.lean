/-! AN ABSTRACT MACHINE over pure states: WP, the least predicate closed under F, one case an instruction. Soundness: the next part. -/
abbrev Hp : Type := Nat → Option va_E
abbrev Lv : Type := List (Option Value)
abbrev Ou : Type := Option Value ⊕ String
abbrev Mth : Type := MethodName × ByteArray × Nat × Option FieldType × Nat × List (Nat × Nat × Nat × Nat)
def my (M : Mth) : MethodName := M.1
def mb (M : Mth) : ByteArray := M.2.1
def ml (M : Mth) : Nat := M.2.2.1
def mr (M : Mth) : Option FieldType := M.2.2.2.1
def mo (M : Mth) : Nat := M.2.2.2.2.1
def mh (M : Mth) : List (Nat × Nat × Nat × Nat) := M.2.2.2.2.2
def clsL : List vw_C := [(RX0, TX0, 11), (RX1, TX1, 11), (RX2, TX2, 8), (RX3, TX3, 17), (RX4, TX4, 8), (RX5, TX5, 14), (RX6, TX6, 1), (RX7, TX7, 11), (RX8, TX8, 4), (RX9, TX9, 10), (RX10, TX10, 12), (RX11, TX11, 12), (RX12, TX12, 40)]
def cn (k : Nat) : String := match k with
  | 0 => RX0 | 1 => RX1 | 2 => RX2 | 3 => RX3 | 4 => RX4 | 5 => RX5 | 6 => RX6 | 7 => RX7 | 8 => RX8 | 9 => RX9 | 10 => RX10 | 11 => RX11 | 12 => RX12 | 13 => RL
  | 14 => "java/util/Arrays" | 15 => "java/lang/Long" | 16 => "java/lang/Integer" | _ => "java/lang/String"
def tblG : List Cond := lw_tbl.filter goodWord
def hset (h : Hp) (a : Nat) (e : va_E) : Hp := fun b => if b = a then some e else h b
theorem hset_s (h : Hp) (a : Nat) (e : va_E) : hset h a e a = some e := by simp [hset]
theorem hset_n (h : Hp) {a b : Nat} (e : va_E) (n : b ≠ a) : hset h a e b = h b := by simp [hset, n]
/-- locals: a store at i -/
def stl (lv : Lv) (i : Nat) (v : Value) : Lv :=
  let l1 := match i with
    | 0 => lv
    | j + 1 => match lv[j]? with
      | some (some w) => if w.category = 2 then lv.set j none else lv
      | _ => lv
  let l2 := l1.set i (some v)
  if v.category = 2 then l2.set (i + 1) none else l2
def ldl (lv : Lv) (i : Nat) : Option Value := (lv[i]?).join
def isRf (v : Value) : Bool := match v with | .ref _ => true | .null => true | _ => false
/-- what a condition says of two ints -/
def cdI (cd : ClassFile.Cond) (x y : Int32) : Bool := match cd with
  | .eq => decide (x = y) | .ne => decide (¬ x = y) | .lt => decide (x < y) | .ge => decide (y ≤ x) | .gt => decide (y < x) | .le => decide (x ≤ y)
def tgt (pc : Nat) (off : Int) : Nat := ((pc : Int) + off).toNat
/-- an instruction that touches the frame alone: the next pc, locals, stack -/
def sx (ig : Instr) (len pc : Nat) (lv : Lv) (st : List Value) : Option (Nat × Lv × List Value) :=
  match ig, len, st with
  | .iconst n, 1, st => some (pc + 1, lv, .int (Int32.ofInt n) :: st)
  | .bipush n, 2, st => some (pc + 2, lv, .int (Int8.ofInt n).toInt32 :: st)
  | .sipush n, 3, st => some (pc + 3, lv, .int (Int16.ofInt n).toInt32 :: st)
  | .lconst n, 1, st => some (pc + 1, lv, .long (Int64.ofNat (n : Nat)) :: st)
  | .iload_n k, 1, st => match ldl lv (k : Nat) with | some (.int x) => some (pc + 1, lv, .int x :: st) | _ => none
  | .iload i, 2, st => match ldl lv i with | some (.int x) => some (pc + 2, lv, .int x :: st) | _ => none
  | .lload_n k, 1, st => match ldl lv (k : Nat) with | some (.long x) => some (pc + 1, lv, .long x :: st) | _ => none
  | .lload i, 2, st => match ldl lv i with | some (.long x) => some (pc + 2, lv, .long x :: st) | _ => none
  | .aload_n k, 1, st => match ldl lv (k : Nat) with | some (.ref x) => some (pc + 1, lv, .ref x :: st) | _ => none
  | .aload i, 2, st => match ldl lv i with | some (.ref x) => some (pc + 2, lv, .ref x :: st) | _ => none
  | .istore_n k, 1, .int x :: st => if (k : Nat) < lv.length then some (pc + 1, stl lv (k : Nat) (.int x), st) else none
  | .istore i, 2, .int x :: st => if i < lv.length then some (pc + 2, stl lv i (.int x), st) else none
  | .lstore_n k, 1, .long x :: st => if (k : Nat) + 1 < lv.length then some (pc + 1, stl lv (k : Nat) (.long x), st) else none
  | .lstore i, 2, .long x :: st => if i + 1 < lv.length then some (pc + 2, stl lv i (.long x), st) else none
  | .astore_n k, 1, .ref x :: st => if (k : Nat) < lv.length then some (pc + 1, stl lv (k : Nat) (.ref x), st) else none
  | .astore i, 2, .ref x :: st => if i < lv.length then some (pc + 2, stl lv i (.ref x), st) else none
  | .iinc i n, 3, st => match ldl lv i with | some (.int x) => some (pc + 3, stl lv i (.int (x + Int32.ofInt n)), st) | _ => none
  | .iadd, 1, .int y :: .int x :: st => some (pc + 1, lv, .int (x + y) :: st)
  | .isub, 1, .int y :: .int x :: st => some (pc + 1, lv, .int (x - y) :: st)
  | .imul, 1, .int y :: .int x :: st => some (pc + 1, lv, .int (x * y) :: st)
  | .iand, 1, .int y :: .int x :: st => some (pc + 1, lv, .int (x &&& y) :: st)
  | .ior, 1, .int y :: .int x :: st => some (pc + 1, lv, .int (x ||| y) :: st)
  | .ixor, 1, .int y :: .int x :: st => some (pc + 1, lv, .int (x ^^^ y) :: st)
  | .ineg, 1, .int x :: st => some (pc + 1, lv, .int (-x) :: st)
  | .ladd, 1, .long y :: .long x :: st => some (pc + 1, lv, .long (x + y) :: st)
  | .lsub, 1, .long y :: .long x :: st => some (pc + 1, lv, .long (x - y) :: st)
  | .lmul, 1, .long y :: .long x :: st => some (pc + 1, lv, .long (x * y) :: st)
  | .land, 1, .long y :: .long x :: st => some (pc + 1, lv, .long (x &&& y) :: st)
  | .lor, 1, .long y :: .long x :: st => some (pc + 1, lv, .long (x ||| y) :: st)
  | .lxor, 1, .long y :: .long x :: st => some (pc + 1, lv, .long (x ^^^ y) :: st)
  | .lneg, 1, .long x :: st => some (pc + 1, lv, .long (-x) :: st)
  | .ishl, 1, .int y :: .int x :: st => some (pc + 1, lv, .int (x <<< (y &&& 31)) :: st)
  | .ishr, 1, .int y :: .int x :: st => some (pc + 1, lv, .int (x >>> (y &&& 31)) :: st)
  | .iushr, 1, .int y :: .int x :: st => some (pc + 1, lv, .int (x.toUInt32 >>> (y.toUInt32 &&& Int32.toUInt32 31)).toInt32 :: st)
  | .lshl, 1, .int y :: .long x :: st => some (pc + 1, lv, .long (x <<< (y.toInt64 &&& 63)) :: st)
  | .lshr, 1, .int y :: .long x :: st => some (pc + 1, lv, .long (x >>> (y.toInt64 &&& 63)) :: st)
  | .lushr, 1, .int y :: .long x :: st => some (pc + 1, lv, .long (x.toUInt64 >>> (y.toInt64.toUInt64 &&& Int64.toUInt64 63)).toInt64 :: st)
  | .i2l, 1, .int x :: st => some (pc + 1, lv, .long x.toInt64 :: st)
  | .l2i, 1, .long x :: st => some (pc + 1, lv, .int x.toInt32 :: st)
  | .i2b, 1, .int x :: st => some (pc + 1, lv, .int x.toInt8.toInt32 :: st)
  | .i2s, 1, .int x :: st => some (pc + 1, lv, .int x.toInt16.toInt32 :: st)
  | .lcmp, 1, .long y :: .long x :: st => some (pc + 1, lv, .int (lg_cmp x y) :: st)
  | .dup, 1, v :: st => if v.category = 1 then some (pc + 1, lv, v :: v :: st) else none
  | .pop, 1, v :: st => if v.category = 1 then some (pc + 1, lv, st) else none
  | .dup_x1, 1, v :: w :: st => if v.category = 1 ∧ w.category = 1 then some (pc + 1, lv, v :: w :: v :: st) else none
  | .dup2, 1, v :: w :: st => if v.category = 1 ∧ w.category = 1 then some (pc + 1, lv, v :: w :: v :: w :: st) else none
  | .goto off, 3, st => if 0 ≤ (pc : Int) + off then some (tgt pc off, lv, st) else none
  | .ifCond cd off, 3, .int x :: st => if 0 ≤ (pc : Int) + off then some (if cdI cd x 0 then tgt pc off else pc + 3, lv, st) else none
  | .if_icmp cd off, 3, .int y :: .int x :: st => if 0 ≤ (pc : Int) + off then some (if cdI cd x y then tgt pc off else pc + 3, lv, st) else none
  | .ifnull off, 3, .ref _ :: st => some (pc + 3, lv, st)
  | .ifnull off, 3, .null :: st => if 0 ≤ (pc : Int) + off then some (tgt pc off, lv, st) else none
  | .ifnonnull off, 3, .ref _ :: st => if 0 ≤ (pc : Int) + off then some (tgt pc off, lv, st) else none
  | .ifnonnull off, 3, .null :: st => some (pc + 3, lv, st)
  | _, _, _ => none
/-- links: what the tables say, as the kit's rows ask for it -/
def FLg (own idx ci k : Nat) : Prop := ∃ (C : String) (T : u_T) (N : Nat), clsL[ci]? = some (C, T, N) ∧ k < N ∧ (∀ w ∈ u_ws C T N, w ∈ tblG) ∧ Cond.fieldLink (cn own) idx (T k).1 (T k).2.1 (T k).2.2.1 ∈ tblG
def FLp (own idx ci k : Nat) (fin : Bool) (ty : FieldType) : Prop := ∃ (C : String) (T : u_T) (N : Nat) (ty0 : Nat → FieldType), clsL[ci]? = some (C, T, N) ∧ k < N ∧ (∀ w ∈ u_ws C T N, w ∈ tblG) ∧ Cond.fieldLink (cn own) idx (T k).1 (T k).2.1 (T k).2.2.1 ∈ tblG ∧ (∀ k, k < N → parseFieldDescriptor (T k).2.2.1 = some (ty0 k)) ∧ (∀ a, a < N → ∀ b, b < N → a ≠ b → (T a).2.1 ≠ (T b).2.1) ∧ (T k).2.2.2 = fin ∧ parseFieldDescriptor (T k).2.2.1 = some ty ∧ (fin = true → (T k).1 = cn own)
def CLn (own idx ci : Nat) (fs : List Value) : Prop := ∃ (C : String) (T : u_T) (N : Nat) (ty : Nat → FieldType), clsL[ci]? = some (C, T, N) ∧ (∀ w ∈ u_ws C T N, w ∈ tblG) ∧ (∀ k, k < N → parseFieldDescriptor (T k).2.2.1 = some (ty k)) ∧ Cond.classLink (cn own) idx C ∈ tblG ∧ Cond.instantiable C N ∈ tblG ∧ Cond.initialized C ∈ tblG ∧ (∀ j, j < N → defaultValue (ty j) = vp_V fs j) ∧ fs.length = N
/-- a method of ours: its class, its word -/
def mw (M : Mth) : Cond := match mh M with
  | [] => Cond.code (my M) (mb M) (ml M) (mr M)
  | h :: t => Cond.codeWith (my M) (mb M) (ml M) (mr M) (h :: t)
def MOk (M : Mth) (n : Nat) : Prop := (my M).cls = cn (mo M) ∧ plainName (my M).cls = true ∧ ((my M).cls ≠ "java/lang/invoke/MethodHandle" ∧ (my M).cls ≠ "java/lang/invoke/VarHandle") ∧ (parseMethodDescriptor (my M).desc).map (fun d => d.parameters.length) = some n ∧ mw M ∈ tblG ∧ Cond.initialized (my M).cls ∈ tblG ∧ ml M ≤ 60
/-- words that aren't good ones, kept by themselves -/
def exP (w : Cond) : Bool := match w with | .methodLinkNest _ _ _ _ => true | .castable _ _ => true | .arrayOver (.object _) => true | .declares _ => true | .codeSync _ _ _ _ => true | _ => false
def exL : List Cond := tables_1.filter exP
def hostN : String := "BurntOak"
/-- how a call of M is linked: 0 static, 1 virtual, 2 <init> -/
def MLk (own idx : Nat) (M : Mth) (kind n : Nat) : Prop := MOk M n ∧ (Cond.methodLink (cn own) idx (my M) ∈ tblG ∨ (Cond.methodLinkNest (cn own) idx (my M) hostN ∈ exL ∧ mh M = [])) ∧
  ((kind = 0 ∧ Cond.static (my M) ∈ tblG) ∨ (kind = 1 ∧ Cond.instanceMethod (my M) ∈ tblG ∧ Cond.selects (my M).cls (my M) (my M) ∈ tblG ∧ mh M = []) ∨ (kind = 2 ∧ (my M).name = "<init>" ∧ Cond.instanceMethod (my M) ∈ tblG ∧ mh M = [] ∧ mr M = none))
/-- the array classes, by their types -/
def tyN (k : Nat) : FieldType := match k with
  | 0 => .int | 1 => .long | 2 => .boolean | 3 => .byte | 4 => .object RX8 | 5 => .object RX3 | 6 => .object RX2 | 7 => .object RX0 | _ => .object RX6
/-- the constant texts: owner, number in its pool, text; their signs -/
def strT : List (Nat × Nat × String) := [(5, 74, "oak   farm  bridgeschoolpond  churchinn   gate  stone mill  well  cross on    until past  far   see   over  loose back  left  right or    not   "), (12, 274, "oak"), (12, 280, "farm"), (12, 282, "bridge"), (12, 284, "school"), (12, 286, "pond"), (12, 288, "church"), (12, 290, "inn"), (12, 292, "gate"), (12, 294, "stone"), (12, 296, "mill"), (12, 298, "well"), (12, 300, "cross"), (12, 310, "left"), (12, 312, "right"), (12, 317, "on"), (12, 319, "past"), (12, 321, "far"), (12, 323, "see"), (12, 324, "over"), (12, 326, "loose"), (12, 328, "back"), (12, 344, "until"), (12, 352, "not"), (12, 357, "or")]
def strB : List (List Nat) := [[111, 97, 107, 32, 32, 32, 102, 97, 114, 109, 32, 32, 98, 114, 105, 100, 103, 101, 115, 99, 104, 111, 111, 108, 112, 111, 110, 100, 32, 32, 99, 104, 117, 114, 99, 104, 105, 110, 110, 32, 32, 32, 103, 97, 116, 101, 32, 32, 115, 116, 111, 110, 101, 32, 109, 105, 108, 108, 32, 32, 119, 101, 108, 108, 32, 32, 99, 114, 111, 115, 115, 32, 111, 110, 32, 32, 32, 32, 117, 110, 116, 105, 108, 32, 112, 97, 115, 116, 32, 32, 102, 97, 114, 32, 32, 32, 115, 101, 101, 32, 32, 32, 111, 118, 101, 114, 32, 32, 108, 111, 111, 115, 101, 32, 98, 97, 99, 107, 32, 32, 108, 101, 102, 116, 32, 32, 114, 105, 103, 104, 116, 32, 111, 114, 32, 32, 32, 32, 110, 111, 116, 32, 32, 32], [111, 97, 107], [102, 97, 114, 109], [98, 114, 105, 100, 103, 101], [115, 99, 104, 111, 111, 108], [112, 111, 110, 100], [99, 104, 117, 114, 99, 104], [105, 110, 110], [103, 97, 116, 101], [115, 116, 111, 110, 101], [109, 105, 108, 108], [119, 101, 108, 108], [99, 114, 111, 115, 115], [108, 101, 102, 116], [114, 105, 103, 104, 116], [111, 110], [112, 97, 115, 116], [102, 97, 114], [115, 101, 101], [111, 118, 101, 114], [108, 111, 111, 115, 101], [98, 97, 99, 107], [117, 110, 116, 105, 108], [110, 111, 116], [111, 114]]
def sln (j : Nat) : Nat := (strB.getD j []).length
def sch (j k : Nat) : Nat := (strB.getD j []).getD k 0
def yLen : MethodName := ⟨"java/lang/String", "length", "()I"⟩
def yChr : MethodName := ⟨"java/lang/String", "charAt", "(I)C"⟩
abbrev Cd : Type := Mth × Nat × (Nat × Lv × List Value × Hp × Nat × Nat) × (Ou → Hp → Prop)
section AM
-- ar: the array classes' numbers (tyN); ro: int arrays that are only read; sa: the constant texts' addresses
variable (ar : Nat → ClassId) (ro : Nat → Option (Nat × (Nat → Int32))) (sa : Nat → Nat)
abbrev aI (n : Nat) (f : Nat → Int32) : va_E := .inl (ar 0, n, .inl f)
/-- heap reads and writes -/
def am_h (P : Cd → Prop) (M : Mth) (d : Nat) (ig : Instr) (len pc : Nat) (lv : Lv) (st : List Value) (h : Hp) (kc ks : Nat) (Φ : Ou → Hp → Prop) : Prop :=
  match ig, len, st with
  | .getfield i, 3, .ref a :: st => ∃ (ci k : Nat) (fs : List Value) (v : Value), FLg (mo M) i ci k ∧ h a = some (.inr (ci, fs)) ∧ fs[k]? = some v ∧ P (M, d, (pc + 3, lv, v :: st, h, kc, ks), Φ)
  | .putfield i, 3, v :: .ref a :: st => ∃ (ci k : Nat) (fs : List Value) (fin : Bool) (ty : FieldType), FLp (mo M) i ci k fin ty ∧ h a = some (.inr (ci, fs)) ∧ k < fs.length ∧ narrow ty v = v ∧ fits ty v = true ∧ (fin = true → (my M).name = "<init>") ∧ P (M, d, (pc + 3, lv, st, hset h a (.inr (ci, fs.set k v)), kc, ks), Φ)
  | .iaload, 1, .int i :: .ref a :: st => (∃ (n : Nat) (f : Nat → Int32), h a = some (.inl (ar 0, n, .inl f)) ∧ vp_in i n ∧ P (M, d, (pc + 1, lv, .int (f i.toNatClampNeg) :: st, h, kc, ks), Φ)) ∨ (∃ (n : Nat) (f : Nat → Int32), ro a = some (n, f) ∧ vp_in i n ∧ P (M, d, (pc + 1, lv, .int (f i.toNatClampNeg) :: st, h, kc, ks), Φ))
  | .laload, 1, .int i :: .ref a :: st => ∃ (n : Nat) (f : Nat → Int64), h a = some (.inl (ar 1, n, .inr (.inl f))) ∧ vp_in i n ∧ P (M, d, (pc + 1, lv, .long (f i.toNatClampNeg) :: st, h, kc, ks), Φ)
  | .baload, 1, .int i :: .ref a :: st => ∃ (t n : Nat) (f : Nat → Int32), (t = 2 ∨ t = 3) ∧ h a = some (.inl (ar t, n, .inl f)) ∧ vp_in i n ∧ P (M, d, (pc + 1, lv, .int (f i.toNatClampNeg) :: st, h, kc, ks), Φ)
  | .aaload, 1, .int i :: .ref a :: st => ∃ (t n : Nat) (f : Nat → Option Nat), 4 ≤ t ∧ t ≤ 8 ∧ h a = some (.inl (ar t, n, .inr (.inr (.inr (.inr f))))) ∧ vp_in i n ∧ P (M, d, (pc + 1, lv, va_rf (f i.toNatClampNeg) :: st, h, kc, ks), Φ)
  | .iastore, 1, .int x :: .int i :: .ref a :: st => ∃ (n : Nat) (f : Nat → Int32), h a = some (.inl (ar 0, n, .inl f)) ∧ vp_in i n ∧ P (M, d, (pc + 1, lv, st, hset h a (.inl (ar 0, n, .inl (upd f i.toNatClampNeg x))), kc, ks), Φ)
  | .lastore, 1, .long x :: .int i :: .ref a :: st => ∃ (n : Nat) (f : Nat → Int64), h a = some (.inl (ar 1, n, .inr (.inl f))) ∧ vp_in i n ∧ P (M, d, (pc + 1, lv, st, hset h a (.inl (ar 1, n, .inr (.inl (vp_updL f i.toNatClampNeg x)))), kc, ks), Φ)
  | .bastore, 1, .int x :: .int i :: .ref a :: st => ∃ (t n : Nat) (f : Nat → Int32), (t = 2 ∨ t = 3) ∧ h a = some (.inl (ar t, n, .inl f)) ∧ vp_in i n ∧ P (M, d, (pc + 1, lv, st, hset h a (.inl (ar t, n, .inl (upd f i.toNatClampNeg (vp_nar (tyN t) x)))), kc, ks), Φ)
  | .aastore, 1, .ref v :: .int i :: .ref a :: st => ∃ (t n ci : Nat) (f : Nat → Option Nat) (vs : List Value) (r : vw_C), 4 ≤ t ∧ t ≤ 8 ∧ h a = some (.inl (ar t, n, .inr (.inr (.inr (.inr f))))) ∧ h v = some (.inr (ci, vs)) ∧ clsL[ci]? = some r ∧ tyN t = .object r.1 ∧ vp_in i n ∧ P (M, d, (pc + 1, lv, st, hset h a (.inl (ar t, n, .inr (.inr (.inr (.inr (va_up f i.toNatClampNeg (some v))))))), kc, ks), Φ)
  | .arraylength, 1, .ref a :: st => (∃ (t : Nat) (x : vp_A), t ≤ 8 ∧ h a = some (.inl (ar t, x)) ∧ P (M, d, (pc + 1, lv, .int (Int32.ofNat x.1) :: st, h, kc, ks), Φ)) ∨ (∃ (n : Nat) (f : Nat → Int32), ro a = some (n, f) ∧ P (M, d, (pc + 1, lv, .int (Int32.ofNat n) :: st, h, kc, ks), Φ))
  | .new i, 3, st => ∃ (ci : Nat) (fs : List Value), CLn (mo M) i ci fs ∧ 1 ≤ kc ∧ fs.length ≤ ks ∧ ∀ q : Nat, h q = none → P (M, d, (pc + 3, lv, .ref q :: st, hset h q (.inr (ci, fs)), kc - 1, ks - fs.length), Φ)
  | .newarray .int, 2, .int n :: st => ¬ n < 0 ∧ n.toNatClampNeg ≤ 10000 ∧ 1 ≤ kc ∧ n.toNatClampNeg ≤ ks ∧ ∀ q : Nat, h q = none → P (M, d, (pc + 2, lv, .ref q :: st, hset h q (.inl (ar 0, n.toNatClampNeg, .inl (fun _ => 0))), kc - 1, ks - n.toNatClampNeg), Φ)
  | .newarray .long, 2, .int n :: st => ¬ n < 0 ∧ n.toNatClampNeg ≤ 10000 ∧ 1 ≤ kc ∧ n.toNatClampNeg ≤ ks ∧ ∀ q : Nat, h q = none → P (M, d, (pc + 2, lv, .ref q :: st, hset h q (.inl (ar 1, n.toNatClampNeg, .inr (.inl (fun _ => 0)))), kc - 1, ks - n.toNatClampNeg), Φ)
  | .newarray .boolean, 2, .int n :: st => ¬ n < 0 ∧ n.toNatClampNeg ≤ 10000 ∧ 1 ≤ kc ∧ n.toNatClampNeg ≤ ks ∧ ∀ q : Nat, h q = none → P (M, d, (pc + 2, lv, .ref q :: st, hset h q (.inl (ar 2, n.toNatClampNeg, .inl (fun _ => 0))), kc - 1, ks - n.toNatClampNeg), Φ)
  | .newarray .byte, 2, .int n :: st => ¬ n < 0 ∧ n.toNatClampNeg ≤ 10000 ∧ 1 ≤ kc ∧ n.toNatClampNeg ≤ ks ∧ ∀ q : Nat, h q = none → P (M, d, (pc + 2, lv, .ref q :: st, hset h q (.inl (ar 3, n.toNatClampNeg, .inl (fun _ => 0))), kc - 1, ks - n.toNatClampNeg), Φ)
  | .anewarray i, 3, .int n :: st => ∃ (t : Nat) (C : String), 4 ≤ t ∧ t ≤ 8 ∧ tyN t = .object C ∧ Cond.classLink (cn (mo M)) i C ∈ tblG ∧ Cond.arrayOver (.object C) ∈ exL ∧ ¬ n < 0 ∧ n.toNatClampNeg ≤ 10000 ∧ 1 ≤ kc ∧ n.toNatClampNeg ≤ ks ∧ ∀ q : Nat, h q = none → P (M, d, (pc + 3, lv, .ref q :: st, hset h q (.inl (ar t, n.toNatClampNeg, .inr (.inr (.inr (.inr (fun _ => none)))))), kc - 1, ks - n.toNatClampNeg), Φ)
  | _, _, _ => False
/-- division; constants; switches -/
def am_d (P : Cd → Prop) (M : Mth) (d : Nat) (ig : Instr) (len pc : Nat) (lv : Lv) (st : List Value) (h : Hp) (kc ks : Nat) (Φ : Ou → Hp → Prop) : Prop :=
  match ig, len, st with
  | .idiv, 1, .int y :: .int x :: st => ¬ y = 0 ∧ P (M, d, (pc + 1, lv, .int (x / y) :: st, h, kc, ks), Φ)
  | .irem, 1, .int y :: .int x :: st => ¬ y = 0 ∧ P (M, d, (pc + 1, lv, .int (x - x / y * y) :: st, h, kc, ks), Φ)
  | .ldiv, 1, .long y :: .long x :: st => ¬ y = 0 ∧ P (M, d, (pc + 1, lv, .long (x / y) :: st, h, kc, ks), Φ)
  | .ldc i, 2, st => (∃ v : Int32, Cond.constant (cn (mo M)) i v ∈ tblG ∧ P (M, d, (pc + 2, lv, .int v :: st, h, kc, ks), Φ)) ∨ (∃ (j : Nat) (tx : String), strT[j]? = some (mo M, i, tx) ∧ P (M, d, (pc + 2, lv, .ref (sa j) :: st, h, kc, ks), Φ))
  | .ldc_w i, 3, st => (∃ v : Int32, Cond.constant (cn (mo M)) i v ∈ tblG ∧ P (M, d, (pc + 3, lv, .int v :: st, h, kc, ks), Φ)) ∨ (∃ (j : Nat) (tx : String), strT[j]? = some (mo M, i, tx) ∧ P (M, d, (pc + 3, lv, .ref (sa j) :: st, h, kc, ks), Φ))
  | .ldc2_w i, 3, st => ∃ v : Int64, Cond.constantLong (cn (mo M)) i v ∈ tblG ∧ P (M, d, (pc + 3, lv, .long v :: st, h, kc, ks), Φ)
  | .lookupswitch df ps, _, .int x :: st => (ps.toList.zip (ps.toList.drop 1)).all (fun (a, next) => a.1 < next.1) = true ∧ 0 ≤ (pc : Int) + Op.lookupswitch.offset ps.toList df x.toInt ∧ P (M, d, (tgt pc (Op.lookupswitch.offset ps.toList df x.toInt), lv, st, h, kc, ks), Φ)
  | .tableswitch df lo hi offs, _, .int x :: st => ((x.toInt < lo ∨ hi < x.toInt) → 0 ≤ (pc : Int) + df ∧ P (M, d, (tgt pc df, lv, st, h, kc, ks), Φ)) ∧ (¬ x.toInt < lo → ¬ hi < x.toInt → ∃ off, offs[(x.toInt - lo).toNat]? = some off ∧ 0 ≤ (pc : Int) + off ∧ P (M, d, (tgt pc off, lv, st, h, kc, ks), Φ))
  | _, _, _ => False
/-- ends: returns, throw new E() -/
def am_e (M : Mth) (ig : Instr) (len pc : Nat) (st : List Value) (h : Hp) (kc ks : Nat) (Φ : Ou → Hp → Prop) : Prop :=
  match ig, len, st with
  | .ireturn, 1, [.int v] => (mr M = some .int ∨ (mr M = some .boolean ∧ narrow .boolean (.int v) = .int v)) ∧ Φ (.inl (some (.int v))) h
  | .lreturn, 1, [.long v] => mr M = some .long ∧ Φ (.inl (some (.long v))) h
  | .return_, 1, [] => mr M = none ∧ Φ (.inl none) h
  | .new ik, 3, st => ∃ (ic : Nat) (E : String) (names : List String), mh M = [] ∧ Bundle.fit E = true ∧ (∀ n ∈ names, Bundle.fit n = true) ∧ Cond.classLink (cn (mo M)) ik E ∈ tblG ∧ Cond.initialized E ∈ tblG ∧ (∀ w ∈ vx_at0 (cn (mo M)) ic E names, (w ∈ tblG ∨ w ∈ exL) ∧ vx_ot w = true) ∧ decode (mb M) (pc + 3) = .ok (.dup, 1) ∧ decode (mb M) (pc + 4) = .ok (.invokespecial ic, 3) ∧ decode (mb M) (pc + 7) = .ok (.athrow, 1) ∧ names.length ≤ 4 ∧ (st.map fun v => v.category).sum ≤ 8 ∧ 1 ≤ kc ∧ 6 ≤ ks ∧ Φ (.inr E) h
  | _, _, _ => False
/-- who catches E at pc -/
def XHs (M : Mth) (pc : Nat) (E : String) (hpc : Nat) (ncs : List (String × String)) : Prop := ∃ (pre : List ExceptionTableEntry) (x : ExceptionTableEntry) (suf : List ExceptionTableEntry) (name : String), tableOf (mh M) = pre ++ x :: suf ∧ (∀ z ∈ pre, covers z pc = false ∨ (z.catchType ≠ 0 ∧ ∃ nm : String, Cond.classLink (cn (mo M)) z.catchType nm ∈ tblG ∧ (E, nm) ∈ ncs)) ∧ covers x pc = true ∧ x.catchType ≠ 0 ∧ Cond.classLink (cn (mo M)) x.catchType name ∈ tblG ∧ Cond.castable E name ∈ exL ∧ x.handlerPc = hpc
def ncsL : List (String × String) := [("java/lang/IllegalArgumentException", "java/util/NoSuchElementException"), ("java/lang/IllegalStateException", "java/util/NoSuchElementException"), ("java/lang/IndexOutOfBoundsException", "java/util/NoSuchElementException"), ("java/lang/IndexOutOfBoundsException", "java/lang/IllegalStateException"), ("java/lang/IllegalArgumentException", "java/lang/IllegalStateException")]
/-- calls of our methods -/
def am_c (P : Cd → Prop) (M : Mth) (d : Nat) (ig : Instr) (len pc : Nat) (lv : Lv) (st : List Value) (h : Hp) (kc ks : Nat) (Φ : Ou → Hp → Prop) : Prop :=
  ∃ (idx kind d' mc ms : Nat) (M' : Mth) (As rest av : List Value) (Ψ : Ou → Hp → Prop), d = d' + 1 ∧ len = 3 ∧ MLk (mo M) idx M' kind As.length ∧
    ((kind = 0 ∧ ig = .invokestatic idx ∧ st = As.reverse ++ rest ∧ av = As) ∨ (∃ (b ci : Nat) (fs : List Value) (r : vw_C), kind = 1 ∧ ig = .invokevirtual idx ∧ st = As.reverse ++ .ref b :: rest ∧ av = .ref b :: As ∧ h b = some (.inr (ci, fs)) ∧ clsL[ci]? = some r ∧ r.1 = (my M').cls) ∨ (∃ b : Nat, kind = 2 ∧ ig = .invokespecial idx ∧ st = As.reverse ++ .ref b :: rest ∧ av = .ref b :: As)) ∧
    (rest.map fun v => v.category).sum ≤ 8 ∧ (lg_sl av).length ≤ ml M' ∧ mc ≤ kc ∧ ms ≤ ks ∧ P (M', d', (0, (lg_sl av ++ List.replicate (ml M' - (lg_sl av).length) Slot.unset).map (fun z => match z with | .val v => some v | _ => none), [], h, mc, ms), Ψ) ∧
    (∀ (v : Option Value) (h' : Hp), Ψ (.inl v) h' → P (M, d, (pc + 3, lv, v.toList ++ rest, h', kc - mc, ks - ms), Φ)) ∧
    (∀ (E : String) (h' : Hp), Ψ (.inr E) h' → ((Cond.methodLink (cn (mo M)) idx (my M') ∈ tblG) ∧ ¬ kind = 2) ∧ ((mh M = [] ∧ Φ (.inr E) h') ∨ (∃ hpc : Nat, XHs M pc E hpc ncsL ∧ ∀ q : Nat, P (M, d, (hpc, lv, [.ref q], h', kc - mc, ks - ms), Φ))))
/-- calls of the library that have rows of their own -/
def am_j (P : Cd → Prop) (M : Mth) (d : Nat) (ig : Instr) (len pc : Nat) (lv : Lv) (st : List Value) (h : Hp) (kc ks : Nat) (Φ : Ou → Hp → Prop) : Prop :=
  match ig, len, st with
  | .invokespecial i, 3, .ref _ :: st => Cond.methodLink (cn (mo M)) i objectInit ∈ tblG ∧ Cond.instanceMethod objectInit ∈ tblG ∧ Cond.code objectInit ⟨#[0xb1]⟩ 1 none ∈ tblG ∧ (st.map fun v => v.category).sum ≤ 8 ∧ P (M, d, (pc + 3, lv, st, h, kc, ks), Φ)
  | .invokestatic i, 3, .int y :: .int x :: .ref b :: .int z :: .ref a :: st => Cond.methodLink (cn (mo M)) i arraycopyName ∈ tblG ∧ Cond.native arraycopyName ∈ tblG ∧ Cond.static arraycopyName ∈ tblG ∧ Cond.initialized "java/lang/System" ∈ tblG ∧ (st.map fun v => v.category).sum ≤ 8 ∧ ¬ z < 0 ∧ ¬ x < 0 ∧ ¬ y < 0 ∧
      ∃ (t n0 n1 : Nat) (f g : Nat → Int32), (t = 0 ∨ t = 2) ∧ h a = some (.inl (ar t, n0, .inl f)) ∧ h b = some (.inl (ar t, n1, .inl g)) ∧ z.toNatClampNeg + y.toNatClampNeg ≤ n0 ∧ x.toNatClampNeg + y.toNatClampNeg ≤ n1 ∧ (∀ i, i < y.toNatClampNeg → fits (tyN t) (.int (f (z.toNatClampNeg + i))) = true) ∧ P (M, d, (pc + 3, lv, st, hset h b (.inl (ar t, n1, .inl (va_cpy f g z.toNatClampNeg x.toNatClampNeg y.toNatClampNeg))), kc, ks), Φ)
  | .invokestatic i, 3, .int y :: .int x :: st => (Cond.methodLink (cn (mo M)) i Lib.Math.max.name ∈ tblG ∧ Cond.static Lib.Math.max.name ∈ tblG ∧ Cond.initialized "java/lang/Math" ∈ tblG ∧ Cond.code Lib.Math.max.name Lib.Math.max.code 2 (some .int) ∈ tblG ∧ (st.map fun v => v.category).sum ≤ 8 ∧ P (M, d, (pc + 3, lv, .int (if x < y then y else x) :: st, h, kc, ks), Φ)) ∨
      (Cond.methodLink (cn (mo M)) i Lib.Math.min.name ∈ tblG ∧ Cond.static Lib.Math.min.name ∈ tblG ∧ Cond.initialized "java/lang/Math" ∈ tblG ∧ Cond.code Lib.Math.min.name Lib.Math.min.code 2 (some .int) ∈ tblG ∧ (st.map fun v => v.category).sum ≤ 8 ∧ P (M, d, (pc + 3, lv, .int (if y < x then y else x) :: st, h, kc, ks), Φ))
  | .invokevirtual i, 3, .ref a :: st => ∃ j : Nat, j < 25 ∧ a = sa j ∧ Cond.methodLink (cn (mo M)) i yLen ∈ tblG ∧ (st.map fun v => v.category).sum ≤ 8 ∧ P (M, d, (pc + 3, lv, .int (Int32.ofNat (sln j)) :: st, h, kc, ks), Φ)
  | .invokevirtual i, 3, .int k :: .ref a :: st => ∃ j : Nat, j < 25 ∧ a = sa j ∧ Cond.methodLink (cn (mo M)) i yChr ∈ tblG ∧ vp_in k (sln j) ∧ (st.map fun v => v.category).sum ≤ 8 ∧ P (M, d, (pc + 3, lv, .int (Int32.ofNat (sch j k.toNatClampNeg)) :: st, h, kc, ks), Φ)
  | .invokestatic i, 3, .long x :: st => Cond.methodLink (cn (mo M)) i Lib.MathLoose.abs_long.x ∈ tblG ∧ Cond.static Lib.MathLoose.abs_long.x ∈ tblG ∧ Cond.initialized "java/lang/Math" ∈ tblG ∧ Cond.code Lib.MathLoose.abs_long.x Lib.MathLoose.abs_long.code 2 (some .long) ∈ tblG ∧ (st.map fun v => v.category).sum ≤ 8 ∧ P (M, d, (pc + 3, lv, .long (if 0 < x then x else -x) :: st, h, kc, ks), Φ)
  | _, _, _ => False
def am_s (P : Cd → Prop) (M : Mth) (d : Nat) (ig : Instr) (len pc : Nat) (lv : Lv) (st : List Value) (h : Hp) (kc ks : Nat) (Φ : Ou → Hp → Prop) : Prop :=
  ∃ r : Nat × Lv × List Value, sx ig len pc lv st = some r ∧ P (M, d, (r.1, r.2.1, r.2.2, h, kc, ks), Φ)
def am_F (P : Cd → Prop) (q : Cd) : Prop := match q with
  | (M, d, (pc, lv, st, h, kc, ks), Φ) => ∃ (ig : Instr) (len : Nat), decode (mb M) pc = .ok (ig, len) ∧
    (am_s P M d ig len pc lv st h kc ks Φ ∨ am_h ar ro P M d ig len pc lv st h kc ks Φ ∨ am_d sa P M d ig len pc lv st h kc ks Φ ∨ am_e M ig len pc st h kc ks Φ ∨ am_c P M d ig len pc lv st h kc ks Φ ∨ am_j ar sa P M d ig len pc lv st h kc ks Φ)
def WPc (q : Cd) : Prop := ∀ P : Cd → Prop, (∀ (S : Cd → Prop) (q : Cd), am_F ar ro sa S q → (∀ q, S q → P q) → P q) → P q
abbrev WP (M : Mth) (d pc : Nat) (lv : Lv) (st : List Value) (h : Hp) (kc ks : Nat) (Φ : Ou → Hp → Prop) : Prop := WPc ar ro sa (M, d, (pc, lv, st, h, kc, ks), Φ)
theorem WPc.intro {q : Cd} (h : am_F ar ro sa (WPc ar ro sa) q) : WPc ar ro sa q := fun P hc => hc _ q h (fun _ hq => hq P hc)
end AM
