/-! rows of WP: a row an instruction, over pure states -/
def dc (M : Mth) (pc : Nat) (ig : Instr) (len nx : Nat) : Prop := decode (mb M) pc = .ok (ig, len) ∧ pc + len = nx
/-- what a method leaves: a value and a heap, or an exception and a heap -/
def Ex (post : Option Value → Hp → Prop) (xs : String → Hp → Prop) : Ou → Hp → Prop := fun o h => match o with | .inl v => post v h | .inr E => xs E h
abbrev No : String → Hp → Prop := fun _ _ => False
section RW
variable {ar : Nat → ClassId} {ro : Nat → Option (Nat × (Nat → Int32))} {sa : Nat → Nat} {M : Mth} {d pc len nx : Nat} {ig : Instr} {lv lv' : Lv} {st : List Value} {h : Hp} {kc ks : Nat} {Φ : Ou → Hp → Prop}
theorem r_s {r : Nat × Lv × List Value} (hd : dc M pc ig len nx) (hs : sx ig len pc lv st = some r) (k : WP ar ro sa M d r.1 r.2.1 r.2.2 h kc ks Φ) : WP ar ro sa M d pc lv st h kc ks Φ := WPc.intro ar ro sa ⟨ig, len, hd.1, Or.inl ⟨r, hs, k⟩⟩
theorem r_iconst {n : Int} {v : Int32} (hd : dc M pc (.iconst n) 1 nx) (hv : Int32.ofInt n = v) (k : WP ar ro sa M d nx lv (.int v :: st) h kc ks Φ) : WP ar ro sa M d pc lv st h kc ks Φ := by
  subst hv; obtain ⟨h9, rfl⟩ := hd
  exact r_s ⟨h9, rfl⟩ rfl k
theorem r_bipush {n : Int} {v : Int32} (hd : dc M pc (.bipush n) 2 nx) (hv : (Int8.ofInt n).toInt32 = v) (k : WP ar ro sa M d nx lv (.int v :: st) h kc ks Φ) : WP ar ro sa M d pc lv st h kc ks Φ := by
  subst hv; obtain ⟨h9, rfl⟩ := hd
  exact r_s ⟨h9, rfl⟩ rfl k
theorem r_sipush {n : Int} {v : Int32} (hd : dc M pc (.sipush n) 3 nx) (hv : (Int16.ofInt n).toInt32 = v) (k : WP ar ro sa M d nx lv (.int v :: st) h kc ks Φ) : WP ar ro sa M d pc lv st h kc ks Φ := by
  subst hv; obtain ⟨h9, rfl⟩ := hd
  exact r_s ⟨h9, rfl⟩ rfl k
theorem r_lconst {n : Fin 2} {v : Int64} (hd : dc M pc (.lconst n) 1 nx) (hv : Int64.ofNat (n : Nat) = v) (k : WP ar ro sa M d nx lv (.long v :: st) h kc ks Φ) : WP ar ro sa M d pc lv st h kc ks Φ := by
  subst hv; obtain ⟨h9, rfl⟩ := hd
  exact r_s ⟨h9, rfl⟩ rfl k
theorem r_iload_n {z4 : Fin 4} {x : Int32} (hd : dc M pc (.iload_n z4) 1 nx) (hl : ldl lv (z4 : Nat) = some (.int x)) (k : WP ar ro sa M d nx lv (.int x :: st) h kc ks Φ) : WP ar ro sa M d pc lv st h kc ks Φ := by
  obtain ⟨h9, rfl⟩ := hd
  exact r_s (r := (pc + 1, lv, .int x :: st)) ⟨h9, rfl⟩ (by simp only [sx, hl]) k
theorem r_iload {i : Nat} {x : Int32} (hd : dc M pc (.iload i) 2 nx) (hl : ldl lv i = some (.int x)) (k : WP ar ro sa M d nx lv (.int x :: st) h kc ks Φ) : WP ar ro sa M d pc lv st h kc ks Φ := by
  obtain ⟨h9, rfl⟩ := hd
  exact r_s (r := (pc + 2, lv, .int x :: st)) ⟨h9, rfl⟩ (by simp only [sx, hl]) k
theorem r_istore_n {z4 : Fin 4} {x : Int32} (hd : dc M pc (.istore_n z4) 1 nx) (hi : (z4 : Nat) < lv.length) (hl : stl lv (z4 : Nat) (.int x) = lv') (k : WP ar ro sa M d nx lv' st h kc ks Φ) : WP ar ro sa M d pc lv (.int x :: st) h kc ks Φ := by
  subst hl; obtain ⟨h9, rfl⟩ := hd
  exact r_s (r := (pc + 1, stl lv (z4 : Nat) (.int x), st)) ⟨h9, rfl⟩ (by simp only [sx, hi, if_true]) k
theorem r_istore {i : Nat} {x : Int32} (hd : dc M pc (.istore i) 2 nx) (hi : i < lv.length) (hl : stl lv i (.int x) = lv') (k : WP ar ro sa M d nx lv' st h kc ks Φ) : WP ar ro sa M d pc lv (.int x :: st) h kc ks Φ := by
  subst hl; obtain ⟨h9, rfl⟩ := hd
  exact r_s (r := (pc + 2, stl lv i (.int x), st)) ⟨h9, rfl⟩ (by simp only [sx, hi, if_true]) k
theorem r_lload_n {z4 : Fin 4} {x : Int64} (hd : dc M pc (.lload_n z4) 1 nx) (hl : ldl lv (z4 : Nat) = some (.long x)) (k : WP ar ro sa M d nx lv (.long x :: st) h kc ks Φ) : WP ar ro sa M d pc lv st h kc ks Φ := by
  obtain ⟨h9, rfl⟩ := hd
  exact r_s (r := (pc + 1, lv, .long x :: st)) ⟨h9, rfl⟩ (by simp only [sx, hl]) k
theorem r_lload {i : Nat} {x : Int64} (hd : dc M pc (.lload i) 2 nx) (hl : ldl lv i = some (.long x)) (k : WP ar ro sa M d nx lv (.long x :: st) h kc ks Φ) : WP ar ro sa M d pc lv st h kc ks Φ := by
  obtain ⟨h9, rfl⟩ := hd
  exact r_s (r := (pc + 2, lv, .long x :: st)) ⟨h9, rfl⟩ (by simp only [sx, hl]) k
theorem r_lstore_n {z4 : Fin 4} {x : Int64} (hd : dc M pc (.lstore_n z4) 1 nx) (hi : (z4 : Nat) + 1 < lv.length) (hl : stl lv (z4 : Nat) (.long x) = lv') (k : WP ar ro sa M d nx lv' st h kc ks Φ) : WP ar ro sa M d pc lv (.long x :: st) h kc ks Φ := by
  subst hl; obtain ⟨h9, rfl⟩ := hd
  exact r_s (r := (pc + 1, stl lv (z4 : Nat) (.long x), st)) ⟨h9, rfl⟩ (by simp only [sx, hi, if_true]) k
theorem r_lstore {i : Nat} {x : Int64} (hd : dc M pc (.lstore i) 2 nx) (hi : i + 1 < lv.length) (hl : stl lv i (.long x) = lv') (k : WP ar ro sa M d nx lv' st h kc ks Φ) : WP ar ro sa M d pc lv (.long x :: st) h kc ks Φ := by
  subst hl; obtain ⟨h9, rfl⟩ := hd
  exact r_s (r := (pc + 2, stl lv i (.long x), st)) ⟨h9, rfl⟩ (by simp only [sx, hi, if_true]) k
theorem r_aload_n {z4 : Fin 4} {x : Nat} (hd : dc M pc (.aload_n z4) 1 nx) (hl : ldl lv (z4 : Nat) = some (.ref x)) (k : WP ar ro sa M d nx lv (.ref x :: st) h kc ks Φ) : WP ar ro sa M d pc lv st h kc ks Φ := by
  obtain ⟨h9, rfl⟩ := hd
  exact r_s (r := (pc + 1, lv, .ref x :: st)) ⟨h9, rfl⟩ (by simp only [sx, hl]) k
theorem r_aload {i : Nat} {x : Nat} (hd : dc M pc (.aload i) 2 nx) (hl : ldl lv i = some (.ref x)) (k : WP ar ro sa M d nx lv (.ref x :: st) h kc ks Φ) : WP ar ro sa M d pc lv st h kc ks Φ := by
  obtain ⟨h9, rfl⟩ := hd
  exact r_s (r := (pc + 2, lv, .ref x :: st)) ⟨h9, rfl⟩ (by simp only [sx, hl]) k
theorem r_astore_n {z4 : Fin 4} {x : Nat} (hd : dc M pc (.astore_n z4) 1 nx) (hi : (z4 : Nat) < lv.length) (hl : stl lv (z4 : Nat) (.ref x) = lv') (k : WP ar ro sa M d nx lv' st h kc ks Φ) : WP ar ro sa M d pc lv (.ref x :: st) h kc ks Φ := by
  subst hl; obtain ⟨h9, rfl⟩ := hd
  exact r_s (r := (pc + 1, stl lv (z4 : Nat) (.ref x), st)) ⟨h9, rfl⟩ (by simp only [sx, hi, if_true]) k
theorem r_astore {i : Nat} {x : Nat} (hd : dc M pc (.astore i) 2 nx) (hi : i < lv.length) (hl : stl lv i (.ref x) = lv') (k : WP ar ro sa M d nx lv' st h kc ks Φ) : WP ar ro sa M d pc lv (.ref x :: st) h kc ks Φ := by
  subst hl; obtain ⟨h9, rfl⟩ := hd
  exact r_s (r := (pc + 2, stl lv i (.ref x), st)) ⟨h9, rfl⟩ (by simp only [sx, hi, if_true]) k
theorem r_iinc {i : Nat} {n : Int} {x v : Int32} (hd : dc M pc (.iinc i n) 3 nx) (hx : ldl lv i = some (.int x)) (hv : Int32.ofInt n = v) (hl : stl lv i (.int (x + v)) = lv') (k : WP ar ro sa M d nx lv' st h kc ks Φ) : WP ar ro sa M d pc lv st h kc ks Φ := by
  subst hv; subst hl; obtain ⟨h9, rfl⟩ := hd
  exact r_s (r := (pc + 3, stl lv i (.int (x + Int32.ofInt n)), st)) ⟨h9, rfl⟩ (by simp only [sx, hx]) k
theorem r_iadd {x y : Int32} (hd : dc M pc .iadd 1 nx)  (k : WP ar ro sa M d nx lv (.int (x + y) :: st) h kc ks Φ) : WP ar ro sa M d pc lv (.int y :: .int x :: st) h kc ks Φ := by
  obtain ⟨h9, rfl⟩ := hd
  exact r_s ⟨h9, rfl⟩ rfl k
theorem r_isub {x y : Int32} (hd : dc M pc .isub 1 nx)  (k : WP ar ro sa M d nx lv (.int (x - y) :: st) h kc ks Φ) : WP ar ro sa M d pc lv (.int y :: .int x :: st) h kc ks Φ := by
  obtain ⟨h9, rfl⟩ := hd
  exact r_s ⟨h9, rfl⟩ rfl k
theorem r_imul {x y : Int32} (hd : dc M pc .imul 1 nx)  (k : WP ar ro sa M d nx lv (.int (x * y) :: st) h kc ks Φ) : WP ar ro sa M d pc lv (.int y :: .int x :: st) h kc ks Φ := by
  obtain ⟨h9, rfl⟩ := hd
  exact r_s ⟨h9, rfl⟩ rfl k
theorem r_iand {x y : Int32} (hd : dc M pc .iand 1 nx)  (k : WP ar ro sa M d nx lv (.int (x &&& y) :: st) h kc ks Φ) : WP ar ro sa M d pc lv (.int y :: .int x :: st) h kc ks Φ := by
  obtain ⟨h9, rfl⟩ := hd
  exact r_s ⟨h9, rfl⟩ rfl k
theorem r_ior {x y : Int32} (hd : dc M pc .ior 1 nx)  (k : WP ar ro sa M d nx lv (.int (x ||| y) :: st) h kc ks Φ) : WP ar ro sa M d pc lv (.int y :: .int x :: st) h kc ks Φ := by
  obtain ⟨h9, rfl⟩ := hd
  exact r_s ⟨h9, rfl⟩ rfl k
theorem r_ixor {x y : Int32} (hd : dc M pc .ixor 1 nx)  (k : WP ar ro sa M d nx lv (.int (x ^^^ y) :: st) h kc ks Φ) : WP ar ro sa M d pc lv (.int y :: .int x :: st) h kc ks Φ := by
  obtain ⟨h9, rfl⟩ := hd
  exact r_s ⟨h9, rfl⟩ rfl k
theorem r_ishl {x y : Int32} (hd : dc M pc .ishl 1 nx)  (k : WP ar ro sa M d nx lv (.int (x <<< (y &&& 31)) :: st) h kc ks Φ) : WP ar ro sa M d pc lv (.int y :: .int x :: st) h kc ks Φ := by
  obtain ⟨h9, rfl⟩ := hd
  exact r_s ⟨h9, rfl⟩ rfl k
theorem r_ishr {x y : Int32} (hd : dc M pc .ishr 1 nx)  (k : WP ar ro sa M d nx lv (.int (x >>> (y &&& 31)) :: st) h kc ks Φ) : WP ar ro sa M d pc lv (.int y :: .int x :: st) h kc ks Φ := by
  obtain ⟨h9, rfl⟩ := hd
  exact r_s ⟨h9, rfl⟩ rfl k
theorem r_iushr {x y : Int32} (hd : dc M pc .iushr 1 nx)  (k : WP ar ro sa M d nx lv (.int ((x.toUInt32 >>> (y.toUInt32 &&& Int32.toUInt32 31)).toInt32) :: st) h kc ks Φ) : WP ar ro sa M d pc lv (.int y :: .int x :: st) h kc ks Φ := by
  obtain ⟨h9, rfl⟩ := hd
  exact r_s ⟨h9, rfl⟩ rfl k
theorem r_ladd {x y : Int64} (hd : dc M pc .ladd 1 nx)  (k : WP ar ro sa M d nx lv (.long (x + y) :: st) h kc ks Φ) : WP ar ro sa M d pc lv (.long y :: .long x :: st) h kc ks Φ := by
  obtain ⟨h9, rfl⟩ := hd
  exact r_s ⟨h9, rfl⟩ rfl k
theorem r_lsub {x y : Int64} (hd : dc M pc .lsub 1 nx)  (k : WP ar ro sa M d nx lv (.long (x - y) :: st) h kc ks Φ) : WP ar ro sa M d pc lv (.long y :: .long x :: st) h kc ks Φ := by
  obtain ⟨h9, rfl⟩ := hd
  exact r_s ⟨h9, rfl⟩ rfl k
theorem r_lmul {x y : Int64} (hd : dc M pc .lmul 1 nx)  (k : WP ar ro sa M d nx lv (.long (x * y) :: st) h kc ks Φ) : WP ar ro sa M d pc lv (.long y :: .long x :: st) h kc ks Φ := by
  obtain ⟨h9, rfl⟩ := hd
  exact r_s ⟨h9, rfl⟩ rfl k
theorem r_land {x y : Int64} (hd : dc M pc .land 1 nx)  (k : WP ar ro sa M d nx lv (.long (x &&& y) :: st) h kc ks Φ) : WP ar ro sa M d pc lv (.long y :: .long x :: st) h kc ks Φ := by
  obtain ⟨h9, rfl⟩ := hd
  exact r_s ⟨h9, rfl⟩ rfl k
theorem r_lor {x y : Int64} (hd : dc M pc .lor 1 nx)  (k : WP ar ro sa M d nx lv (.long (x ||| y) :: st) h kc ks Φ) : WP ar ro sa M d pc lv (.long y :: .long x :: st) h kc ks Φ := by
  obtain ⟨h9, rfl⟩ := hd
  exact r_s ⟨h9, rfl⟩ rfl k
theorem r_lxor {x y : Int64} (hd : dc M pc .lxor 1 nx)  (k : WP ar ro sa M d nx lv (.long (x ^^^ y) :: st) h kc ks Φ) : WP ar ro sa M d pc lv (.long y :: .long x :: st) h kc ks Φ := by
  obtain ⟨h9, rfl⟩ := hd
  exact r_s ⟨h9, rfl⟩ rfl k
theorem r_ineg {x : Int32} (hd : dc M pc .ineg 1 nx)  (k : WP ar ro sa M d nx lv (.int (-x) :: st) h kc ks Φ) : WP ar ro sa M d pc lv (.int x :: st) h kc ks Φ := by
  obtain ⟨h9, rfl⟩ := hd
  exact r_s ⟨h9, rfl⟩ rfl k
theorem r_lneg {x : Int64} (hd : dc M pc .lneg 1 nx)  (k : WP ar ro sa M d nx lv (.long (-x) :: st) h kc ks Φ) : WP ar ro sa M d pc lv (.long x :: st) h kc ks Φ := by
  obtain ⟨h9, rfl⟩ := hd
  exact r_s ⟨h9, rfl⟩ rfl k
theorem r_lshl {x : Int64} {y : Int32} (hd : dc M pc .lshl 1 nx)  (k : WP ar ro sa M d nx lv (.long (x <<< (y.toInt64 &&& 63)) :: st) h kc ks Φ) : WP ar ro sa M d pc lv (.int y :: .long x :: st) h kc ks Φ := by
  obtain ⟨h9, rfl⟩ := hd
  exact r_s ⟨h9, rfl⟩ rfl k
theorem r_lshr {x : Int64} {y : Int32} (hd : dc M pc .lshr 1 nx)  (k : WP ar ro sa M d nx lv (.long (x >>> (y.toInt64 &&& 63)) :: st) h kc ks Φ) : WP ar ro sa M d pc lv (.int y :: .long x :: st) h kc ks Φ := by
  obtain ⟨h9, rfl⟩ := hd
  exact r_s ⟨h9, rfl⟩ rfl k
theorem r_lushr {x : Int64} {y : Int32} (hd : dc M pc .lushr 1 nx)  (k : WP ar ro sa M d nx lv (.long ((x.toUInt64 >>> (y.toInt64.toUInt64 &&& Int64.toUInt64 63)).toInt64) :: st) h kc ks Φ) : WP ar ro sa M d pc lv (.int y :: .long x :: st) h kc ks Φ := by
  obtain ⟨h9, rfl⟩ := hd
  exact r_s ⟨h9, rfl⟩ rfl k
theorem r_i2l {x : Int32} (hd : dc M pc .i2l 1 nx)  (k : WP ar ro sa M d nx lv (.long x.toInt64 :: st) h kc ks Φ) : WP ar ro sa M d pc lv (.int x :: st) h kc ks Φ := by
  obtain ⟨h9, rfl⟩ := hd
  exact r_s ⟨h9, rfl⟩ rfl k
theorem r_l2i {x : Int64} (hd : dc M pc .l2i 1 nx)  (k : WP ar ro sa M d nx lv (.int x.toInt32 :: st) h kc ks Φ) : WP ar ro sa M d pc lv (.long x :: st) h kc ks Φ := by
  obtain ⟨h9, rfl⟩ := hd
  exact r_s ⟨h9, rfl⟩ rfl k
theorem r_i2b {x : Int32} (hd : dc M pc .i2b 1 nx)  (k : WP ar ro sa M d nx lv (.int x.toInt8.toInt32 :: st) h kc ks Φ) : WP ar ro sa M d pc lv (.int x :: st) h kc ks Φ := by
  obtain ⟨h9, rfl⟩ := hd
  exact r_s ⟨h9, rfl⟩ rfl k
theorem r_i2s {x : Int32} (hd : dc M pc .i2s 1 nx)  (k : WP ar ro sa M d nx lv (.int x.toInt16.toInt32 :: st) h kc ks Φ) : WP ar ro sa M d pc lv (.int x :: st) h kc ks Φ := by
  obtain ⟨h9, rfl⟩ := hd
  exact r_s ⟨h9, rfl⟩ rfl k
theorem r_lcmp {x y : Int64} (hd : dc M pc .lcmp 1 nx)  (k : WP ar ro sa M d nx lv (.int (lg_cmp x y) :: st) h kc ks Φ) : WP ar ro sa M d pc lv (.long y :: .long x :: st) h kc ks Φ := by
  obtain ⟨h9, rfl⟩ := hd
  exact r_s ⟨h9, rfl⟩ rfl k
theorem r_dup {v : Value} (hd : dc M pc .dup 1 nx) (hv : v.category = 1) (k : WP ar ro sa M d nx lv (v :: v :: st) h kc ks Φ) : WP ar ro sa M d pc lv (v :: st) h kc ks Φ := by
  obtain ⟨h9, rfl⟩ := hd
  exact r_s (r := (pc + 1, lv, v :: v :: st)) ⟨h9, rfl⟩ (by simp only [sx, hv, if_true]) k
theorem r_pop {v : Value} (hd : dc M pc .pop 1 nx) (hv : v.category = 1) (k : WP ar ro sa M d nx lv st h kc ks Φ) : WP ar ro sa M d pc lv (v :: st) h kc ks Φ := by
  obtain ⟨h9, rfl⟩ := hd
  exact r_s (r := (pc + 1, lv, st)) ⟨h9, rfl⟩ (by simp only [sx, hv, if_true]) k
theorem r_dup_x1 {v w : Value} (hd : dc M pc .dup_x1 1 nx) (hv : v.category = 1) (hw : w.category = 1) (k : WP ar ro sa M d nx lv (v :: w :: v :: st) h kc ks Φ) : WP ar ro sa M d pc lv (v :: w :: st) h kc ks Φ := by
  obtain ⟨h9, rfl⟩ := hd
  exact r_s (r := (pc + 1, lv, v :: w :: v :: st)) ⟨h9, rfl⟩ (by simp only [sx, hv, hw, and_self, if_true]) k
theorem r_dup2 {v w : Value} (hd : dc M pc .dup2 1 nx) (hv : v.category = 1) (hw : w.category = 1) (k : WP ar ro sa M d nx lv (v :: w :: v :: w :: st) h kc ks Φ) : WP ar ro sa M d pc lv (v :: w :: st) h kc ks Φ := by
  obtain ⟨h9, rfl⟩ := hd
  exact r_s (r := (pc + 1, lv, v :: w :: v :: w :: st)) ⟨h9, rfl⟩ (by simp only [sx, hv, hw, and_self, if_true]) k
theorem r_goto {off : Int} {t : Nat} (hd : dc M pc (.goto off) 3 nx) (ht : (pc : Int) + off = t) (k : WP ar ro sa M d t lv st h kc ks Φ) : WP ar ro sa M d pc lv st h kc ks Φ := by
  have e : tgt pc off = t := by unfold tgt; omega
  exact r_s (r := (tgt pc off, lv, st)) hd (by simp only [sx, show 0 ≤ (pc : Int) + off by omega, if_true]) (by rw [e]; exact k)
theorem r_icmp_eq {x y : Int32} {off : Int} {t : Nat} (hd : dc M pc (.if_icmp .eq off) 3 nx) (ht : (pc : Int) + off = t) (kt : (x = y) → WP ar ro sa M d t lv st h kc ks Φ) (kf : ¬ (x = y) → WP ar ro sa M d nx lv st h kc ks Φ) : WP ar ro sa M d pc lv (.int y :: .int x :: st) h kc ks Φ := by
  obtain ⟨h9, rfl⟩ := hd
  have e : tgt pc off = t := by unfold tgt; omega
  refine r_s (r := (if cdI .eq x y then tgt pc off else pc + 3, lv, st)) ⟨h9, rfl⟩ (by simp only [sx, show 0 ≤ (pc : Int) + off by omega, if_true]) ?_
  by_cases c : x = y
  · have z : cdI .eq x y = true := decide_eq_true c
    simp only [z, if_true, e]; exact kt c
  · have z : cdI .eq x y = false := decide_eq_false c
    simp only [z]; exact kf c
theorem r_if_eq {x : Int32} {off : Int} {t : Nat} (hd : dc M pc (.ifCond .eq off) 3 nx) (ht : (pc : Int) + off = t) (kt : (x = 0) → WP ar ro sa M d t lv st h kc ks Φ) (kf : ¬ (x = 0) → WP ar ro sa M d nx lv st h kc ks Φ) : WP ar ro sa M d pc lv (.int x :: st) h kc ks Φ := by
  obtain ⟨h9, rfl⟩ := hd
  have e : tgt pc off = t := by unfold tgt; omega
  refine r_s (r := (if cdI .eq x 0 then tgt pc off else pc + 3, lv, st)) ⟨h9, rfl⟩ (by simp only [sx, show 0 ≤ (pc : Int) + off by omega, if_true]) ?_
  by_cases c : x = 0
  · have z : cdI .eq x 0 = true := decide_eq_true c
    simp only [z, if_true, e]; exact kt c
  · have z : cdI .eq x 0 = false := decide_eq_false c
    simp only [z]; exact kf c
theorem r_icmp_ne {x y : Int32} {off : Int} {t : Nat} (hd : dc M pc (.if_icmp .ne off) 3 nx) (ht : (pc : Int) + off = t) (kt : (¬ x = y) → WP ar ro sa M d t lv st h kc ks Φ) (kf : ¬ (¬ x = y) → WP ar ro sa M d nx lv st h kc ks Φ) : WP ar ro sa M d pc lv (.int y :: .int x :: st) h kc ks Φ := by
  obtain ⟨h9, rfl⟩ := hd
  have e : tgt pc off = t := by unfold tgt; omega
  refine r_s (r := (if cdI .ne x y then tgt pc off else pc + 3, lv, st)) ⟨h9, rfl⟩ (by simp only [sx, show 0 ≤ (pc : Int) + off by omega, if_true]) ?_
  by_cases c : ¬ x = y
  · have z : cdI .ne x y = true := decide_eq_true c
    simp only [z, if_true, e]; exact kt c
  · have z : cdI .ne x y = false := decide_eq_false c
    simp only [z]; exact kf c
theorem r_if_ne {x : Int32} {off : Int} {t : Nat} (hd : dc M pc (.ifCond .ne off) 3 nx) (ht : (pc : Int) + off = t) (kt : (¬ x = 0) → WP ar ro sa M d t lv st h kc ks Φ) (kf : ¬ (¬ x = 0) → WP ar ro sa M d nx lv st h kc ks Φ) : WP ar ro sa M d pc lv (.int x :: st) h kc ks Φ := by
  obtain ⟨h9, rfl⟩ := hd
  have e : tgt pc off = t := by unfold tgt; omega
  refine r_s (r := (if cdI .ne x 0 then tgt pc off else pc + 3, lv, st)) ⟨h9, rfl⟩ (by simp only [sx, show 0 ≤ (pc : Int) + off by omega, if_true]) ?_
  by_cases c : ¬ x = 0
  · have z : cdI .ne x 0 = true := decide_eq_true c
    simp only [z, if_true, e]; exact kt c
  · have z : cdI .ne x 0 = false := decide_eq_false c
    simp only [z]; exact kf c
theorem r_icmp_lt {x y : Int32} {off : Int} {t : Nat} (hd : dc M pc (.if_icmp .lt off) 3 nx) (ht : (pc : Int) + off = t) (kt : (x < y) → WP ar ro sa M d t lv st h kc ks Φ) (kf : ¬ (x < y) → WP ar ro sa M d nx lv st h kc ks Φ) : WP ar ro sa M d pc lv (.int y :: .int x :: st) h kc ks Φ := by
  obtain ⟨h9, rfl⟩ := hd
  have e : tgt pc off = t := by unfold tgt; omega
  refine r_s (r := (if cdI .lt x y then tgt pc off else pc + 3, lv, st)) ⟨h9, rfl⟩ (by simp only [sx, show 0 ≤ (pc : Int) + off by omega, if_true]) ?_
  by_cases c : x < y
  · have z : cdI .lt x y = true := decide_eq_true c
    simp only [z, if_true, e]; exact kt c
  · have z : cdI .lt x y = false := decide_eq_false c
    simp only [z]; exact kf c
theorem r_if_lt {x : Int32} {off : Int} {t : Nat} (hd : dc M pc (.ifCond .lt off) 3 nx) (ht : (pc : Int) + off = t) (kt : (x < 0) → WP ar ro sa M d t lv st h kc ks Φ) (kf : ¬ (x < 0) → WP ar ro sa M d nx lv st h kc ks Φ) : WP ar ro sa M d pc lv (.int x :: st) h kc ks Φ := by
  obtain ⟨h9, rfl⟩ := hd
  have e : tgt pc off = t := by unfold tgt; omega
  refine r_s (r := (if cdI .lt x 0 then tgt pc off else pc + 3, lv, st)) ⟨h9, rfl⟩ (by simp only [sx, show 0 ≤ (pc : Int) + off by omega, if_true]) ?_
  by_cases c : x < 0
  · have z : cdI .lt x 0 = true := decide_eq_true c
    simp only [z, if_true, e]; exact kt c
  · have z : cdI .lt x 0 = false := decide_eq_false c
    simp only [z]; exact kf c
theorem r_icmp_ge {x y : Int32} {off : Int} {t : Nat} (hd : dc M pc (.if_icmp .ge off) 3 nx) (ht : (pc : Int) + off = t) (kt : (y ≤ x) → WP ar ro sa M d t lv st h kc ks Φ) (kf : ¬ (y ≤ x) → WP ar ro sa M d nx lv st h kc ks Φ) : WP ar ro sa M d pc lv (.int y :: .int x :: st) h kc ks Φ := by
  obtain ⟨h9, rfl⟩ := hd
  have e : tgt pc off = t := by unfold tgt; omega
  refine r_s (r := (if cdI .ge x y then tgt pc off else pc + 3, lv, st)) ⟨h9, rfl⟩ (by simp only [sx, show 0 ≤ (pc : Int) + off by omega, if_true]) ?_
  by_cases c : y ≤ x
  · have z : cdI .ge x y = true := decide_eq_true c
    simp only [z, if_true, e]; exact kt c
  · have z : cdI .ge x y = false := decide_eq_false c
    simp only [z]; exact kf c
theorem r_if_ge {x : Int32} {off : Int} {t : Nat} (hd : dc M pc (.ifCond .ge off) 3 nx) (ht : (pc : Int) + off = t) (kt : (0 ≤ x) → WP ar ro sa M d t lv st h kc ks Φ) (kf : ¬ (0 ≤ x) → WP ar ro sa M d nx lv st h kc ks Φ) : WP ar ro sa M d pc lv (.int x :: st) h kc ks Φ := by
  obtain ⟨h9, rfl⟩ := hd
  have e : tgt pc off = t := by unfold tgt; omega
  refine r_s (r := (if cdI .ge x 0 then tgt pc off else pc + 3, lv, st)) ⟨h9, rfl⟩ (by simp only [sx, show 0 ≤ (pc : Int) + off by omega, if_true]) ?_
  by_cases c : 0 ≤ x
  · have z : cdI .ge x 0 = true := decide_eq_true c
    simp only [z, if_true, e]; exact kt c
  · have z : cdI .ge x 0 = false := decide_eq_false c
    simp only [z]; exact kf c
theorem r_icmp_gt {x y : Int32} {off : Int} {t : Nat} (hd : dc M pc (.if_icmp .gt off) 3 nx) (ht : (pc : Int) + off = t) (kt : (y < x) → WP ar ro sa M d t lv st h kc ks Φ) (kf : ¬ (y < x) → WP ar ro sa M d nx lv st h kc ks Φ) : WP ar ro sa M d pc lv (.int y :: .int x :: st) h kc ks Φ := by
  obtain ⟨h9, rfl⟩ := hd
  have e : tgt pc off = t := by unfold tgt; omega
  refine r_s (r := (if cdI .gt x y then tgt pc off else pc + 3, lv, st)) ⟨h9, rfl⟩ (by simp only [sx, show 0 ≤ (pc : Int) + off by omega, if_true]) ?_
  by_cases c : y < x
  · have z : cdI .gt x y = true := decide_eq_true c
    simp only [z, if_true, e]; exact kt c
  · have z : cdI .gt x y = false := decide_eq_false c
    simp only [z]; exact kf c
theorem r_if_gt {x : Int32} {off : Int} {t : Nat} (hd : dc M pc (.ifCond .gt off) 3 nx) (ht : (pc : Int) + off = t) (kt : (0 < x) → WP ar ro sa M d t lv st h kc ks Φ) (kf : ¬ (0 < x) → WP ar ro sa M d nx lv st h kc ks Φ) : WP ar ro sa M d pc lv (.int x :: st) h kc ks Φ := by
  obtain ⟨h9, rfl⟩ := hd
  have e : tgt pc off = t := by unfold tgt; omega
  refine r_s (r := (if cdI .gt x 0 then tgt pc off else pc + 3, lv, st)) ⟨h9, rfl⟩ (by simp only [sx, show 0 ≤ (pc : Int) + off by omega, if_true]) ?_
  by_cases c : 0 < x
  · have z : cdI .gt x 0 = true := decide_eq_true c
    simp only [z, if_true, e]; exact kt c
  · have z : cdI .gt x 0 = false := decide_eq_false c
    simp only [z]; exact kf c
theorem r_icmp_le {x y : Int32} {off : Int} {t : Nat} (hd : dc M pc (.if_icmp .le off) 3 nx) (ht : (pc : Int) + off = t) (kt : (x ≤ y) → WP ar ro sa M d t lv st h kc ks Φ) (kf : ¬ (x ≤ y) → WP ar ro sa M d nx lv st h kc ks Φ) : WP ar ro sa M d pc lv (.int y :: .int x :: st) h kc ks Φ := by
  obtain ⟨h9, rfl⟩ := hd
  have e : tgt pc off = t := by unfold tgt; omega
  refine r_s (r := (if cdI .le x y then tgt pc off else pc + 3, lv, st)) ⟨h9, rfl⟩ (by simp only [sx, show 0 ≤ (pc : Int) + off by omega, if_true]) ?_
  by_cases c : x ≤ y
  · have z : cdI .le x y = true := decide_eq_true c
    simp only [z, if_true, e]; exact kt c
  · have z : cdI .le x y = false := decide_eq_false c
    simp only [z]; exact kf c
theorem r_if_le {x : Int32} {off : Int} {t : Nat} (hd : dc M pc (.ifCond .le off) 3 nx) (ht : (pc : Int) + off = t) (kt : (x ≤ 0) → WP ar ro sa M d t lv st h kc ks Φ) (kf : ¬ (x ≤ 0) → WP ar ro sa M d nx lv st h kc ks Φ) : WP ar ro sa M d pc lv (.int x :: st) h kc ks Φ := by
  obtain ⟨h9, rfl⟩ := hd
  have e : tgt pc off = t := by unfold tgt; omega
  refine r_s (r := (if cdI .le x 0 then tgt pc off else pc + 3, lv, st)) ⟨h9, rfl⟩ (by simp only [sx, show 0 ≤ (pc : Int) + off by omega, if_true]) ?_
  by_cases c : x ≤ 0
  · have z : cdI .le x 0 = true := decide_eq_true c
    simp only [z, if_true, e]; exact kt c
  · have z : cdI .le x 0 = false := decide_eq_false c
    simp only [z]; exact kf c
theorem r_ifnull_r {x : Nat} {off : Int} (hd : dc M pc (.ifnull off) 3 nx) (k : WP ar ro sa M d nx lv st h kc ks Φ) : WP ar ro sa M d pc lv (.ref x :: st) h kc ks Φ := by
  obtain ⟨h9, rfl⟩ := hd
  exact r_s ⟨h9, rfl⟩ rfl k
theorem r_ifnonnull_n {off : Int} (hd : dc M pc (.ifnonnull off) 3 nx) (k : WP ar ro sa M d nx lv st h kc ks Φ) : WP ar ro sa M d pc lv (.null :: st) h kc ks Φ := by
  obtain ⟨h9, rfl⟩ := hd
  exact r_s ⟨h9, rfl⟩ rfl k
theorem r_ifnull_n {off : Int} {t : Nat} (hd : dc M pc (.ifnull off) 3 nx) (ht : (pc : Int) + off = t) (k : WP ar ro sa M d t lv st h kc ks Φ) : WP ar ro sa M d pc lv (.null :: st) h kc ks Φ := by
  have e : tgt pc off = t := by unfold tgt; omega
  exact r_s (r := (tgt pc off, lv, st)) hd (by simp only [sx, show 0 ≤ (pc : Int) + off by omega, if_true]) (by rw [e]; exact k)
theorem r_ifnonnull_r {x : Nat} {off : Int} {t : Nat} (hd : dc M pc (.ifnonnull off) 3 nx) (ht : (pc : Int) + off = t) (k : WP ar ro sa M d t lv st h kc ks Φ) : WP ar ro sa M d pc lv (.ref x :: st) h kc ks Φ := by
  have e : tgt pc off = t := by unfold tgt; omega
  exact r_s (r := (tgt pc off, lv, st)) hd (by simp only [sx, show 0 ≤ (pc : Int) + off by omega, if_true]) (by rw [e]; exact k)
theorem r_getf {i a ci f : Nat} {fs : List Value} {v : Value} (hd : dc M pc (.getfield i) 3 nx) (hf : FLg (mo M) i ci f) (ha : h a = some (.inr (ci, fs))) (hv : fs[f]? = some v) (k : WP ar ro sa M d nx lv (v :: st) h kc ks Φ) : WP ar ro sa M d pc lv (.ref a :: st) h kc ks Φ := by
  obtain ⟨h9, rfl⟩ := hd
  exact WPc.intro ar ro sa ⟨_, _, h9, Or.inr (Or.inl ⟨ci, f, fs, v, hf, ha, hv, k⟩)⟩
theorem r_putf {i a ci f : Nat} {fs fs2 : List Value} {v : Value} {fin : Bool} {ty : FieldType} (hd : dc M pc (.putfield i) 3 nx) (hf : FLp (mo M) i ci f fin ty) (ha : h a = some (.inr (ci, fs))) (hl : f < fs.length) (hn : narrow ty v = v) (hft : fits ty v = true) (hfi : fin = true → (my M).name = "<init>") (hs : fs.set f v = fs2) (k : WP ar ro sa M d nx lv st (hset h a (.inr (ci, fs2))) kc ks Φ) : WP ar ro sa M d pc lv (v :: .ref a :: st) h kc ks Φ := by
  obtain ⟨h9, rfl⟩ := hd
  exact WPc.intro ar ro sa ⟨_, _, h9, Or.inr (Or.inl ⟨ci, f, fs, fin, ty, hf, ha, hl, hn, hft, hfi, by rw [hs]; exact k⟩)⟩
theorem r_iald {a n : Nat} {f : Nat → Int32} {i : Int32} (hd : dc M pc .iaload 1 nx) (ha : h a = some (.inl (ar 0, n, .inl f))) (hi : vp_in i n) (k : WP ar ro sa M d nx lv (.int (f i.toNatClampNeg) :: st) h kc ks Φ) : WP ar ro sa M d pc lv (.int i :: .ref a :: st) h kc ks Φ := by
  obtain ⟨h9, rfl⟩ := hd
  exact WPc.intro ar ro sa ⟨_, _, h9, Or.inr (Or.inl (Or.inl ⟨n, f, ha, hi, k⟩))⟩
theorem r_iald_ro {a n : Nat} {f : Nat → Int32} {i : Int32} (hd : dc M pc .iaload 1 nx) (ha : ro a = some (n, f)) (hi : vp_in i n) (k : WP ar ro sa M d nx lv (.int (f i.toNatClampNeg) :: st) h kc ks Φ) : WP ar ro sa M d pc lv (.int i :: .ref a :: st) h kc ks Φ := by
  obtain ⟨h9, rfl⟩ := hd
  exact WPc.intro ar ro sa ⟨_, _, h9, Or.inr (Or.inl (Or.inr ⟨n, f, ha, hi, k⟩))⟩
theorem r_lald {a n : Nat} {f : Nat → Int64} {i : Int32} (hd : dc M pc .laload 1 nx) (ha : h a = some (.inl (ar 1, n, .inr (.inl f)))) (hi : vp_in i n) (k : WP ar ro sa M d nx lv (.long (f i.toNatClampNeg) :: st) h kc ks Φ) : WP ar ro sa M d pc lv (.int i :: .ref a :: st) h kc ks Φ := by
  obtain ⟨h9, rfl⟩ := hd
  exact WPc.intro ar ro sa ⟨_, _, h9, Or.inr (Or.inl ⟨n, f, ha, hi, k⟩)⟩
theorem r_zald {a n : Nat} {f : Nat → Int32} {i : Int32} (hd : dc M pc .baload 1 nx) (ha : h a = some (.inl (ar 2, n, .inl f))) (hi : vp_in i n) (k : WP ar ro sa M d nx lv (.int (f i.toNatClampNeg) :: st) h kc ks Φ) : WP ar ro sa M d pc lv (.int i :: .ref a :: st) h kc ks Φ := by
  obtain ⟨h9, rfl⟩ := hd
  exact WPc.intro ar ro sa ⟨_, _, h9, Or.inr (Or.inl ⟨2, n, f, by omega, ha, hi, k⟩)⟩
theorem r_bald {a n : Nat} {f : Nat → Int32} {i : Int32} (hd : dc M pc .baload 1 nx) (ha : h a = some (.inl (ar 3, n, .inl f))) (hi : vp_in i n) (k : WP ar ro sa M d nx lv (.int (f i.toNatClampNeg) :: st) h kc ks Φ) : WP ar ro sa M d pc lv (.int i :: .ref a :: st) h kc ks Φ := by
  obtain ⟨h9, rfl⟩ := hd
  exact WPc.intro ar ro sa ⟨_, _, h9, Or.inr (Or.inl ⟨3, n, f, by omega, ha, hi, k⟩)⟩
theorem r_aald {a n t : Nat} {f : Nat → Option Nat} {i : Int32} {v : Value} (hd : dc M pc .aaload 1 nx) (ha : h a = some (.inl (ar t, n, .inr (.inr (.inr (.inr f)))))) (ht : 4 ≤ t ∧ t ≤ 8) (hi : vp_in i n) (hv : va_rf (f i.toNatClampNeg) = v) (k : WP ar ro sa M d nx lv (v :: st) h kc ks Φ) : WP ar ro sa M d pc lv (.int i :: .ref a :: st) h kc ks Φ := by
  obtain ⟨h9, rfl⟩ := hd
  exact WPc.intro ar ro sa ⟨_, _, h9, Or.inr (Or.inl ⟨t, n, f, ht.1, ht.2, ha, hi, by rw [hv]; exact k⟩)⟩
theorem r_iast {a n : Nat} {f : Nat → Int32} {i x : Int32} (hd : dc M pc .iastore 1 nx) (ha : h a = some (.inl (ar 0, n, .inl f))) (hi : vp_in i n) (k : WP ar ro sa M d nx lv st (hset h a (.inl (ar 0, n, .inl (upd f i.toNatClampNeg x)))) kc ks Φ) : WP ar ro sa M d pc lv (.int x :: .int i :: .ref a :: st) h kc ks Φ := by
  obtain ⟨h9, rfl⟩ := hd
  exact WPc.intro ar ro sa ⟨_, _, h9, Or.inr (Or.inl ⟨n, f, ha, hi, k⟩)⟩
theorem r_last {a n : Nat} {f : Nat → Int64} {i : Int32} {x : Int64} (hd : dc M pc .lastore 1 nx) (ha : h a = some (.inl (ar 1, n, .inr (.inl f)))) (hi : vp_in i n) (k : WP ar ro sa M d nx lv st (hset h a (.inl (ar 1, n, .inr (.inl (vp_updL f i.toNatClampNeg x))))) kc ks Φ) : WP ar ro sa M d pc lv (.long x :: .int i :: .ref a :: st) h kc ks Φ := by
  obtain ⟨h9, rfl⟩ := hd
  exact WPc.intro ar ro sa ⟨_, _, h9, Or.inr (Or.inl ⟨n, f, ha, hi, k⟩)⟩
theorem r_zast {a n : Nat} {f : Nat → Int32} {i x : Int32} (hd : dc M pc .bastore 1 nx) (ha : h a = some (.inl (ar 2, n, .inl f))) (hi : vp_in i n) (k : WP ar ro sa M d nx lv st (hset h a (.inl (ar 2, n, .inl (upd f i.toNatClampNeg (vp_nar .boolean x))))) kc ks Φ) : WP ar ro sa M d pc lv (.int x :: .int i :: .ref a :: st) h kc ks Φ := by
  obtain ⟨h9, rfl⟩ := hd
  exact WPc.intro ar ro sa ⟨_, _, h9, Or.inr (Or.inl ⟨2, n, f, by omega, ha, hi, k⟩)⟩
theorem r_bast {a n : Nat} {f : Nat → Int32} {i x : Int32} (hd : dc M pc .bastore 1 nx) (ha : h a = some (.inl (ar 3, n, .inl f))) (hi : vp_in i n) (k : WP ar ro sa M d nx lv st (hset h a (.inl (ar 3, n, .inl (upd f i.toNatClampNeg (vp_nar .byte x))))) kc ks Φ) : WP ar ro sa M d pc lv (.int x :: .int i :: .ref a :: st) h kc ks Φ := by
  obtain ⟨h9, rfl⟩ := hd
  exact WPc.intro ar ro sa ⟨_, _, h9, Or.inr (Or.inl ⟨3, n, f, by omega, ha, hi, k⟩)⟩
theorem r_aast {a n t ci v : Nat} {f : Nat → Option Nat} {i : Int32} {vs : List Value} {r : vw_C} (hd : dc M pc .aastore 1 nx) (ha : h a = some (.inl (ar t, n, .inr (.inr (.inr (.inr f)))))) (ht : 4 ≤ t ∧ t ≤ 8) (hv : h v = some (.inr (ci, vs))) (hc : clsL[ci]? = some r) (hty : tyN t = .object r.1) (hi : vp_in i n) (k : WP ar ro sa M d nx lv st (hset h a (.inl (ar t, n, .inr (.inr (.inr (.inr (va_up f i.toNatClampNeg (some v)))))))) kc ks Φ) : WP ar ro sa M d pc lv (.ref v :: .int i :: .ref a :: st) h kc ks Φ := by
  obtain ⟨h9, rfl⟩ := hd
  exact WPc.intro ar ro sa ⟨_, _, h9, Or.inr (Or.inl ⟨t, n, ci, f, vs, r, ht.1, ht.2, ha, hv, hc, hty, hi, k⟩)⟩
theorem r_alen {a t : Nat} {x : vp_A} (hd : dc M pc .arraylength 1 nx) (ha : h a = some (.inl (ar t, x))) (ht : t ≤ 8) (k : WP ar ro sa M d nx lv (.int (Int32.ofNat x.1) :: st) h kc ks Φ) : WP ar ro sa M d pc lv (.ref a :: st) h kc ks Φ := by
  obtain ⟨h9, rfl⟩ := hd
  exact WPc.intro ar ro sa ⟨_, _, h9, Or.inr (Or.inl (Or.inl ⟨t, x, ht, ha, k⟩))⟩
theorem r_alen_ro {a n : Nat} {f : Nat → Int32} (hd : dc M pc .arraylength 1 nx) (ha : ro a = some (n, f)) (k : WP ar ro sa M d nx lv (.int (Int32.ofNat n) :: st) h kc ks Φ) : WP ar ro sa M d pc lv (.ref a :: st) h kc ks Φ := by
  obtain ⟨h9, rfl⟩ := hd
  exact WPc.intro ar ro sa ⟨_, _, h9, Or.inr (Or.inl (Or.inr ⟨n, f, ha, k⟩))⟩
theorem r_new {i ci : Nat} {fs : List Value} (hd : dc M pc (.new i) 3 nx) (hc : CLn (mo M) i ci fs) (h1 : 1 ≤ kc) (h2 : fs.length ≤ ks) (k : ∀ q : Nat, h q = none → WP ar ro sa M d nx lv (.ref q :: st) (hset h q (.inr (ci, fs))) (kc - 1) (ks - fs.length) Φ) : WP ar ro sa M d pc lv st h kc ks Φ := by
  obtain ⟨h9, rfl⟩ := hd
  exact WPc.intro ar ro sa ⟨_, _, h9, Or.inr (Or.inl ⟨ci, fs, hc, h1, h2, k⟩)⟩
theorem r_newi {n : Int32} {N : Nat} (hd : dc M pc (.newarray .int) 2 nx) (hn : ¬ n < 0) (hN : n.toNatClampNeg = N) (hb : N ≤ 10000) (h1 : 1 ≤ kc) (h2 : N ≤ ks) (k : ∀ q : Nat, h q = none → WP ar ro sa M d nx lv (.ref q :: st) (hset h q (.inl (ar 0, N, .inl (fun _ => 0)))) (kc - 1) (ks - N) Φ) : WP ar ro sa M d pc lv (.int n :: st) h kc ks Φ := by
  subst hN; obtain ⟨h9, rfl⟩ := hd
  exact WPc.intro ar ro sa ⟨_, _, h9, Or.inr (Or.inl ⟨hn, hb, h1, h2, k⟩)⟩
theorem r_newl {n : Int32} {N : Nat} (hd : dc M pc (.newarray .long) 2 nx) (hn : ¬ n < 0) (hN : n.toNatClampNeg = N) (hb : N ≤ 10000) (h1 : 1 ≤ kc) (h2 : N ≤ ks) (k : ∀ q : Nat, h q = none → WP ar ro sa M d nx lv (.ref q :: st) (hset h q (.inl (ar 1, N, .inr (.inl (fun _ => 0))))) (kc - 1) (ks - N) Φ) : WP ar ro sa M d pc lv (.int n :: st) h kc ks Φ := by
  subst hN; obtain ⟨h9, rfl⟩ := hd
  exact WPc.intro ar ro sa ⟨_, _, h9, Or.inr (Or.inl ⟨hn, hb, h1, h2, k⟩)⟩
theorem r_newz {n : Int32} {N : Nat} (hd : dc M pc (.newarray .boolean) 2 nx) (hn : ¬ n < 0) (hN : n.toNatClampNeg = N) (hb : N ≤ 10000) (h1 : 1 ≤ kc) (h2 : N ≤ ks) (k : ∀ q : Nat, h q = none → WP ar ro sa M d nx lv (.ref q :: st) (hset h q (.inl (ar 2, N, .inl (fun _ => 0)))) (kc - 1) (ks - N) Φ) : WP ar ro sa M d pc lv (.int n :: st) h kc ks Φ := by
  subst hN; obtain ⟨h9, rfl⟩ := hd
  exact WPc.intro ar ro sa ⟨_, _, h9, Or.inr (Or.inl ⟨hn, hb, h1, h2, k⟩)⟩
theorem r_newb {n : Int32} {N : Nat} (hd : dc M pc (.newarray .byte) 2 nx) (hn : ¬ n < 0) (hN : n.toNatClampNeg = N) (hb : N ≤ 10000) (h1 : 1 ≤ kc) (h2 : N ≤ ks) (k : ∀ q : Nat, h q = none → WP ar ro sa M d nx lv (.ref q :: st) (hset h q (.inl (ar 3, N, .inl (fun _ => 0)))) (kc - 1) (ks - N) Φ) : WP ar ro sa M d pc lv (.int n :: st) h kc ks Φ := by
  subst hN; obtain ⟨h9, rfl⟩ := hd
  exact WPc.intro ar ro sa ⟨_, _, h9, Or.inr (Or.inl ⟨hn, hb, h1, h2, k⟩)⟩
theorem r_newq {n : Int32} {N i t : Nat} {C : String} (hd : dc M pc (.anewarray i) 3 nx) (ht : 4 ≤ t ∧ t ≤ 8) (hC : tyN t = .object C) (hl : Cond.classLink (cn (mo M)) i C ∈ tblG) (ho : Cond.arrayOver (.object C) ∈ exL) (hn : ¬ n < 0) (hN : n.toNatClampNeg = N) (hb : N ≤ 10000) (h1 : 1 ≤ kc) (h2 : N ≤ ks) (k : ∀ q : Nat, h q = none → WP ar ro sa M d nx lv (.ref q :: st) (hset h q (.inl (ar t, N, .inr (.inr (.inr (.inr (fun _ => none))))))) (kc - 1) (ks - N) Φ) : WP ar ro sa M d pc lv (.int n :: st) h kc ks Φ := by
  subst hN; obtain ⟨h9, rfl⟩ := hd
  exact WPc.intro ar ro sa ⟨_, _, h9, Or.inr (Or.inl ⟨t, C, ht.1, ht.2, hC, hl, ho, hn, hb, h1, h2, k⟩)⟩
theorem r_idiv {x y : Int32} (hd : dc M pc .idiv 1 nx) (hy : ¬ y = 0) (k : WP ar ro sa M d nx lv (.int (x / y) :: st) h kc ks Φ) : WP ar ro sa M d pc lv (.int y :: .int x :: st) h kc ks Φ := by
  obtain ⟨h9, rfl⟩ := hd
  exact WPc.intro ar ro sa ⟨_, _, h9, Or.inr (Or.inr (Or.inl ⟨hy, k⟩))⟩
theorem r_irem {x y : Int32} (hd : dc M pc .irem 1 nx) (hy : ¬ y = 0) (k : WP ar ro sa M d nx lv (.int (x - x / y * y) :: st) h kc ks Φ) : WP ar ro sa M d pc lv (.int y :: .int x :: st) h kc ks Φ := by
  obtain ⟨h9, rfl⟩ := hd
  exact WPc.intro ar ro sa ⟨_, _, h9, Or.inr (Or.inr (Or.inl ⟨hy, k⟩))⟩
theorem r_ldiv {x y : Int64} (hd : dc M pc .ldiv 1 nx) (hy : ¬ y = 0) (k : WP ar ro sa M d nx lv (.long (x / y) :: st) h kc ks Φ) : WP ar ro sa M d pc lv (.long y :: .long x :: st) h kc ks Φ := by
  obtain ⟨h9, rfl⟩ := hd
  exact WPc.intro ar ro sa ⟨_, _, h9, Or.inr (Or.inr (Or.inl ⟨hy, k⟩))⟩
theorem r_ldc {i : Nat} {v : Int32} (hd : dc M pc (.ldc i) 2 nx) (hc : Cond.constant (cn (mo M)) i v ∈ tblG) (k : WP ar ro sa M d nx lv (.int v :: st) h kc ks Φ) : WP ar ro sa M d pc lv st h kc ks Φ := by
  obtain ⟨h9, rfl⟩ := hd
  exact WPc.intro ar ro sa ⟨_, _, h9, Or.inr (Or.inr (Or.inl (Or.inl ⟨v, hc, k⟩)))⟩
theorem r_ldcw {i : Nat} {v : Int32} (hd : dc M pc (.ldc_w i) 3 nx) (hc : Cond.constant (cn (mo M)) i v ∈ tblG) (k : WP ar ro sa M d nx lv (.int v :: st) h kc ks Φ) : WP ar ro sa M d pc lv st h kc ks Φ := by
  obtain ⟨h9, rfl⟩ := hd
  exact WPc.intro ar ro sa ⟨_, _, h9, Or.inr (Or.inr (Or.inl (Or.inl ⟨v, hc, k⟩)))⟩
theorem r_ldcs {i j : Nat} {tx : String} (hd : dc M pc (.ldc i) 2 nx) (hc : strT[j]? = some (mo M, i, tx)) (k : WP ar ro sa M d nx lv (.ref (sa j) :: st) h kc ks Φ) : WP ar ro sa M d pc lv st h kc ks Φ := by
  obtain ⟨h9, rfl⟩ := hd
  exact WPc.intro ar ro sa ⟨_, _, h9, Or.inr (Or.inr (Or.inl (Or.inr ⟨j, tx, hc, k⟩)))⟩
theorem r_ldcws {i j : Nat} {tx : String} (hd : dc M pc (.ldc_w i) 3 nx) (hc : strT[j]? = some (mo M, i, tx)) (k : WP ar ro sa M d nx lv (.ref (sa j) :: st) h kc ks Φ) : WP ar ro sa M d pc lv st h kc ks Φ := by
  obtain ⟨h9, rfl⟩ := hd
  exact WPc.intro ar ro sa ⟨_, _, h9, Or.inr (Or.inr (Or.inl (Or.inr ⟨j, tx, hc, k⟩)))⟩
theorem r_ldc2 {i : Nat} {v : Int64} (hd : dc M pc (.ldc2_w i) 3 nx) (hc : Cond.constantLong (cn (mo M)) i v ∈ tblG) (k : WP ar ro sa M d nx lv (.long v :: st) h kc ks Φ) : WP ar ro sa M d pc lv st h kc ks Φ := by
  obtain ⟨h9, rfl⟩ := hd
  exact WPc.intro ar ro sa ⟨_, _, h9, Or.inr (Or.inr (Or.inl ⟨v, hc, k⟩))⟩
theorem r_iret {v : Int32} (hd : dc M pc .ireturn 1 nx) (hr : mr M = some .int) (hq : Φ (.inl (some (.int v))) h) : WP ar ro sa M d pc lv [.int v] h kc ks Φ := WPc.intro ar ro sa ⟨_, _, hd.1, Or.inr (Or.inr (Or.inr (Or.inl (⟨Or.inl hr, hq⟩))))⟩
theorem r_zret {v : Int32} (hd : dc M pc .ireturn 1 nx) (hr : mr M = some .boolean) (hn : narrow .boolean (.int v) = .int v) (hq : Φ (.inl (some (.int v))) h) : WP ar ro sa M d pc lv [.int v] h kc ks Φ := WPc.intro ar ro sa ⟨_, _, hd.1, Or.inr (Or.inr (Or.inr (Or.inl (⟨Or.inr ⟨hr, hn⟩, hq⟩))))⟩
theorem r_lret {v : Int64} (hd : dc M pc .lreturn 1 nx) (hr : mr M = some .long) (hq : Φ (.inl (some (.long v))) h) : WP ar ro sa M d pc lv [.long v] h kc ks Φ := WPc.intro ar ro sa ⟨_, _, hd.1, Or.inr (Or.inr (Or.inr (Or.inl (⟨hr, hq⟩))))⟩
theorem r_vret  (hd : dc M pc .return_ 1 nx) (hr : mr M = none) (hq : Φ (.inl none) h) : WP ar ro sa M d pc lv [] h kc ks Φ := WPc.intro ar ro sa ⟨_, _, hd.1, Or.inr (Or.inr (Or.inr (Or.inl (⟨hr, hq⟩))))⟩
/-- the words of 'throw new E()' at a place -/
def THk (M : Mth) (pc ik ic : Nat) (E : String) (names : List String) : Prop := mh M = [] ∧ Bundle.fit E = true ∧ (∀ n ∈ names, Bundle.fit n = true) ∧ Cond.classLink (cn (mo M)) ik E ∈ tblG ∧ Cond.initialized E ∈ tblG ∧ (∀ w ∈ vx_at0 (cn (mo M)) ic E names, (w ∈ tblG ∨ w ∈ exL) ∧ vx_ot w = true) ∧ decode (mb M) pc = .ok (.new ik, 3) ∧ decode (mb M) (pc + 3) = .ok (.dup, 1) ∧ decode (mb M) (pc + 4) = .ok (.invokespecial ic, 3) ∧ decode (mb M) (pc + 7) = .ok (.athrow, 1) ∧ names.length ≤ 4
theorem r_throw {ik ic : Nat} {E : String} {names : List String} (ht : THk M pc ik ic E names) (hs : (st.map fun v => v.category).sum ≤ 8) (h1 : 1 ≤ kc) (h2 : 6 ≤ ks) (hq : Φ (.inr E) h) : WP ar ro sa M d pc lv st h kc ks Φ := by
  obtain ⟨t1, t2, t3, t4, t5, t6, t7, t8, t9, t10, t11⟩ := ht
  exact WPc.intro ar ro sa ⟨_, _, t7, Or.inr (Or.inr (Or.inr (Or.inl ⟨ic, E, names, t1, t2, t3, t4, t5, t6, t8, t9, t10, t11, hs, h1, h2, hq⟩)))⟩
abbrev CT (ar : Nat → ClassId) (ro : Nat → Option (Nat × (Nat → Int32))) (sa : Nat → Nat) (M : Mth) (d : Nat) (av : List Value) (h : Hp) (mc ms : Nat) (Ψ : Ou → Hp → Prop) : Prop := WP ar ro sa M d 0 (entL av (ml M)) [] h mc ms Ψ
def Lkd (M : Mth) (idx : Nat) (M' : Mth) : Prop := Cond.methodLink (cn (mo M)) idx (my M') ∈ tblG
theorem r_stat {idx d' mc ms : Nat} {M' : Mth} {As rest : List Value}  {post : Option Value → Hp → Prop}  (hd : dc M pc (.invokestatic idx) 3 nx) (hl : MLk (mo M) idx M' 0 As.length)  (hst : st = As.reverse ++ rest)  (hdd : d = d' + 1) (hw : (rest.map fun v => v.category).sum ≤ 8) (ha : (lg_sl (As)).length ≤ ml M') (h1 : mc ≤ kc) (h2 : ms ≤ ks) (hq : CT ar ro sa M' d' (As) h mc ms (Ex post No))  (k : ∀ (v : Option Value) (h' : Hp), post v h' → WP ar ro sa M d nx lv (v.toList ++ rest) h' (kc - mc) (ks - ms) Φ) : WP ar ro sa M d pc lv st h kc ks Φ := by
  obtain ⟨h9, rfl⟩ := hd
  exact WPc.intro ar ro sa ⟨_, _, h9, Or.inr (Or.inr (Or.inr (Or.inr (Or.inl ⟨idx, 0, d', mc, ms, M', As, rest, _, Ex post No, hdd, rfl, hl, Or.inl ⟨rfl, rfl, hst, rfl⟩, hw, ha, h1, h2, hq, k, fun E h' q => q.elim⟩))))⟩
theorem r_statX {idx d' mc ms : Nat} {M' : Mth} {As rest : List Value}  {post : Option Value → Hp → Prop} {xs : String → Hp → Prop} (hd : dc M pc (.invokestatic idx) 3 nx) (hl : MLk (mo M) idx M' 0 As.length) (hL : Lkd M idx M') (hst : st = As.reverse ++ rest)  (hdd : d = d' + 1) (hw : (rest.map fun v => v.category).sum ≤ 8) (ha : (lg_sl (As)).length ≤ ml M') (h1 : mc ≤ kc) (h2 : ms ≤ ks) (hq : CT ar ro sa M' d' (As) h mc ms (Ex post xs)) (kx : ∀ (E : String) (h' : Hp), xs E h' → (mh M = [] ∧ Φ (.inr E) h') ∨ (∃ hpc : Nat, XHs M pc E hpc ncsL ∧ ∀ q : Nat, WP ar ro sa M d hpc lv [.ref q] h' (kc - mc) (ks - ms) Φ)) (k : ∀ (v : Option Value) (h' : Hp), post v h' → WP ar ro sa M d nx lv (v.toList ++ rest) h' (kc - mc) (ks - ms) Φ) : WP ar ro sa M d pc lv st h kc ks Φ := by
  obtain ⟨h9, rfl⟩ := hd
  exact WPc.intro ar ro sa ⟨_, _, h9, Or.inr (Or.inr (Or.inr (Or.inr (Or.inl ⟨idx, 0, d', mc, ms, M', As, rest, _, Ex post xs, hdd, rfl, hl, Or.inl ⟨rfl, rfl, hst, rfl⟩, hw, ha, h1, h2, hq, k, fun E h' q => ⟨⟨hL, by decide⟩, kx E h' q⟩⟩))))⟩
theorem r_virt {idx d' mc ms : Nat} {M' : Mth} {As rest : List Value} {b ci : Nat} {fs : List Value} {r : vw_C} {post : Option Value → Hp → Prop}  (hd : dc M pc (.invokevirtual idx) 3 nx) (hl : MLk (mo M) idx M' 1 As.length)  (hst : st = As.reverse ++ .ref b :: rest) (hb : h b = some (.inr (ci, fs))) (hc : clsL[ci]? = some r) (hr : r.1 = (my M').cls) (hdd : d = d' + 1) (hw : (rest.map fun v => v.category).sum ≤ 8) (ha : (lg_sl (.ref b :: As)).length ≤ ml M') (h1 : mc ≤ kc) (h2 : ms ≤ ks) (hq : CT ar ro sa M' d' (.ref b :: As) h mc ms (Ex post No))  (k : ∀ (v : Option Value) (h' : Hp), post v h' → WP ar ro sa M d nx lv (v.toList ++ rest) h' (kc - mc) (ks - ms) Φ) : WP ar ro sa M d pc lv st h kc ks Φ := by
  obtain ⟨h9, rfl⟩ := hd
  exact WPc.intro ar ro sa ⟨_, _, h9, Or.inr (Or.inr (Or.inr (Or.inr (Or.inl ⟨idx, 1, d', mc, ms, M', As, rest, _, Ex post No, hdd, rfl, hl, Or.inr (Or.inl ⟨b, ci, fs, r, rfl, rfl, hst, rfl, hb, hc, hr⟩), hw, ha, h1, h2, hq, k, fun E h' q => q.elim⟩))))⟩
theorem r_virtX {idx d' mc ms : Nat} {M' : Mth} {As rest : List Value} {b ci : Nat} {fs : List Value} {r : vw_C} {post : Option Value → Hp → Prop} {xs : String → Hp → Prop} (hd : dc M pc (.invokevirtual idx) 3 nx) (hl : MLk (mo M) idx M' 1 As.length) (hL : Lkd M idx M') (hst : st = As.reverse ++ .ref b :: rest) (hb : h b = some (.inr (ci, fs))) (hc : clsL[ci]? = some r) (hr : r.1 = (my M').cls) (hdd : d = d' + 1) (hw : (rest.map fun v => v.category).sum ≤ 8) (ha : (lg_sl (.ref b :: As)).length ≤ ml M') (h1 : mc ≤ kc) (h2 : ms ≤ ks) (hq : CT ar ro sa M' d' (.ref b :: As) h mc ms (Ex post xs)) (kx : ∀ (E : String) (h' : Hp), xs E h' → (mh M = [] ∧ Φ (.inr E) h') ∨ (∃ hpc : Nat, XHs M pc E hpc ncsL ∧ ∀ q : Nat, WP ar ro sa M d hpc lv [.ref q] h' (kc - mc) (ks - ms) Φ)) (k : ∀ (v : Option Value) (h' : Hp), post v h' → WP ar ro sa M d nx lv (v.toList ++ rest) h' (kc - mc) (ks - ms) Φ) : WP ar ro sa M d pc lv st h kc ks Φ := by
  obtain ⟨h9, rfl⟩ := hd
  exact WPc.intro ar ro sa ⟨_, _, h9, Or.inr (Or.inr (Or.inr (Or.inr (Or.inl ⟨idx, 1, d', mc, ms, M', As, rest, _, Ex post xs, hdd, rfl, hl, Or.inr (Or.inl ⟨b, ci, fs, r, rfl, rfl, hst, rfl, hb, hc, hr⟩), hw, ha, h1, h2, hq, k, fun E h' q => ⟨⟨hL, by decide⟩, kx E h' q⟩⟩))))⟩
theorem r_init {idx d' mc ms : Nat} {M' : Mth} {As rest : List Value} {b : Nat} {post : Option Value → Hp → Prop}  (hd : dc M pc (.invokespecial idx) 3 nx) (hl : MLk (mo M) idx M' 2 As.length)  (hst : st = As.reverse ++ .ref b :: rest)  (hdd : d = d' + 1) (hw : (rest.map fun v => v.category).sum ≤ 8) (ha : (lg_sl (.ref b :: As)).length ≤ ml M') (h1 : mc ≤ kc) (h2 : ms ≤ ks) (hq : CT ar ro sa M' d' (.ref b :: As) h mc ms (Ex post No))  (k : ∀ (v : Option Value) (h' : Hp), post v h' → WP ar ro sa M d nx lv (v.toList ++ rest) h' (kc - mc) (ks - ms) Φ) : WP ar ro sa M d pc lv st h kc ks Φ := by
  obtain ⟨h9, rfl⟩ := hd
  exact WPc.intro ar ro sa ⟨_, _, h9, Or.inr (Or.inr (Or.inr (Or.inr (Or.inl ⟨idx, 2, d', mc, ms, M', As, rest, _, Ex post No, hdd, rfl, hl, Or.inr (Or.inr ⟨b, rfl, rfl, hst, rfl⟩), hw, ha, h1, h2, hq, k, fun E h' q => q.elim⟩))))⟩
theorem r_objinit {i a : Nat} (hd : dc M pc (.invokespecial i) 3 nx) (hl : Cond.methodLink (cn (mo M)) i objectInit ∈ tblG) (h2 : Cond.instanceMethod objectInit ∈ tblG) (h3 : Cond.code objectInit ⟨#[0xb1]⟩ 1 none ∈ tblG) (hs : (st.map fun v => v.category).sum ≤ 8) (k : WP ar ro sa M d nx lv st h kc ks Φ) : WP ar ro sa M d pc lv (.ref a :: st) h kc ks Φ := by
  obtain ⟨h9, rfl⟩ := hd
  exact WPc.intro ar ro sa ⟨_, _, h9, Or.inr (Or.inr (Or.inr (Or.inr (Or.inr (⟨hl, h2, h3, hs, k⟩)))))⟩
end RW
