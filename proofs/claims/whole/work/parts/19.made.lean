/-! field lists of the classes: o objects, r arrays, s ints (and booleans), g longs, each by their order; constructors that make arrays alone -/
def fsX0 (o r : Nat → Nat) (s : Nat → Int32) (g : Nat → Int64) : List Value := [.int (s 0), .ref (r 0), .ref (r 1), .ref (r 2), .ref (r 3), .int (s 1), .ref (r 4), .ref (r 5), .ref (r 6), .ref (r 7), .ref (r 8)]
def fsX1 (o r : Nat → Nat) (s : Nat → Int32) (g : Nat → Int64) : List Value := [.ref (o 0), .int (s 0), .long (g 0), .ref (r 0), .ref (r 1), .ref (r 2), .ref (r 3), .ref (r 4), .ref (o 1), .ref (r 5), .ref (r 6)]
def fsX2 (o r : Nat → Nat) (s : Nat → Int32) (g : Nat → Int64) : List Value := [.int (s 0), .ref (r 0), .int (s 1), .ref (r 1), .ref (r 2), .ref (r 3), .ref (r 4), .ref (r 5)]
def fsX3 (o r : Nat → Nat) (s : Nat → Int32) (g : Nat → Int64) : List Value := [.int (s 0), .ref (r 0), .ref (r 1), .int (s 1), .ref (r 2), .ref (r 3), .ref (r 4), .ref (r 5), .ref (r 6), .ref (r 7), .ref (r 8), .int (s 2), .ref (r 9), .ref (r 10), .ref (r 11), .ref (r 12), .ref (r 13)]
def fsX4 (o r : Nat → Nat) (s : Nat → Int32) (g : Nat → Int64) : List Value := [.ref (o 0), .ref (r 0), .ref (r 1), .ref (r 2), .ref (o 1), .ref (r 3), .ref (r 4), .ref (r 5)]
def fsX5 (o r : Nat → Nat) (s : Nat → Int32) (g : Nat → Int64) : List Value := [.ref (r 0), .int (s 0), .int (s 1), .int (s 2), .ref (r 1), .int (s 3), .int (s 4), .int (s 5), .int (s 6), .int (s 7), .int (s 8), .int (s 9), .int (s 10), .int (s 11)]
def fsX6 (o r : Nat → Nat) (s : Nat → Int32) (g : Nat → Int64) : List Value := [.ref (r 0)]
def fsX7 (o r : Nat → Nat) (s : Nat → Int32) (g : Nat → Int64) : List Value := [.ref (o 0), .int (s 0), .ref (r 0), .ref (r 1), .int (s 1), .ref (r 2), .ref (r 3), .ref (r 4), .int (s 2), .int (s 3), .long (g 0)]
def fsX8 (o r : Nat → Nat) (s : Nat → Int32) (g : Nat → Int64) : List Value := [.int (s 0), .int (s 1), .int (s 2), .ref (r 0)]
def fsX9 (o r : Nat → Nat) (s : Nat → Int32) (g : Nat → Int64) : List Value := [.ref (o 0), .ref (o 1), .ref (o 2), .ref (o 3), .ref (r 0), .ref (r 1), .int (s 0), .ref (o 4), .ref (o 5), .ref (r 2)]
def fsX10 (o r : Nat → Nat) (s : Nat → Int32) (g : Nat → Int64) : List Value := [.ref (o 0), .int (s 0), .int (s 1), .int (s 2), .long (g 0), .ref (r 0), .ref (r 1), .ref (r 2), .ref (r 3), .ref (r 4), .ref (r 5), .ref (r 6)]
def fsX11 (o r : Nat → Nat) (s : Nat → Int32) (g : Nat → Int64) : List Value := [.ref (o 0), .ref (o 1), .ref (o 2), .ref (o 3), .ref (o 4), .ref (o 5), .ref (o 6), .ref (o 7), .ref (r 0), .ref (r 1), .ref (r 2), .ref (r 3)]
def fsX12 (o r : Nat → Nat) (s : Nat → Int32) (g : Nat → Int64) : List Value := [.ref (r 0), .ref (r 1), .ref (r 2), .int (s 0), .int (s 1), .ref (r 3), .ref (r 4), .ref (r 5), .ref (r 6), .ref (r 7), .int (s 2), .int (s 3), .int (s 4), .int (s 5), .int (s 6), .int (s 7), .int (s 8), .int (s 9), .int (s 10), .int (s 11), .ref (r 8), .ref (r 9), .ref (r 10), .ref (r 11), .ref (r 12), .ref (r 13), .ref (r 14), .ref (r 15), .ref (r 16), .ref (r 17), .ref (r 18), .ref (r 19), .ref (r 20), .ref (r 21), .ref (r 22), .int (s 12), .int (s 13), .ref (r 23), .ref (r 24), .ref (r 25)]
theorem nd_inj {l : List Nat} (hl : l.Nodup) (i j : Nat) (hi : i < l.length) (hj : j < l.length) (e : l.getD i 0 = l.getD j 0) : i = j := by
  simp only [List.getD_eq_getElem?_getD, List.getElem?_eq_getElem hi, List.getElem?_eq_getElem hj, Option.getD_some] at e
  have hp := List.pairwise_iff_getElem.mp hl
  rcases Nat.lt_trichotomy i j with q | q | q
  · exact absurd e (hp i j hi hj q)
  · exact q
  · exact absurd e.symm (hp j i hj hi q)
def Nw (h : Hp) (a : Nat) (r : Nat → Nat) (n : Nat) : Prop := (∀ i, i < n → r i ≠ a ∧ h (r i) = none) ∧ ∀ i j, i < n → j < n → r i = r j → i = j
def Kp (h h' : Hp) (a : Nat) : Prop := ∀ (b : Nat) (x : va_E), b ≠ a → h b = some x → h' b = some x
theorem Kp.rf {h : Hp} {a : Nat} : Kp h h a := fun _ _ _ q => q
theorem Kp.trans {h h1 h2 : Hp} {a : Nat} (k1 : Kp h h1 a) (k2 : Kp h1 h2 a) : Kp h h2 a := fun b x n q => k2 b x n (k1 b x n q)
section MADE
variable {ar : Nat → ClassId} {ro : Nat → Option (Nat × (Nat → Int32))} {sa : Nat → Nat} {M : Mth} {d pc len nx p1 : Nat} {lv : Lv} {st : List Value} {h : Hp} {kc ks : Nat} {Φ : Ou → Hp → Prop}
theorem kp_put {a q : Nat} {e e2 : va_E} (hq : h q = none) : Kp h (hset (hset h q e) a e2) a := by
  intro b x n hb
  rw [hset_n _ _ n, hset_n _ _ (fun z => by rw [z, hq] at hb; cases hb)]
  exact hb
theorem r_putk {i a ci f : Nat} {fs fs2 : List Value} {v : Value} {fin : Bool} {ty : FieldType} (hd : dc M pc (.putfield i) 3 nx) (hf : FLp (mo M) i ci f fin ty) (ha : h a = some (.inr (ci, fs))) (hl : f < fs.length) (hn : narrow ty v = v) (hft : fits ty v = true) (hfi : fin = true → (my M).name = "<init>") (hs : fs.set f v = fs2) (k : ∀ h' : Hp, h' a = some (.inr (ci, fs2)) → Kp h h' a → WP ar ro sa M d nx lv st h' kc ks Φ) : WP ar ro sa M d pc lv (v :: .ref a :: st) h kc ks Φ :=
  r_putf hd hf ha hl hn hft hfi hs (k _ (hset_s _ _ _) (fun b x n hb => by rw [hset_n _ _ n]; exact hb))
theorem r_mki {i a ci f N : Nat} {n : Int32} {fs : List Value} {fs2 : Nat → List Value} {fin : Bool} {ty : FieldType} (hd : dc M pc (.newarray .int) 2 p1) (hd2 : dc M p1 (.putfield i) 3 nx) (hf : FLp (mo M) i ci f fin ty) (ha : h a = some (.inr (ci, fs))) (hl : f < fs.length) (hft : ∀ q, fits ty (.ref q) = true ∧ narrow ty (.ref q) = .ref q) (hfi : fin = true → (my M).name = "<init>") (hs : ∀ q, fs.set f (.ref q) = fs2 q) (hn : ¬ n < 0) (hN : n.toNatClampNeg = N) (hb : N ≤ 10000) (h1 : 1 ≤ kc) (h2 : N ≤ ks) (k : ∀ (q : Nat) (h' : Hp), h q = none → q ≠ a → h' a = some (.inr (ci, fs2 q)) → h' q = some (.inl (ar 0, N, .inl (fun _ => 0))) → Kp h h' a → WP ar ro sa M d nx lv st h' (kc - 1) (ks - N) Φ) : WP ar ro sa M d pc lv (.int n :: .ref a :: st) h kc ks Φ := by
  refine r_newi hd hn hN hb h1 h2 (fun q hq => ?_)
  have hne : a ≠ q := fun z => by rw [z, hq] at ha; cases ha
  refine r_putf hd2 hf (by rw [hset_n _ _ hne]; exact ha) hl (hft q).2 (hft q).1 hfi (hs q) (k q _ hq (Ne.symm hne) (hset_s _ _ _) ?_ (kp_put hq))
  rw [hset_n _ _ (Ne.symm hne)]
  exact hset_s _ _ _
theorem r_mkl {i a ci f N : Nat} {n : Int32} {fs : List Value} {fs2 : Nat → List Value} {fin : Bool} {ty : FieldType} (hd : dc M pc (.newarray .long) 2 p1) (hd2 : dc M p1 (.putfield i) 3 nx) (hf : FLp (mo M) i ci f fin ty) (ha : h a = some (.inr (ci, fs))) (hl : f < fs.length) (hft : ∀ q, fits ty (.ref q) = true ∧ narrow ty (.ref q) = .ref q) (hfi : fin = true → (my M).name = "<init>") (hs : ∀ q, fs.set f (.ref q) = fs2 q) (hn : ¬ n < 0) (hN : n.toNatClampNeg = N) (hb : N ≤ 10000) (h1 : 1 ≤ kc) (h2 : N ≤ ks) (k : ∀ (q : Nat) (h' : Hp), h q = none → q ≠ a → h' a = some (.inr (ci, fs2 q)) → h' q = some (.inl (ar 1, N, .inr (.inl (fun _ => 0)))) → Kp h h' a → WP ar ro sa M d nx lv st h' (kc - 1) (ks - N) Φ) : WP ar ro sa M d pc lv (.int n :: .ref a :: st) h kc ks Φ := by
  refine r_newl hd hn hN hb h1 h2 (fun q hq => ?_)
  have hne : a ≠ q := fun z => by rw [z, hq] at ha; cases ha
  refine r_putf hd2 hf (by rw [hset_n _ _ hne]; exact ha) hl (hft q).2 (hft q).1 hfi (hs q) (k q _ hq (Ne.symm hne) (hset_s _ _ _) ?_ (kp_put hq))
  rw [hset_n _ _ (Ne.symm hne)]
  exact hset_s _ _ _
theorem r_mkz {i a ci f N : Nat} {n : Int32} {fs : List Value} {fs2 : Nat → List Value} {fin : Bool} {ty : FieldType} (hd : dc M pc (.newarray .boolean) 2 p1) (hd2 : dc M p1 (.putfield i) 3 nx) (hf : FLp (mo M) i ci f fin ty) (ha : h a = some (.inr (ci, fs))) (hl : f < fs.length) (hft : ∀ q, fits ty (.ref q) = true ∧ narrow ty (.ref q) = .ref q) (hfi : fin = true → (my M).name = "<init>") (hs : ∀ q, fs.set f (.ref q) = fs2 q) (hn : ¬ n < 0) (hN : n.toNatClampNeg = N) (hb : N ≤ 10000) (h1 : 1 ≤ kc) (h2 : N ≤ ks) (k : ∀ (q : Nat) (h' : Hp), h q = none → q ≠ a → h' a = some (.inr (ci, fs2 q)) → h' q = some (.inl (ar 2, N, .inl (fun _ => 0))) → Kp h h' a → WP ar ro sa M d nx lv st h' (kc - 1) (ks - N) Φ) : WP ar ro sa M d pc lv (.int n :: .ref a :: st) h kc ks Φ := by
  refine r_newz hd hn hN hb h1 h2 (fun q hq => ?_)
  have hne : a ≠ q := fun z => by rw [z, hq] at ha; cases ha
  refine r_putf hd2 hf (by rw [hset_n _ _ hne]; exact ha) hl (hft q).2 (hft q).1 hfi (hs q) (k q _ hq (Ne.symm hne) (hset_s _ _ _) ?_ (kp_put hq))
  rw [hset_n _ _ (Ne.symm hne)]
  exact hset_s _ _ _
theorem r_mkb {i a ci f N : Nat} {n : Int32} {fs : List Value} {fs2 : Nat → List Value} {fin : Bool} {ty : FieldType} (hd : dc M pc (.newarray .byte) 2 p1) (hd2 : dc M p1 (.putfield i) 3 nx) (hf : FLp (mo M) i ci f fin ty) (ha : h a = some (.inr (ci, fs))) (hl : f < fs.length) (hft : ∀ q, fits ty (.ref q) = true ∧ narrow ty (.ref q) = .ref q) (hfi : fin = true → (my M).name = "<init>") (hs : ∀ q, fs.set f (.ref q) = fs2 q) (hn : ¬ n < 0) (hN : n.toNatClampNeg = N) (hb : N ≤ 10000) (h1 : 1 ≤ kc) (h2 : N ≤ ks) (k : ∀ (q : Nat) (h' : Hp), h q = none → q ≠ a → h' a = some (.inr (ci, fs2 q)) → h' q = some (.inl (ar 3, N, .inl (fun _ => 0))) → Kp h h' a → WP ar ro sa M d nx lv st h' (kc - 1) (ks - N) Φ) : WP ar ro sa M d pc lv (.int n :: .ref a :: st) h kc ks Φ := by
  refine r_newb hd hn hN hb h1 h2 (fun q hq => ?_)
  have hne : a ≠ q := fun z => by rw [z, hq] at ha; cases ha
  refine r_putf hd2 hf (by rw [hset_n _ _ hne]; exact ha) hl (hft q).2 (hft q).1 hfi (hs q) (k q _ hq (Ne.symm hne) (hset_s _ _ _) ?_ (kp_put hq))
  rw [hset_n _ _ (Ne.symm hne)]
  exact hset_s _ _ _
end MADE
theorem ob1 : Cond.instanceMethod objectInit ∈ tblG := tblG_in (i := 40) (by decide +kernel) (by decide +kernel)
theorem ob2 : Cond.code objectInit ⟨#[0xb1]⟩ 1 none ∈ tblG := tblG_in (i := 41) (by decide +kernel) (by decide +kernel)
theorem ob_0 : Cond.methodLink (cn 0) 3 objectInit ∈ tblG := tblG_in (i := 173) (by decide +kernel) (by decide +kernel)
theorem ob_1 : Cond.methodLink (cn 1) 3 objectInit ∈ tblG := tblG_in (i := 409) (by decide +kernel) (by decide +kernel)
theorem ob_2 : Cond.methodLink (cn 2) 3 objectInit ∈ tblG := tblG_in (i := 135) (by decide +kernel) (by decide +kernel)
theorem ob_3 : Cond.methodLink (cn 3) 3 objectInit ∈ tblG := tblG_in (i := 47) (by decide +kernel) (by decide +kernel)
theorem ob_4 : Cond.methodLink (cn 4) 3 objectInit ∈ tblG := tblG_in (i := 376) (by decide +kernel) (by decide +kernel)
theorem ob_5 : Cond.methodLink (cn 5) 3 objectInit ∈ tblG := tblG_in (i := 453) (by decide +kernel) (by decide +kernel)
theorem ob_6 : Cond.methodLink (cn 6) 3 objectInit ∈ tblG := tblG_in (i := 287) (by decide +kernel) (by decide +kernel)
theorem ob_7 : Cond.methodLink (cn 7) 3 objectInit ∈ tblG := tblG_in (i := 298) (by decide +kernel) (by decide +kernel)
theorem ob_8 : Cond.methodLink (cn 8) 3 objectInit ∈ tblG := tblG_in (i := 512) (by decide +kernel) (by decide +kernel)
theorem ob_9 : Cond.methodLink (cn 9) 3 objectInit ∈ tblG := tblG_in (i := 281) (by decide +kernel) (by decide +kernel)
theorem ob_10 : Cond.methodLink (cn 10) 3 objectInit ∈ tblG := tblG_in (i := 227) (by decide +kernel) (by decide +kernel)
theorem ob_11 : Cond.methodLink (cn 11) 3 objectInit ∈ tblG := tblG_in (i := 39) (by decide +kernel) (by decide +kernel)
theorem ob_12 : Cond.methodLink (cn 12) 3 objectInit ∈ tblG := tblG_in (i := 1758) (by decide +kernel) (by decide +kernel)
section INITS
variable {ar : Nat → ClassId} {ro : Nat → Option (Nat × (Nat → Int32))} {sa : Nat → Nat} {d : Nat} {h : Hp} {mc ms : Nat}
theorem c_X6_init {a : Nat} (ha : h a = some (.inr (6, [.null]))) (hm : 1 ≤ mc) (hs : 4 ≤ ms) : CT ar ro sa mX6_init d [.ref a] h mc ms (Ex (fun v h' => v = none ∧ ∃ r : Nat → Nat, Nw h a r 1 ∧ Kp h h' a ∧ h' a = some (.inr (6, fsX6 (fun i => [].getD i 0) r (fun i => [].getD i 0) (fun _ => 0))) ∧ h' (r 0) = some (.inl (ar 1, 4, .inr (.inl (fun _ => 0))))) No) := by
  show WP ar ro sa mX6_init d 0 [some (.ref a)] [] h mc ms _
  refine r_aload_n eX6_init_0 rfl ?_
  refine r_objinit eX6_init_1 ob_6 ob1 ob2 (by decide) ?_
  refine r_aload_n eX6_init_4 rfl ?_
  refine r_iconst (v := 4) eX6_init_5 (by decide) ?_
  refine r_mkl (N := 4) (fs2 := fun q => [.ref q]) eX6_init_6 eX6_init_8 p_6_11 ha (Nat.le_of_ble_eq_true rfl) (fun _ => ⟨rfl, rfl⟩) (fun _ => rfl) (fun _ => rfl) (by decide) (by decide) (by decide) (by omega) (by omega) (fun q0 h1 hq1 hn1 ha1 hc1 hk1 => ?_)
  have K1 : Kp h1 h1 a := Kp.rf
  have K0 : Kp h h1 a := hk1.trans K1
  have fq0 : h q0 = none := by
    cases z : h q0 with
    | none => rfl
    | some y => exact absurd (z) (by rw [hq1]; intro c; cases c)
  refine r_vret eX6_init_11 rfl ⟨rfl, fun i => [q0].getD i 0, ⟨fun i hi => ?_, fun i j hi hj e => ?_⟩, K0, ha1, K1 q0 _ hn1 hc1⟩
  · obtain rfl : i = 0 := by omega
    exact ⟨hn1, fq0⟩
  · omega
theorem c_X8_init {a : Nat} (ha : h a = some (.inr (8, [.int 0, .int 0, .int 0, .null]))) (hm : 1 ≤ mc) (hs : 12 ≤ ms) : CT ar ro sa mX8_init d [.ref a] h mc ms (Ex (fun v h' => v = none ∧ ∃ r : Nat → Nat, Nw h a r 1 ∧ Kp h h' a ∧ h' a = some (.inr (8, fsX8 (fun i => [].getD i 0) r (fun i => [((1) : Int32), (0 : Int32), (0 : Int32)].getD i 0) (fun _ => 0))) ∧ h' (r 0) = some (.inl (ar 1, 12, .inr (.inl (fun _ => 0))))) No) := by
  show WP ar ro sa mX8_init d 0 [some (.ref a)] [] h mc ms _
  refine r_aload_n eX8_init_0 rfl ?_
  refine r_objinit eX8_init_1 ob_8 ob1 ob2 (by decide) ?_
  refine r_aload_n eX8_init_4 rfl ?_
  refine r_iconst (v := 1) eX8_init_5 (by decide) ?_
  refine r_putk (fs2 := [.int (1), .int 0, .int 0, .null]) eX8_init_6 p_8_9 ha (Nat.le_of_ble_eq_true rfl) (by first | rfl | decide) rfl (fun q => by first | rfl | cases q) rfl (fun h1 ha1 hk1 => ?_)
  refine r_aload_n eX8_init_9 rfl ?_
  refine r_bipush (v := 12) eX8_init_10 (by decide) ?_
  refine r_mkl (N := 12) (fs2 := fun q => [.int (1), .int 0, .int 0, .ref q]) eX8_init_12 eX8_init_14 p_8_15 ha1 (Nat.le_of_ble_eq_true rfl) (fun _ => ⟨rfl, rfl⟩) (fun _ => rfl) (fun _ => rfl) (by decide) (by decide) (by decide) (by omega) (by omega) (fun q0 h2 hq2 hn2 ha2 hc2 hk2 => ?_)
  have K2 : Kp h2 h2 a := Kp.rf
  have K1 : Kp h1 h2 a := hk2.trans K2
  have K0 : Kp h h2 a := hk1.trans K1
  have fq0 : h q0 = none := by
    cases z : h q0 with
    | none => rfl
    | some y => exact absurd ((hk1) q0 y hn2 z) (by rw [hq2]; intro c; cases c)
  refine r_vret eX8_init_17 rfl ⟨rfl, fun i => [q0].getD i 0, ⟨fun i hi => ?_, fun i j hi hj e => ?_⟩, K0, ha2, K2 q0 _ hn2 hc2⟩
  · obtain rfl : i = 0 := by omega
    exact ⟨hn2, fq0⟩
  · omega
theorem c_X5_init {a : Nat} (ha : h a = some (.inr (5, [.null, .int 0, .int 0, .int 0, .null, .int 0, .int 0, .int 0, .int 0, .int 0, .int 0, .int 0, .int 0, .int 0]))) (hm : 2 ≤ mc) (hs : 240 ≤ ms) : CT ar ro sa mX5_init d [.ref a] h mc ms (Ex (fun v h' => v = none ∧ ∃ r : Nat → Nat, Nw h a r 2 ∧ Kp h h' a ∧ h' a = some (.inr (5, fsX5 (fun i => [].getD i 0) r (fun i => [(0 : Int32), (0 : Int32), ((-1) : Int32), (0 : Int32), (0 : Int32), (0 : Int32), (0 : Int32), (0 : Int32), (0 : Int32), (0 : Int32), (0 : Int32), (0 : Int32)].getD i 0) (fun _ => 0))) ∧ h' (r 0) = some (.inl (ar 3, 200, .inl (fun _ => 0))) ∧ h' (r 1) = some (.inl (ar 0, 40, .inl (fun _ => 0)))) No) := by
  show WP ar ro sa mX5_init d 0 [some (.ref a)] [] h mc ms _
  refine r_aload_n eX5_init_0 rfl ?_
  refine r_objinit eX5_init_1 ob_5 ob1 ob2 (by decide) ?_
  refine r_aload_n eX5_init_4 rfl ?_
  refine r_sipush (v := 200) eX5_init_5 (by decide) ?_
  refine r_mkb (N := 200) (fs2 := fun q => [.ref q, .int 0, .int 0, .int 0, .null, .int 0, .int 0, .int 0, .int 0, .int 0, .int 0, .int 0, .int 0, .int 0]) eX5_init_8 eX5_init_10 p_5_9 ha (Nat.le_of_ble_eq_true rfl) (fun _ => ⟨rfl, rfl⟩) (fun _ => rfl) (fun _ => rfl) (by decide) (by decide) (by decide) (by omega) (by omega) (fun q0 h1 hq1 hn1 ha1 hc1 hk1 => ?_)
  refine r_aload_n eX5_init_13 rfl ?_
  refine r_iconst (v := (-1)) eX5_init_14 (by decide) ?_
  refine r_putk (fs2 := [.ref q0, .int 0, .int 0, .int (-1), .null, .int 0, .int 0, .int 0, .int 0, .int 0, .int 0, .int 0, .int 0, .int 0]) eX5_init_15 p_5_15 ha1 (Nat.le_of_ble_eq_true rfl) (by first | rfl | decide) rfl (fun q => by first | rfl | cases q) rfl (fun h2 ha2 hk2 => ?_)
  refine r_aload_n eX5_init_18 rfl ?_
  refine r_bipush (v := 40) eX5_init_19 (by decide) ?_
  refine r_mki (N := 40) (fs2 := fun q => [.ref q0, .int 0, .int 0, .int (-1), .ref q, .int 0, .int 0, .int 0, .int 0, .int 0, .int 0, .int 0, .int 0, .int 0]) eX5_init_21 eX5_init_23 p_5_19 ha2 (Nat.le_of_ble_eq_true rfl) (fun _ => ⟨rfl, rfl⟩) (fun _ => rfl) (fun _ => rfl) (by decide) (by decide) (by decide) (by omega) (by omega) (fun q1 h3 hq3 hn3 ha3 hc3 hk3 => ?_)
  have K3 : Kp h3 h3 a := Kp.rf
  have K2 : Kp h2 h3 a := hk3.trans K3
  have K1 : Kp h1 h3 a := hk2.trans K2
  have K0 : Kp h h3 a := hk1.trans K1
  have fq0 : h q0 = none := by
    cases z : h q0 with
    | none => rfl
    | some y => exact absurd (z) (by rw [hq1]; intro c; cases c)
  have fq1 : h q1 = none := by
    cases z : h q1 with
    | none => rfl
    | some y => exact absurd (((hk1).trans hk2) q1 y hn3 z) (by rw [hq3]; intro c; cases c)
  have n0_1 : q0 ≠ q1 := fun z => by have c1 := hq3; rw [← z, (hk2) q0 _ hn1 hc1] at c1; cases c1
  refine r_vret eX5_init_26 rfl ⟨rfl, fun i => [q0, q1].getD i 0, ⟨fun i hi => ?_, fun i j hi hj e => ?_⟩, K0, ha3, K1 q0 _ hn1 hc1, K3 q1 _ hn3 hc3⟩
  · rcases (show i = 0 ∨ i = 1 by omega) with rfl | rfl
    · exact ⟨hn1, fq0⟩
    · exact ⟨hn3, fq1⟩
  · exact nd_inj (l := [q0, q1]) (by simp [n0_1]) i j hi hj e
theorem c_X7_init {a b0 : Nat} (ha : h a = some (.inr (7, [.null, .int 0, .null, .null, .int 0, .null, .null, .null, .int 0, .int 0, .long 0]))) (hm : 5 ≤ mc) (hs : 481 ≤ ms) : CT ar ro sa mX7_init d [.ref a, .ref b0] h mc ms (Ex (fun v h' => v = none ∧ ∃ r : Nat → Nat, Nw h a r 5 ∧ Kp h h' a ∧ h' a = some (.inr (7, fsX7 (fun i => [b0].getD i 0) r (fun i => [(0 : Int32), (0 : Int32), (0 : Int32), (0 : Int32)].getD i 0) (fun _ => 0))) ∧ h' (r 0) = some (.inl (ar 0, 120, .inl (fun _ => 0))) ∧ h' (r 1) = some (.inl (ar 1, 120, .inr (.inl (fun _ => 0)))) ∧ h' (r 2) = some (.inl (ar 0, 120, .inl (fun _ => 0))) ∧ h' (r 3) = some (.inl (ar 1, 120, .inr (.inl (fun _ => 0)))) ∧ h' (r 4) = some (.inl (ar 0, 1, .inl (fun _ => 0)))) No) := by
  show WP ar ro sa mX7_init d 0 [some (.ref a), some (.ref b0)] [] h mc ms _
  refine r_aload_n eX7_init_0 rfl ?_
  refine r_objinit eX7_init_1 ob_7 ob1 ob2 (by decide) ?_
  refine r_aload_n eX7_init_4 rfl ?_
  refine r_bipush (v := 120) eX7_init_5 (by decide) ?_
  refine r_mki (N := 120) (fs2 := fun q => [.null, .int 0, .ref q, .null, .int 0, .null, .null, .null, .int 0, .int 0, .long 0]) eX7_init_7 eX7_init_9 p_7_9 ha (Nat.le_of_ble_eq_true rfl) (fun _ => ⟨rfl, rfl⟩) (fun _ => rfl) (fun _ => rfl) (by decide) (by decide) (by decide) (by omega) (by omega) (fun q0 h1 hq1 hn1 ha1 hc1 hk1 => ?_)
  refine r_aload_n eX7_init_12 rfl ?_
  refine r_bipush (v := 120) eX7_init_13 (by decide) ?_
  refine r_mkl (N := 120) (fs2 := fun q => [.null, .int 0, .ref q0, .ref q, .int 0, .null, .null, .null, .int 0, .int 0, .long 0]) eX7_init_15 eX7_init_17 p_7_15 ha1 (Nat.le_of_ble_eq_true rfl) (fun _ => ⟨rfl, rfl⟩) (fun _ => rfl) (fun _ => rfl) (by decide) (by decide) (by decide) (by omega) (by omega) (fun q1 h2 hq2 hn2 ha2 hc2 hk2 => ?_)
  refine r_aload_n eX7_init_20 rfl ?_
  refine r_bipush (v := 120) eX7_init_21 (by decide) ?_
  refine r_mki (N := 120) (fs2 := fun q => [.null, .int 0, .ref q0, .ref q1, .int 0, .ref q, .null, .null, .int 0, .int 0, .long 0]) eX7_init_23 eX7_init_25 p_7_19 ha2 (Nat.le_of_ble_eq_true rfl) (fun _ => ⟨rfl, rfl⟩) (fun _ => rfl) (fun _ => rfl) (by decide) (by decide) (by decide) (by omega) (by omega) (fun q2 h3 hq3 hn3 ha3 hc3 hk3 => ?_)
  refine r_aload_n eX7_init_28 rfl ?_
  refine r_bipush (v := 120) eX7_init_29 (by decide) ?_
  refine r_mkl (N := 120) (fs2 := fun q => [.null, .int 0, .ref q0, .ref q1, .int 0, .ref q2, .ref q, .null, .int 0, .int 0, .long 0]) eX7_init_31 eX7_init_33 p_7_22 ha3 (Nat.le_of_ble_eq_true rfl) (fun _ => ⟨rfl, rfl⟩) (fun _ => rfl) (fun _ => rfl) (by decide) (by decide) (by decide) (by omega) (by omega) (fun q3 h4 hq4 hn4 ha4 hc4 hk4 => ?_)
  refine r_aload_n eX7_init_36 rfl ?_
  refine r_iconst (v := 1) eX7_init_37 (by decide) ?_
  refine r_mki (N := 1) (fs2 := fun q => [.null, .int 0, .ref q0, .ref q1, .int 0, .ref q2, .ref q3, .ref q, .int 0, .int 0, .long 0]) eX7_init_38 eX7_init_40 p_7_25 ha4 (Nat.le_of_ble_eq_true rfl) (fun _ => ⟨rfl, rfl⟩) (fun _ => rfl) (fun _ => rfl) (by decide) (by decide) (by decide) (by omega) (by omega) (fun q4 h5 hq5 hn5 ha5 hc5 hk5 => ?_)
  refine r_aload_n eX7_init_43 rfl ?_
  refine r_aload_n eX7_init_44 rfl ?_
  refine r_putk (fs2 := [.ref b0, .int 0, .ref q0, .ref q1, .int 0, .ref q2, .ref q3, .ref q4, .int 0, .int 0, .long 0]) eX7_init_45 p_7_28 ha5 (Nat.le_of_ble_eq_true rfl) (by first | rfl | decide) rfl (fun q => by first | rfl | cases q) rfl (fun h6 ha6 hk6 => ?_)
  have K6 : Kp h6 h6 a := Kp.rf
  have K5 : Kp h5 h6 a := hk6.trans K6
  have K4 : Kp h4 h6 a := hk5.trans K5
  have K3 : Kp h3 h6 a := hk4.trans K4
  have K2 : Kp h2 h6 a := hk3.trans K3
  have K1 : Kp h1 h6 a := hk2.trans K2
  have K0 : Kp h h6 a := hk1.trans K1
  have fq0 : h q0 = none := by
    cases z : h q0 with
    | none => rfl
    | some y => exact absurd (z) (by rw [hq1]; intro c; cases c)
  have fq1 : h q1 = none := by
    cases z : h q1 with
    | none => rfl
    | some y => exact absurd ((hk1) q1 y hn2 z) (by rw [hq2]; intro c; cases c)
  have fq2 : h q2 = none := by
    cases z : h q2 with
    | none => rfl
    | some y => exact absurd (((hk1).trans hk2) q2 y hn3 z) (by rw [hq3]; intro c; cases c)
  have fq3 : h q3 = none := by
    cases z : h q3 with
    | none => rfl
    | some y => exact absurd ((((hk1).trans hk2).trans hk3) q3 y hn4 z) (by rw [hq4]; intro c; cases c)
  have fq4 : h q4 = none := by
    cases z : h q4 with
    | none => rfl
    | some y => exact absurd (((((hk1).trans hk2).trans hk3).trans hk4) q4 y hn5 z) (by rw [hq5]; intro c; cases c)
  have n0_1 : q0 ≠ q1 := fun z => by have c1 := hq2; rw [← z, hc1] at c1; cases c1
  have n0_2 : q0 ≠ q2 := fun z => by have c1 := hq3; rw [← z, (hk2) q0 _ hn1 hc1] at c1; cases c1
  have n0_3 : q0 ≠ q3 := fun z => by have c1 := hq4; rw [← z, ((hk2).trans hk3) q0 _ hn1 hc1] at c1; cases c1
  have n0_4 : q0 ≠ q4 := fun z => by have c1 := hq5; rw [← z, (((hk2).trans hk3).trans hk4) q0 _ hn1 hc1] at c1; cases c1
  have n1_2 : q1 ≠ q2 := fun z => by have c1 := hq3; rw [← z, hc2] at c1; cases c1
  have n1_3 : q1 ≠ q3 := fun z => by have c1 := hq4; rw [← z, (hk3) q1 _ hn2 hc2] at c1; cases c1
  have n1_4 : q1 ≠ q4 := fun z => by have c1 := hq5; rw [← z, ((hk3).trans hk4) q1 _ hn2 hc2] at c1; cases c1
  have n2_3 : q2 ≠ q3 := fun z => by have c1 := hq4; rw [← z, hc3] at c1; cases c1
  have n2_4 : q2 ≠ q4 := fun z => by have c1 := hq5; rw [← z, (hk4) q2 _ hn3 hc3] at c1; cases c1
  have n3_4 : q3 ≠ q4 := fun z => by have c1 := hq5; rw [← z, hc4] at c1; cases c1
  refine r_vret eX7_init_48 rfl ⟨rfl, fun i => [q0, q1, q2, q3, q4].getD i 0, ⟨fun i hi => ?_, fun i j hi hj e => ?_⟩, K0, ha6, K1 q0 _ hn1 hc1, K2 q1 _ hn2 hc2, K3 q2 _ hn3 hc3, K4 q3 _ hn4 hc4, K5 q4 _ hn5 hc5⟩
  · rcases (show i = 0 ∨ i = 1 ∨ i = 2 ∨ i = 3 ∨ i = 4 by omega) with rfl | rfl | rfl | rfl | rfl
    · exact ⟨hn1, fq0⟩
    · exact ⟨hn2, fq1⟩
    · exact ⟨hn3, fq2⟩
    · exact ⟨hn4, fq3⟩
    · exact ⟨hn5, fq4⟩
  · exact nd_inj (l := [q0, q1, q2, q3, q4]) (by simp [n0_1, n0_2, n0_3, n0_4, n1_2, n1_3, n1_4, n2_3, n2_4, n3_4]) i j hi hj e
theorem c_X10_init {a b0 : Nat} (ha : h a = some (.inr (10, [.null, .int 0, .int 0, .int 0, .long 0, .null, .null, .null, .null, .null, .null, .null]))) (hm : 7 ≤ mc) (hs : 2306 ≤ ms) : CT ar ro sa mX10_init d [.ref a, .ref b0] h mc ms (Ex (fun v h' => v = none ∧ ∃ r : Nat → Nat, Nw h a r 7 ∧ Kp h h' a ∧ h' a = some (.inr (10, fsX10 (fun i => [b0].getD i 0) r (fun i => [((0) : Int32), ((-1) : Int32), ((1) : Int32)].getD i 0) (fun _ => 0))) ∧ h' (r 0) = some (.inl (ar 1, 2, .inr (.inl (fun _ => 0)))) ∧ h' (r 1) = some (.inl (ar 1, 80, .inr (.inl (fun _ => 0)))) ∧ h' (r 2) = some (.inl (ar 1, 40, .inr (.inl (fun _ => 0)))) ∧ h' (r 3) = some (.inl (ar 1, 12, .inr (.inl (fun _ => 0)))) ∧ h' (r 4) = some (.inl (ar 1, 12, .inr (.inl (fun _ => 0)))) ∧ h' (r 5) = some (.inl (ar 2, 240, .inl (fun _ => 0))) ∧ h' (r 6) = some (.inl (ar 1, 1920, .inr (.inl (fun _ => 0))))) No) := by
  show WP ar ro sa mX10_init d 0 [some (.ref a), some (.ref b0)] [] h mc ms _
  refine r_aload_n eX10_init_0 rfl ?_
  refine r_objinit eX10_init_1 ob_10 ob1 ob2 (by decide) ?_
  refine r_aload_n eX10_init_4 rfl ?_
  refine r_iconst (v := 0) eX10_init_5 (by decide) ?_
  refine r_putk (fs2 := [.null, .int (0), .int 0, .int 0, .long 0, .null, .null, .null, .null, .null, .null, .null]) eX10_init_6 p_10_9 ha (Nat.le_of_ble_eq_true rfl) (by first | rfl | decide) rfl (fun q => by first | rfl | cases q) rfl (fun h1 ha1 hk1 => ?_)
  refine r_aload_n eX10_init_9 rfl ?_
  refine r_iconst (v := (-1)) eX10_init_10 (by decide) ?_
  refine r_putk (fs2 := [.null, .int (0), .int (-1), .int 0, .long 0, .null, .null, .null, .null, .null, .null, .null]) eX10_init_11 p_10_15 ha1 (Nat.le_of_ble_eq_true rfl) (by first | rfl | decide) rfl (fun q => by first | rfl | cases q) rfl (fun h2 ha2 hk2 => ?_)
  refine r_aload_n eX10_init_14 rfl ?_
  refine r_iconst (v := 1) eX10_init_15 (by decide) ?_
  refine r_putk (fs2 := [.null, .int (0), .int (-1), .int (1), .long 0, .null, .null, .null, .null, .null, .null, .null]) eX10_init_16 p_10_18 ha2 (Nat.le_of_ble_eq_true rfl) (by first | rfl | decide) rfl (fun q => by first | rfl | cases q) rfl (fun h3 ha3 hk3 => ?_)
  refine r_aload_n eX10_init_19 rfl ?_
  refine r_iconst (v := 2) eX10_init_20 (by decide) ?_
  refine r_mkl (N := 2) (fs2 := fun q => [.null, .int (0), .int (-1), .int (1), .long 0, .ref q, .null, .null, .null, .null, .null, .null]) eX10_init_21 eX10_init_23 p_10_22 ha3 (Nat.le_of_ble_eq_true rfl) (fun _ => ⟨rfl, rfl⟩) (fun _ => rfl) (fun _ => rfl) (by decide) (by decide) (by decide) (by omega) (by omega) (fun q0 h4 hq4 hn4 ha4 hc4 hk4 => ?_)
  refine r_aload_n eX10_init_26 rfl ?_
  refine r_bipush (v := 80) eX10_init_27 (by decide) ?_
  refine r_mkl (N := 80) (fs2 := fun q => [.null, .int (0), .int (-1), .int (1), .long 0, .ref q0, .ref q, .null, .null, .null, .null, .null]) eX10_init_29 eX10_init_31 p_10_26 ha4 (Nat.le_of_ble_eq_true rfl) (fun _ => ⟨rfl, rfl⟩) (fun _ => rfl) (fun _ => rfl) (by decide) (by decide) (by decide) (by omega) (by omega) (fun q1 h5 hq5 hn5 ha5 hc5 hk5 => ?_)
  refine r_aload_n eX10_init_34 rfl ?_
  refine r_bipush (v := 40) eX10_init_35 (by decide) ?_
  refine r_mkl (N := 40) (fs2 := fun q => [.null, .int (0), .int (-1), .int (1), .long 0, .ref q0, .ref q1, .ref q, .null, .null, .null, .null]) eX10_init_37 eX10_init_39 p_10_29 ha5 (Nat.le_of_ble_eq_true rfl) (fun _ => ⟨rfl, rfl⟩) (fun _ => rfl) (fun _ => rfl) (by decide) (by decide) (by decide) (by omega) (by omega) (fun q2 h6 hq6 hn6 ha6 hc6 hk6 => ?_)
  refine r_aload_n eX10_init_42 rfl ?_
  refine r_bipush (v := 12) eX10_init_43 (by decide) ?_
  refine r_mkl (N := 12) (fs2 := fun q => [.null, .int (0), .int (-1), .int (1), .long 0, .ref q0, .ref q1, .ref q2, .ref q, .null, .null, .null]) eX10_init_45 eX10_init_47 p_10_32 ha6 (Nat.le_of_ble_eq_true rfl) (fun _ => ⟨rfl, rfl⟩) (fun _ => rfl) (fun _ => rfl) (by decide) (by decide) (by decide) (by omega) (by omega) (fun q3 h7 hq7 hn7 ha7 hc7 hk7 => ?_)
  refine r_aload_n eX10_init_50 rfl ?_
  refine r_bipush (v := 12) eX10_init_51 (by decide) ?_
  refine r_mkl (N := 12) (fs2 := fun q => [.null, .int (0), .int (-1), .int (1), .long 0, .ref q0, .ref q1, .ref q2, .ref q3, .ref q, .null, .null]) eX10_init_53 eX10_init_55 p_10_35 ha7 (Nat.le_of_ble_eq_true rfl) (fun _ => ⟨rfl, rfl⟩) (fun _ => rfl) (fun _ => rfl) (by decide) (by decide) (by decide) (by omega) (by omega) (fun q4 h8 hq8 hn8 ha8 hc8 hk8 => ?_)
  refine r_aload_n eX10_init_58 rfl ?_
  refine r_sipush (v := 240) eX10_init_59 (by decide) ?_
  refine r_mkz (N := 240) (fs2 := fun q => [.null, .int (0), .int (-1), .int (1), .long 0, .ref q0, .ref q1, .ref q2, .ref q3, .ref q4, .ref q, .null]) eX10_init_62 eX10_init_64 p_10_38 ha8 (Nat.le_of_ble_eq_true rfl) (fun _ => ⟨rfl, rfl⟩) (fun _ => rfl) (fun _ => rfl) (by decide) (by decide) (by decide) (by omega) (by omega) (fun q5 h9 hq9 hn9 ha9 hc9 hk9 => ?_)
  refine r_aload_n eX10_init_67 rfl ?_
  refine r_sipush (v := 1920) eX10_init_68 (by decide) ?_
  refine r_mkl (N := 1920) (fs2 := fun q => [.null, .int (0), .int (-1), .int (1), .long 0, .ref q0, .ref q1, .ref q2, .ref q3, .ref q4, .ref q5, .ref q]) eX10_init_71 eX10_init_73 p_10_42 ha9 (Nat.le_of_ble_eq_true rfl) (fun _ => ⟨rfl, rfl⟩) (fun _ => rfl) (fun _ => rfl) (by decide) (by decide) (by decide) (by omega) (by omega) (fun q6 h10 hq10 hn10 ha10 hc10 hk10 => ?_)
  refine r_aload_n eX10_init_76 rfl ?_
  refine r_aload_n eX10_init_77 rfl ?_
  refine r_putk (fs2 := [.ref b0, .int (0), .int (-1), .int (1), .long 0, .ref q0, .ref q1, .ref q2, .ref q3, .ref q4, .ref q5, .ref q6]) eX10_init_78 p_10_45 ha10 (Nat.le_of_ble_eq_true rfl) (by first | rfl | decide) rfl (fun q => by first | rfl | cases q) rfl (fun h11 ha11 hk11 => ?_)
  have K11 : Kp h11 h11 a := Kp.rf
  have K10 : Kp h10 h11 a := hk11.trans K11
  have K9 : Kp h9 h11 a := hk10.trans K10
  have K8 : Kp h8 h11 a := hk9.trans K9
  have K7 : Kp h7 h11 a := hk8.trans K8
  have K6 : Kp h6 h11 a := hk7.trans K7
  have K5 : Kp h5 h11 a := hk6.trans K6
  have K4 : Kp h4 h11 a := hk5.trans K5
  have K3 : Kp h3 h11 a := hk4.trans K4
  have K2 : Kp h2 h11 a := hk3.trans K3
  have K1 : Kp h1 h11 a := hk2.trans K2
  have K0 : Kp h h11 a := hk1.trans K1
  have fq0 : h q0 = none := by
    cases z : h q0 with
    | none => rfl
    | some y => exact absurd ((((hk1).trans hk2).trans hk3) q0 y hn4 z) (by rw [hq4]; intro c; cases c)
  have fq1 : h q1 = none := by
    cases z : h q1 with
    | none => rfl
    | some y => exact absurd (((((hk1).trans hk2).trans hk3).trans hk4) q1 y hn5 z) (by rw [hq5]; intro c; cases c)
  have fq2 : h q2 = none := by
    cases z : h q2 with
    | none => rfl
    | some y => exact absurd ((((((hk1).trans hk2).trans hk3).trans hk4).trans hk5) q2 y hn6 z) (by rw [hq6]; intro c; cases c)
  have fq3 : h q3 = none := by
    cases z : h q3 with
    | none => rfl
    | some y => exact absurd (((((((hk1).trans hk2).trans hk3).trans hk4).trans hk5).trans hk6) q3 y hn7 z) (by rw [hq7]; intro c; cases c)
  have fq4 : h q4 = none := by
    cases z : h q4 with
    | none => rfl
    | some y => exact absurd ((((((((hk1).trans hk2).trans hk3).trans hk4).trans hk5).trans hk6).trans hk7) q4 y hn8 z) (by rw [hq8]; intro c; cases c)
  have fq5 : h q5 = none := by
    cases z : h q5 with
    | none => rfl
    | some y => exact absurd (((((((((hk1).trans hk2).trans hk3).trans hk4).trans hk5).trans hk6).trans hk7).trans hk8) q5 y hn9 z) (by rw [hq9]; intro c; cases c)
  have fq6 : h q6 = none := by
    cases z : h q6 with
    | none => rfl
    | some y => exact absurd ((((((((((hk1).trans hk2).trans hk3).trans hk4).trans hk5).trans hk6).trans hk7).trans hk8).trans hk9) q6 y hn10 z) (by rw [hq10]; intro c; cases c)
  have n0_1 : q0 ≠ q1 := fun z => by have c1 := hq5; rw [← z, hc4] at c1; cases c1
  have n0_2 : q0 ≠ q2 := fun z => by have c1 := hq6; rw [← z, (hk5) q0 _ hn4 hc4] at c1; cases c1
  have n0_3 : q0 ≠ q3 := fun z => by have c1 := hq7; rw [← z, ((hk5).trans hk6) q0 _ hn4 hc4] at c1; cases c1
  have n0_4 : q0 ≠ q4 := fun z => by have c1 := hq8; rw [← z, (((hk5).trans hk6).trans hk7) q0 _ hn4 hc4] at c1; cases c1
  have n0_5 : q0 ≠ q5 := fun z => by have c1 := hq9; rw [← z, ((((hk5).trans hk6).trans hk7).trans hk8) q0 _ hn4 hc4] at c1; cases c1
  have n0_6 : q0 ≠ q6 := fun z => by have c1 := hq10; rw [← z, (((((hk5).trans hk6).trans hk7).trans hk8).trans hk9) q0 _ hn4 hc4] at c1; cases c1
  have n1_2 : q1 ≠ q2 := fun z => by have c1 := hq6; rw [← z, hc5] at c1; cases c1
  have n1_3 : q1 ≠ q3 := fun z => by have c1 := hq7; rw [← z, (hk6) q1 _ hn5 hc5] at c1; cases c1
  have n1_4 : q1 ≠ q4 := fun z => by have c1 := hq8; rw [← z, ((hk6).trans hk7) q1 _ hn5 hc5] at c1; cases c1
  have n1_5 : q1 ≠ q5 := fun z => by have c1 := hq9; rw [← z, (((hk6).trans hk7).trans hk8) q1 _ hn5 hc5] at c1; cases c1
  have n1_6 : q1 ≠ q6 := fun z => by have c1 := hq10; rw [← z, ((((hk6).trans hk7).trans hk8).trans hk9) q1 _ hn5 hc5] at c1; cases c1
  have n2_3 : q2 ≠ q3 := fun z => by have c1 := hq7; rw [← z, hc6] at c1; cases c1
  have n2_4 : q2 ≠ q4 := fun z => by have c1 := hq8; rw [← z, (hk7) q2 _ hn6 hc6] at c1; cases c1
  have n2_5 : q2 ≠ q5 := fun z => by have c1 := hq9; rw [← z, ((hk7).trans hk8) q2 _ hn6 hc6] at c1; cases c1
  have n2_6 : q2 ≠ q6 := fun z => by have c1 := hq10; rw [← z, (((hk7).trans hk8).trans hk9) q2 _ hn6 hc6] at c1; cases c1
  have n3_4 : q3 ≠ q4 := fun z => by have c1 := hq8; rw [← z, hc7] at c1; cases c1
  have n3_5 : q3 ≠ q5 := fun z => by have c1 := hq9; rw [← z, (hk8) q3 _ hn7 hc7] at c1; cases c1
  have n3_6 : q3 ≠ q6 := fun z => by have c1 := hq10; rw [← z, ((hk8).trans hk9) q3 _ hn7 hc7] at c1; cases c1
  have n4_5 : q4 ≠ q5 := fun z => by have c1 := hq9; rw [← z, hc8] at c1; cases c1
  have n4_6 : q4 ≠ q6 := fun z => by have c1 := hq10; rw [← z, (hk9) q4 _ hn8 hc8] at c1; cases c1
  have n5_6 : q5 ≠ q6 := fun z => by have c1 := hq10; rw [← z, hc9] at c1; cases c1
  refine r_vret eX10_init_81 rfl ⟨rfl, fun i => [q0, q1, q2, q3, q4, q5, q6].getD i 0, ⟨fun i hi => ?_, fun i j hi hj e => ?_⟩, K0, ha11, K4 q0 _ hn4 hc4, K5 q1 _ hn5 hc5, K6 q2 _ hn6 hc6, K7 q3 _ hn7 hc7, K8 q4 _ hn8 hc8, K9 q5 _ hn9 hc9, K10 q6 _ hn10 hc10⟩
  · rcases (show i = 0 ∨ i = 1 ∨ i = 2 ∨ i = 3 ∨ i = 4 ∨ i = 5 ∨ i = 6 by omega) with rfl | rfl | rfl | rfl | rfl | rfl | rfl
    · exact ⟨hn4, fq0⟩
    · exact ⟨hn5, fq1⟩
    · exact ⟨hn6, fq2⟩
    · exact ⟨hn7, fq3⟩
    · exact ⟨hn8, fq4⟩
    · exact ⟨hn9, fq5⟩
    · exact ⟨hn10, fq6⟩
  · exact nd_inj (l := [q0, q1, q2, q3, q4, q5, q6]) (by simp [n0_1, n0_2, n0_3, n0_4, n0_5, n0_6, n1_2, n1_3, n1_4, n1_5, n1_6, n2_3, n2_4, n2_5, n2_6, n3_4, n3_5, n3_6, n4_5, n4_6, n5_6]) i j hi hj e
theorem c_X2_init {a : Nat} (ha : h a = some (.inr (2, [.int 0, .null, .int 0, .null, .null, .null, .null, .null]))) (hm : 6 ≤ mc) (hs : 112 ≤ ms) : CT ar ro sa mX2_init d [.ref a] h mc ms (Ex (fun v h' => v = none ∧ ∃ r : Nat → Nat, Nw h a r 6 ∧ Kp h h' a ∧ h' a = some (.inr (2, fsX2 (fun i => [].getD i 0) r (fun i => [(0 : Int32), (0 : Int32)].getD i 0) (fun _ => 0))) ∧ h' (r 0) = some (.inl (ar 0, 72, .inl (fun _ => 0))) ∧ h' (r 1) = some (.inl (ar 0, 8, .inl (fun _ => 0))) ∧ h' (r 2) = some (.inl (ar 0, 8, .inl (fun _ => 0))) ∧ h' (r 3) = some (.inl (ar 2, 8, .inl (fun _ => 0))) ∧ h' (r 4) = some (.inl (ar 2, 8, .inl (fun _ => 0))) ∧ h' (r 5) = some (.inl (ar 0, 8, .inl (fun _ => 0)))) No) := by
  show WP ar ro sa mX2_init d 0 [some (.ref a)] [] h mc ms _
  refine r_aload_n eX2_init_0 rfl ?_
  refine r_objinit eX2_init_1 ob_2 ob1 ob2 (by decide) ?_
  refine r_aload_n eX2_init_4 rfl ?_
  refine r_bipush (v := 72) eX2_init_5 (by decide) ?_
  refine r_mki (N := 72) (fs2 := fun q => [.int 0, .ref q, .int 0, .null, .null, .null, .null, .null]) eX2_init_7 eX2_init_9 p_2_9 ha (Nat.le_of_ble_eq_true rfl) (fun _ => ⟨rfl, rfl⟩) (fun _ => rfl) (fun _ => rfl) (by decide) (by decide) (by decide) (by omega) (by omega) (fun q0 h1 hq1 hn1 ha1 hc1 hk1 => ?_)
  refine r_aload_n eX2_init_12 rfl ?_
  refine r_bipush (v := 8) eX2_init_13 (by decide) ?_
  refine r_mki (N := 8) (fs2 := fun q => [.int 0, .ref q0, .int 0, .ref q, .null, .null, .null, .null]) eX2_init_15 eX2_init_17 p_2_15 ha1 (Nat.le_of_ble_eq_true rfl) (fun _ => ⟨rfl, rfl⟩) (fun _ => rfl) (fun _ => rfl) (by decide) (by decide) (by decide) (by omega) (by omega) (fun q1 h2 hq2 hn2 ha2 hc2 hk2 => ?_)
  refine r_aload_n eX2_init_20 rfl ?_
  refine r_bipush (v := 8) eX2_init_21 (by decide) ?_
  refine r_mki (N := 8) (fs2 := fun q => [.int 0, .ref q0, .int 0, .ref q1, .ref q, .null, .null, .null]) eX2_init_23 eX2_init_25 p_2_18 ha2 (Nat.le_of_ble_eq_true rfl) (fun _ => ⟨rfl, rfl⟩) (fun _ => rfl) (fun _ => rfl) (by decide) (by decide) (by decide) (by omega) (by omega) (fun q2 h3 hq3 hn3 ha3 hc3 hk3 => ?_)
  refine r_aload_n eX2_init_28 rfl ?_
  refine r_bipush (v := 8) eX2_init_29 (by decide) ?_
  refine r_mkz (N := 8) (fs2 := fun q => [.int 0, .ref q0, .int 0, .ref q1, .ref q2, .ref q, .null, .null]) eX2_init_31 eX2_init_33 p_2_21 ha3 (Nat.le_of_ble_eq_true rfl) (fun _ => ⟨rfl, rfl⟩) (fun _ => rfl) (fun _ => rfl) (by decide) (by decide) (by decide) (by omega) (by omega) (fun q3 h4 hq4 hn4 ha4 hc4 hk4 => ?_)
  refine r_aload_n eX2_init_36 rfl ?_
  refine r_bipush (v := 8) eX2_init_37 (by decide) ?_
  refine r_mkz (N := 8) (fs2 := fun q => [.int 0, .ref q0, .int 0, .ref q1, .ref q2, .ref q3, .ref q, .null]) eX2_init_39 eX2_init_41 p_2_25 ha4 (Nat.le_of_ble_eq_true rfl) (fun _ => ⟨rfl, rfl⟩) (fun _ => rfl) (fun _ => rfl) (by decide) (by decide) (by decide) (by omega) (by omega) (fun q4 h5 hq5 hn5 ha5 hc5 hk5 => ?_)
  refine r_aload_n eX2_init_44 rfl ?_
  refine r_bipush (v := 8) eX2_init_45 (by decide) ?_
  refine r_mki (N := 8) (fs2 := fun q => [.int 0, .ref q0, .int 0, .ref q1, .ref q2, .ref q3, .ref q4, .ref q]) eX2_init_47 eX2_init_49 p_2_28 ha5 (Nat.le_of_ble_eq_true rfl) (fun _ => ⟨rfl, rfl⟩) (fun _ => rfl) (fun _ => rfl) (by decide) (by decide) (by decide) (by omega) (by omega) (fun q5 h6 hq6 hn6 ha6 hc6 hk6 => ?_)
  have K6 : Kp h6 h6 a := Kp.rf
  have K5 : Kp h5 h6 a := hk6.trans K6
  have K4 : Kp h4 h6 a := hk5.trans K5
  have K3 : Kp h3 h6 a := hk4.trans K4
  have K2 : Kp h2 h6 a := hk3.trans K3
  have K1 : Kp h1 h6 a := hk2.trans K2
  have K0 : Kp h h6 a := hk1.trans K1
  have fq0 : h q0 = none := by
    cases z : h q0 with
    | none => rfl
    | some y => exact absurd (z) (by rw [hq1]; intro c; cases c)
  have fq1 : h q1 = none := by
    cases z : h q1 with
    | none => rfl
    | some y => exact absurd ((hk1) q1 y hn2 z) (by rw [hq2]; intro c; cases c)
  have fq2 : h q2 = none := by
    cases z : h q2 with
    | none => rfl
    | some y => exact absurd (((hk1).trans hk2) q2 y hn3 z) (by rw [hq3]; intro c; cases c)
  have fq3 : h q3 = none := by
    cases z : h q3 with
    | none => rfl
    | some y => exact absurd ((((hk1).trans hk2).trans hk3) q3 y hn4 z) (by rw [hq4]; intro c; cases c)
  have fq4 : h q4 = none := by
    cases z : h q4 with
    | none => rfl
    | some y => exact absurd (((((hk1).trans hk2).trans hk3).trans hk4) q4 y hn5 z) (by rw [hq5]; intro c; cases c)
  have fq5 : h q5 = none := by
    cases z : h q5 with
    | none => rfl
    | some y => exact absurd ((((((hk1).trans hk2).trans hk3).trans hk4).trans hk5) q5 y hn6 z) (by rw [hq6]; intro c; cases c)
  have n0_1 : q0 ≠ q1 := fun z => by have c1 := hq2; rw [← z, hc1] at c1; cases c1
  have n0_2 : q0 ≠ q2 := fun z => by have c1 := hq3; rw [← z, (hk2) q0 _ hn1 hc1] at c1; cases c1
  have n0_3 : q0 ≠ q3 := fun z => by have c1 := hq4; rw [← z, ((hk2).trans hk3) q0 _ hn1 hc1] at c1; cases c1
  have n0_4 : q0 ≠ q4 := fun z => by have c1 := hq5; rw [← z, (((hk2).trans hk3).trans hk4) q0 _ hn1 hc1] at c1; cases c1
  have n0_5 : q0 ≠ q5 := fun z => by have c1 := hq6; rw [← z, ((((hk2).trans hk3).trans hk4).trans hk5) q0 _ hn1 hc1] at c1; cases c1
  have n1_2 : q1 ≠ q2 := fun z => by have c1 := hq3; rw [← z, hc2] at c1; cases c1
  have n1_3 : q1 ≠ q3 := fun z => by have c1 := hq4; rw [← z, (hk3) q1 _ hn2 hc2] at c1; cases c1
  have n1_4 : q1 ≠ q4 := fun z => by have c1 := hq5; rw [← z, ((hk3).trans hk4) q1 _ hn2 hc2] at c1; cases c1
  have n1_5 : q1 ≠ q5 := fun z => by have c1 := hq6; rw [← z, (((hk3).trans hk4).trans hk5) q1 _ hn2 hc2] at c1; cases c1
  have n2_3 : q2 ≠ q3 := fun z => by have c1 := hq4; rw [← z, hc3] at c1; cases c1
  have n2_4 : q2 ≠ q4 := fun z => by have c1 := hq5; rw [← z, (hk4) q2 _ hn3 hc3] at c1; cases c1
  have n2_5 : q2 ≠ q5 := fun z => by have c1 := hq6; rw [← z, ((hk4).trans hk5) q2 _ hn3 hc3] at c1; cases c1
  have n3_4 : q3 ≠ q4 := fun z => by have c1 := hq5; rw [← z, hc4] at c1; cases c1
  have n3_5 : q3 ≠ q5 := fun z => by have c1 := hq6; rw [← z, (hk5) q3 _ hn4 hc4] at c1; cases c1
  have n4_5 : q4 ≠ q5 := fun z => by have c1 := hq6; rw [← z, hc5] at c1; cases c1
  refine r_vret eX2_init_52 rfl ⟨rfl, fun i => [q0, q1, q2, q3, q4, q5].getD i 0, ⟨fun i hi => ?_, fun i j hi hj e => ?_⟩, K0, ha6, K1 q0 _ hn1 hc1, K2 q1 _ hn2 hc2, K3 q2 _ hn3 hc3, K4 q3 _ hn4 hc4, K5 q4 _ hn5 hc5, K6 q5 _ hn6 hc6⟩
  · rcases (show i = 0 ∨ i = 1 ∨ i = 2 ∨ i = 3 ∨ i = 4 ∨ i = 5 by omega) with rfl | rfl | rfl | rfl | rfl | rfl
    · exact ⟨hn1, fq0⟩
    · exact ⟨hn2, fq1⟩
    · exact ⟨hn3, fq2⟩
    · exact ⟨hn4, fq3⟩
    · exact ⟨hn5, fq4⟩
    · exact ⟨hn6, fq5⟩
  · exact nd_inj (l := [q0, q1, q2, q3, q4, q5]) (by simp [n0_1, n0_2, n0_3, n0_4, n0_5, n1_2, n1_3, n1_4, n1_5, n2_3, n2_4, n2_5, n3_4, n3_5, n4_5]) i j hi hj e
theorem c_X0_init {a : Nat} (ha : h a = some (.inr (0, [.int 0, .null, .null, .null, .null, .int 0, .null, .null, .null, .null, .null]))) (hm : 9 ≤ mc) (hs : 666 ≤ ms) : CT ar ro sa mX0_init d [.ref a] h mc ms (Ex (fun v h' => v = none ∧ ∃ r : Nat → Nat, Nw h a r 9 ∧ Kp h h' a ∧ h' a = some (.inr (0, fsX0 (fun i => [].getD i 0) r (fun i => [(0 : Int32), (0 : Int32)].getD i 0) (fun _ => 0))) ∧ h' (r 0) = some (.inl (ar 0, 12, .inl (fun _ => 0))) ∧ h' (r 1) = some (.inl (ar 0, 12, .inl (fun _ => 0))) ∧ h' (r 2) = some (.inl (ar 0, 12, .inl (fun _ => 0))) ∧ h' (r 3) = some (.inl (ar 0, 480, .inl (fun _ => 0))) ∧ h' (r 4) = some (.inl (ar 0, 30, .inl (fun _ => 0))) ∧ h' (r 5) = some (.inl (ar 0, 30, .inl (fun _ => 0))) ∧ h' (r 6) = some (.inl (ar 0, 30, .inl (fun _ => 0))) ∧ h' (r 7) = some (.inl (ar 0, 30, .inl (fun _ => 0))) ∧ h' (r 8) = some (.inl (ar 0, 30, .inl (fun _ => 0)))) No) := by
  show WP ar ro sa mX0_init d 0 [some (.ref a)] [] h mc ms _
  refine r_aload_n eX0_init_0 rfl ?_
  refine r_objinit eX0_init_1 ob_0 ob1 ob2 (by decide) ?_
  refine r_aload_n eX0_init_4 rfl ?_
  refine r_bipush (v := 12) eX0_init_5 (by decide) ?_
  refine r_mki (N := 12) (fs2 := fun q => [.int 0, .ref q, .null, .null, .null, .int 0, .null, .null, .null, .null, .null]) eX0_init_7 eX0_init_9 p_0_9 ha (Nat.le_of_ble_eq_true rfl) (fun _ => ⟨rfl, rfl⟩) (fun _ => rfl) (fun _ => rfl) (by decide) (by decide) (by decide) (by omega) (by omega) (fun q0 h1 hq1 hn1 ha1 hc1 hk1 => ?_)
  refine r_aload_n eX0_init_12 rfl ?_
  refine r_bipush (v := 12) eX0_init_13 (by decide) ?_
  refine r_mki (N := 12) (fs2 := fun q => [.int 0, .ref q0, .ref q, .null, .null, .int 0, .null, .null, .null, .null, .null]) eX0_init_15 eX0_init_17 p_0_15 ha1 (Nat.le_of_ble_eq_true rfl) (fun _ => ⟨rfl, rfl⟩) (fun _ => rfl) (fun _ => rfl) (by decide) (by decide) (by decide) (by omega) (by omega) (fun q1 h2 hq2 hn2 ha2 hc2 hk2 => ?_)
  refine r_aload_n eX0_init_20 rfl ?_
  refine r_bipush (v := 12) eX0_init_21 (by decide) ?_
  refine r_mki (N := 12) (fs2 := fun q => [.int 0, .ref q0, .ref q1, .ref q, .null, .int 0, .null, .null, .null, .null, .null]) eX0_init_23 eX0_init_25 p_0_18 ha2 (Nat.le_of_ble_eq_true rfl) (fun _ => ⟨rfl, rfl⟩) (fun _ => rfl) (fun _ => rfl) (by decide) (by decide) (by decide) (by omega) (by omega) (fun q2 h3 hq3 hn3 ha3 hc3 hk3 => ?_)
  refine r_aload_n eX0_init_28 rfl ?_
  refine r_sipush (v := 480) eX0_init_29 (by decide) ?_
  refine r_mki (N := 480) (fs2 := fun q => [.int 0, .ref q0, .ref q1, .ref q2, .ref q, .int 0, .null, .null, .null, .null, .null]) eX0_init_32 eX0_init_34 p_0_21 ha3 (Nat.le_of_ble_eq_true rfl) (fun _ => ⟨rfl, rfl⟩) (fun _ => rfl) (fun _ => rfl) (by decide) (by decide) (by decide) (by omega) (by omega) (fun q3 h4 hq4 hn4 ha4 hc4 hk4 => ?_)
  refine r_aload_n eX0_init_37 rfl ?_
  refine r_bipush (v := 30) eX0_init_38 (by decide) ?_
  refine r_mki (N := 30) (fs2 := fun q => [.int 0, .ref q0, .ref q1, .ref q2, .ref q3, .int 0, .ref q, .null, .null, .null, .null]) eX0_init_40 eX0_init_42 p_0_24 ha4 (Nat.le_of_ble_eq_true rfl) (fun _ => ⟨rfl, rfl⟩) (fun _ => rfl) (fun _ => rfl) (by decide) (by decide) (by decide) (by omega) (by omega) (fun q4 h5 hq5 hn5 ha5 hc5 hk5 => ?_)
  refine r_aload_n eX0_init_45 rfl ?_
  refine r_bipush (v := 30) eX0_init_46 (by decide) ?_
  refine r_mki (N := 30) (fs2 := fun q => [.int 0, .ref q0, .ref q1, .ref q2, .ref q3, .int 0, .ref q4, .ref q, .null, .null, .null]) eX0_init_48 eX0_init_50 p_0_27 ha5 (Nat.le_of_ble_eq_true rfl) (fun _ => ⟨rfl, rfl⟩) (fun _ => rfl) (fun _ => rfl) (by decide) (by decide) (by decide) (by omega) (by omega) (fun q5 h6 hq6 hn6 ha6 hc6 hk6 => ?_)
  refine r_aload_n eX0_init_53 rfl ?_
  refine r_bipush (v := 30) eX0_init_54 (by decide) ?_
  refine r_mki (N := 30) (fs2 := fun q => [.int 0, .ref q0, .ref q1, .ref q2, .ref q3, .int 0, .ref q4, .ref q5, .ref q, .null, .null]) eX0_init_56 eX0_init_58 p_0_30 ha6 (Nat.le_of_ble_eq_true rfl) (fun _ => ⟨rfl, rfl⟩) (fun _ => rfl) (fun _ => rfl) (by decide) (by decide) (by decide) (by omega) (by omega) (fun q6 h7 hq7 hn7 ha7 hc7 hk7 => ?_)
  refine r_aload_n eX0_init_61 rfl ?_
  refine r_bipush (v := 30) eX0_init_62 (by decide) ?_
  refine r_mki (N := 30) (fs2 := fun q => [.int 0, .ref q0, .ref q1, .ref q2, .ref q3, .int 0, .ref q4, .ref q5, .ref q6, .ref q, .null]) eX0_init_64 eX0_init_66 p_0_33 ha7 (Nat.le_of_ble_eq_true rfl) (fun _ => ⟨rfl, rfl⟩) (fun _ => rfl) (fun _ => rfl) (by decide) (by decide) (by decide) (by omega) (by omega) (fun q7 h8 hq8 hn8 ha8 hc8 hk8 => ?_)
  refine r_aload_n eX0_init_69 rfl ?_
  refine r_bipush (v := 30) eX0_init_70 (by decide) ?_
  refine r_mki (N := 30) (fs2 := fun q => [.int 0, .ref q0, .ref q1, .ref q2, .ref q3, .int 0, .ref q4, .ref q5, .ref q6, .ref q7, .ref q]) eX0_init_72 eX0_init_74 p_0_36 ha8 (Nat.le_of_ble_eq_true rfl) (fun _ => ⟨rfl, rfl⟩) (fun _ => rfl) (fun _ => rfl) (by decide) (by decide) (by decide) (by omega) (by omega) (fun q8 h9 hq9 hn9 ha9 hc9 hk9 => ?_)
  have K9 : Kp h9 h9 a := Kp.rf
  have K8 : Kp h8 h9 a := hk9.trans K9
  have K7 : Kp h7 h9 a := hk8.trans K8
  have K6 : Kp h6 h9 a := hk7.trans K7
  have K5 : Kp h5 h9 a := hk6.trans K6
  have K4 : Kp h4 h9 a := hk5.trans K5
  have K3 : Kp h3 h9 a := hk4.trans K4
  have K2 : Kp h2 h9 a := hk3.trans K3
  have K1 : Kp h1 h9 a := hk2.trans K2
  have K0 : Kp h h9 a := hk1.trans K1
  have fq0 : h q0 = none := by
    cases z : h q0 with
    | none => rfl
    | some y => exact absurd (z) (by rw [hq1]; intro c; cases c)
  have fq1 : h q1 = none := by
    cases z : h q1 with
    | none => rfl
    | some y => exact absurd ((hk1) q1 y hn2 z) (by rw [hq2]; intro c; cases c)
  have fq2 : h q2 = none := by
    cases z : h q2 with
    | none => rfl
    | some y => exact absurd (((hk1).trans hk2) q2 y hn3 z) (by rw [hq3]; intro c; cases c)
  have fq3 : h q3 = none := by
    cases z : h q3 with
    | none => rfl
    | some y => exact absurd ((((hk1).trans hk2).trans hk3) q3 y hn4 z) (by rw [hq4]; intro c; cases c)
  have fq4 : h q4 = none := by
    cases z : h q4 with
    | none => rfl
    | some y => exact absurd (((((hk1).trans hk2).trans hk3).trans hk4) q4 y hn5 z) (by rw [hq5]; intro c; cases c)
  have fq5 : h q5 = none := by
    cases z : h q5 with
    | none => rfl
    | some y => exact absurd ((((((hk1).trans hk2).trans hk3).trans hk4).trans hk5) q5 y hn6 z) (by rw [hq6]; intro c; cases c)
  have fq6 : h q6 = none := by
    cases z : h q6 with
    | none => rfl
    | some y => exact absurd (((((((hk1).trans hk2).trans hk3).trans hk4).trans hk5).trans hk6) q6 y hn7 z) (by rw [hq7]; intro c; cases c)
  have fq7 : h q7 = none := by
    cases z : h q7 with
    | none => rfl
    | some y => exact absurd ((((((((hk1).trans hk2).trans hk3).trans hk4).trans hk5).trans hk6).trans hk7) q7 y hn8 z) (by rw [hq8]; intro c; cases c)
  have fq8 : h q8 = none := by
    cases z : h q8 with
    | none => rfl
    | some y => exact absurd (((((((((hk1).trans hk2).trans hk3).trans hk4).trans hk5).trans hk6).trans hk7).trans hk8) q8 y hn9 z) (by rw [hq9]; intro c; cases c)
  have n0_1 : q0 ≠ q1 := fun z => by have c1 := hq2; rw [← z, hc1] at c1; cases c1
  have n0_2 : q0 ≠ q2 := fun z => by have c1 := hq3; rw [← z, (hk2) q0 _ hn1 hc1] at c1; cases c1
  have n0_3 : q0 ≠ q3 := fun z => by have c1 := hq4; rw [← z, ((hk2).trans hk3) q0 _ hn1 hc1] at c1; cases c1
  have n0_4 : q0 ≠ q4 := fun z => by have c1 := hq5; rw [← z, (((hk2).trans hk3).trans hk4) q0 _ hn1 hc1] at c1; cases c1
  have n0_5 : q0 ≠ q5 := fun z => by have c1 := hq6; rw [← z, ((((hk2).trans hk3).trans hk4).trans hk5) q0 _ hn1 hc1] at c1; cases c1
  have n0_6 : q0 ≠ q6 := fun z => by have c1 := hq7; rw [← z, (((((hk2).trans hk3).trans hk4).trans hk5).trans hk6) q0 _ hn1 hc1] at c1; cases c1
  have n0_7 : q0 ≠ q7 := fun z => by have c1 := hq8; rw [← z, ((((((hk2).trans hk3).trans hk4).trans hk5).trans hk6).trans hk7) q0 _ hn1 hc1] at c1; cases c1
  have n0_8 : q0 ≠ q8 := fun z => by have c1 := hq9; rw [← z, (((((((hk2).trans hk3).trans hk4).trans hk5).trans hk6).trans hk7).trans hk8) q0 _ hn1 hc1] at c1; cases c1
  have n1_2 : q1 ≠ q2 := fun z => by have c1 := hq3; rw [← z, hc2] at c1; cases c1
  have n1_3 : q1 ≠ q3 := fun z => by have c1 := hq4; rw [← z, (hk3) q1 _ hn2 hc2] at c1; cases c1
  have n1_4 : q1 ≠ q4 := fun z => by have c1 := hq5; rw [← z, ((hk3).trans hk4) q1 _ hn2 hc2] at c1; cases c1
  have n1_5 : q1 ≠ q5 := fun z => by have c1 := hq6; rw [← z, (((hk3).trans hk4).trans hk5) q1 _ hn2 hc2] at c1; cases c1
  have n1_6 : q1 ≠ q6 := fun z => by have c1 := hq7; rw [← z, ((((hk3).trans hk4).trans hk5).trans hk6) q1 _ hn2 hc2] at c1; cases c1
  have n1_7 : q1 ≠ q7 := fun z => by have c1 := hq8; rw [← z, (((((hk3).trans hk4).trans hk5).trans hk6).trans hk7) q1 _ hn2 hc2] at c1; cases c1
  have n1_8 : q1 ≠ q8 := fun z => by have c1 := hq9; rw [← z, ((((((hk3).trans hk4).trans hk5).trans hk6).trans hk7).trans hk8) q1 _ hn2 hc2] at c1; cases c1
  have n2_3 : q2 ≠ q3 := fun z => by have c1 := hq4; rw [← z, hc3] at c1; cases c1
  have n2_4 : q2 ≠ q4 := fun z => by have c1 := hq5; rw [← z, (hk4) q2 _ hn3 hc3] at c1; cases c1
  have n2_5 : q2 ≠ q5 := fun z => by have c1 := hq6; rw [← z, ((hk4).trans hk5) q2 _ hn3 hc3] at c1; cases c1
  have n2_6 : q2 ≠ q6 := fun z => by have c1 := hq7; rw [← z, (((hk4).trans hk5).trans hk6) q2 _ hn3 hc3] at c1; cases c1
  have n2_7 : q2 ≠ q7 := fun z => by have c1 := hq8; rw [← z, ((((hk4).trans hk5).trans hk6).trans hk7) q2 _ hn3 hc3] at c1; cases c1
  have n2_8 : q2 ≠ q8 := fun z => by have c1 := hq9; rw [← z, (((((hk4).trans hk5).trans hk6).trans hk7).trans hk8) q2 _ hn3 hc3] at c1; cases c1
  have n3_4 : q3 ≠ q4 := fun z => by have c1 := hq5; rw [← z, hc4] at c1; cases c1
  have n3_5 : q3 ≠ q5 := fun z => by have c1 := hq6; rw [← z, (hk5) q3 _ hn4 hc4] at c1; cases c1
  have n3_6 : q3 ≠ q6 := fun z => by have c1 := hq7; rw [← z, ((hk5).trans hk6) q3 _ hn4 hc4] at c1; cases c1
  have n3_7 : q3 ≠ q7 := fun z => by have c1 := hq8; rw [← z, (((hk5).trans hk6).trans hk7) q3 _ hn4 hc4] at c1; cases c1
  have n3_8 : q3 ≠ q8 := fun z => by have c1 := hq9; rw [← z, ((((hk5).trans hk6).trans hk7).trans hk8) q3 _ hn4 hc4] at c1; cases c1
  have n4_5 : q4 ≠ q5 := fun z => by have c1 := hq6; rw [← z, hc5] at c1; cases c1
  have n4_6 : q4 ≠ q6 := fun z => by have c1 := hq7; rw [← z, (hk6) q4 _ hn5 hc5] at c1; cases c1
  have n4_7 : q4 ≠ q7 := fun z => by have c1 := hq8; rw [← z, ((hk6).trans hk7) q4 _ hn5 hc5] at c1; cases c1
  have n4_8 : q4 ≠ q8 := fun z => by have c1 := hq9; rw [← z, (((hk6).trans hk7).trans hk8) q4 _ hn5 hc5] at c1; cases c1
  have n5_6 : q5 ≠ q6 := fun z => by have c1 := hq7; rw [← z, hc6] at c1; cases c1
  have n5_7 : q5 ≠ q7 := fun z => by have c1 := hq8; rw [← z, (hk7) q5 _ hn6 hc6] at c1; cases c1
  have n5_8 : q5 ≠ q8 := fun z => by have c1 := hq9; rw [← z, ((hk7).trans hk8) q5 _ hn6 hc6] at c1; cases c1
  have n6_7 : q6 ≠ q7 := fun z => by have c1 := hq8; rw [← z, hc7] at c1; cases c1
  have n6_8 : q6 ≠ q8 := fun z => by have c1 := hq9; rw [← z, (hk8) q6 _ hn7 hc7] at c1; cases c1
  have n7_8 : q7 ≠ q8 := fun z => by have c1 := hq9; rw [← z, hc8] at c1; cases c1
  refine r_vret eX0_init_77 rfl ⟨rfl, fun i => [q0, q1, q2, q3, q4, q5, q6, q7, q8].getD i 0, ⟨fun i hi => ?_, fun i j hi hj e => ?_⟩, K0, ha9, K1 q0 _ hn1 hc1, K2 q1 _ hn2 hc2, K3 q2 _ hn3 hc3, K4 q3 _ hn4 hc4, K5 q4 _ hn5 hc5, K6 q5 _ hn6 hc6, K7 q6 _ hn7 hc7, K8 q7 _ hn8 hc8, K9 q8 _ hn9 hc9⟩
  · rcases (show i = 0 ∨ i = 1 ∨ i = 2 ∨ i = 3 ∨ i = 4 ∨ i = 5 ∨ i = 6 ∨ i = 7 ∨ i = 8 by omega) with rfl | rfl | rfl | rfl | rfl | rfl | rfl | rfl | rfl
    · exact ⟨hn1, fq0⟩
    · exact ⟨hn2, fq1⟩
    · exact ⟨hn3, fq2⟩
    · exact ⟨hn4, fq3⟩
    · exact ⟨hn5, fq4⟩
    · exact ⟨hn6, fq5⟩
    · exact ⟨hn7, fq6⟩
    · exact ⟨hn8, fq7⟩
    · exact ⟨hn9, fq8⟩
  · exact nd_inj (l := [q0, q1, q2, q3, q4, q5, q6, q7, q8]) (by simp [n0_1, n0_2, n0_3, n0_4, n0_5, n0_6, n0_7, n0_8, n1_2, n1_3, n1_4, n1_5, n1_6, n1_7, n1_8, n2_3, n2_4, n2_5, n2_6, n2_7, n2_8, n3_4, n3_5, n3_6, n3_7, n3_8, n4_5, n4_6, n4_7, n4_8, n5_6, n5_7, n5_8, n6_7, n6_8, n7_8]) i j hi hj e
theorem c_X3_init {a : Nat} (ha : h a = some (.inr (3, [.int 0, .null, .null, .int 0, .null, .null, .null, .null, .null, .null, .null, .int 0, .null, .null, .null, .null, .null]))) (hm : 14 ≤ mc) (hs : 1000 ≤ ms) : CT ar ro sa mX3_init d [.ref a] h mc ms (Ex (fun v h' => v = none ∧ ∃ r : Nat → Nat, Nw h a r 14 ∧ Kp h h' a ∧ h' a = some (.inr (3, fsX3 (fun i => [].getD i 0) r (fun i => [(0 : Int32), (0 : Int32), (0 : Int32)].getD i 0) (fun _ => 0))) ∧ h' (r 0) = some (.inl (ar 0, 40, .inl (fun _ => 0))) ∧ h' (r 1) = some (.inl (ar 0, 40, .inl (fun _ => 0))) ∧ h' (r 2) = some (.inl (ar 0, 60, .inl (fun _ => 0))) ∧ h' (r 3) = some (.inl (ar 0, 60, .inl (fun _ => 0))) ∧ h' (r 4) = some (.inl (ar 0, 60, .inl (fun _ => 0))) ∧ h' (r 5) = some (.inl (ar 0, 60, .inl (fun _ => 0))) ∧ h' (r 6) = some (.inl (ar 0, 240, .inl (fun _ => 0))) ∧ h' (r 7) = some (.inl (ar 0, 120, .inl (fun _ => 0))) ∧ h' (r 8) = some (.inl (ar 0, 120, .inl (fun _ => 0))) ∧ h' (r 9) = some (.inl (ar 0, 40, .inl (fun _ => 0))) ∧ h' (r 10) = some (.inl (ar 0, 40, .inl (fun _ => 0))) ∧ h' (r 11) = some (.inl (ar 2, 40, .inl (fun _ => 0))) ∧ h' (r 12) = some (.inl (ar 0, 40, .inl (fun _ => 0))) ∧ h' (r 13) = some (.inl (ar 0, 40, .inl (fun _ => 0)))) No) := by
  show WP ar ro sa mX3_init d 0 [some (.ref a)] [] h mc ms _
  refine r_aload_n eX3_init_0 rfl ?_
  refine r_objinit eX3_init_1 ob_3 ob1 ob2 (by decide) ?_
  refine r_aload_n eX3_init_4 rfl ?_
  refine r_bipush (v := 40) eX3_init_5 (by decide) ?_
  refine r_mki (N := 40) (fs2 := fun q => [.int 0, .ref q, .null, .int 0, .null, .null, .null, .null, .null, .null, .null, .int 0, .null, .null, .null, .null, .null]) eX3_init_7 eX3_init_9 p_3_9 ha (Nat.le_of_ble_eq_true rfl) (fun _ => ⟨rfl, rfl⟩) (fun _ => rfl) (fun _ => rfl) (by decide) (by decide) (by decide) (by omega) (by omega) (fun q0 h1 hq1 hn1 ha1 hc1 hk1 => ?_)
  refine r_aload_n eX3_init_12 rfl ?_
  refine r_bipush (v := 40) eX3_init_13 (by decide) ?_
  refine r_mki (N := 40) (fs2 := fun q => [.int 0, .ref q0, .ref q, .int 0, .null, .null, .null, .null, .null, .null, .null, .int 0, .null, .null, .null, .null, .null]) eX3_init_15 eX3_init_17 p_3_15 ha1 (Nat.le_of_ble_eq_true rfl) (fun _ => ⟨rfl, rfl⟩) (fun _ => rfl) (fun _ => rfl) (by decide) (by decide) (by decide) (by omega) (by omega) (fun q1 h2 hq2 hn2 ha2 hc2 hk2 => ?_)
  refine r_aload_n eX3_init_20 rfl ?_
  refine r_bipush (v := 60) eX3_init_21 (by decide) ?_
  refine r_mki (N := 60) (fs2 := fun q => [.int 0, .ref q0, .ref q1, .int 0, .ref q, .null, .null, .null, .null, .null, .null, .int 0, .null, .null, .null, .null, .null]) eX3_init_23 eX3_init_25 p_3_18 ha2 (Nat.le_of_ble_eq_true rfl) (fun _ => ⟨rfl, rfl⟩) (fun _ => rfl) (fun _ => rfl) (by decide) (by decide) (by decide) (by omega) (by omega) (fun q2 h3 hq3 hn3 ha3 hc3 hk3 => ?_)
  refine r_aload_n eX3_init_28 rfl ?_
  refine r_bipush (v := 60) eX3_init_29 (by decide) ?_
  refine r_mki (N := 60) (fs2 := fun q => [.int 0, .ref q0, .ref q1, .int 0, .ref q2, .ref q, .null, .null, .null, .null, .null, .int 0, .null, .null, .null, .null, .null]) eX3_init_31 eX3_init_33 p_3_21 ha3 (Nat.le_of_ble_eq_true rfl) (fun _ => ⟨rfl, rfl⟩) (fun _ => rfl) (fun _ => rfl) (by decide) (by decide) (by decide) (by omega) (by omega) (fun q3 h4 hq4 hn4 ha4 hc4 hk4 => ?_)
  refine r_aload_n eX3_init_36 rfl ?_
  refine r_bipush (v := 60) eX3_init_37 (by decide) ?_
  refine r_mki (N := 60) (fs2 := fun q => [.int 0, .ref q0, .ref q1, .int 0, .ref q2, .ref q3, .ref q, .null, .null, .null, .null, .int 0, .null, .null, .null, .null, .null]) eX3_init_39 eX3_init_41 p_3_24 ha4 (Nat.le_of_ble_eq_true rfl) (fun _ => ⟨rfl, rfl⟩) (fun _ => rfl) (fun _ => rfl) (by decide) (by decide) (by decide) (by omega) (by omega) (fun q4 h5 hq5 hn5 ha5 hc5 hk5 => ?_)
  refine r_aload_n eX3_init_44 rfl ?_
  refine r_bipush (v := 60) eX3_init_45 (by decide) ?_
  refine r_mki (N := 60) (fs2 := fun q => [.int 0, .ref q0, .ref q1, .int 0, .ref q2, .ref q3, .ref q4, .ref q, .null, .null, .null, .int 0, .null, .null, .null, .null, .null]) eX3_init_47 eX3_init_49 p_3_27 ha5 (Nat.le_of_ble_eq_true rfl) (fun _ => ⟨rfl, rfl⟩) (fun _ => rfl) (fun _ => rfl) (by decide) (by decide) (by decide) (by omega) (by omega) (fun q5 h6 hq6 hn6 ha6 hc6 hk6 => ?_)
  refine r_aload_n eX3_init_52 rfl ?_
  refine r_sipush (v := 240) eX3_init_53 (by decide) ?_
  refine r_mki (N := 240) (fs2 := fun q => [.int 0, .ref q0, .ref q1, .int 0, .ref q2, .ref q3, .ref q4, .ref q5, .ref q, .null, .null, .int 0, .null, .null, .null, .null, .null]) eX3_init_56 eX3_init_58 p_3_30 ha6 (Nat.le_of_ble_eq_true rfl) (fun _ => ⟨rfl, rfl⟩) (fun _ => rfl) (fun _ => rfl) (by decide) (by decide) (by decide) (by omega) (by omega) (fun q6 h7 hq7 hn7 ha7 hc7 hk7 => ?_)
  refine r_aload_n eX3_init_61 rfl ?_
  refine r_bipush (v := 120) eX3_init_62 (by decide) ?_
  refine r_mki (N := 120) (fs2 := fun q => [.int 0, .ref q0, .ref q1, .int 0, .ref q2, .ref q3, .ref q4, .ref q5, .ref q6, .ref q, .null, .int 0, .null, .null, .null, .null, .null]) eX3_init_64 eX3_init_66 p_3_33 ha7 (Nat.le_of_ble_eq_true rfl) (fun _ => ⟨rfl, rfl⟩) (fun _ => rfl) (fun _ => rfl) (by decide) (by decide) (by decide) (by omega) (by omega) (fun q7 h8 hq8 hn8 ha8 hc8 hk8 => ?_)
  refine r_aload_n eX3_init_69 rfl ?_
  refine r_bipush (v := 120) eX3_init_70 (by decide) ?_
  refine r_mki (N := 120) (fs2 := fun q => [.int 0, .ref q0, .ref q1, .int 0, .ref q2, .ref q3, .ref q4, .ref q5, .ref q6, .ref q7, .ref q, .int 0, .null, .null, .null, .null, .null]) eX3_init_72 eX3_init_74 p_3_36 ha8 (Nat.le_of_ble_eq_true rfl) (fun _ => ⟨rfl, rfl⟩) (fun _ => rfl) (fun _ => rfl) (by decide) (by decide) (by decide) (by omega) (by omega) (fun q8 h9 hq9 hn9 ha9 hc9 hk9 => ?_)
  refine r_aload_n eX3_init_77 rfl ?_
  refine r_bipush (v := 40) eX3_init_78 (by decide) ?_
  refine r_mki (N := 40) (fs2 := fun q => [.int 0, .ref q0, .ref q1, .int 0, .ref q2, .ref q3, .ref q4, .ref q5, .ref q6, .ref q7, .ref q8, .int 0, .ref q, .null, .null, .null, .null]) eX3_init_80 eX3_init_82 p_3_39 ha9 (Nat.le_of_ble_eq_true rfl) (fun _ => ⟨rfl, rfl⟩) (fun _ => rfl) (fun _ => rfl) (by decide) (by decide) (by decide) (by omega) (by omega) (fun q9 h10 hq10 hn10 ha10 hc10 hk10 => ?_)
  refine r_aload_n eX3_init_85 rfl ?_
  refine r_bipush (v := 40) eX3_init_86 (by decide) ?_
  refine r_mki (N := 40) (fs2 := fun q => [.int 0, .ref q0, .ref q1, .int 0, .ref q2, .ref q3, .ref q4, .ref q5, .ref q6, .ref q7, .ref q8, .int 0, .ref q9, .ref q, .null, .null, .null]) eX3_init_88 eX3_init_90 p_3_42 ha10 (Nat.le_of_ble_eq_true rfl) (fun _ => ⟨rfl, rfl⟩) (fun _ => rfl) (fun _ => rfl) (by decide) (by decide) (by decide) (by omega) (by omega) (fun q10 h11 hq11 hn11 ha11 hc11 hk11 => ?_)
  refine r_aload_n eX3_init_93 rfl ?_
  refine r_bipush (v := 40) eX3_init_94 (by decide) ?_
  refine r_mkz (N := 40) (fs2 := fun q => [.int 0, .ref q0, .ref q1, .int 0, .ref q2, .ref q3, .ref q4, .ref q5, .ref q6, .ref q7, .ref q8, .int 0, .ref q9, .ref q10, .ref q, .null, .null]) eX3_init_96 eX3_init_98 p_3_45 ha11 (Nat.le_of_ble_eq_true rfl) (fun _ => ⟨rfl, rfl⟩) (fun _ => rfl) (fun _ => rfl) (by decide) (by decide) (by decide) (by omega) (by omega) (fun q11 h12 hq12 hn12 ha12 hc12 hk12 => ?_)
  refine r_aload_n eX3_init_101 rfl ?_
  refine r_bipush (v := 40) eX3_init_102 (by decide) ?_
  refine r_mki (N := 40) (fs2 := fun q => [.int 0, .ref q0, .ref q1, .int 0, .ref q2, .ref q3, .ref q4, .ref q5, .ref q6, .ref q7, .ref q8, .int 0, .ref q9, .ref q10, .ref q11, .ref q, .null]) eX3_init_104 eX3_init_106 p_3_49 ha12 (Nat.le_of_ble_eq_true rfl) (fun _ => ⟨rfl, rfl⟩) (fun _ => rfl) (fun _ => rfl) (by decide) (by decide) (by decide) (by omega) (by omega) (fun q12 h13 hq13 hn13 ha13 hc13 hk13 => ?_)
  refine r_aload_n eX3_init_109 rfl ?_
  refine r_bipush (v := 40) eX3_init_110 (by decide) ?_
  refine r_mki (N := 40) (fs2 := fun q => [.int 0, .ref q0, .ref q1, .int 0, .ref q2, .ref q3, .ref q4, .ref q5, .ref q6, .ref q7, .ref q8, .int 0, .ref q9, .ref q10, .ref q11, .ref q12, .ref q]) eX3_init_112 eX3_init_114 p_3_52 ha13 (Nat.le_of_ble_eq_true rfl) (fun _ => ⟨rfl, rfl⟩) (fun _ => rfl) (fun _ => rfl) (by decide) (by decide) (by decide) (by omega) (by omega) (fun q13 h14 hq14 hn14 ha14 hc14 hk14 => ?_)
  have K14 : Kp h14 h14 a := Kp.rf
  have K13 : Kp h13 h14 a := hk14.trans K14
  have K12 : Kp h12 h14 a := hk13.trans K13
  have K11 : Kp h11 h14 a := hk12.trans K12
  have K10 : Kp h10 h14 a := hk11.trans K11
  have K9 : Kp h9 h14 a := hk10.trans K10
  have K8 : Kp h8 h14 a := hk9.trans K9
  have K7 : Kp h7 h14 a := hk8.trans K8
  have K6 : Kp h6 h14 a := hk7.trans K7
  have K5 : Kp h5 h14 a := hk6.trans K6
  have K4 : Kp h4 h14 a := hk5.trans K5
  have K3 : Kp h3 h14 a := hk4.trans K4
  have K2 : Kp h2 h14 a := hk3.trans K3
  have K1 : Kp h1 h14 a := hk2.trans K2
  have K0 : Kp h h14 a := hk1.trans K1
  have fq0 : h q0 = none := by
    cases z : h q0 with
    | none => rfl
    | some y => exact absurd (z) (by rw [hq1]; intro c; cases c)
  have fq1 : h q1 = none := by
    cases z : h q1 with
    | none => rfl
    | some y => exact absurd ((hk1) q1 y hn2 z) (by rw [hq2]; intro c; cases c)
  have fq2 : h q2 = none := by
    cases z : h q2 with
    | none => rfl
    | some y => exact absurd (((hk1).trans hk2) q2 y hn3 z) (by rw [hq3]; intro c; cases c)
  have fq3 : h q3 = none := by
    cases z : h q3 with
    | none => rfl
    | some y => exact absurd ((((hk1).trans hk2).trans hk3) q3 y hn4 z) (by rw [hq4]; intro c; cases c)
  have fq4 : h q4 = none := by
    cases z : h q4 with
    | none => rfl
    | some y => exact absurd (((((hk1).trans hk2).trans hk3).trans hk4) q4 y hn5 z) (by rw [hq5]; intro c; cases c)
  have fq5 : h q5 = none := by
    cases z : h q5 with
    | none => rfl
    | some y => exact absurd ((((((hk1).trans hk2).trans hk3).trans hk4).trans hk5) q5 y hn6 z) (by rw [hq6]; intro c; cases c)
  have fq6 : h q6 = none := by
    cases z : h q6 with
    | none => rfl
    | some y => exact absurd (((((((hk1).trans hk2).trans hk3).trans hk4).trans hk5).trans hk6) q6 y hn7 z) (by rw [hq7]; intro c; cases c)
  have fq7 : h q7 = none := by
    cases z : h q7 with
    | none => rfl
    | some y => exact absurd ((((((((hk1).trans hk2).trans hk3).trans hk4).trans hk5).trans hk6).trans hk7) q7 y hn8 z) (by rw [hq8]; intro c; cases c)
  have fq8 : h q8 = none := by
    cases z : h q8 with
    | none => rfl
    | some y => exact absurd (((((((((hk1).trans hk2).trans hk3).trans hk4).trans hk5).trans hk6).trans hk7).trans hk8) q8 y hn9 z) (by rw [hq9]; intro c; cases c)
  have fq9 : h q9 = none := by
    cases z : h q9 with
    | none => rfl
    | some y => exact absurd ((((((((((hk1).trans hk2).trans hk3).trans hk4).trans hk5).trans hk6).trans hk7).trans hk8).trans hk9) q9 y hn10 z) (by rw [hq10]; intro c; cases c)
  have fq10 : h q10 = none := by
    cases z : h q10 with
    | none => rfl
    | some y => exact absurd (((((((((((hk1).trans hk2).trans hk3).trans hk4).trans hk5).trans hk6).trans hk7).trans hk8).trans hk9).trans hk10) q10 y hn11 z) (by rw [hq11]; intro c; cases c)
  have fq11 : h q11 = none := by
    cases z : h q11 with
    | none => rfl
    | some y => exact absurd ((((((((((((hk1).trans hk2).trans hk3).trans hk4).trans hk5).trans hk6).trans hk7).trans hk8).trans hk9).trans hk10).trans hk11) q11 y hn12 z) (by rw [hq12]; intro c; cases c)
  have fq12 : h q12 = none := by
    cases z : h q12 with
    | none => rfl
    | some y => exact absurd (((((((((((((hk1).trans hk2).trans hk3).trans hk4).trans hk5).trans hk6).trans hk7).trans hk8).trans hk9).trans hk10).trans hk11).trans hk12) q12 y hn13 z) (by rw [hq13]; intro c; cases c)
  have fq13 : h q13 = none := by
    cases z : h q13 with
    | none => rfl
    | some y => exact absurd ((((((((((((((hk1).trans hk2).trans hk3).trans hk4).trans hk5).trans hk6).trans hk7).trans hk8).trans hk9).trans hk10).trans hk11).trans hk12).trans hk13) q13 y hn14 z) (by rw [hq14]; intro c; cases c)
  have n0_1 : q0 ≠ q1 := fun z => by have c1 := hq2; rw [← z, hc1] at c1; cases c1
  have n0_2 : q0 ≠ q2 := fun z => by have c1 := hq3; rw [← z, (hk2) q0 _ hn1 hc1] at c1; cases c1
  have n0_3 : q0 ≠ q3 := fun z => by have c1 := hq4; rw [← z, ((hk2).trans hk3) q0 _ hn1 hc1] at c1; cases c1
  have n0_4 : q0 ≠ q4 := fun z => by have c1 := hq5; rw [← z, (((hk2).trans hk3).trans hk4) q0 _ hn1 hc1] at c1; cases c1
  have n0_5 : q0 ≠ q5 := fun z => by have c1 := hq6; rw [← z, ((((hk2).trans hk3).trans hk4).trans hk5) q0 _ hn1 hc1] at c1; cases c1
  have n0_6 : q0 ≠ q6 := fun z => by have c1 := hq7; rw [← z, (((((hk2).trans hk3).trans hk4).trans hk5).trans hk6) q0 _ hn1 hc1] at c1; cases c1
  have n0_7 : q0 ≠ q7 := fun z => by have c1 := hq8; rw [← z, ((((((hk2).trans hk3).trans hk4).trans hk5).trans hk6).trans hk7) q0 _ hn1 hc1] at c1; cases c1
  have n0_8 : q0 ≠ q8 := fun z => by have c1 := hq9; rw [← z, (((((((hk2).trans hk3).trans hk4).trans hk5).trans hk6).trans hk7).trans hk8) q0 _ hn1 hc1] at c1; cases c1
  have n0_9 : q0 ≠ q9 := fun z => by have c1 := hq10; rw [← z, ((((((((hk2).trans hk3).trans hk4).trans hk5).trans hk6).trans hk7).trans hk8).trans hk9) q0 _ hn1 hc1] at c1; cases c1
  have n0_10 : q0 ≠ q10 := fun z => by have c1 := hq11; rw [← z, (((((((((hk2).trans hk3).trans hk4).trans hk5).trans hk6).trans hk7).trans hk8).trans hk9).trans hk10) q0 _ hn1 hc1] at c1; cases c1
  have n0_11 : q0 ≠ q11 := fun z => by have c1 := hq12; rw [← z, ((((((((((hk2).trans hk3).trans hk4).trans hk5).trans hk6).trans hk7).trans hk8).trans hk9).trans hk10).trans hk11) q0 _ hn1 hc1] at c1; cases c1
  have n0_12 : q0 ≠ q12 := fun z => by have c1 := hq13; rw [← z, (((((((((((hk2).trans hk3).trans hk4).trans hk5).trans hk6).trans hk7).trans hk8).trans hk9).trans hk10).trans hk11).trans hk12) q0 _ hn1 hc1] at c1; cases c1
  have n0_13 : q0 ≠ q13 := fun z => by have c1 := hq14; rw [← z, ((((((((((((hk2).trans hk3).trans hk4).trans hk5).trans hk6).trans hk7).trans hk8).trans hk9).trans hk10).trans hk11).trans hk12).trans hk13) q0 _ hn1 hc1] at c1; cases c1
  have n1_2 : q1 ≠ q2 := fun z => by have c1 := hq3; rw [← z, hc2] at c1; cases c1
  have n1_3 : q1 ≠ q3 := fun z => by have c1 := hq4; rw [← z, (hk3) q1 _ hn2 hc2] at c1; cases c1
  have n1_4 : q1 ≠ q4 := fun z => by have c1 := hq5; rw [← z, ((hk3).trans hk4) q1 _ hn2 hc2] at c1; cases c1
  have n1_5 : q1 ≠ q5 := fun z => by have c1 := hq6; rw [← z, (((hk3).trans hk4).trans hk5) q1 _ hn2 hc2] at c1; cases c1
  have n1_6 : q1 ≠ q6 := fun z => by have c1 := hq7; rw [← z, ((((hk3).trans hk4).trans hk5).trans hk6) q1 _ hn2 hc2] at c1; cases c1
  have n1_7 : q1 ≠ q7 := fun z => by have c1 := hq8; rw [← z, (((((hk3).trans hk4).trans hk5).trans hk6).trans hk7) q1 _ hn2 hc2] at c1; cases c1
  have n1_8 : q1 ≠ q8 := fun z => by have c1 := hq9; rw [← z, ((((((hk3).trans hk4).trans hk5).trans hk6).trans hk7).trans hk8) q1 _ hn2 hc2] at c1; cases c1
  have n1_9 : q1 ≠ q9 := fun z => by have c1 := hq10; rw [← z, (((((((hk3).trans hk4).trans hk5).trans hk6).trans hk7).trans hk8).trans hk9) q1 _ hn2 hc2] at c1; cases c1
  have n1_10 : q1 ≠ q10 := fun z => by have c1 := hq11; rw [← z, ((((((((hk3).trans hk4).trans hk5).trans hk6).trans hk7).trans hk8).trans hk9).trans hk10) q1 _ hn2 hc2] at c1; cases c1
  have n1_11 : q1 ≠ q11 := fun z => by have c1 := hq12; rw [← z, (((((((((hk3).trans hk4).trans hk5).trans hk6).trans hk7).trans hk8).trans hk9).trans hk10).trans hk11) q1 _ hn2 hc2] at c1; cases c1
  have n1_12 : q1 ≠ q12 := fun z => by have c1 := hq13; rw [← z, ((((((((((hk3).trans hk4).trans hk5).trans hk6).trans hk7).trans hk8).trans hk9).trans hk10).trans hk11).trans hk12) q1 _ hn2 hc2] at c1; cases c1
  have n1_13 : q1 ≠ q13 := fun z => by have c1 := hq14; rw [← z, (((((((((((hk3).trans hk4).trans hk5).trans hk6).trans hk7).trans hk8).trans hk9).trans hk10).trans hk11).trans hk12).trans hk13) q1 _ hn2 hc2] at c1; cases c1
  have n2_3 : q2 ≠ q3 := fun z => by have c1 := hq4; rw [← z, hc3] at c1; cases c1
  have n2_4 : q2 ≠ q4 := fun z => by have c1 := hq5; rw [← z, (hk4) q2 _ hn3 hc3] at c1; cases c1
  have n2_5 : q2 ≠ q5 := fun z => by have c1 := hq6; rw [← z, ((hk4).trans hk5) q2 _ hn3 hc3] at c1; cases c1
  have n2_6 : q2 ≠ q6 := fun z => by have c1 := hq7; rw [← z, (((hk4).trans hk5).trans hk6) q2 _ hn3 hc3] at c1; cases c1
  have n2_7 : q2 ≠ q7 := fun z => by have c1 := hq8; rw [← z, ((((hk4).trans hk5).trans hk6).trans hk7) q2 _ hn3 hc3] at c1; cases c1
  have n2_8 : q2 ≠ q8 := fun z => by have c1 := hq9; rw [← z, (((((hk4).trans hk5).trans hk6).trans hk7).trans hk8) q2 _ hn3 hc3] at c1; cases c1
  have n2_9 : q2 ≠ q9 := fun z => by have c1 := hq10; rw [← z, ((((((hk4).trans hk5).trans hk6).trans hk7).trans hk8).trans hk9) q2 _ hn3 hc3] at c1; cases c1
  have n2_10 : q2 ≠ q10 := fun z => by have c1 := hq11; rw [← z, (((((((hk4).trans hk5).trans hk6).trans hk7).trans hk8).trans hk9).trans hk10) q2 _ hn3 hc3] at c1; cases c1
  have n2_11 : q2 ≠ q11 := fun z => by have c1 := hq12; rw [← z, ((((((((hk4).trans hk5).trans hk6).trans hk7).trans hk8).trans hk9).trans hk10).trans hk11) q2 _ hn3 hc3] at c1; cases c1
  have n2_12 : q2 ≠ q12 := fun z => by have c1 := hq13; rw [← z, (((((((((hk4).trans hk5).trans hk6).trans hk7).trans hk8).trans hk9).trans hk10).trans hk11).trans hk12) q2 _ hn3 hc3] at c1; cases c1
  have n2_13 : q2 ≠ q13 := fun z => by have c1 := hq14; rw [← z, ((((((((((hk4).trans hk5).trans hk6).trans hk7).trans hk8).trans hk9).trans hk10).trans hk11).trans hk12).trans hk13) q2 _ hn3 hc3] at c1; cases c1
  have n3_4 : q3 ≠ q4 := fun z => by have c1 := hq5; rw [← z, hc4] at c1; cases c1
  have n3_5 : q3 ≠ q5 := fun z => by have c1 := hq6; rw [← z, (hk5) q3 _ hn4 hc4] at c1; cases c1
  have n3_6 : q3 ≠ q6 := fun z => by have c1 := hq7; rw [← z, ((hk5).trans hk6) q3 _ hn4 hc4] at c1; cases c1
  have n3_7 : q3 ≠ q7 := fun z => by have c1 := hq8; rw [← z, (((hk5).trans hk6).trans hk7) q3 _ hn4 hc4] at c1; cases c1
  have n3_8 : q3 ≠ q8 := fun z => by have c1 := hq9; rw [← z, ((((hk5).trans hk6).trans hk7).trans hk8) q3 _ hn4 hc4] at c1; cases c1
  have n3_9 : q3 ≠ q9 := fun z => by have c1 := hq10; rw [← z, (((((hk5).trans hk6).trans hk7).trans hk8).trans hk9) q3 _ hn4 hc4] at c1; cases c1
  have n3_10 : q3 ≠ q10 := fun z => by have c1 := hq11; rw [← z, ((((((hk5).trans hk6).trans hk7).trans hk8).trans hk9).trans hk10) q3 _ hn4 hc4] at c1; cases c1
  have n3_11 : q3 ≠ q11 := fun z => by have c1 := hq12; rw [← z, (((((((hk5).trans hk6).trans hk7).trans hk8).trans hk9).trans hk10).trans hk11) q3 _ hn4 hc4] at c1; cases c1
  have n3_12 : q3 ≠ q12 := fun z => by have c1 := hq13; rw [← z, ((((((((hk5).trans hk6).trans hk7).trans hk8).trans hk9).trans hk10).trans hk11).trans hk12) q3 _ hn4 hc4] at c1; cases c1
  have n3_13 : q3 ≠ q13 := fun z => by have c1 := hq14; rw [← z, (((((((((hk5).trans hk6).trans hk7).trans hk8).trans hk9).trans hk10).trans hk11).trans hk12).trans hk13) q3 _ hn4 hc4] at c1; cases c1
  have n4_5 : q4 ≠ q5 := fun z => by have c1 := hq6; rw [← z, hc5] at c1; cases c1
  have n4_6 : q4 ≠ q6 := fun z => by have c1 := hq7; rw [← z, (hk6) q4 _ hn5 hc5] at c1; cases c1
  have n4_7 : q4 ≠ q7 := fun z => by have c1 := hq8; rw [← z, ((hk6).trans hk7) q4 _ hn5 hc5] at c1; cases c1
  have n4_8 : q4 ≠ q8 := fun z => by have c1 := hq9; rw [← z, (((hk6).trans hk7).trans hk8) q4 _ hn5 hc5] at c1; cases c1
  have n4_9 : q4 ≠ q9 := fun z => by have c1 := hq10; rw [← z, ((((hk6).trans hk7).trans hk8).trans hk9) q4 _ hn5 hc5] at c1; cases c1
  have n4_10 : q4 ≠ q10 := fun z => by have c1 := hq11; rw [← z, (((((hk6).trans hk7).trans hk8).trans hk9).trans hk10) q4 _ hn5 hc5] at c1; cases c1
  have n4_11 : q4 ≠ q11 := fun z => by have c1 := hq12; rw [← z, ((((((hk6).trans hk7).trans hk8).trans hk9).trans hk10).trans hk11) q4 _ hn5 hc5] at c1; cases c1
  have n4_12 : q4 ≠ q12 := fun z => by have c1 := hq13; rw [← z, (((((((hk6).trans hk7).trans hk8).trans hk9).trans hk10).trans hk11).trans hk12) q4 _ hn5 hc5] at c1; cases c1
  have n4_13 : q4 ≠ q13 := fun z => by have c1 := hq14; rw [← z, ((((((((hk6).trans hk7).trans hk8).trans hk9).trans hk10).trans hk11).trans hk12).trans hk13) q4 _ hn5 hc5] at c1; cases c1
  have n5_6 : q5 ≠ q6 := fun z => by have c1 := hq7; rw [← z, hc6] at c1; cases c1
  have n5_7 : q5 ≠ q7 := fun z => by have c1 := hq8; rw [← z, (hk7) q5 _ hn6 hc6] at c1; cases c1
  have n5_8 : q5 ≠ q8 := fun z => by have c1 := hq9; rw [← z, ((hk7).trans hk8) q5 _ hn6 hc6] at c1; cases c1
  have n5_9 : q5 ≠ q9 := fun z => by have c1 := hq10; rw [← z, (((hk7).trans hk8).trans hk9) q5 _ hn6 hc6] at c1; cases c1
  have n5_10 : q5 ≠ q10 := fun z => by have c1 := hq11; rw [← z, ((((hk7).trans hk8).trans hk9).trans hk10) q5 _ hn6 hc6] at c1; cases c1
  have n5_11 : q5 ≠ q11 := fun z => by have c1 := hq12; rw [← z, (((((hk7).trans hk8).trans hk9).trans hk10).trans hk11) q5 _ hn6 hc6] at c1; cases c1
  have n5_12 : q5 ≠ q12 := fun z => by have c1 := hq13; rw [← z, ((((((hk7).trans hk8).trans hk9).trans hk10).trans hk11).trans hk12) q5 _ hn6 hc6] at c1; cases c1
  have n5_13 : q5 ≠ q13 := fun z => by have c1 := hq14; rw [← z, (((((((hk7).trans hk8).trans hk9).trans hk10).trans hk11).trans hk12).trans hk13) q5 _ hn6 hc6] at c1; cases c1
  have n6_7 : q6 ≠ q7 := fun z => by have c1 := hq8; rw [← z, hc7] at c1; cases c1
  have n6_8 : q6 ≠ q8 := fun z => by have c1 := hq9; rw [← z, (hk8) q6 _ hn7 hc7] at c1; cases c1
  have n6_9 : q6 ≠ q9 := fun z => by have c1 := hq10; rw [← z, ((hk8).trans hk9) q6 _ hn7 hc7] at c1; cases c1
  have n6_10 : q6 ≠ q10 := fun z => by have c1 := hq11; rw [← z, (((hk8).trans hk9).trans hk10) q6 _ hn7 hc7] at c1; cases c1
  have n6_11 : q6 ≠ q11 := fun z => by have c1 := hq12; rw [← z, ((((hk8).trans hk9).trans hk10).trans hk11) q6 _ hn7 hc7] at c1; cases c1
  have n6_12 : q6 ≠ q12 := fun z => by have c1 := hq13; rw [← z, (((((hk8).trans hk9).trans hk10).trans hk11).trans hk12) q6 _ hn7 hc7] at c1; cases c1
  have n6_13 : q6 ≠ q13 := fun z => by have c1 := hq14; rw [← z, ((((((hk8).trans hk9).trans hk10).trans hk11).trans hk12).trans hk13) q6 _ hn7 hc7] at c1; cases c1
  have n7_8 : q7 ≠ q8 := fun z => by have c1 := hq9; rw [← z, hc8] at c1; cases c1
  have n7_9 : q7 ≠ q9 := fun z => by have c1 := hq10; rw [← z, (hk9) q7 _ hn8 hc8] at c1; cases c1
  have n7_10 : q7 ≠ q10 := fun z => by have c1 := hq11; rw [← z, ((hk9).trans hk10) q7 _ hn8 hc8] at c1; cases c1
  have n7_11 : q7 ≠ q11 := fun z => by have c1 := hq12; rw [← z, (((hk9).trans hk10).trans hk11) q7 _ hn8 hc8] at c1; cases c1
  have n7_12 : q7 ≠ q12 := fun z => by have c1 := hq13; rw [← z, ((((hk9).trans hk10).trans hk11).trans hk12) q7 _ hn8 hc8] at c1; cases c1
  have n7_13 : q7 ≠ q13 := fun z => by have c1 := hq14; rw [← z, (((((hk9).trans hk10).trans hk11).trans hk12).trans hk13) q7 _ hn8 hc8] at c1; cases c1
  have n8_9 : q8 ≠ q9 := fun z => by have c1 := hq10; rw [← z, hc9] at c1; cases c1
  have n8_10 : q8 ≠ q10 := fun z => by have c1 := hq11; rw [← z, (hk10) q8 _ hn9 hc9] at c1; cases c1
  have n8_11 : q8 ≠ q11 := fun z => by have c1 := hq12; rw [← z, ((hk10).trans hk11) q8 _ hn9 hc9] at c1; cases c1
  have n8_12 : q8 ≠ q12 := fun z => by have c1 := hq13; rw [← z, (((hk10).trans hk11).trans hk12) q8 _ hn9 hc9] at c1; cases c1
  have n8_13 : q8 ≠ q13 := fun z => by have c1 := hq14; rw [← z, ((((hk10).trans hk11).trans hk12).trans hk13) q8 _ hn9 hc9] at c1; cases c1
  have n9_10 : q9 ≠ q10 := fun z => by have c1 := hq11; rw [← z, hc10] at c1; cases c1
  have n9_11 : q9 ≠ q11 := fun z => by have c1 := hq12; rw [← z, (hk11) q9 _ hn10 hc10] at c1; cases c1
  have n9_12 : q9 ≠ q12 := fun z => by have c1 := hq13; rw [← z, ((hk11).trans hk12) q9 _ hn10 hc10] at c1; cases c1
  have n9_13 : q9 ≠ q13 := fun z => by have c1 := hq14; rw [← z, (((hk11).trans hk12).trans hk13) q9 _ hn10 hc10] at c1; cases c1
  have n10_11 : q10 ≠ q11 := fun z => by have c1 := hq12; rw [← z, hc11] at c1; cases c1
  have n10_12 : q10 ≠ q12 := fun z => by have c1 := hq13; rw [← z, (hk12) q10 _ hn11 hc11] at c1; cases c1
  have n10_13 : q10 ≠ q13 := fun z => by have c1 := hq14; rw [← z, ((hk12).trans hk13) q10 _ hn11 hc11] at c1; cases c1
  have n11_12 : q11 ≠ q12 := fun z => by have c1 := hq13; rw [← z, hc12] at c1; cases c1
  have n11_13 : q11 ≠ q13 := fun z => by have c1 := hq14; rw [← z, (hk13) q11 _ hn12 hc12] at c1; cases c1
  have n12_13 : q12 ≠ q13 := fun z => by have c1 := hq14; rw [← z, hc13] at c1; cases c1
  refine r_vret eX3_init_117 rfl ⟨rfl, fun i => [q0, q1, q2, q3, q4, q5, q6, q7, q8, q9, q10, q11, q12, q13].getD i 0, ⟨fun i hi => ?_, fun i j hi hj e => ?_⟩, K0, ha14, K1 q0 _ hn1 hc1, K2 q1 _ hn2 hc2, K3 q2 _ hn3 hc3, K4 q3 _ hn4 hc4, K5 q4 _ hn5 hc5, K6 q5 _ hn6 hc6, K7 q6 _ hn7 hc7, K8 q7 _ hn8 hc8, K9 q8 _ hn9 hc9, K10 q9 _ hn10 hc10, K11 q10 _ hn11 hc11, K12 q11 _ hn12 hc12, K13 q12 _ hn13 hc13, K14 q13 _ hn14 hc14⟩
  · rcases (show i = 0 ∨ i = 1 ∨ i = 2 ∨ i = 3 ∨ i = 4 ∨ i = 5 ∨ i = 6 ∨ i = 7 ∨ i = 8 ∨ i = 9 ∨ i = 10 ∨ i = 11 ∨ i = 12 ∨ i = 13 by omega) with rfl | rfl | rfl | rfl | rfl | rfl | rfl | rfl | rfl | rfl | rfl | rfl | rfl | rfl
    · exact ⟨hn1, fq0⟩
    · exact ⟨hn2, fq1⟩
    · exact ⟨hn3, fq2⟩
    · exact ⟨hn4, fq3⟩
    · exact ⟨hn5, fq4⟩
    · exact ⟨hn6, fq5⟩
    · exact ⟨hn7, fq6⟩
    · exact ⟨hn8, fq7⟩
    · exact ⟨hn9, fq8⟩
    · exact ⟨hn10, fq9⟩
    · exact ⟨hn11, fq10⟩
    · exact ⟨hn12, fq11⟩
    · exact ⟨hn13, fq12⟩
    · exact ⟨hn14, fq13⟩
  · exact nd_inj (l := [q0, q1, q2, q3, q4, q5, q6, q7, q8, q9, q10, q11, q12, q13]) (by simp [n0_1, n0_2, n0_3, n0_4, n0_5, n0_6, n0_7, n0_8, n0_9, n0_10, n0_11, n0_12, n0_13, n1_2, n1_3, n1_4, n1_5, n1_6, n1_7, n1_8, n1_9, n1_10, n1_11, n1_12, n1_13, n2_3, n2_4, n2_5, n2_6, n2_7, n2_8, n2_9, n2_10, n2_11, n2_12, n2_13, n3_4, n3_5, n3_6, n3_7, n3_8, n3_9, n3_10, n3_11, n3_12, n3_13, n4_5, n4_6, n4_7, n4_8, n4_9, n4_10, n4_11, n4_12, n4_13, n5_6, n5_7, n5_8, n5_9, n5_10, n5_11, n5_12, n5_13, n6_7, n6_8, n6_9, n6_10, n6_11, n6_12, n6_13, n7_8, n7_9, n7_10, n7_11, n7_12, n7_13, n8_9, n8_10, n8_11, n8_12, n8_13, n9_10, n9_11, n9_12, n9_13, n10_11, n10_12, n10_13, n11_12, n11_13, n12_13]) i j hi hj e
end INITS

