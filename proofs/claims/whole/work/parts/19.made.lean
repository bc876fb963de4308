/-! field lists of the classes: o objects, r arrays, s ints (and booleans), g longs, each by their order; what is made lies at r 0, r 1 .. in the order of making -/
def fsX0 (o r : Nat → Nat) (s : Nat → Int32) (g : Nat → Int64) : List Value := [.int (s 0), .ref (r 0), .ref (r 1), .ref (r 2), .ref (r 3), .int (s 1), .ref (r 4), .ref (r 5), .ref (r 6), .ref (r 7), .ref (r 8)]
def fsX1 (o r : Nat → Nat) (s : Nat → Int32) (g : Nat → Int64) : List Value := [.ref (o 0), .int (s 0), .long (g 0), .ref (r 0), .ref (r 1), .ref (r 2), .ref (r 3), .ref (r 4), .ref (o 1), .ref (r 5), .ref (r 6)]
def fsX2 (o r : Nat → Nat) (s : Nat → Int32) (g : Nat → Int64) : List Value := [.int (s 0), .ref (r 0), .int (s 1), .ref (r 1), .ref (r 2), .ref (r 3), .ref (r 4), .ref (r 5)]
def fsX3 (o r : Nat → Nat) (s : Nat → Int32) (g : Nat → Int64) : List Value := [.int (s 0), .ref (r 0), .ref (r 1), .int (s 1), .ref (r 2), .ref (r 3), .ref (r 4), .ref (r 5), .ref (r 6), .ref (r 7), .ref (r 8), .int (s 2), .ref (r 9), .ref (r 10), .ref (r 11), .ref (r 12), .ref (r 13)]
def fsX4 (o r : Nat → Nat) (s : Nat → Int32) (g : Nat → Int64) : List Value := [.ref (o 0), .ref (r 0), .ref (r 1), .ref (r 2), .ref (o 1), .ref (r 3), .ref (r 4), .ref (r 5)]
def fsX5 (o r : Nat → Nat) (s : Nat → Int32) (g : Nat → Int64) : List Value := [.ref (r 0), .int (s 0), .int (s 1), .int (s 2), .ref (r 1), .int (s 3), .int (s 4), .int (s 5), .int (s 6), .int (s 7), .int (s 8), .int (s 9), .int (s 10), .int (s 11)]
def fsX6 (o r : Nat → Nat) (s : Nat → Int32) (g : Nat → Int64) : List Value := [.ref (r 0)]
def fsX7 (o r : Nat → Nat) (s : Nat → Int32) (g : Nat → Int64) : List Value := [.ref (o 0), .int (s 0), .ref (r 0), .ref (r 1), .int (s 1), .ref (r 2), .ref (r 3), .ref (r 4), .int (s 2), .int (s 3), .long (g 0)]
def fsX8 (o r : Nat → Nat) (s : Nat → Int32) (g : Nat → Int64) : List Value := [.int (s 0), .int (s 1), .int (s 2), .ref (r 0)]
def fsX9 (o r : Nat → Nat) (s : Nat → Int32) (g : Nat → Int64) : List Value := [.ref (o 0), .ref (o 1), .ref (o 2), .ref (o 3), .ref (r 0), .ref (r 1), .int (s 0), .ref (o 4), .ref (o 5), .ref (r 2)]
def fsX10 (o r : Nat → Nat) (s : Nat → Int32) (g : Nat → Int64) : List Value := [.ref (o 0), .int (s 0), .int (s 1), .int (s 2), .long (g 0), .ref (r 0), .ref (r 1), .ref (r 2), .ref (r 3), .ref (r 4), .ref (r 5), .ref (r 6)]
def fsX11 (o r : Nat → Nat) (s : Nat → Int32) (g : Nat → Int64) : List Value := [.ref (o 0), .ref (o 1), .ref (o 2), .ref (o 3), .ref (o 4), .ref (o 5), .ref (o 6), .ref (o 7), .ref (r 0), .ref (r 1), .ref (r 2), .ref (r 3)]
def fsX12 (o r : Nat → Nat) (s : Nat → Int32) (g : Nat → Int64) : List Value := [.ref (r 0), .ref (r 1), .ref (r 2), .int (s 0), .int (s 1), .ref (r 3), .ref (r 4), .ref (r 5), .ref (r 6), .ref (r 7), .int (s 2), .int (s 3), .int (s 4), .int (s 5), .int (s 6), .int (s 7), .int (s 8), .int (s 9), .int (s 10), .int (s 11), .ref (r 8), .ref (r 9), .ref (r 10), .ref (r 11), .ref (r 12), .ref (r 13), .ref (r 14), .ref (r 15), .ref (r 16), .ref (r 17), .ref (r 18), .ref (r 19), .ref (r 20), .ref (r 21), .ref (r 22), .int (s 12), .int (s 13), .ref (r 23), .ref (r 24), .ref (r 25)]
def Nw (h : Hp) (a : Nat) (r : Nat → Nat) (n : Nat) : Prop := (∀ i, i < n → r i ≠ a ∧ h (r i) = none) ∧ ∀ i j, i < n → j < n → r i = r j → i = j
def Kp (h h' : Hp) (a : Nat) : Prop := ∀ (b : Nat) (x : va_E), b ≠ a → h b = some x → h' b = some x
theorem Kp.rf {h : Hp} {a : Nat} : Kp h h a := fun _ _ _ q => q
theorem Kp.trans {h h1 h2 : Hp} {a : Nat} (k1 : Kp h h1 a) (k2 : Kp h1 h2 a) : Kp h h2 a := fun b x n q => k2 b x n (k1 b x n q)
/-- the cells cs lie at r 0, r 1 .. -/
def AtL (h : Hp) (r : Nat → Nat) (cs : List va_E) : Prop := ∀ (i : Nat) (e : va_E), cs[i]? = some e → h (r i) = some e
/-- from h to h' the cells cs were made, at r 0, r 1 ..; of the old ones only a's has changed -/
def Al (h h' : Hp) (a : Nat) (r : Nat → Nat) (cs : List va_E) : Prop := Nw h a r cs.length ∧ Kp h h' a ∧ AtL h' r cs
def cat (n : Nat) (r1 r2 : Nat → Nat) (i : Nat) : Nat := if i < n then r1 i else r2 (i - n)
theorem Al.nil {h : Hp} {a : Nat} : Al h h a (fun _ => 0) [] := ⟨⟨fun i hi => absurd hi (Nat.not_lt_zero _), fun i j hi => absurd hi (Nat.not_lt_zero _)⟩, Kp.rf, fun i e q => by simp at q⟩
theorem Al.put {h h1 h2 : Hp} {a : Nat} {r : Nat → Nat} {cs : List va_E} (A : Al h h1 a r cs) (k : Kp h1 h2 a) : Al h h2 a r cs :=
  ⟨A.1, A.2.1.trans k, fun i e q => k _ _ ((A.1.1 i (List.getElem?_eq_some_iff.mp q).1).1) (A.2.2 i e q)⟩
theorem Al.trans {h h1 h2 : Hp} {a : Nat} {r1 r2 : Nat → Nat} {c1 c2 : List va_E} (A : Al h h1 a r1 c1) (B : Al h1 h2 a r2 c2) : Al h h2 a (cat c1.length r1 r2) (c1 ++ c2) := by
  have hs : ∀ i, i < c1.length → ∃ e, h1 (r1 i) = some e := fun i hi => ⟨_, A.2.2 i _ (List.getElem?_eq_getElem hi)⟩
  have hf : ∀ j, j < c2.length → h (r2 j) = none := fun j hj => by
    cases z : h (r2 j) with
    | none => rfl
    | some x => have := A.2.1 _ x (B.1.1 j hj).1 z; rw [(B.1.1 j hj).2] at this; cases this
  refine ⟨⟨fun i hi => ?_, fun i j hi hj e => ?_⟩, A.2.1.trans B.2.1, fun i e q => ?_⟩
  · rw [List.length_append] at hi
    unfold cat
    split
    · rename_i c; exact A.1.1 i c
    · exact ⟨(B.1.1 _ (by omega)).1, hf _ (by omega)⟩
  · rw [List.length_append] at hi hj
    unfold cat at e
    split at e
    · rename_i c1'
      split at e
      · rename_i c2'; exact A.1.2 i j c1' c2' e
      · obtain ⟨x, hx⟩ := hs i c1'
        rw [e, (B.1.1 _ (by omega)).2] at hx; cases hx
    · rename_i c1'
      split at e
      · rename_i c2'
        obtain ⟨x, hx⟩ := hs j c2'
        rw [← e, (B.1.1 _ (by omega)).2] at hx; cases hx
      · have := B.1.2 _ _ (by omega) (by omega) e; omega
  · unfold cat
    rw [List.getElem?_append] at q
    split
    · rename_i c
      rw [if_pos c] at q
      exact B.2.1 _ _ (A.1.1 i c).1 (A.2.2 i e q)
    · rename_i c
      rw [if_neg c] at q
      exact B.2.2 _ e q
theorem Al.set {h h1 : Hp} {a : Nat} {r : Nat → Nat} {cs : List va_E} {e : va_E} (A : Al h h1 a r cs) (k : Nat) (hk : k < cs.length) : Al h (hset h1 (r k) e) a r (cs.set k e) := by
  refine ⟨by rw [List.length_set]; exact A.1, fun b x nb hb => ?_, fun i y hy => ?_⟩
  · have hne : b ≠ r k := fun z => by rw [z, (A.1.1 k hk).2] at hb; cases hb
    rw [hset_n _ _ hne]; exact A.2.1 b x nb hb
  · rw [List.getElem?_set] at hy
    split at hy
    · rename_i c; subst c
      cases hy
      exact hset_s _ _ _
    · rename_i c
      have hi : i < cs.length := (List.getElem?_eq_some_iff.mp hy).1
      rw [hset_n _ _ (fun z => c (A.1.2 i k hi hk z).symm)]
      exact A.2.2 i y hy
theorem Al.one {h h' : Hp} {a q : Nat} {e : va_E} (hq : h q = none) (hn : q ≠ a) (hc : h' q = some e) (k : Kp h h' a) : Al h h' a (fun _ => q) [e] :=
  ⟨⟨fun i _ => ⟨hn, hq⟩, fun i j hi hj _ => by simp at hi hj; omega⟩, k, fun i x hx => by
    cases i with
    | zero => simp at hx; rw [← hx]; exact hc
    | succ n => simp at hx⟩
/-- an object q was made, then its own cells, then a's cell was changed -/
theorem Al.obj {h h1 h2 h3 : Hp} {a q : Nat} {e0 e : va_E} {r : Nat → Nat} {cs : List va_E} (hq : h q = none) (hn : q ≠ a) (h1e : h1 = hset h q e0) (B : Al h1 h2 q r cs) (hc : h2 q = some e) (ha : ∃ x, h a = some x) (k : Kp h2 h3 a) : Al h h3 a (cat 1 (fun _ => q) r) (e :: cs) := by
  obtain ⟨x, ha⟩ := ha
  have ha1 : h1 a = some x := by rw [h1e, hset_n _ _ (Ne.symm hn)]; exact ha
  have hra : ∀ i, i < cs.length → r i ≠ a := fun i hi z => by have := (B.1.1 i hi).2; rw [z, ha1] at this; cases this
  refine ⟨⟨fun i hi => ?_, fun i j hi hj e' => ?_⟩, fun b y nb hb => ?_, fun i y hy => ?_⟩
  · unfold cat
    split
    · exact ⟨hn, hq⟩
    · have hi' : i - 1 < cs.length := by simp at hi; omega
      refine ⟨hra _ hi', ?_⟩
      have := (B.1.1 _ hi').2
      rw [h1e, hset_n _ _ (B.1.1 _ hi').1] at this
      exact this
  · simp only [List.length_cons] at hi hj
    unfold cat at e'
    split at e'
    · split at e'
      · omega
      · exact absurd e'.symm (B.1.1 _ (by omega)).1
    · split at e'
      · exact absurd e' (B.1.1 _ (by omega)).1
      · have := B.1.2 _ _ (by omega) (by omega) e'; omega
  · have hbq : b ≠ q := fun z => by rw [z, hq] at hb; cases hb
    exact k b y nb (B.2.1 b y hbq (by rw [h1e, hset_n _ _ hbq]; exact hb))
  · cases i with
    | zero => simp at hy; rw [← hy]; exact k _ _ hn hc
    | succ n =>
      have hy : cs[n]? = some y := by simpa using hy
      have hl := (List.getElem?_eq_some_iff.mp hy).1
      show h3 (cat 1 (fun _ => q) r (n + 1)) = some y
      have : cat 1 (fun _ => q) r (n + 1) = r n := by unfold cat; rw [if_neg (by omega)]; rfl
      rw [this]
      exact k _ _ (hra n hl) (B.2.2 n y hy)
theorem hset_hset (h : Hp) (a : Nat) (e e2 : va_E) : hset (hset h a e) a e2 = hset h a e2 := by
  funext b; simp only [hset]; split <;> rfl
theorem kp_hset {h : Hp} {a q : Nat} {e : va_E} (hq : h q = none) : Kp h (hset h q e) a := fun b x _ hb => by
  rw [hset_n _ _ (fun z => by rw [z, hq] at hb; cases hb)]; exact hb
section MADE
variable {ar : Nat → ClassId} {ro : Nat → Option (Nat × (Nat → Int32))} {sa : Nat → Nat} {M : Mth} {d pc len nx p1 : Nat} {lv : Lv} {st : List Value} {h : Hp} {kc ks : Nat} {Φ : Ou → Hp → Prop}
theorem kp_put {a q : Nat} {e e2 : va_E} (hq : h q = none) : Kp h (hset (hset h q e) a e2) a := by
  intro b x n hb
  rw [hset_n _ _ n, hset_n _ _ (fun z => by rw [z, hq] at hb; cases hb)]
  exact hb
theorem r_putk {i a ci f : Nat} {fs fs2 : List Value} {v : Value} {fin : Bool} {ty : FieldType} (hd : dc M pc (.putfield i) 3 nx) (hf : FLp (mo M) i ci f fin ty) (ha : h a = some (.inr (ci, fs))) (hl : f < fs.length) (hn : narrow ty v = v) (hft : fits ty v = true) (hfi : fin = true → (my M).name = "<init>") (hs : fs.set f v = fs2) (k : ∀ h' : Hp, h' a = some (.inr (ci, fs2)) → Kp h h' a → WP ar ro sa M d nx lv st h' kc ks Φ) : WP ar ro sa M d pc lv (v :: .ref a :: st) h kc ks Φ :=
  r_putf hd hf ha hl hn hft hfi hs (k _ (hset_s _ _ _) (fun b x n hb => by rw [hset_n _ _ n]; exact hb))
theorem r_mki {i a ci f N : Nat} {n : Int32} {fs : List Value} {fs2 : Nat → List Value} {fin : Bool} {ty : FieldType} (hd : dc M pc (.newarray .int) 2 p1) (hd2 : dc M p1 (.putfield i) 3 nx) (hf : FLp (mo M) i ci f fin ty) (ha : h a = some (.inr (ci, fs))) (hl : f < fs.length) (hft : ∀ q, fits ty (.ref q) = true ∧ narrow ty (.ref q) = .ref q) (hfi : fin = true → (my M).name = "<init>") (hs : ∀ q, fs.set f (.ref q) = fs2 q) (hn : ¬ n < 0) (hN : n.toNatClampNeg = N) (hb : N ≤ 10000) (h1 : 1 ≤ kc) (h2 : N ≤ ks) (k : ∀ (q : Nat) (h' : Hp), h' a = some (.inr (ci, fs2 q)) → Al h h' a (fun _ => q) [.inl (ar 0, N, .inl (fun _ => 0))] → WP ar ro sa M d nx lv st h' (kc - 1) (ks - N) Φ) : WP ar ro sa M d pc lv (.int n :: .ref a :: st) h kc ks Φ := by
  refine r_newi hd hn hN hb h1 h2 (fun q hq => ?_)
  have hne : a ≠ q := fun z => by rw [z, hq] at ha; cases ha
  refine r_putf hd2 hf (by rw [hset_n _ _ hne]; exact ha) hl (hft q).2 (hft q).1 hfi (hs q) (k q _ (hset_s _ _ _) (Al.one hq (Ne.symm hne) ?_ (kp_put hq)))
  rw [hset_n _ _ (Ne.symm hne)]
  exact hset_s _ _ _
theorem r_mkl {i a ci f N : Nat} {n : Int32} {fs : List Value} {fs2 : Nat → List Value} {fin : Bool} {ty : FieldType} (hd : dc M pc (.newarray .long) 2 p1) (hd2 : dc M p1 (.putfield i) 3 nx) (hf : FLp (mo M) i ci f fin ty) (ha : h a = some (.inr (ci, fs))) (hl : f < fs.length) (hft : ∀ q, fits ty (.ref q) = true ∧ narrow ty (.ref q) = .ref q) (hfi : fin = true → (my M).name = "<init>") (hs : ∀ q, fs.set f (.ref q) = fs2 q) (hn : ¬ n < 0) (hN : n.toNatClampNeg = N) (hb : N ≤ 10000) (h1 : 1 ≤ kc) (h2 : N ≤ ks) (k : ∀ (q : Nat) (h' : Hp), h' a = some (.inr (ci, fs2 q)) → Al h h' a (fun _ => q) [.inl (ar 1, N, .inr (.inl (fun _ => 0)))] → WP ar ro sa M d nx lv st h' (kc - 1) (ks - N) Φ) : WP ar ro sa M d pc lv (.int n :: .ref a :: st) h kc ks Φ := by
  refine r_newl hd hn hN hb h1 h2 (fun q hq => ?_)
  have hne : a ≠ q := fun z => by rw [z, hq] at ha; cases ha
  refine r_putf hd2 hf (by rw [hset_n _ _ hne]; exact ha) hl (hft q).2 (hft q).1 hfi (hs q) (k q _ (hset_s _ _ _) (Al.one hq (Ne.symm hne) ?_ (kp_put hq)))
  rw [hset_n _ _ (Ne.symm hne)]
  exact hset_s _ _ _
theorem r_mkz {i a ci f N : Nat} {n : Int32} {fs : List Value} {fs2 : Nat → List Value} {fin : Bool} {ty : FieldType} (hd : dc M pc (.newarray .boolean) 2 p1) (hd2 : dc M p1 (.putfield i) 3 nx) (hf : FLp (mo M) i ci f fin ty) (ha : h a = some (.inr (ci, fs))) (hl : f < fs.length) (hft : ∀ q, fits ty (.ref q) = true ∧ narrow ty (.ref q) = .ref q) (hfi : fin = true → (my M).name = "<init>") (hs : ∀ q, fs.set f (.ref q) = fs2 q) (hn : ¬ n < 0) (hN : n.toNatClampNeg = N) (hb : N ≤ 10000) (h1 : 1 ≤ kc) (h2 : N ≤ ks) (k : ∀ (q : Nat) (h' : Hp), h' a = some (.inr (ci, fs2 q)) → Al h h' a (fun _ => q) [.inl (ar 2, N, .inl (fun _ => 0))] → WP ar ro sa M d nx lv st h' (kc - 1) (ks - N) Φ) : WP ar ro sa M d pc lv (.int n :: .ref a :: st) h kc ks Φ := by
  refine r_newz hd hn hN hb h1 h2 (fun q hq => ?_)
  have hne : a ≠ q := fun z => by rw [z, hq] at ha; cases ha
  refine r_putf hd2 hf (by rw [hset_n _ _ hne]; exact ha) hl (hft q).2 (hft q).1 hfi (hs q) (k q _ (hset_s _ _ _) (Al.one hq (Ne.symm hne) ?_ (kp_put hq)))
  rw [hset_n _ _ (Ne.symm hne)]
  exact hset_s _ _ _
theorem r_mkb {i a ci f N : Nat} {n : Int32} {fs : List Value} {fs2 : Nat → List Value} {fin : Bool} {ty : FieldType} (hd : dc M pc (.newarray .byte) 2 p1) (hd2 : dc M p1 (.putfield i) 3 nx) (hf : FLp (mo M) i ci f fin ty) (ha : h a = some (.inr (ci, fs))) (hl : f < fs.length) (hft : ∀ q, fits ty (.ref q) = true ∧ narrow ty (.ref q) = .ref q) (hfi : fin = true → (my M).name = "<init>") (hs : ∀ q, fs.set f (.ref q) = fs2 q) (hn : ¬ n < 0) (hN : n.toNatClampNeg = N) (hb : N ≤ 10000) (h1 : 1 ≤ kc) (h2 : N ≤ ks) (k : ∀ (q : Nat) (h' : Hp), h' a = some (.inr (ci, fs2 q)) → Al h h' a (fun _ => q) [.inl (ar 3, N, .inl (fun _ => 0))] → WP ar ro sa M d nx lv st h' (kc - 1) (ks - N) Φ) : WP ar ro sa M d pc lv (.int n :: .ref a :: st) h kc ks Φ := by
  refine r_newb hd hn hN hb h1 h2 (fun q hq => ?_)
  have hne : a ≠ q := fun z => by rw [z, hq] at ha; cases ha
  refine r_putf hd2 hf (by rw [hset_n _ _ hne]; exact ha) hl (hft q).2 (hft q).1 hfi (hs q) (k q _ (hset_s _ _ _) (Al.one hq (Ne.symm hne) ?_ (kp_put hq)))
  rw [hset_n _ _ (Ne.symm hne)]
  exact hset_s _ _ _
theorem r_mkq {i i2 a ci f N t : Nat} {C : String} {n : Int32} {fs : List Value} {fs2 : Nat → List Value} {fin : Bool} {ty : FieldType} (hd : dc M pc (.anewarray i2) 3 p1) (hd2 : dc M p1 (.putfield i) 3 nx) (ht : 4 ≤ t ∧ t ≤ 8) (hC : tyN t = .object C) (hlk : Cond.classLink (cn (mo M)) i2 C ∈ tblG ∧ Cond.arrayOver (.object C) ∈ exL) (hf : FLp (mo M) i ci f fin ty) (ha : h a = some (.inr (ci, fs))) (hl : f < fs.length) (hft : ∀ q, fits ty (.ref q) = true ∧ narrow ty (.ref q) = .ref q) (hfi : fin = true → (my M).name = "<init>") (hs : ∀ q, fs.set f (.ref q) = fs2 q) (hn : ¬ n < 0) (hN : n.toNatClampNeg = N) (hb : N ≤ 10000) (h1 : 1 ≤ kc) (h2 : N ≤ ks) (k : ∀ (q : Nat) (h' : Hp), h' a = some (.inr (ci, fs2 q)) → Al h h' a (fun _ => q) [.inl (ar t, N, .inr (.inr (.inr (.inr (fun _ => none)))))] → WP ar ro sa M d nx lv st h' (kc - 1) (ks - N) Φ) : WP ar ro sa M d pc lv (.int n :: .ref a :: st) h kc ks Φ := by
  refine r_newq hd ht hC hlk.1 hlk.2 hn hN hb h1 h2 (fun q hq => ?_)
  have hne : a ≠ q := fun z => by rw [z, hq] at ha; cases ha
  refine r_putf hd2 hf (by rw [hset_n _ _ hne]; exact ha) hl (hft q).2 (hft q).1 hfi (hs q) (k q _ (hset_s _ _ _) (Al.one hq (Ne.symm hne) ?_ (kp_put hq)))
  rw [hset_n _ _ (Ne.symm hne)]
  exact hset_s _ _ _
theorem r_aastN {a n t ci v j : Nat} {f : Nat → Option Nat} {i : Int32} {vs : List Value} {r : vw_C} (hd : dc M pc .aastore 1 nx) (ha : h a = some (.inl (ar t, n, .inr (.inr (.inr (.inr f)))))) (ht : 4 ≤ t ∧ t ≤ 8) (hv : h v = some (.inr (ci, vs))) (hc : clsL[ci]? = some r) (hty : tyN t = .object r.1) (hi : vp_in i n) (hj : i.toNatClampNeg = j) (k : WP ar ro sa M d nx lv st (hset h a (.inl (ar t, n, .inr (.inr (.inr (.inr (va_up f j (some v)))))))) kc ks Φ) : WP ar ro sa M d pc lv (.ref v :: .int i :: .ref a :: st) h kc ks Φ := by
  subst hj
  exact r_aast hd ha ht hv hc hty hi k
theorem r_newN {i ci N : Nat} {fs : List Value} (hd : dc M pc (.new i) 3 nx) (hc : CLn (mo M) i ci fs) (hN : fs.length = N) (h1 : 1 ≤ kc) (h2 : N ≤ ks) (k : ∀ q : Nat, h q = none → WP ar ro sa M d nx lv (.ref q :: st) (hset h q (.inr (ci, fs))) (kc - 1) (ks - N) Φ) : WP ar ro sa M d pc lv st h kc ks Φ := by
  subst hN
  exact r_new hd hc h1 h2 k
end MADE
theorem ob1 : Cond.instanceMethod objectInit ∈ tblG := tblG_in (i := 40) (by decide +kernel) (by decide +kernel)
theorem ob2 : Cond.code objectInit ⟨#[0xb1]⟩ 1 none ∈ tblG := tblG_in (i := 41) (by decide +kernel) (by decide +kernel)
theorem ob_0 : Cond.methodLink (cn 0) 3 objectInit ∈ tblG := tblG_in (i := 173) (by decide +kernel) (by decide +kernel)
theorem ob_1 : Cond.methodLink (cn 1) 3 objectInit ∈ tblG := tblG_in (i := 409) (by decide +kernel) (by decide +kernel)
theorem ob_2 : Cond.methodLink (cn 2) 3 objectInit ∈ tblG := tblG_in (i := 135) (by decide +kernel) (by decide +kernel)
theorem ob_3 : Cond.methodLink (cn 3) 3 objectInit ∈ tblG := tblG_in (i := 47) (by decide +kernel) (by decide +kernel)
theorem ob_4 : Cond.methodLink (cn 4) 3 objectInit ∈ tblG := tblG_in (i := 376) (by decide +kernel) (by decide +kernel)
theorem ob_5 : Cond.methodLink (cn 5) 3 objectInit ∈ tblG := tblG_in (i := 453) (by decide +kernel) (by decide +kernel)
theorem ob_6 : Cond.methodLink (cn 6) 3 objectInit ∈ tblG := tblG_in (i := 287) (by decide +kernel) (by decide +kernel)
theorem ob_7 : Cond.methodLink (cn 7) 3 objectInit ∈ tblG := tblG_in (i := 298) (by decide +kernel) (by decide +kernel)
theorem ob_8 : Cond.methodLink (cn 8) 3 objectInit ∈ tblG := tblG_in (i := 512) (by decide +kernel) (by decide +kernel)
theorem ob_9 : Cond.methodLink (cn 9) 3 objectInit ∈ tblG := tblG_in (i := 281) (by decide +kernel) (by decide +kernel)
theorem ob_10 : Cond.methodLink (cn 10) 3 objectInit ∈ tblG := tblG_in (i := 227) (by decide +kernel) (by decide +kernel)
theorem ob_11 : Cond.methodLink (cn 11) 3 objectInit ∈ tblG := tblG_in (i := 39) (by decide +kernel) (by decide +kernel)
theorem ob_12 : Cond.methodLink (cn 12) 3 objectInit ∈ tblG := tblG_in (i := 1758) (by decide +kernel) (by decide +kernel)
section INITS
variable {ar : Nat → ClassId} {ro : Nat → Option (Nat × (Nat → Int32))} {sa : Nat → Nat} {d : Nat} {h : Hp} {mc ms : Nat}
theorem c_X6_init {a : Nat} (ha : h a = some (.inr (6, [.null]))) (hm : 1 ≤ mc) (hs : 4 ≤ ms) : CT ar ro sa mX6_init d [.ref a] h mc ms (Ex (fun v h' => v = none ∧ ∃ r : Nat → Nat, Al h h' a r [.inl (ar 1, 4, .inr (.inl (fun _ => 0)))] ∧ h' a = some (.inr (6, fsX6 (fun i => [].getD i 0) (fun i => [(r 0)].getD i 0) (fun i => [].getD i 0) (fun _ => 0)))) No) := by
  show WP ar ro sa mX6_init _ 0 [some (.ref a)] [] h mc ms _
  have A0 : Al h h a (fun _ => 0) [] := Al.nil
  refine r_aload_n eX6_init_0 rfl ?_
  refine r_objinit eX6_init_1 ob_6 ob1 ob2 (by decide) ?_
  refine r_aload_n eX6_init_4 rfl ?_
  refine r_iconst (v := 4) eX6_init_5 (by decide) ?_
  refine r_mkl (N := 4) (fs2 := fun q => [.ref q]) eX6_init_6 eX6_init_8 p_6_11 ha (Nat.le_of_ble_eq_true rfl) (fun _ => ⟨rfl, rfl⟩) (fun _ => rfl) (fun _ => rfl) (by decide) (by decide) (by decide) (by omega) (by omega) (fun q0 h1 ha1 B1 => ?_)
  have A1 : Al h h1 a (cat 0 (fun _ => 0) (fun _ => q0)) [.inl (ar 1, 4, .inr (.inl (fun _ => 0)))] := A0.trans B1
  exact r_vret eX6_init_11 rfl ⟨rfl, _, A1, ha1⟩
theorem c_X8_init {a : Nat} (ha : h a = some (.inr (8, [.int 0, .int 0, .int 0, .null]))) (hm : 1 ≤ mc) (hs : 12 ≤ ms) : CT ar ro sa mX8_init d [.ref a] h mc ms (Ex (fun v h' => v = none ∧ ∃ r : Nat → Nat, Al h h' a r [.inl (ar 1, 12, .inr (.inl (fun _ => 0)))] ∧ h' a = some (.inr (8, fsX8 (fun i => [].getD i 0) (fun i => [(r 0)].getD i 0) (fun i => [((1) : Int32), (0 : Int32), (0 : Int32)].getD i 0) (fun _ => 0)))) No) := by
  show WP ar ro sa mX8_init _ 0 [some (.ref a)] [] h mc ms _
  have A0 : Al h h a (fun _ => 0) [] := Al.nil
  refine r_aload_n eX8_init_0 rfl ?_
  refine r_objinit eX8_init_1 ob_8 ob1 ob2 (by decide) ?_
  refine r_aload_n eX8_init_4 rfl ?_
  refine r_iconst (v := 1) eX8_init_5 (by decide) ?_
  refine r_putk (fs2 := [.int (1), .int 0, .int 0, .null]) eX8_init_6 p_8_9 ha (Nat.le_of_ble_eq_true rfl) (by first | rfl | decide) rfl (fun q => by first | rfl | cases q) rfl (fun h1 ha1 hk1 => ?_)
  have A1 : Al h h1 a (fun _ => 0) [] := A0.put hk1
  refine r_aload_n eX8_init_9 rfl ?_
  refine r_bipush (v := 12) eX8_init_10 (by decide) ?_
  refine r_mkl (N := 12) (fs2 := fun q => [.int (1), .int 0, .int 0, .ref q]) eX8_init_12 eX8_init_14 p_8_15 ha1 (Nat.le_of_ble_eq_true rfl) (fun _ => ⟨rfl, rfl⟩) (fun _ => rfl) (fun _ => rfl) (by decide) (by decide) (by decide) (by omega) (by omega) (fun q0 h2 ha2 B2 => ?_)
  have A2 : Al h h2 a (cat 0 (fun _ => 0) (fun _ => q0)) [.inl (ar 1, 12, .inr (.inl (fun _ => 0)))] := A1.trans B2
  exact r_vret eX8_init_17 rfl ⟨rfl, _, A2, ha2⟩
theorem c_X5_init {a : Nat} (ha : h a = some (.inr (5, [.null, .int 0, .int 0, .int 0, .null, .int 0, .int 0, .int 0, .int 0, .int 0, .int 0, .int 0, .int 0, .int 0]))) (hm : 2 ≤ mc) (hs : 240 ≤ ms) : CT ar ro sa mX5_init d [.ref a] h mc ms (Ex (fun v h' => v = none ∧ ∃ r : Nat → Nat, Al h h' a r [.inl (ar 3, 200, .inl (fun _ => 0)), .inl (ar 0, 40, .inl (fun _ => 0))] ∧ h' a = some (.inr (5, fsX5 (fun i => [].getD i 0) (fun i => [(r 0), (r 1)].getD i 0) (fun i => [(0 : Int32), (0 : Int32), ((-1) : Int32), (0 : Int32), (0 : Int32), (0 : Int32), (0 : Int32), (0 : Int32), (0 : Int32), (0 : Int32), (0 : Int32), (0 : Int32)].getD i 0) (fun _ => 0)))) No) := by
  show WP ar ro sa mX5_init _ 0 [some (.ref a)] [] h mc ms _
  have A0 : Al h h a (fun _ => 0) [] := Al.nil
  refine r_aload_n eX5_init_0 rfl ?_
  refine r_objinit eX5_init_1 ob_5 ob1 ob2 (by decide) ?_
  refine r_aload_n eX5_init_4 rfl ?_
  refine r_sipush (v := 200) eX5_init_5 (by decide) ?_
  refine r_mkb (N := 200) (fs2 := fun q => [.ref q, .int 0, .int 0, .int 0, .null, .int 0, .int 0, .int 0, .int 0, .int 0, .int 0, .int 0, .int 0, .int 0]) eX5_init_8 eX5_init_10 p_5_9 ha (Nat.le_of_ble_eq_true rfl) (fun _ => ⟨rfl, rfl⟩) (fun _ => rfl) (fun _ => rfl) (by decide) (by decide) (by decide) (by omega) (by omega) (fun q0 h1 ha1 B1 => ?_)
  have A1 : Al h h1 a (cat 0 (fun _ => 0) (fun _ => q0)) [.inl (ar 3, 200, .inl (fun _ => 0))] := A0.trans B1
  refine r_aload_n eX5_init_13 rfl ?_
  refine r_iconst (v := (-1)) eX5_init_14 (by decide) ?_
  refine r_putk (fs2 := [.ref q0, .int 0, .int 0, .int (-1), .null, .int 0, .int 0, .int 0, .int 0, .int 0, .int 0, .int 0, .int 0, .int 0]) eX5_init_15 p_5_15 ha1 (Nat.le_of_ble_eq_true rfl) (by first | rfl | decide) rfl (fun q => by first | rfl | cases q) rfl (fun h2 ha2 hk2 => ?_)
  have A2 : Al h h2 a (cat 0 (fun _ => 0) (fun _ => q0)) [.inl (ar 3, 200, .inl (fun _ => 0))] := A1.put hk2
  refine r_aload_n eX5_init_18 rfl ?_
  refine r_bipush (v := 40) eX5_init_19 (by decide) ?_
  refine r_mki (N := 40) (fs2 := fun q => [.ref q0, .int 0, .int 0, .int (-1), .ref q, .int 0, .int 0, .int 0, .int 0, .int 0, .int 0, .int 0, .int 0, .int 0]) eX5_init_21 eX5_init_23 p_5_19 ha2 (Nat.le_of_ble_eq_true rfl) (fun _ => ⟨rfl, rfl⟩) (fun _ => rfl) (fun _ => rfl) (by decide) (by decide) (by decide) (by omega) (by omega) (fun q1 h3 ha3 B3 => ?_)
  have A3 : Al h h3 a (cat 1 (cat 0 (fun _ => 0) (fun _ => q0)) (fun _ => q1)) [.inl (ar 3, 200, .inl (fun _ => 0)), .inl (ar 0, 40, .inl (fun _ => 0))] := A2.trans B3
  exact r_vret eX5_init_26 rfl ⟨rfl, _, A3, ha3⟩
theorem c_X7_init {a b0 : Nat} (ha : h a = some (.inr (7, [.null, .int 0, .null, .null, .int 0, .null, .null, .null, .int 0, .int 0, .long 0]))) (hm : 5 ≤ mc) (hs : 481 ≤ ms) : CT ar ro sa mX7_init d [.ref a, .ref b0] h mc ms (Ex (fun v h' => v = none ∧ ∃ r : Nat → Nat, Al h h' a r [.inl (ar 0, 120, .inl (fun _ => 0)), .inl (ar 1, 120, .inr (.inl (fun _ => 0))), .inl (ar 0, 120, .inl (fun _ => 0)), .inl (ar 1, 120, .inr (.inl (fun _ => 0))), .inl (ar 0, 1, .inl (fun _ => 0))] ∧ h' a = some (.inr (7, fsX7 (fun i => [(b0)].getD i 0) (fun i => [(r 0), (r 1), (r 2), (r 3), (r 4)].getD i 0) (fun i => [(0 : Int32), (0 : Int32), (0 : Int32), (0 : Int32)].getD i 0) (fun _ => 0)))) No) := by
  show WP ar ro sa mX7_init _ 0 [some (.ref a), some (.ref b0)] [] h mc ms _
  have A0 : Al h h a (fun _ => 0) [] := Al.nil
  refine r_aload_n eX7_init_0 rfl ?_
  refine r_objinit eX7_init_1 ob_7 ob1 ob2 (by decide) ?_
  refine r_aload_n eX7_init_4 rfl ?_
  refine r_bipush (v := 120) eX7_init_5 (by decide) ?_
  refine r_mki (N := 120) (fs2 := fun q => [.null, .int 0, .ref q, .null, .int 0, .null, .null, .null, .int 0, .int 0, .long 0]) eX7_init_7 eX7_init_9 p_7_9 ha (Nat.le_of_ble_eq_true rfl) (fun _ => ⟨rfl, rfl⟩) (fun _ => rfl) (fun _ => rfl) (by decide) (by decide) (by decide) (by omega) (by omega) (fun q0 h1 ha1 B1 => ?_)
  have A1 : Al h h1 a (cat 0 (fun _ => 0) (fun _ => q0)) [.inl (ar 0, 120, .inl (fun _ => 0))] := A0.trans B1
  refine r_aload_n eX7_init_12 rfl ?_
  refine r_bipush (v := 120) eX7_init_13 (by decide) ?_
  refine r_mkl (N := 120) (fs2 := fun q => [.null, .int 0, .ref q0, .ref q, .int 0, .null, .null, .null, .int 0, .int 0, .long 0]) eX7_init_15 eX7_init_17 p_7_15 ha1 (Nat.le_of_ble_eq_true rfl) (fun _ => ⟨rfl, rfl⟩) (fun _ => rfl) (fun _ => rfl) (by decide) (by decide) (by decide) (by omega) (by omega) (fun q1 h2 ha2 B2 => ?_)
  have A2 : Al h h2 a (cat 1 (cat 0 (fun _ => 0) (fun _ => q0)) (fun _ => q1)) [.inl (ar 0, 120, .inl (fun _ => 0)), .inl (ar 1, 120, .inr (.inl (fun _ => 0)))] := A1.trans B2
  refine r_aload_n eX7_init_20 rfl ?_
  refine r_bipush (v := 120) eX7_init_21 (by decide) ?_
  refine r_mki (N := 120) (fs2 := fun q => [.null, .int 0, .ref q0, .ref q1, .int 0, .ref q, .null, .null, .int 0, .int 0, .long 0]) eX7_init_23 eX7_init_25 p_7_19 ha2 (Nat.le_of_ble_eq_true rfl) (fun _ => ⟨rfl, rfl⟩) (fun _ => rfl) (fun _ => rfl) (by decide) (by decide) (by decide) (by omega) (by omega) (fun q2 h3 ha3 B3 => ?_)
  have A3 : Al h h3 a (cat 2 (cat 1 (cat 0 (fun _ => 0) (fun _ => q0)) (fun _ => q1)) (fun _ => q2)) [.inl (ar 0, 120, .inl (fun _ => 0)), .inl (ar 1, 120, .inr (.inl (fun _ => 0))), .inl (ar 0, 120, .inl (fun _ => 0))] := A2.trans B3
  refine r_aload_n eX7_init_28 rfl ?_
  refine r_bipush (v := 120) eX7_init_29 (by decide) ?_
  refine r_mkl (N := 120) (fs2 := fun q => [.null, .int 0, .ref q0, .ref q1, .int 0, .ref q2, .ref q, .null, .int 0, .int 0, .long 0]) eX7_init_31 eX7_init_33 p_7_22 ha3 (Nat.le_of_ble_eq_true rfl) (fun _ => ⟨rfl, rfl⟩) (fun _ => rfl) (fun _ => rfl) (by decide) (by decide) (by decide) (by omega) (by omega) (fun q3 h4 ha4 B4 => ?_)
  have A4 : Al h h4 a (cat 3 (cat 2 (cat 1 (cat 0 (fun _ => 0) (fun _ => q0)) (fun _ => q1)) (fun _ => q2)) (fun _ => q3)) [.inl (ar 0, 120, .inl (fun _ => 0)), .inl (ar 1, 120, .inr (.inl (fun _ => 0))), .inl (ar 0, 120, .inl (fun _ => 0)), .inl (ar 1, 120, .inr (.inl (fun _ => 0)))] := A3.trans B4
  refine r_aload_n eX7_init_36 rfl ?_
  refine r_iconst (v := 1) eX7_init_37 (by decide) ?_
  refine r_mki (N := 1) (fs2 := fun q => [.null, .int 0, .ref q0, .ref q1, .int 0, .ref q2, .ref q3, .ref q, .int 0, .int 0, .long 0]) eX7_init_38 eX7_init_40 p_7_25 ha4 (Nat.le_of_ble_eq_true rfl) (fun _ => ⟨rfl, rfl⟩) (fun _ => rfl) (fun _ => rfl) (by decide) (by decide) (by decide) (by omega) (by omega) (fun q4 h5 ha5 B5 => ?_)
  have A5 : Al h h5 a (cat 4 (cat 3 (cat 2 (cat 1 (cat 0 (fun _ => 0) (fun _ => q0)) (fun _ => q1)) (fun _ => q2)) (fun _ => q3)) (fun _ => q4)) [.inl (ar 0, 120, .inl (fun _ => 0)), .inl (ar 1, 120, .inr (.inl (fun _ => 0))), .inl (ar 0, 120, .inl (fun _ => 0)), .inl (ar 1, 120, .inr (.inl (fun _ => 0))), .inl (ar 0, 1, .inl (fun _ => 0))] := A4.trans B5
  refine r_aload_n eX7_init_43 rfl ?_
  refine r_aload_n eX7_init_44 rfl ?_
  refine r_putk (fs2 := [.ref b0, .int 0, .ref q0, .ref q1, .int 0, .ref q2, .ref q3, .ref q4, .int 0, .int 0, .long 0]) eX7_init_45 p_7_28 ha5 (Nat.le_of_ble_eq_true rfl) (by first | rfl | decide) rfl (fun q => by first | rfl | cases q) rfl (fun h6 ha6 hk6 => ?_)
  have A6 : Al h h6 a (cat 4 (cat 3 (cat 2 (cat 1 (cat 0 (fun _ => 0) (fun _ => q0)) (fun _ => q1)) (fun _ => q2)) (fun _ => q3)) (fun _ => q4)) [.inl (ar 0, 120, .inl (fun _ => 0)), .inl (ar 1, 120, .inr (.inl (fun _ => 0))), .inl (ar 0, 120, .inl (fun _ => 0)), .inl (ar 1, 120, .inr (.inl (fun _ => 0))), .inl (ar 0, 1, .inl (fun _ => 0))] := A5.put hk6
  exact r_vret eX7_init_48 rfl ⟨rfl, _, A6, ha6⟩
theorem c_X10_init {a b0 : Nat} (ha : h a = some (.inr (10, [.null, .int 0, .int 0, .int 0, .long 0, .null, .null, .null, .null, .null, .null, .null]))) (hm : 7 ≤ mc) (hs : 2306 ≤ ms) : CT ar ro sa mX10_init d [.ref a, .ref b0] h mc ms (Ex (fun v h' => v = none ∧ ∃ r : Nat → Nat, Al h h' a r [.inl (ar 1, 2, .inr (.inl (fun _ => 0))), .inl (ar 1, 80, .inr (.inl (fun _ => 0))), .inl (ar 1, 40, .inr (.inl (fun _ => 0))), .inl (ar 1, 12, .inr (.inl (fun _ => 0))), .inl (ar 1, 12, .inr (.inl (fun _ => 0))), .inl (ar 2, 240, .inl (fun _ => 0)), .inl (ar 1, 1920, .inr (.inl (fun _ => 0)))] ∧ h' a = some (.inr (10, fsX10 (fun i => [(b0)].getD i 0) (fun i => [(r 0), (r 1), (r 2), (r 3), (r 4), (r 5), (r 6)].getD i 0) (fun i => [((0) : Int32), ((-1) : Int32), ((1) : Int32)].getD i 0) (fun _ => 0)))) No) := by
  show WP ar ro sa mX10_init _ 0 [some (.ref a), some (.ref b0)] [] h mc ms _
  have A0 : Al h h a (fun _ => 0) [] := Al.nil
  refine r_aload_n eX10_init_0 rfl ?_
  refine r_objinit eX10_init_1 ob_10 ob1 ob2 (by decide) ?_
  refine r_aload_n eX10_init_4 rfl ?_
  refine r_iconst (v := 0) eX10_init_5 (by decide) ?_
  refine r_putk (fs2 := [.null, .int (0), .int 0, .int 0, .long 0, .null, .null, .null, .null, .null, .null, .null]) eX10_init_6 p_10_9 ha (Nat.le_of_ble_eq_true rfl) (by first | rfl | decide) rfl (fun q => by first | rfl | cases q) rfl (fun h1 ha1 hk1 => ?_)
  have A1 : Al h h1 a (fun _ => 0) [] := A0.put hk1
  refine r_aload_n eX10_init_9 rfl ?_
  refine r_iconst (v := (-1)) eX10_init_10 (by decide) ?_
  refine r_putk (fs2 := [.null, .int (0), .int (-1), .int 0, .long 0, .null, .null, .null, .null, .null, .null, .null]) eX10_init_11 p_10_15 ha1 (Nat.le_of_ble_eq_true rfl) (by first | rfl | decide) rfl (fun q => by first | rfl | cases q) rfl (fun h2 ha2 hk2 => ?_)
  have A2 : Al h h2 a (fun _ => 0) [] := A1.put hk2
  refine r_aload_n eX10_init_14 rfl ?_
  refine r_iconst (v := 1) eX10_init_15 (by decide) ?_
  refine r_putk (fs2 := [.null, .int (0), .int (-1), .int (1), .long 0, .null, .null, .null, .null, .null, .null, .null]) eX10_init_16 p_10_18 ha2 (Nat.le_of_ble_eq_true rfl) (by first | rfl | decide) rfl (fun q => by first | rfl | cases q) rfl (fun h3 ha3 hk3 => ?_)
  have A3 : Al h h3 a (fun _ => 0) [] := A2.put hk3
  refine r_aload_n eX10_init_19 rfl ?_
  refine r_iconst (v := 2) eX10_init_20 (by decide) ?_
  refine r_mkl (N := 2) (fs2 := fun q => [.null, .int (0), .int (-1), .int (1), .long 0, .ref q, .null, .null, .null, .null, .null, .null]) eX10_init_21 eX10_init_23 p_10_22 ha3 (Nat.le_of_ble_eq_true rfl) (fun _ => ⟨rfl, rfl⟩) (fun _ => rfl) (fun _ => rfl) (by decide) (by decide) (by decide) (by omega) (by omega) (fun q0 h4 ha4 B4 => ?_)
  have A4 : Al h h4 a (cat 0 (fun _ => 0) (fun _ => q0)) [.inl (ar 1, 2, .inr (.inl (fun _ => 0)))] := A3.trans B4
  refine r_aload_n eX10_init_26 rfl ?_
  refine r_bipush (v := 80) eX10_init_27 (by decide) ?_
  refine r_mkl (N := 80) (fs2 := fun q => [.null, .int (0), .int (-1), .int (1), .long 0, .ref q0, .ref q, .null, .null, .null, .null, .null]) eX10_init_29 eX10_init_31 p_10_26 ha4 (Nat.le_of_ble_eq_true rfl) (fun _ => ⟨rfl, rfl⟩) (fun _ => rfl) (fun _ => rfl) (by decide) (by decide) (by decide) (by omega) (by omega) (fun q1 h5 ha5 B5 => ?_)
  have A5 : Al h h5 a (cat 1 (cat 0 (fun _ => 0) (fun _ => q0)) (fun _ => q1)) [.inl (ar 1, 2, .inr (.inl (fun _ => 0))), .inl (ar 1, 80, .inr (.inl (fun _ => 0)))] := A4.trans B5
  refine r_aload_n eX10_init_34 rfl ?_
  refine r_bipush (v := 40) eX10_init_35 (by decide) ?_
  refine r_mkl (N := 40) (fs2 := fun q => [.null, .int (0), .int (-1), .int (1), .long 0, .ref q0, .ref q1, .ref q, .null, .null, .null, .null]) eX10_init_37 eX10_init_39 p_10_29 ha5 (Nat.le_of_ble_eq_true rfl) (fun _ => ⟨rfl, rfl⟩) (fun _ => rfl) (fun _ => rfl) (by decide) (by decide) (by decide) (by omega) (by omega) (fun q2 h6 ha6 B6 => ?_)
  have A6 : Al h h6 a (cat 2 (cat 1 (cat 0 (fun _ => 0) (fun _ => q0)) (fun _ => q1)) (fun _ => q2)) [.inl (ar 1, 2, .inr (.inl (fun _ => 0))), .inl (ar 1, 80, .inr (.inl (fun _ => 0))), .inl (ar 1, 40, .inr (.inl (fun _ => 0)))] := A5.trans B6
  refine r_aload_n eX10_init_42 rfl ?_
  refine r_bipush (v := 12) eX10_init_43 (by decide) ?_
  refine r_mkl (N := 12) (fs2 := fun q => [.null, .int (0), .int (-1), .int (1), .long 0, .ref q0, .ref q1, .ref q2, .ref q, .null, .null, .null]) eX10_init_45 eX10_init_47 p_10_32 ha6 (Nat.le_of_ble_eq_true rfl) (fun _ => ⟨rfl, rfl⟩) (fun _ => rfl) (fun _ => rfl) (by decide) (by decide) (by decide) (by omega) (by omega) (fun q3 h7 ha7 B7 => ?_)
  have A7 : Al h h7 a (cat 3 (cat 2 (cat 1 (cat 0 (fun _ => 0) (fun _ => q0)) (fun _ => q1)) (fun _ => q2)) (fun _ => q3)) [.inl (ar 1, 2, .inr (.inl (fun _ => 0))), .inl (ar 1, 80, .inr (.inl (fun _ => 0))), .inl (ar 1, 40, .inr (.inl (fun _ => 0))), .inl (ar 1, 12, .inr (.inl (fun _ => 0)))] := A6.trans B7
  refine r_aload_n eX10_init_50 rfl ?_
  refine r_bipush (v := 12) eX10_init_51 (by decide) ?_
  refine r_mkl (N := 12) (fs2 := fun q => [.null, .int (0), .int (-1), .int (1), .long 0, .ref q0, .ref q1, .ref q2, .ref q3, .ref q, .null, .null]) eX10_init_53 eX10_init_55 p_10_35 ha7 (Nat.le_of_ble_eq_true rfl) (fun _ => ⟨rfl, rfl⟩) (fun _ => rfl) (fun _ => rfl) (by decide) (by decide) (by decide) (by omega) (by omega) (fun q4 h8 ha8 B8 => ?_)
  have A8 : Al h h8 a (cat 4 (cat 3 (cat 2 (cat 1 (cat 0 (fun _ => 0) (fun _ => q0)) (fun _ => q1)) (fun _ => q2)) (fun _ => q3)) (fun _ => q4)) [.inl (ar 1, 2, .inr (.inl (fun _ => 0))), .inl (ar 1, 80, .inr (.inl (fun _ => 0))), .inl (ar 1, 40, .inr (.inl (fun _ => 0))), .inl (ar 1, 12, .inr (.inl (fun _ => 0))), .inl (ar 1, 12, .inr (.inl (fun _ => 0)))] := A7.trans B8
  refine r_aload_n eX10_init_58 rfl ?_
  refine r_sipush (v := 240) eX10_init_59 (by decide) ?_
  refine r_mkz (N := 240) (fs2 := fun q => [.null, .int (0), .int (-1), .int (1), .long 0, .ref q0, .ref q1, .ref q2, .ref q3, .ref q4, .ref q, .null]) eX10_init_62 eX10_init_64 p_10_38 ha8 (Nat.le_of_ble_eq_true rfl) (fun _ => ⟨rfl, rfl⟩) (fun _ => rfl) (fun _ => rfl) (by decide) (by decide) (by decide) (by omega) (by omega) (fun q5 h9 ha9 B9 => ?_)
  have A9 : Al h h9 a (cat 5 (cat 4 (cat 3 (cat 2 (cat 1 (cat 0 (fun _ => 0) (fun _ => q0)) (fun _ => q1)) (fun _ => q2)) (fun _ => q3)) (fun _ => q4)) (fun _ => q5)) [.inl (ar 1, 2, .inr (.inl (fun _ => 0))), .inl (ar 1, 80, .inr (.inl (fun _ => 0))), .inl (ar 1, 40, .inr (.inl (fun _ => 0))), .inl (ar 1, 12, .inr (.inl (fun _ => 0))), .inl (ar 1, 12, .inr (.inl (fun _ => 0))), .inl (ar 2, 240, .inl (fun _ => 0))] := A8.trans B9
  refine r_aload_n eX10_init_67 rfl ?_
  refine r_sipush (v := 1920) eX10_init_68 (by decide) ?_
  refine r_mkl (N := 1920) (fs2 := fun q => [.null, .int (0), .int (-1), .int (1), .long 0, .ref q0, .ref q1, .ref q2, .ref q3, .ref q4, .ref q5, .ref q]) eX10_init_71 eX10_init_73 p_10_42 ha9 (Nat.le_of_ble_eq_true rfl) (fun _ => ⟨rfl, rfl⟩) (fun _ => rfl) (fun _ => rfl) (by decide) (by decide) (by decide) (by omega) (by omega) (fun q6 h10 ha10 B10 => ?_)
  have A10 : Al h h10 a (cat 6 (cat 5 (cat 4 (cat 3 (cat 2 (cat 1 (cat 0 (fun _ => 0) (fun _ => q0)) (fun _ => q1)) (fun _ => q2)) (fun _ => q3)) (fun _ => q4)) (fun _ => q5)) (fun _ => q6)) [.inl (ar 1, 2, .inr (.inl (fun _ => 0))), .inl (ar 1, 80, .inr (.inl (fun _ => 0))), .inl (ar 1, 40, .inr (.inl (fun _ => 0))), .inl (ar 1, 12, .inr (.inl (fun _ => 0))), .inl (ar 1, 12, .inr (.inl (fun _ => 0))), .inl (ar 2, 240, .inl (fun _ => 0)), .inl (ar 1, 1920, .inr (.inl (fun _ => 0)))] := A9.trans B10
  refine r_aload_n eX10_init_76 rfl ?_
  refine r_aload_n eX10_init_77 rfl ?_
  refine r_putk (fs2 := [.ref b0, .int (0), .int (-1), .int (1), .long 0, .ref q0, .ref q1, .ref q2, .ref q3, .ref q4, .ref q5, .ref q6]) eX10_init_78 p_10_45 ha10 (Nat.le_of_ble_eq_true rfl) (by first | rfl | decide) rfl (fun q => by first | rfl | cases q) rfl (fun h11 ha11 hk11 => ?_)
  have A11 : Al h h11 a (cat 6 (cat 5 (cat 4 (cat 3 (cat 2 (cat 1 (cat 0 (fun _ => 0) (fun _ => q0)) (fun _ => q1)) (fun _ => q2)) (fun _ => q3)) (fun _ => q4)) (fun _ => q5)) (fun _ => q6)) [.inl (ar 1, 2, .inr (.inl (fun _ => 0))), .inl (ar 1, 80, .inr (.inl (fun _ => 0))), .inl (ar 1, 40, .inr (.inl (fun _ => 0))), .inl (ar 1, 12, .inr (.inl (fun _ => 0))), .inl (ar 1, 12, .inr (.inl (fun _ => 0))), .inl (ar 2, 240, .inl (fun _ => 0)), .inl (ar 1, 1920, .inr (.inl (fun _ => 0)))] := A10.put hk11
  exact r_vret eX10_init_81 rfl ⟨rfl, _, A11, ha11⟩
theorem c_X2_init {a : Nat} (ha : h a = some (.inr (2, [.int 0, .null, .int 0, .null, .null, .null, .null, .null]))) (hm : 6 ≤ mc) (hs : 112 ≤ ms) : CT ar ro sa mX2_init d [.ref a] h mc ms (Ex (fun v h' => v = none ∧ ∃ r : Nat → Nat, Al h h' a r [.inl (ar 0, 72, .inl (fun _ => 0)), .inl (ar 0, 8, .inl (fun _ => 0)), .inl (ar 0, 8, .inl (fun _ => 0)), .inl (ar 2, 8, .inl (fun _ => 0)), .inl (ar 2, 8, .inl (fun _ => 0)), .inl (ar 0, 8, .inl (fun _ => 0))] ∧ h' a = some (.inr (2, fsX2 (fun i => [].getD i 0) (fun i => [(r 0), (r 1), (r 2), (r 3), (r 4), (r 5)].getD i 0) (fun i => [(0 : Int32), (0 : Int32)].getD i 0) (fun _ => 0)))) No) := by
  show WP ar ro sa mX2_init _ 0 [some (.ref a)] [] h mc ms _
  have A0 : Al h h a (fun _ => 0) [] := Al.nil
  refine r_aload_n eX2_init_0 rfl ?_
  refine r_objinit eX2_init_1 ob_2 ob1 ob2 (by decide) ?_
  refine r_aload_n eX2_init_4 rfl ?_
  refine r_bipush (v := 72) eX2_init_5 (by decide) ?_
  refine r_mki (N := 72) (fs2 := fun q => [.int 0, .ref q, .int 0, .null, .null, .null, .null, .null]) eX2_init_7 eX2_init_9 p_2_9 ha (Nat.le_of_ble_eq_true rfl) (fun _ => ⟨rfl, rfl⟩) (fun _ => rfl) (fun _ => rfl) (by decide) (by decide) (by decide) (by omega) (by omega) (fun q0 h1 ha1 B1 => ?_)
  have A1 : Al h h1 a (cat 0 (fun _ => 0) (fun _ => q0)) [.inl (ar 0, 72, .inl (fun _ => 0))] := A0.trans B1
  refine r_aload_n eX2_init_12 rfl ?_
  refine r_bipush (v := 8) eX2_init_13 (by decide) ?_
  refine r_mki (N := 8) (fs2 := fun q => [.int 0, .ref q0, .int 0, .ref q, .null, .null, .null, .null]) eX2_init_15 eX2_init_17 p_2_15 ha1 (Nat.le_of_ble_eq_true rfl) (fun _ => ⟨rfl, rfl⟩) (fun _ => rfl) (fun _ => rfl) (by decide) (by decide) (by decide) (by omega) (by omega) (fun q1 h2 ha2 B2 => ?_)
  have A2 : Al h h2 a (cat 1 (cat 0 (fun _ => 0) (fun _ => q0)) (fun _ => q1)) [.inl (ar 0, 72, .inl (fun _ => 0)), .inl (ar 0, 8, .inl (fun _ => 0))] := A1.trans B2
  refine r_aload_n eX2_init_20 rfl ?_
  refine r_bipush (v := 8) eX2_init_21 (by decide) ?_
  refine r_mki (N := 8) (fs2 := fun q => [.int 0, .ref q0, .int 0, .ref q1, .ref q, .null, .null, .null]) eX2_init_23 eX2_init_25 p_2_18 ha2 (Nat.le_of_ble_eq_true rfl) (fun _ => ⟨rfl, rfl⟩) (fun _ => rfl) (fun _ => rfl) (by decide) (by decide) (by decide) (by omega) (by omega) (fun q2 h3 ha3 B3 => ?_)
  have A3 : Al h h3 a (cat 2 (cat 1 (cat 0 (fun _ => 0) (fun _ => q0)) (fun _ => q1)) (fun _ => q2)) [.inl (ar 0, 72, .inl (fun _ => 0)), .inl (ar 0, 8, .inl (fun _ => 0)), .inl (ar 0, 8, .inl (fun _ => 0))] := A2.trans B3
  refine r_aload_n eX2_init_28 rfl ?_
  refine r_bipush (v := 8) eX2_init_29 (by decide) ?_
  refine r_mkz (N := 8) (fs2 := fun q => [.int 0, .ref q0, .int 0, .ref q1, .ref q2, .ref q, .null, .null]) eX2_init_31 eX2_init_33 p_2_21 ha3 (Nat.le_of_ble_eq_true rfl) (fun _ => ⟨rfl, rfl⟩) (fun _ => rfl) (fun _ => rfl) (by decide) (by decide) (by decide) (by omega) (by omega) (fun q3 h4 ha4 B4 => ?_)
  have A4 : Al h h4 a (cat 3 (cat 2 (cat 1 (cat 0 (fun _ => 0) (fun _ => q0)) (fun _ => q1)) (fun _ => q2)) (fun _ => q3)) [.inl (ar 0, 72, .inl (fun _ => 0)), .inl (ar 0, 8, .inl (fun _ => 0)), .inl (ar 0, 8, .inl (fun _ => 0)), .inl (ar 2, 8, .inl (fun _ => 0))] := A3.trans B4
  refine r_aload_n eX2_init_36 rfl ?_
  refine r_bipush (v := 8) eX2_init_37 (by decide) ?_
  refine r_mkz (N := 8) (fs2 := fun q => [.int 0, .ref q0, .int 0, .ref q1, .ref q2, .ref q3, .ref q, .null]) eX2_init_39 eX2_init_41 p_2_25 ha4 (Nat.le_of_ble_eq_true rfl) (fun _ => ⟨rfl, rfl⟩) (fun _ => rfl) (fun _ => rfl) (by decide) (by decide) (by decide) (by omega) (by omega) (fun q4 h5 ha5 B5 => ?_)
  have A5 : Al h h5 a (cat 4 (cat 3 (cat 2 (cat 1 (cat 0 (fun _ => 0) (fun _ => q0)) (fun _ => q1)) (fun _ => q2)) (fun _ => q3)) (fun _ => q4)) [.inl (ar 0, 72, .inl (fun _ => 0)), .inl (ar 0, 8, .inl (fun _ => 0)), .inl (ar 0, 8, .inl (fun _ => 0)), .inl (ar 2, 8, .inl (fun _ => 0)), .inl (ar 2, 8, .inl (fun _ => 0))] := A4.trans B5
  refine r_aload_n eX2_init_44 rfl ?_
  refine r_bipush (v := 8) eX2_init_45 (by decide) ?_
  refine r_mki (N := 8) (fs2 := fun q => [.int 0, .ref q0, .int 0, .ref q1, .ref q2, .ref q3, .ref q4, .ref q]) eX2_init_47 eX2_init_49 p_2_28 ha5 (Nat.le_of_ble_eq_true rfl) (fun _ => ⟨rfl, rfl⟩) (fun _ => rfl) (fun _ => rfl) (by decide) (by decide) (by decide) (by omega) (by omega) (fun q5 h6 ha6 B6 => ?_)
  have A6 : Al h h6 a (cat 5 (cat 4 (cat 3 (cat 2 (cat 1 (cat 0 (fun _ => 0) (fun _ => q0)) (fun _ => q1)) (fun _ => q2)) (fun _ => q3)) (fun _ => q4)) (fun _ => q5)) [.inl (ar 0, 72, .inl (fun _ => 0)), .inl (ar 0, 8, .inl (fun _ => 0)), .inl (ar 0, 8, .inl (fun _ => 0)), .inl (ar 2, 8, .inl (fun _ => 0)), .inl (ar 2, 8, .inl (fun _ => 0)), .inl (ar 0, 8, .inl (fun _ => 0))] := A5.trans B6
  exact r_vret eX2_init_52 rfl ⟨rfl, _, A6, ha6⟩
theorem c_X0_init {a : Nat} (ha : h a = some (.inr (0, [.int 0, .null, .null, .null, .null, .int 0, .null, .null, .null, .null, .null]))) (hm : 9 ≤ mc) (hs : 666 ≤ ms) : CT ar ro sa mX0_init d [.ref a] h mc ms (Ex (fun v h' => v = none ∧ ∃ r : Nat → Nat, Al h h' a r [.inl (ar 0, 12, .inl (fun _ => 0)), .inl (ar 0, 12, .inl (fun _ => 0)), .inl (ar 0, 12, .inl (fun _ => 0)), .inl (ar 0, 480, .inl (fun _ => 0)), .inl (ar 0, 30, .inl (fun _ => 0)), .inl (ar 0, 30, .inl (fun _ => 0)), .inl (ar 0, 30, .inl (fun _ => 0)), .inl (ar 0, 30, .inl (fun _ => 0)), .inl (ar 0, 30, .inl (fun _ => 0))] ∧ h' a = some (.inr (0, fsX0 (fun i => [].getD i 0) (fun i => [(r 0), (r 1), (r 2), (r 3), (r 4), (r 5), (r 6), (r 7), (r 8)].getD i 0) (fun i => [(0 : Int32), (0 : Int32)].getD i 0) (fun _ => 0)))) No) := by
  show WP ar ro sa mX0_init _ 0 [some (.ref a)] [] h mc ms _
  have A0 : Al h h a (fun _ => 0) [] := Al.nil
  refine r_aload_n eX0_init_0 rfl ?_
  refine r_objinit eX0_init_1 ob_0 ob1 ob2 (by decide) ?_
  refine r_aload_n eX0_init_4 rfl ?_
  refine r_bipush (v := 12) eX0_init_5 (by decide) ?_
  refine r_mki (N := 12) (fs2 := fun q => [.int 0, .ref q, .null, .null, .null, .int 0, .null, .null, .null, .null, .null]) eX0_init_7 eX0_init_9 p_0_9 ha (Nat.le_of_ble_eq_true rfl) (fun _ => ⟨rfl, rfl⟩) (fun _ => rfl) (fun _ => rfl) (by decide) (by decide) (by decide) (by omega) (by omega) (fun q0 h1 ha1 B1 => ?_)
  have A1 : Al h h1 a (cat 0 (fun _ => 0) (fun _ => q0)) [.inl (ar 0, 12, .inl (fun _ => 0))] := A0.trans B1
  refine r_aload_n eX0_init_12 rfl ?_
  refine r_bipush (v := 12) eX0_init_13 (by decide) ?_
  refine r_mki (N := 12) (fs2 := fun q => [.int 0, .ref q0, .ref q, .null, .null, .int 0, .null, .null, .null, .null, .null]) eX0_init_15 eX0_init_17 p_0_15 ha1 (Nat.le_of_ble_eq_true rfl) (fun _ => ⟨rfl, rfl⟩) (fun _ => rfl) (fun _ => rfl) (by decide) (by decide) (by decide) (by omega) (by omega) (fun q1 h2 ha2 B2 => ?_)
  have A2 : Al h h2 a (cat 1 (cat 0 (fun _ => 0) (fun _ => q0)) (fun _ => q1)) [.inl (ar 0, 12, .inl (fun _ => 0)), .inl (ar 0, 12, .inl (fun _ => 0))] := A1.trans B2
  refine r_aload_n eX0_init_20 rfl ?_
  refine r_bipush (v := 12) eX0_init_21 (by decide) ?_
  refine r_mki (N := 12) (fs2 := fun q => [.int 0, .ref q0, .ref q1, .ref q, .null, .int 0, .null, .null, .null, .null, .null]) eX0_init_23 eX0_init_25 p_0_18 ha2 (Nat.le_of_ble_eq_true rfl) (fun _ => ⟨rfl, rfl⟩) (fun _ => rfl) (fun _ => rfl) (by decide) (by decide) (by decide) (by omega) (by omega) (fun q2 h3 ha3 B3 => ?_)
  have A3 : Al h h3 a (cat 2 (cat 1 (cat 0 (fun _ => 0) (fun _ => q0)) (fun _ => q1)) (fun _ => q2)) [.inl (ar 0, 12, .inl (fun _ => 0)), .inl (ar 0, 12, .inl (fun _ => 0)), .inl (ar 0, 12, .inl (fun _ => 0))] := A2.trans B3
  refine r_aload_n eX0_init_28 rfl ?_
  refine r_sipush (v := 480) eX0_init_29 (by decide) ?_
  refine r_mki (N := 480) (fs2 := fun q => [.int 0, .ref q0, .ref q1, .ref q2, .ref q, .int 0, .null, .null, .null, .null, .null]) eX0_init_32 eX0_init_34 p_0_21 ha3 (Nat.le_of_ble_eq_true rfl) (fun _ => ⟨rfl, rfl⟩) (fun _ => rfl) (fun _ => rfl) (by decide) (by decide) (by decide) (by omega) (by omega) (fun q3 h4 ha4 B4 => ?_)
  have A4 : Al h h4 a (cat 3 (cat 2 (cat 1 (cat 0 (fun _ => 0) (fun _ => q0)) (fun _ => q1)) (fun _ => q2)) (fun _ => q3)) [.inl (ar 0, 12, .inl (fun _ => 0)), .inl (ar 0, 12, .inl (fun _ => 0)), .inl (ar 0, 12, .inl (fun _ => 0)), .inl (ar 0, 480, .inl (fun _ => 0))] := A3.trans B4
  refine r_aload_n eX0_init_37 rfl ?_
  refine r_bipush (v := 30) eX0_init_38 (by decide) ?_
  refine r_mki (N := 30) (fs2 := fun q => [.int 0, .ref q0, .ref q1, .ref q2, .ref q3, .int 0, .ref q, .null, .null, .null, .null]) eX0_init_40 eX0_init_42 p_0_24 ha4 (Nat.le_of_ble_eq_true rfl) (fun _ => ⟨rfl, rfl⟩) (fun _ => rfl) (fun _ => rfl) (by decide) (by decide) (by decide) (by omega) (by omega) (fun q4 h5 ha5 B5 => ?_)
  have A5 : Al h h5 a (cat 4 (cat 3 (cat 2 (cat 1 (cat 0 (fun _ => 0) (fun _ => q0)) (fun _ => q1)) (fun _ => q2)) (fun _ => q3)) (fun _ => q4)) [.inl (ar 0, 12, .inl (fun _ => 0)), .inl (ar 0, 12, .inl (fun _ => 0)), .inl (ar 0, 12, .inl (fun _ => 0)), .inl (ar 0, 480, .inl (fun _ => 0)), .inl (ar 0, 30, .inl (fun _ => 0))] := A4.trans B5
  refine r_aload_n eX0_init_45 rfl ?_
  refine r_bipush (v := 30) eX0_init_46 (by decide) ?_
  refine r_mki (N := 30) (fs2 := fun q => [.int 0, .ref q0, .ref q1, .ref q2, .ref q3, .int 0, .ref q4, .ref q, .null, .null, .null]) eX0_init_48 eX0_init_50 p_0_27 ha5 (Nat.le_of_ble_eq_true rfl) (fun _ => ⟨rfl, rfl⟩) (fun _ => rfl) (fun _ => rfl) (by decide) (by decide) (by decide) (by omega) (by omega) (fun q5 h6 ha6 B6 => ?_)
  have A6 : Al h h6 a (cat 5 (cat 4 (cat 3 (cat 2 (cat 1 (cat 0 (fun _ => 0) (fun _ => q0)) (fun _ => q1)) (fun _ => q2)) (fun _ => q3)) (fun _ => q4)) (fun _ => q5)) [.inl (ar 0, 12, .inl (fun _ => 0)), .inl (ar 0, 12, .inl (fun _ => 0)), .inl (ar 0, 12, .inl (fun _ => 0)), .inl (ar 0, 480, .inl (fun _ => 0)), .inl (ar 0, 30, .inl (fun _ => 0)), .inl (ar 0, 30, .inl (fun _ => 0))] := A5.trans B6
  refine r_aload_n eX0_init_53 rfl ?_
  refine r_bipush (v := 30) eX0_init_54 (by decide) ?_
  refine r_mki (N := 30) (fs2 := fun q => [.int 0, .ref q0, .ref q1, .ref q2, .ref q3, .int 0, .ref q4, .ref q5, .ref q, .null, .null]) eX0_init_56 eX0_init_58 p_0_30 ha6 (Nat.le_of_ble_eq_true rfl) (fun _ => ⟨rfl, rfl⟩) (fun _ => rfl) (fun _ => rfl) (by decide) (by decide) (by decide) (by omega) (by omega) (fun q6 h7 ha7 B7 => ?_)
  have A7 : Al h h7 a (cat 6 (cat 5 (cat 4 (cat 3 (cat 2 (cat 1 (cat 0 (fun _ => 0) (fun _ => q0)) (fun _ => q1)) (fun _ => q2)) (fun _ => q3)) (fun _ => q4)) (fun _ => q5)) (fun _ => q6)) [.inl (ar 0, 12, .inl (fun _ => 0)), .inl (ar 0, 12, .inl (fun _ => 0)), .inl (ar 0, 12, .inl (fun _ => 0)), .inl (ar 0, 480, .inl (fun _ => 0)), .inl (ar 0, 30, .inl (fun _ => 0)), .inl (ar 0, 30, .inl (fun _ => 0)), .inl (ar 0, 30, .inl (fun _ => 0))] := A6.trans B7
  refine r_aload_n eX0_init_61 rfl ?_
  refine r_bipush (v := 30) eX0_init_62 (by decide) ?_
  refine r_mki (N := 30) (fs2 := fun q => [.int 0, .ref q0, .ref q1, .ref q2, .ref q3, .int 0, .ref q4, .ref q5, .ref q6, .ref q, .null]) eX0_init_64 eX0_init_66 p_0_33 ha7 (Nat.le_of_ble_eq_true rfl) (fun _ => ⟨rfl, rfl⟩) (fun _ => rfl) (fun _ => rfl) (by decide) (by decide) (by decide) (by omega) (by omega) (fun q7 h8 ha8 B8 => ?_)
  have A8 : Al h h8 a (cat 7 (cat 6 (cat 5 (cat 4 (cat 3 (cat 2 (cat 1 (cat 0 (fun _ => 0) (fun _ => q0)) (fun _ => q1)) (fun _ => q2)) (fun _ => q3)) (fun _ => q4)) (fun _ => q5)) (fun _ => q6)) (fun _ => q7)) [.inl (ar 0, 12, .inl (fun _ => 0)), .inl (ar 0, 12, .inl (fun _ => 0)), .inl (ar 0, 12, .inl (fun _ => 0)), .inl (ar 0, 480, .inl (fun _ => 0)), .inl (ar 0, 30, .inl (fun _ => 0)), .inl (ar 0, 30, .inl (fun _ => 0)), .inl (ar 0, 30, .inl (fun _ => 0)), .inl (ar 0, 30, .inl (fun _ => 0))] := A7.trans B8
  refine r_aload_n eX0_init_69 rfl ?_
  refine r_bipush (v := 30) eX0_init_70 (by decide) ?_
  refine r_mki (N := 30) (fs2 := fun q => [.int 0, .ref q0, .ref q1, .ref q2, .ref q3, .int 0, .ref q4, .ref q5, .ref q6, .ref q7, .ref q]) eX0_init_72 eX0_init_74 p_0_36 ha8 (Nat.le_of_ble_eq_true rfl) (fun _ => ⟨rfl, rfl⟩) (fun _ => rfl) (fun _ => rfl) (by decide) (by decide) (by decide) (by omega) (by omega) (fun q8 h9 ha9 B9 => ?_)
  have A9 : Al h h9 a (cat 8 (cat 7 (cat 6 (cat 5 (cat 4 (cat 3 (cat 2 (cat 1 (cat 0 (fun _ => 0) (fun _ => q0)) (fun _ => q1)) (fun _ => q2)) (fun _ => q3)) (fun _ => q4)) (fun _ => q5)) (fun _ => q6)) (fun _ => q7)) (fun _ => q8)) [.inl (ar 0, 12, .inl (fun _ => 0)), .inl (ar 0, 12, .inl (fun _ => 0)), .inl (ar 0, 12, .inl (fun _ => 0)), .inl (ar 0, 480, .inl (fun _ => 0)), .inl (ar 0, 30, .inl (fun _ => 0)), .inl (ar 0, 30, .inl (fun _ => 0)), .inl (ar 0, 30, .inl (fun _ => 0)), .inl (ar 0, 30, .inl (fun _ => 0)), .inl (ar 0, 30, .inl (fun _ => 0))] := A8.trans B9
  exact r_vret eX0_init_77 rfl ⟨rfl, _, A9, ha9⟩
theorem c_X3_init {a : Nat} (ha : h a = some (.inr (3, [.int 0, .null, .null, .int 0, .null, .null, .null, .null, .null, .null, .null, .int 0, .null, .null, .null, .null, .null]))) (hm : 14 ≤ mc) (hs : 1000 ≤ ms) : CT ar ro sa mX3_init d [.ref a] h mc ms (Ex (fun v h' => v = none ∧ ∃ r : Nat → Nat, Al h h' a r [.inl (ar 0, 40, .inl (fun _ => 0)), .inl (ar 0, 40, .inl (fun _ => 0)), .inl (ar 0, 60, .inl (fun _ => 0)), .inl (ar 0, 60, .inl (fun _ => 0)), .inl (ar 0, 60, .inl (fun _ => 0)), .inl (ar 0, 60, .inl (fun _ => 0)), .inl (ar 0, 240, .inl (fun _ => 0)), .inl (ar 0, 120, .inl (fun _ => 0)), .inl (ar 0, 120, .inl (fun _ => 0)), .inl (ar 0, 40, .inl (fun _ => 0)), .inl (ar 0, 40, .inl (fun _ => 0)), .inl (ar 2, 40, .inl (fun _ => 0)), .inl (ar 0, 40, .inl (fun _ => 0)), .inl (ar 0, 40, .inl (fun _ => 0))] ∧ h' a = some (.inr (3, fsX3 (fun i => [].getD i 0) (fun i => [(r 0), (r 1), (r 2), (r 3), (r 4), (r 5), (r 6), (r 7), (r 8), (r 9), (r 10), (r 11), (r 12), (r 13)].getD i 0) (fun i => [(0 : Int32), (0 : Int32), (0 : Int32)].getD i 0) (fun _ => 0)))) No) := by
  show WP ar ro sa mX3_init _ 0 [some (.ref a)] [] h mc ms _
  have A0 : Al h h a (fun _ => 0) [] := Al.nil
  refine r_aload_n eX3_init_0 rfl ?_
  refine r_objinit eX3_init_1 ob_3 ob1 ob2 (by decide) ?_
  refine r_aload_n eX3_init_4 rfl ?_
  refine r_bipush (v := 40) eX3_init_5 (by decide) ?_
  refine r_mki (N := 40) (fs2 := fun q => [.int 0, .ref q, .null, .int 0, .null, .null, .null, .null, .null, .null, .null, .int 0, .null, .null, .null, .null, .null]) eX3_init_7 eX3_init_9 p_3_9 ha (Nat.le_of_ble_eq_true rfl) (fun _ => ⟨rfl, rfl⟩) (fun _ => rfl) (fun _ => rfl) (by decide) (by decide) (by decide) (by omega) (by omega) (fun q0 h1 ha1 B1 => ?_)
  have A1 : Al h h1 a (cat 0 (fun _ => 0) (fun _ => q0)) [.inl (ar 0, 40, .inl (fun _ => 0))] := A0.trans B1
  refine r_aload_n eX3_init_12 rfl ?_
  refine r_bipush (v := 40) eX3_init_13 (by decide) ?_
  refine r_mki (N := 40) (fs2 := fun q => [.int 0, .ref q0, .ref q, .int 0, .null, .null, .null, .null, .null, .null, .null, .int 0, .null, .null, .null, .null, .null]) eX3_init_15 eX3_init_17 p_3_15 ha1 (Nat.le_of_ble_eq_true rfl) (fun _ => ⟨rfl, rfl⟩) (fun _ => rfl) (fun _ => rfl) (by decide) (by decide) (by decide) (by omega) (by omega) (fun q1 h2 ha2 B2 => ?_)
  have A2 : Al h h2 a (cat 1 (cat 0 (fun _ => 0) (fun _ => q0)) (fun _ => q1)) [.inl (ar 0, 40, .inl (fun _ => 0)), .inl (ar 0, 40, .inl (fun _ => 0))] := A1.trans B2
  refine r_aload_n eX3_init_20 rfl ?_
  refine r_bipush (v := 60) eX3_init_21 (by decide) ?_
  refine r_mki (N := 60) (fs2 := fun q => [.int 0, .ref q0, .ref q1, .int 0, .ref q, .null, .null, .null, .null, .null, .null, .int 0, .null, .null, .null, .null, .null]) eX3_init_23 eX3_init_25 p_3_18 ha2 (Nat.le_of_ble_eq_true rfl) (fun _ => ⟨rfl, rfl⟩) (fun _ => rfl) (fun _ => rfl) (by decide) (by decide) (by decide) (by omega) (by omega) (fun q2 h3 ha3 B3 => ?_)
  have A3 : Al h h3 a (cat 2 (cat 1 (cat 0 (fun _ => 0) (fun _ => q0)) (fun _ => q1)) (fun _ => q2)) [.inl (ar 0, 40, .inl (fun _ => 0)), .inl (ar 0, 40, .inl (fun _ => 0)), .inl (ar 0, 60, .inl (fun _ => 0))] := A2.trans B3
  refine r_aload_n eX3_init_28 rfl ?_
  refine r_bipush (v := 60) eX3_init_29 (by decide) ?_
  refine r_mki (N := 60) (fs2 := fun q => [.int 0, .ref q0, .ref q1, .int 0, .ref q2, .ref q, .null, .null, .null, .null, .null, .int 0, .null, .null, .null, .null, .null]) eX3_init_31 eX3_init_33 p_3_21 ha3 (Nat.le_of_ble_eq_true rfl) (fun _ => ⟨rfl, rfl⟩) (fun _ => rfl) (fun _ => rfl) (by decide) (by decide) (by decide) (by omega) (by omega) (fun q3 h4 ha4 B4 => ?_)
  have A4 : Al h h4 a (cat 3 (cat 2 (cat 1 (cat 0 (fun _ => 0) (fun _ => q0)) (fun _ => q1)) (fun _ => q2)) (fun _ => q3)) [.inl (ar 0, 40, .inl (fun _ => 0)), .inl (ar 0, 40, .inl (fun _ => 0)), .inl (ar 0, 60, .inl (fun _ => 0)), .inl (ar 0, 60, .inl (fun _ => 0))] := A3.trans B4
  refine r_aload_n eX3_init_36 rfl ?_
  refine r_bipush (v := 60) eX3_init_37 (by decide) ?_
  refine r_mki (N := 60) (fs2 := fun q => [.int 0, .ref q0, .ref q1, .int 0, .ref q2, .ref q3, .ref q, .null, .null, .null, .null, .int 0, .null, .null, .null, .null, .null]) eX3_init_39 eX3_init_41 p_3_24 ha4 (Nat.le_of_ble_eq_true rfl) (fun _ => ⟨rfl, rfl⟩) (fun _ => rfl) (fun _ => rfl) (by decide) (by decide) (by decide) (by omega) (by omega) (fun q4 h5 ha5 B5 => ?_)
  have A5 : Al h h5 a (cat 4 (cat 3 (cat 2 (cat 1 (cat 0 (fun _ => 0) (fun _ => q0)) (fun _ => q1)) (fun _ => q2)) (fun _ => q3)) (fun _ => q4)) [.inl (ar 0, 40, .inl (fun _ => 0)), .inl (ar 0, 40, .inl (fun _ => 0)), .inl (ar 0, 60, .inl (fun _ => 0)), .inl (ar 0, 60, .inl (fun _ => 0)), .inl (ar 0, 60, .inl (fun _ => 0))] := A4.trans B5
  refine r_aload_n eX3_init_44 rfl ?_
  refine r_bipush (v := 60) eX3_init_45 (by decide) ?_
  refine r_mki (N := 60) (fs2 := fun q => [.int 0, .ref q0, .ref q1, .int 0, .ref q2, .ref q3, .ref q4, .ref q, .null, .null, .null, .int 0, .null, .null, .null, .null, .null]) eX3_init_47 eX3_init_49 p_3_27 ha5 (Nat.le_of_ble_eq_true rfl) (fun _ => ⟨rfl, rfl⟩) (fun _ => rfl) (fun _ => rfl) (by decide) (by decide) (by decide) (by omega) (by omega) (fun q5 h6 ha6 B6 => ?_)
  have A6 : Al h h6 a (cat 5 (cat 4 (cat 3 (cat 2 (cat 1 (cat 0 (fun _ => 0) (fun _ => q0)) (fun _ => q1)) (fun _ => q2)) (fun _ => q3)) (fun _ => q4)) (fun _ => q5)) [.inl (ar 0, 40, .inl (fun _ => 0)), .inl (ar 0, 40, .inl (fun _ => 0)), .inl (ar 0, 60, .inl (fun _ => 0)), .inl (ar 0, 60, .inl (fun _ => 0)), .inl (ar 0, 60, .inl (fun _ => 0)), .inl (ar 0, 60, .inl (fun _ => 0))] := A5.trans B6
  refine r_aload_n eX3_init_52 rfl ?_
  refine r_sipush (v := 240) eX3_init_53 (by decide) ?_
  refine r_mki (N := 240) (fs2 := fun q => [.int 0, .ref q0, .ref q1, .int 0, .ref q2, .ref q3, .ref q4, .ref q5, .ref q, .null, .null, .int 0, .null, .null, .null, .null, .null]) eX3_init_56 eX3_init_58 p_3_30 ha6 (Nat.le_of_ble_eq_true rfl) (fun _ => ⟨rfl, rfl⟩) (fun _ => rfl) (fun _ => rfl) (by decide) (by decide) (by decide) (by omega) (by omega) (fun q6 h7 ha7 B7 => ?_)
  have A7 : Al h h7 a (cat 6 (cat 5 (cat 4 (cat 3 (cat 2 (cat 1 (cat 0 (fun _ => 0) (fun _ => q0)) (fun _ => q1)) (fun _ => q2)) (fun _ => q3)) (fun _ => q4)) (fun _ => q5)) (fun _ => q6)) [.inl (ar 0, 40, .inl (fun _ => 0)), .inl (ar 0, 40, .inl (fun _ => 0)), .inl (ar 0, 60, .inl (fun _ => 0)), .inl (ar 0, 60, .inl (fun _ => 0)), .inl (ar 0, 60, .inl (fun _ => 0)), .inl (ar 0, 60, .inl (fun _ => 0)), .inl (ar 0, 240, .inl (fun _ => 0))] := A6.trans B7
  refine r_aload_n eX3_init_61 rfl ?_
  refine r_bipush (v := 120) eX3_init_62 (by decide) ?_
  refine r_mki (N := 120) (fs2 := fun q => [.int 0, .ref q0, .ref q1, .int 0, .ref q2, .ref q3, .ref q4, .ref q5, .ref q6, .ref q, .null, .int 0, .null, .null, .null, .null, .null]) eX3_init_64 eX3_init_66 p_3_33 ha7 (Nat.le_of_ble_eq_true rfl) (fun _ => ⟨rfl, rfl⟩) (fun _ => rfl) (fun _ => rfl) (by decide) (by decide) (by decide) (by omega) (by omega) (fun q7 h8 ha8 B8 => ?_)
  have A8 : Al h h8 a (cat 7 (cat 6 (cat 5 (cat 4 (cat 3 (cat 2 (cat 1 (cat 0 (fun _ => 0) (fun _ => q0)) (fun _ => q1)) (fun _ => q2)) (fun _ => q3)) (fun _ => q4)) (fun _ => q5)) (fun _ => q6)) (fun _ => q7)) [.inl (ar 0, 40, .inl (fun _ => 0)), .inl (ar 0, 40, .inl (fun _ => 0)), .inl (ar 0, 60, .inl (fun _ => 0)), .inl (ar 0, 60, .inl (fun _ => 0)), .inl (ar 0, 60, .inl (fun _ => 0)), .inl (ar 0, 60, .inl (fun _ => 0)), .inl (ar 0, 240, .inl (fun _ => 0)), .inl (ar 0, 120, .inl (fun _ => 0))] := A7.trans B8
  refine r_aload_n eX3_init_69 rfl ?_
  refine r_bipush (v := 120) eX3_init_70 (by decide) ?_
  refine r_mki (N := 120) (fs2 := fun q => [.int 0, .ref q0, .ref q1, .int 0, .ref q2, .ref q3, .ref q4, .ref q5, .ref q6, .ref q7, .ref q, .int 0, .null, .null, .null, .null, .null]) eX3_init_72 eX3_init_74 p_3_36 ha8 (Nat.le_of_ble_eq_true rfl) (fun _ => ⟨rfl, rfl⟩) (fun _ => rfl) (fun _ => rfl) (by decide) (by decide) (by decide) (by omega) (by omega) (fun q8 h9 ha9 B9 => ?_)
  have A9 : Al h h9 a (cat 8 (cat 7 (cat 6 (cat 5 (cat 4 (cat 3 (cat 2 (cat 1 (cat 0 (fun _ => 0) (fun _ => q0)) (fun _ => q1)) (fun _ => q2)) (fun _ => q3)) (fun _ => q4)) (fun _ => q5)) (fun _ => q6)) (fun _ => q7)) (fun _ => q8)) [.inl (ar 0, 40, .inl (fun _ => 0)), .inl (ar 0, 40, .inl (fun _ => 0)), .inl (ar 0, 60, .inl (fun _ => 0)), .inl (ar 0, 60, .inl (fun _ => 0)), .inl (ar 0, 60, .inl (fun _ => 0)), .inl (ar 0, 60, .inl (fun _ => 0)), .inl (ar 0, 240, .inl (fun _ => 0)), .inl (ar 0, 120, .inl (fun _ => 0)), .inl (ar 0, 120, .inl (fun _ => 0))] := A8.trans B9
  refine r_aload_n eX3_init_77 rfl ?_
  refine r_bipush (v := 40) eX3_init_78 (by decide) ?_
  refine r_mki (N := 40) (fs2 := fun q => [.int 0, .ref q0, .ref q1, .int 0, .ref q2, .ref q3, .ref q4, .ref q5, .ref q6, .ref q7, .ref q8, .int 0, .ref q, .null, .null, .null, .null]) eX3_init_80 eX3_init_82 p_3_39 ha9 (Nat.le_of_ble_eq_true rfl) (fun _ => ⟨rfl, rfl⟩) (fun _ => rfl) (fun _ => rfl) (by decide) (by decide) (by decide) (by omega) (by omega) (fun q9 h10 ha10 B10 => ?_)
  have A10 : Al h h10 a (cat 9 (cat 8 (cat 7 (cat 6 (cat 5 (cat 4 (cat 3 (cat 2 (cat 1 (cat 0 (fun _ => 0) (fun _ => q0)) (fun _ => q1)) (fun _ => q2)) (fun _ => q3)) (fun _ => q4)) (fun _ => q5)) (fun _ => q6)) (fun _ => q7)) (fun _ => q8)) (fun _ => q9)) [.inl (ar 0, 40, .inl (fun _ => 0)), .inl (ar 0, 40, .inl (fun _ => 0)), .inl (ar 0, 60, .inl (fun _ => 0)), .inl (ar 0, 60, .inl (fun _ => 0)), .inl (ar 0, 60, .inl (fun _ => 0)), .inl (ar 0, 60, .inl (fun _ => 0)), .inl (ar 0, 240, .inl (fun _ => 0)), .inl (ar 0, 120, .inl (fun _ => 0)), .inl (ar 0, 120, .inl (fun _ => 0)), .inl (ar 0, 40, .inl (fun _ => 0))] := A9.trans B10
  refine r_aload_n eX3_init_85 rfl ?_
  refine r_bipush (v := 40) eX3_init_86 (by decide) ?_
  refine r_mki (N := 40) (fs2 := fun q => [.int 0, .ref q0, .ref q1, .int 0, .ref q2, .ref q3, .ref q4, .ref q5, .ref q6, .ref q7, .ref q8, .int 0, .ref q9, .ref q, .null, .null, .null]) eX3_init_88 eX3_init_90 p_3_42 ha10 (Nat.le_of_ble_eq_true rfl) (fun _ => ⟨rfl, rfl⟩) (fun _ => rfl) (fun _ => rfl) (by decide) (by decide) (by decide) (by omega) (by omega) (fun q10 h11 ha11 B11 => ?_)
  have A11 : Al h h11 a (cat 10 (cat 9 (cat 8 (cat 7 (cat 6 (cat 5 (cat 4 (cat 3 (cat 2 (cat 1 (cat 0 (fun _ => 0) (fun _ => q0)) (fun _ => q1)) (fun _ => q2)) (fun _ => q3)) (fun _ => q4)) (fun _ => q5)) (fun _ => q6)) (fun _ => q7)) (fun _ => q8)) (fun _ => q9)) (fun _ => q10)) [.inl (ar 0, 40, .inl (fun _ => 0)), .inl (ar 0, 40, .inl (fun _ => 0)), .inl (ar 0, 60, .inl (fun _ => 0)), .inl (ar 0, 60, .inl (fun _ => 0)), .inl (ar 0, 60, .inl (fun _ => 0)), .inl (ar 0, 60, .inl (fun _ => 0)), .inl (ar 0, 240, .inl (fun _ => 0)), .inl (ar 0, 120, .inl (fun _ => 0)), .inl (ar 0, 120, .inl (fun _ => 0)), .inl (ar 0, 40, .inl (fun _ => 0)), .inl (ar 0, 40, .inl (fun _ => 0))] := A10.trans B11
  refine r_aload_n eX3_init_93 rfl ?_
  refine r_bipush (v := 40) eX3_init_94 (by decide) ?_
  refine r_mkz (N := 40) (fs2 := fun q => [.int 0, .ref q0, .ref q1, .int 0, .ref q2, .ref q3, .ref q4, .ref q5, .ref q6, .ref q7, .ref q8, .int 0, .ref q9, .ref q10, .ref q, .null, .null]) eX3_init_96 eX3_init_98 p_3_45 ha11 (Nat.le_of_ble_eq_true rfl) (fun _ => ⟨rfl, rfl⟩) (fun _ => rfl) (fun _ => rfl) (by decide) (by decide) (by decide) (by omega) (by omega) (fun q11 h12 ha12 B12 => ?_)
  have A12 : Al h h12 a (cat 11 (cat 10 (cat 9 (cat 8 (cat 7 (cat 6 (cat 5 (cat 4 (cat 3 (cat 2 (cat 1 (cat 0 (fun _ => 0) (fun _ => q0)) (fun _ => q1)) (fun _ => q2)) (fun _ => q3)) (fun _ => q4)) (fun _ => q5)) (fun _ => q6)) (fun _ => q7)) (fun _ => q8)) (fun _ => q9)) (fun _ => q10)) (fun _ => q11)) [.inl (ar 0, 40, .inl (fun _ => 0)), .inl (ar 0, 40, .inl (fun _ => 0)), .inl (ar 0, 60, .inl (fun _ => 0)), .inl (ar 0, 60, .inl (fun _ => 0)), .inl (ar 0, 60, .inl (fun _ => 0)), .inl (ar 0, 60, .inl (fun _ => 0)), .inl (ar 0, 240, .inl (fun _ => 0)), .inl (ar 0, 120, .inl (fun _ => 0)), .inl (ar 0, 120, .inl (fun _ => 0)), .inl (ar 0, 40, .inl (fun _ => 0)), .inl (ar 0, 40, .inl (fun _ => 0)), .inl (ar 2, 40, .inl (fun _ => 0))] := A11.trans B12
  refine r_aload_n eX3_init_101 rfl ?_
  refine r_bipush (v := 40) eX3_init_102 (by decide) ?_
  refine r_mki (N := 40) (fs2 := fun q => [.int 0, .ref q0, .ref q1, .int 0, .ref q2, .ref q3, .ref q4, .ref q5, .ref q6, .ref q7, .ref q8, .int 0, .ref q9, .ref q10, .ref q11, .ref q, .null]) eX3_init_104 eX3_init_106 p_3_49 ha12 (Nat.le_of_ble_eq_true rfl) (fun _ => ⟨rfl, rfl⟩) (fun _ => rfl) (fun _ => rfl) (by decide) (by decide) (by decide) (by omega) (by omega) (fun q12 h13 ha13 B13 => ?_)
  have A13 : Al h h13 a (cat 12 (cat 11 (cat 10 (cat 9 (cat 8 (cat 7 (cat 6 (cat 5 (cat 4 (cat 3 (cat 2 (cat 1 (cat 0 (fun _ => 0) (fun _ => q0)) (fun _ => q1)) (fun _ => q2)) (fun _ => q3)) (fun _ => q4)) (fun _ => q5)) (fun _ => q6)) (fun _ => q7)) (fun _ => q8)) (fun _ => q9)) (fun _ => q10)) (fun _ => q11)) (fun _ => q12)) [.inl (ar 0, 40, .inl (fun _ => 0)), .inl (ar 0, 40, .inl (fun _ => 0)), .inl (ar 0, 60, .inl (fun _ => 0)), .inl (ar 0, 60, .inl (fun _ => 0)), .inl (ar 0, 60, .inl (fun _ => 0)), .inl (ar 0, 60, .inl (fun _ => 0)), .inl (ar 0, 240, .inl (fun _ => 0)), .inl (ar 0, 120, .inl (fun _ => 0)), .inl (ar 0, 120, .inl (fun _ => 0)), .inl (ar 0, 40, .inl (fun _ => 0)), .inl (ar 0, 40, .inl (fun _ => 0)), .inl (ar 2, 40, .inl (fun _ => 0)), .inl (ar 0, 40, .inl (fun _ => 0))] := A12.trans B13
  refine r_aload_n eX3_init_109 rfl ?_
  refine r_bipush (v := 40) eX3_init_110 (by decide) ?_
  refine r_mki (N := 40) (fs2 := fun q => [.int 0, .ref q0, .ref q1, .int 0, .ref q2, .ref q3, .ref q4, .ref q5, .ref q6, .ref q7, .ref q8, .int 0, .ref q9, .ref q10, .ref q11, .ref q12, .ref q]) eX3_init_112 eX3_init_114 p_3_52 ha13 (Nat.le_of_ble_eq_true rfl) (fun _ => ⟨rfl, rfl⟩) (fun _ => rfl) (fun _ => rfl) (by decide) (by decide) (by decide) (by omega) (by omega) (fun q13 h14 ha14 B14 => ?_)
  have A14 : Al h h14 a (cat 13 (cat 12 (cat 11 (cat 10 (cat 9 (cat 8 (cat 7 (cat 6 (cat 5 (cat 4 (cat 3 (cat 2 (cat 1 (cat 0 (fun _ => 0) (fun _ => q0)) (fun _ => q1)) (fun _ => q2)) (fun _ => q3)) (fun _ => q4)) (fun _ => q5)) (fun _ => q6)) (fun _ => q7)) (fun _ => q8)) (fun _ => q9)) (fun _ => q10)) (fun _ => q11)) (fun _ => q12)) (fun _ => q13)) [.inl (ar 0, 40, .inl (fun _ => 0)), .inl (ar 0, 40, .inl (fun _ => 0)), .inl (ar 0, 60, .inl (fun _ => 0)), .inl (ar 0, 60, .inl (fun _ => 0)), .inl (ar 0, 60, .inl (fun _ => 0)), .inl (ar 0, 60, .inl (fun _ => 0)), .inl (ar 0, 240, .inl (fun _ => 0)), .inl (ar 0, 120, .inl (fun _ => 0)), .inl (ar 0, 120, .inl (fun _ => 0)), .inl (ar 0, 40, .inl (fun _ => 0)), .inl (ar 0, 40, .inl (fun _ => 0)), .inl (ar 2, 40, .inl (fun _ => 0)), .inl (ar 0, 40, .inl (fun _ => 0)), .inl (ar 0, 40, .inl (fun _ => 0))] := A13.trans B14
  exact r_vret eX3_init_117 rfl ⟨rfl, _, A14, ha14⟩
theorem c_X9_init {a b0 b1 b2 : Nat} (ha : h a = some (.inr (9, [.null, .null, .null, .null, .null, .null, .int 0, .null, .null, .null]))) (hm : 13 ≤ mc) (hs : 934 ≤ ms) : CT ar ro sa mX9_init (d + 1) [.ref a, .ref b0, .ref b1, .ref b2] h mc ms (Ex (fun v h' => v = none ∧ ∃ r : Nat → Nat, Al h h' a r [.inl (ar 0, 96, .inl (fun _ => 0)), .inl (ar 1, 96, .inr (.inl (fun _ => 0))), .inr (6, fsX6 (fun i => [].getD i 0) (fun i => [(r 3)].getD i 0) (fun i => [].getD i 0) (fun _ => 0)), .inl (ar 1, 4, .inr (.inl (fun _ => 0))), .inr (6, fsX6 (fun i => [].getD i 0) (fun i => [(r 5)].getD i 0) (fun i => [].getD i 0) (fun _ => 0)), .inl (ar 1, 4, .inr (.inl (fun _ => 0))), .inl (ar 0, 240, .inl (fun _ => 0)), .inr (7, fsX7 (fun i => [(b0)].getD i 0) (fun i => [(r 8), (r 9), (r 10), (r 11), (r 12)].getD i 0) (fun i => [(0 : Int32), (0 : Int32), (0 : Int32), (0 : Int32)].getD i 0) (fun _ => 0)), .inl (ar 0, 120, .inl (fun _ => 0)), .inl (ar 1, 120, .inr (.inl (fun _ => 0))), .inl (ar 0, 120, .inl (fun _ => 0)), .inl (ar 1, 120, .inr (.inl (fun _ => 0))), .inl (ar 0, 1, .inl (fun _ => 0))] ∧ h' a = some (.inr (9, fsX9 (fun i => [(b0), (b1), (b2), (r 7), (r 2), (r 4)].getD i 0) (fun i => [(r 0), (r 1), (r 6)].getD i 0) (fun i => [(0 : Int32)].getD i 0) (fun _ => 0)))) No) := by
  show WP ar ro sa mX9_init _ 0 [some (.ref a), some (.ref b0), some (.ref b1), some (.ref b2)] [] h mc ms _
  have A0 : Al h h a (fun _ => 0) [] := Al.nil
  refine r_aload_n eX9_init_0 rfl ?_
  refine r_objinit eX9_init_1 ob_9 ob1 ob2 (by decide) ?_
  refine r_aload_n eX9_init_4 rfl ?_
  refine r_bipush (v := 96) eX9_init_5 (by decide) ?_
  refine r_mki (N := 96) (fs2 := fun q => [.null, .null, .null, .null, .ref q, .null, .int 0, .null, .null, .null]) eX9_init_7 eX9_init_9 p_9_9 ha (Nat.le_of_ble_eq_true rfl) (fun _ => ⟨rfl, rfl⟩) (fun _ => rfl) (fun _ => rfl) (by decide) (by decide) (by decide) (by omega) (by omega) (fun q0 h1 ha1 B1 => ?_)
  have A1 : Al h h1 a (cat 0 (fun _ => 0) (fun _ => q0)) [.inl (ar 0, 96, .inl (fun _ => 0))] := A0.trans B1
  refine r_aload_n eX9_init_12 rfl ?_
  refine r_bipush (v := 96) eX9_init_13 (by decide) ?_
  refine r_mkl (N := 96) (fs2 := fun q => [.null, .null, .null, .null, .ref q0, .ref q, .int 0, .null, .null, .null]) eX9_init_15 eX9_init_17 p_9_15 ha1 (Nat.le_of_ble_eq_true rfl) (fun _ => ⟨rfl, rfl⟩) (fun _ => rfl) (fun _ => rfl) (by decide) (by decide) (by decide) (by omega) (by omega) (fun q1 h2 ha2 B2 => ?_)
  have A2 : Al h h2 a (cat 1 (cat 0 (fun _ => 0) (fun _ => q0)) (fun _ => q1)) [.inl (ar 0, 96, .inl (fun _ => 0)), .inl (ar 1, 96, .inr (.inl (fun _ => 0)))] := A1.trans B2
  refine r_aload_n eX9_init_20 rfl ?_
  refine r_newN (N := 1) eX9_init_21 n_9_19 rfl (by omega) (by omega) (fun q2 hq3 => ?_)
  have hn3 : q2 ≠ a := fun z => by rw [z, ha2] at hq3; cases hq3
  obtain ⟨g3, hg3⟩ : ∃ g, g = hset h2 q2 (.inr (6, [.null])) := ⟨_, rfl⟩
  rw [← hg3]
  have hs3 : g3 q2 = some (.inr (6, [.null])) := by rw [hg3]; exact hset_s _ _ _
  have hG3 : g3 a = some (.inr (9, [.null, .null, .null, .null, .ref q0, .ref q1, .int 0, .null, .null, .null])) := by rw [hg3, hset_n _ _ (Ne.symm hn3)]; exact ha2
  refine r_dup eX9_init_24 rfl ?_
  refine r_init (As := []) (rest := [.ref q2, .ref a]) (b := q2) (mc := 1) (ms := 4) eX9_init_25 k_9_21 rfl rfl (Nat.le_of_ble_eq_true rfl) (Nat.le_of_ble_eq_true rfl) (by omega) (by omega) (c_X6_init hs3 (Nat.le_refl _) (Nat.le_refl _)) (fun v3 m3 z3 => ?_)
  obtain ⟨rfl, t3, C3, hc3⟩ := z3
  have hb3 : m3 a = some (.inr (9, [.null, .null, .null, .null, .ref q0, .ref q1, .int 0, .null, .null, .null])) := C3.2.1 a _ (Ne.symm hn3) hG3
  refine r_putk (fs2 := [.null, .null, .null, .null, .ref q0, .ref q1, .int 0, .ref q2, .null, .null]) eX9_init_28 p_9_22 hb3 (Nat.le_of_ble_eq_true rfl) rfl rfl (fun q => by first | rfl | cases q) rfl (fun h3 ha3 hk3 => ?_)
  have B3 := Al.obj hq3 hn3 hg3 C3 hc3 ⟨_, ha2⟩ hk3
  have A3 : Al h h3 a (cat 2 (cat 1 (cat 0 (fun _ => 0) (fun _ => q0)) (fun _ => q1)) (cat 1 (fun _ => q2) t3)) [.inl (ar 0, 96, .inl (fun _ => 0)), .inl (ar 1, 96, .inr (.inl (fun _ => 0))), .inr (6, fsX6 (fun i => [].getD i 0) (fun i => [(t3 0)].getD i 0) (fun i => [].getD i 0) (fun _ => 0)), .inl (ar 1, 4, .inr (.inl (fun _ => 0)))] := A2.trans B3
  refine r_aload_n eX9_init_31 rfl ?_
  refine r_newN (N := 1) eX9_init_32 n_9_19 rfl (by omega) (by omega) (fun q4 hq4 => ?_)
  have hn4 : q4 ≠ a := fun z => by rw [z, ha3] at hq4; cases hq4
  obtain ⟨g4, hg4⟩ : ∃ g, g = hset h3 q4 (.inr (6, [.null])) := ⟨_, rfl⟩
  rw [← hg4]
  have hs4 : g4 q4 = some (.inr (6, [.null])) := by rw [hg4]; exact hset_s _ _ _
  have hG4 : g4 a = some (.inr (9, [.null, .null, .null, .null, .ref q0, .ref q1, .int 0, .ref q2, .null, .null])) := by rw [hg4, hset_n _ _ (Ne.symm hn4)]; exact ha3
  refine r_dup eX9_init_35 rfl ?_
  refine r_init (As := []) (rest := [.ref q4, .ref a]) (b := q4) (mc := 1) (ms := 4) eX9_init_36 k_9_21 rfl rfl (Nat.le_of_ble_eq_true rfl) (Nat.le_of_ble_eq_true rfl) (by omega) (by omega) (c_X6_init hs4 (Nat.le_refl _) (Nat.le_refl _)) (fun v4 m4 z4 => ?_)
  obtain ⟨rfl, t4, C4, hc4⟩ := z4
  have hb4 : m4 a = some (.inr (9, [.null, .null, .null, .null, .ref q0, .ref q1, .int 0, .ref q2, .null, .null])) := C4.2.1 a _ (Ne.symm hn4) hG4
  refine r_putk (fs2 := [.null, .null, .null, .null, .ref q0, .ref q1, .int 0, .ref q2, .ref q4, .null]) eX9_init_39 p_9_26 hb4 (Nat.le_of_ble_eq_true rfl) rfl rfl (fun q => by first | rfl | cases q) rfl (fun h4 ha4 hk4 => ?_)
  have B4 := Al.obj hq4 hn4 hg4 C4 hc4 ⟨_, ha3⟩ hk4
  have A4 : Al h h4 a (cat 4 (cat 2 (cat 1 (cat 0 (fun _ => 0) (fun _ => q0)) (fun _ => q1)) (cat 1 (fun _ => q2) t3)) (cat 1 (fun _ => q4) t4)) [.inl (ar 0, 96, .inl (fun _ => 0)), .inl (ar 1, 96, .inr (.inl (fun _ => 0))), .inr (6, fsX6 (fun i => [].getD i 0) (fun i => [(t3 0)].getD i 0) (fun i => [].getD i 0) (fun _ => 0)), .inl (ar 1, 4, .inr (.inl (fun _ => 0))), .inr (6, fsX6 (fun i => [].getD i 0) (fun i => [(t4 0)].getD i 0) (fun i => [].getD i 0) (fun _ => 0)), .inl (ar 1, 4, .inr (.inl (fun _ => 0)))] := A3.trans B4
  refine r_aload_n eX9_init_42 rfl ?_
  refine r_sipush (v := 240) eX9_init_43 (by decide) ?_
  refine r_mki (N := 240) (fs2 := fun q => [.null, .null, .null, .null, .ref q0, .ref q1, .int 0, .ref q2, .ref q4, .ref q]) eX9_init_46 eX9_init_48 p_9_29 ha4 (Nat.le_of_ble_eq_true rfl) (fun _ => ⟨rfl, rfl⟩) (fun _ => rfl) (fun _ => rfl) (by decide) (by decide) (by decide) (by omega) (by omega) (fun q6 h5 ha5 B5 => ?_)
  have A5 : Al h h5 a (cat 6 (cat 4 (cat 2 (cat 1 (cat 0 (fun _ => 0) (fun _ => q0)) (fun _ => q1)) (cat 1 (fun _ => q2) t3)) (cat 1 (fun _ => q4) t4)) (fun _ => q6)) [.inl (ar 0, 96, .inl (fun _ => 0)), .inl (ar 1, 96, .inr (.inl (fun _ => 0))), .inr (6, fsX6 (fun i => [].getD i 0) (fun i => [(t3 0)].getD i 0) (fun i => [].getD i 0) (fun _ => 0)), .inl (ar 1, 4, .inr (.inl (fun _ => 0))), .inr (6, fsX6 (fun i => [].getD i 0) (fun i => [(t4 0)].getD i 0) (fun i => [].getD i 0) (fun _ => 0)), .inl (ar 1, 4, .inr (.inl (fun _ => 0))), .inl (ar 0, 240, .inl (fun _ => 0))] := A4.trans B5
  refine r_aload_n eX9_init_51 rfl ?_
  refine r_aload_n eX9_init_52 rfl ?_
  refine r_putk (fs2 := [.ref b0, .null, .null, .null, .ref q0, .ref q1, .int 0, .ref q2, .ref q4, .ref q6]) eX9_init_53 p_9_32 ha5 (Nat.le_of_ble_eq_true rfl) (by first | rfl | decide) rfl (fun q => by first | rfl | cases q) rfl (fun h6 ha6 hk6 => ?_)
  have A6 : Al h h6 a (cat 6 (cat 4 (cat 2 (cat 1 (cat 0 (fun _ => 0) (fun _ => q0)) (fun _ => q1)) (cat 1 (fun _ => q2) t3)) (cat 1 (fun _ => q4) t4)) (fun _ => q6)) [.inl (ar 0, 96, .inl (fun _ => 0)), .inl (ar 1, 96, .inr (.inl (fun _ => 0))), .inr (6, fsX6 (fun i => [].getD i 0) (fun i => [(t3 0)].getD i 0) (fun i => [].getD i 0) (fun _ => 0)), .inl (ar 1, 4, .inr (.inl (fun _ => 0))), .inr (6, fsX6 (fun i => [].getD i 0) (fun i => [(t4 0)].getD i 0) (fun i => [].getD i 0) (fun _ => 0)), .inl (ar 1, 4, .inr (.inl (fun _ => 0))), .inl (ar 0, 240, .inl (fun _ => 0))] := A5.put hk6
  refine r_aload_n eX9_init_56 rfl ?_
  refine r_aload_n eX9_init_57 rfl ?_
  refine r_putk (fs2 := [.ref b0, .ref b1, .null, .null, .ref q0, .ref q1, .int 0, .ref q2, .ref q4, .ref q6]) eX9_init_58 p_9_36 ha6 (Nat.le_of_ble_eq_true rfl) (by first | rfl | decide) rfl (fun q => by first | rfl | cases q) rfl (fun h7 ha7 hk7 => ?_)
  have A7 : Al h h7 a (cat 6 (cat 4 (cat 2 (cat 1 (cat 0 (fun _ => 0) (fun _ => q0)) (fun _ => q1)) (cat 1 (fun _ => q2) t3)) (cat 1 (fun _ => q4) t4)) (fun _ => q6)) [.inl (ar 0, 96, .inl (fun _ => 0)), .inl (ar 1, 96, .inr (.inl (fun _ => 0))), .inr (6, fsX6 (fun i => [].getD i 0) (fun i => [(t3 0)].getD i 0) (fun i => [].getD i 0) (fun _ => 0)), .inl (ar 1, 4, .inr (.inl (fun _ => 0))), .inr (6, fsX6 (fun i => [].getD i 0) (fun i => [(t4 0)].getD i 0) (fun i => [].getD i 0) (fun _ => 0)), .inl (ar 1, 4, .inr (.inl (fun _ => 0))), .inl (ar 0, 240, .inl (fun _ => 0))] := A6.put hk7
  refine r_aload_n eX9_init_61 rfl ?_
  refine r_aload_n eX9_init_62 rfl ?_
  refine r_putk (fs2 := [.ref b0, .ref b1, .ref b2, .null, .ref q0, .ref q1, .int 0, .ref q2, .ref q4, .ref q6]) eX9_init_63 p_9_40 ha7 (Nat.le_of_ble_eq_true rfl) (by first | rfl | decide) rfl (fun q => by first | rfl | cases q) rfl (fun h8 ha8 hk8 => ?_)
  have A8 : Al h h8 a (cat 6 (cat 4 (cat 2 (cat 1 (cat 0 (fun _ => 0) (fun _ => q0)) (fun _ => q1)) (cat 1 (fun _ => q2) t3)) (cat 1 (fun _ => q4) t4)) (fun _ => q6)) [.inl (ar 0, 96, .inl (fun _ => 0)), .inl (ar 1, 96, .inr (.inl (fun _ => 0))), .inr (6, fsX6 (fun i => [].getD i 0) (fun i => [(t3 0)].getD i 0) (fun i => [].getD i 0) (fun _ => 0)), .inl (ar 1, 4, .inr (.inl (fun _ => 0))), .inr (6, fsX6 (fun i => [].getD i 0) (fun i => [(t4 0)].getD i 0) (fun i => [].getD i 0) (fun _ => 0)), .inl (ar 1, 4, .inr (.inl (fun _ => 0))), .inl (ar 0, 240, .inl (fun _ => 0))] := A7.put hk8
  refine r_aload_n eX9_init_66 rfl ?_
  refine r_newN (N := 11) eX9_init_67 n_9_44 rfl (by omega) (by omega) (fun q7 hq9 => ?_)
  have hn9 : q7 ≠ a := fun z => by rw [z, ha8] at hq9; cases hq9
  obtain ⟨g9, hg9⟩ : ∃ g, g = hset h8 q7 (.inr (7, [.null, .int 0, .null, .null, .int 0, .null, .null, .null, .int 0, .int 0, .long 0])) := ⟨_, rfl⟩
  rw [← hg9]
  have hs9 : g9 q7 = some (.inr (7, [.null, .int 0, .null, .null, .int 0, .null, .null, .null, .int 0, .int 0, .long 0])) := by rw [hg9]; exact hset_s _ _ _
  have hG9 : g9 a = some (.inr (9, [.ref b0, .ref b1, .ref b2, .null, .ref q0, .ref q1, .int 0, .ref q2, .ref q4, .ref q6])) := by rw [hg9, hset_n _ _ (Ne.symm hn9)]; exact ha8
  refine r_dup eX9_init_70 rfl ?_
  refine r_aload_n eX9_init_71 rfl ?_
  refine r_init (As := [.ref b0]) (rest := [.ref q7, .ref a]) (b := q7) (mc := 5) (ms := 481) eX9_init_72 k_9_46 rfl rfl (Nat.le_of_ble_eq_true rfl) (Nat.le_of_ble_eq_true rfl) (by omega) (by omega) (c_X7_init hs9 (Nat.le_refl _) (Nat.le_refl _)) (fun v9 m9 z9 => ?_)
  obtain ⟨rfl, t9, C9, hc9⟩ := z9
  have hb9 : m9 a = some (.inr (9, [.ref b0, .ref b1, .ref b2, .null, .ref q0, .ref q1, .int 0, .ref q2, .ref q4, .ref q6])) := C9.2.1 a _ (Ne.symm hn9) hG9
  refine r_putk (fs2 := [.ref b0, .ref b1, .ref b2, .ref q7, .ref q0, .ref q1, .int 0, .ref q2, .ref q4, .ref q6]) eX9_init_75 p_9_49 hb9 (Nat.le_of_ble_eq_true rfl) rfl rfl (fun q => by first | rfl | cases q) rfl (fun h9 ha9 hk9 => ?_)
  have B9 := Al.obj hq9 hn9 hg9 C9 hc9 ⟨_, ha8⟩ hk9
  have A9 : Al h h9 a (cat 7 (cat 6 (cat 4 (cat 2 (cat 1 (cat 0 (fun _ => 0) (fun _ => q0)) (fun _ => q1)) (cat 1 (fun _ => q2) t3)) (cat 1 (fun _ => q4) t4)) (fun _ => q6)) (cat 1 (fun _ => q7) t9)) [.inl (ar 0, 96, .inl (fun _ => 0)), .inl (ar 1, 96, .inr (.inl (fun _ => 0))), .inr (6, fsX6 (fun i => [].getD i 0) (fun i => [(t3 0)].getD i 0) (fun i => [].getD i 0) (fun _ => 0)), .inl (ar 1, 4, .inr (.inl (fun _ => 0))), .inr (6, fsX6 (fun i => [].getD i 0) (fun i => [(t4 0)].getD i 0) (fun i => [].getD i 0) (fun _ => 0)), .inl (ar 1, 4, .inr (.inl (fun _ => 0))), .inl (ar 0, 240, .inl (fun _ => 0)), .inr (7, fsX7 (fun i => [(b0)].getD i 0) (fun i => [(t9 0), (t9 1), (t9 2), (t9 3), (t9 4)].getD i 0) (fun i => [(0 : Int32), (0 : Int32), (0 : Int32), (0 : Int32)].getD i 0) (fun _ => 0)), .inl (ar 0, 120, .inl (fun _ => 0)), .inl (ar 1, 120, .inr (.inl (fun _ => 0))), .inl (ar 0, 120, .inl (fun _ => 0)), .inl (ar 1, 120, .inr (.inl (fun _ => 0))), .inl (ar 0, 1, .inl (fun _ => 0))] := A8.trans B9
  exact r_vret eX9_init_78 rfl ⟨rfl, _, A9, ha9⟩
theorem c_X4_init {a b0 : Nat} (ha : h a = some (.inr (4, [.null, .null, .null, .null, .null, .null, .null, .null]))) (hm : 8 ≤ mc) (hs : 806 ≤ ms) : CT ar ro sa mX4_init (d + 1) [.ref a, .ref b0] h mc ms (Ex (fun v h' => v = none ∧ ∃ r : Nat → Nat, Al h h' a r [.inl (ar 0, 240, .inl (fun _ => 0)), .inl (ar 0, 240, .inl (fun _ => 0)), .inl (ar 0, 1, .inl (fun _ => 0)), .inr (6, fsX6 (fun i => [].getD i 0) (fun i => [(r 4)].getD i 0) (fun i => [].getD i 0) (fun _ => 0)), .inl (ar 1, 4, .inr (.inl (fun _ => 0))), .inl (ar 0, 240, .inl (fun _ => 0)), .inl (ar 0, 40, .inl (fun _ => 0)), .inl (ar 0, 40, .inl (fun _ => 0))] ∧ h' a = some (.inr (4, fsX4 (fun i => [(b0), (r 3)].getD i 0) (fun i => [(r 0), (r 1), (r 2), (r 5), (r 6), (r 7)].getD i 0) (fun i => [].getD i 0) (fun _ => 0)))) No) := by
  show WP ar ro sa mX4_init _ 0 [some (.ref a), some (.ref b0)] [] h mc ms _
  have A0 : Al h h a (fun _ => 0) [] := Al.nil
  refine r_aload_n eX4_init_0 rfl ?_
  refine r_objinit eX4_init_1 ob_4 ob1 ob2 (by decide) ?_
  refine r_aload_n eX4_init_4 rfl ?_
  refine r_sipush (v := 240) eX4_init_5 (by decide) ?_
  refine r_mki (N := 240) (fs2 := fun q => [.null, .ref q, .null, .null, .null, .null, .null, .null]) eX4_init_8 eX4_init_10 p_4_9 ha (Nat.le_of_ble_eq_true rfl) (fun _ => ⟨rfl, rfl⟩) (fun _ => rfl) (fun _ => rfl) (by decide) (by decide) (by decide) (by omega) (by omega) (fun q0 h1 ha1 B1 => ?_)
  have A1 : Al h h1 a (cat 0 (fun _ => 0) (fun _ => q0)) [.inl (ar 0, 240, .inl (fun _ => 0))] := A0.trans B1
  refine r_aload_n eX4_init_13 rfl ?_
  refine r_sipush (v := 240) eX4_init_14 (by decide) ?_
  refine r_mki (N := 240) (fs2 := fun q => [.null, .ref q0, .ref q, .null, .null, .null, .null, .null]) eX4_init_17 eX4_init_19 p_4_15 ha1 (Nat.le_of_ble_eq_true rfl) (fun _ => ⟨rfl, rfl⟩) (fun _ => rfl) (fun _ => rfl) (by decide) (by decide) (by decide) (by omega) (by omega) (fun q1 h2 ha2 B2 => ?_)
  have A2 : Al h h2 a (cat 1 (cat 0 (fun _ => 0) (fun _ => q0)) (fun _ => q1)) [.inl (ar 0, 240, .inl (fun _ => 0)), .inl (ar 0, 240, .inl (fun _ => 0))] := A1.trans B2
  refine r_aload_n eX4_init_22 rfl ?_
  refine r_iconst (v := 1) eX4_init_23 (by decide) ?_
  refine r_mki (N := 1) (fs2 := fun q => [.null, .ref q0, .ref q1, .ref q, .null, .null, .null, .null]) eX4_init_24 eX4_init_26 p_4_18 ha2 (Nat.le_of_ble_eq_true rfl) (fun _ => ⟨rfl, rfl⟩) (fun _ => rfl) (fun _ => rfl) (by decide) (by decide) (by decide) (by omega) (by omega) (fun q2 h3 ha3 B3 => ?_)
  have A3 : Al h h3 a (cat 2 (cat 1 (cat 0 (fun _ => 0) (fun _ => q0)) (fun _ => q1)) (fun _ => q2)) [.inl (ar 0, 240, .inl (fun _ => 0)), .inl (ar 0, 240, .inl (fun _ => 0)), .inl (ar 0, 1, .inl (fun _ => 0))] := A2.trans B3
  refine r_aload_n eX4_init_29 rfl ?_
  refine r_newN (N := 1) eX4_init_30 n_4_21 rfl (by omega) (by omega) (fun q3 hq4 => ?_)
  have hn4 : q3 ≠ a := fun z => by rw [z, ha3] at hq4; cases hq4
  obtain ⟨g4, hg4⟩ : ∃ g, g = hset h3 q3 (.inr (6, [.null])) := ⟨_, rfl⟩
  rw [← hg4]
  have hs4 : g4 q3 = some (.inr (6, [.null])) := by rw [hg4]; exact hset_s _ _ _
  have hG4 : g4 a = some (.inr (4, [.null, .ref q0, .ref q1, .ref q2, .null, .null, .null, .null])) := by rw [hg4, hset_n _ _ (Ne.symm hn4)]; exact ha3
  refine r_dup eX4_init_33 rfl ?_
  refine r_init (As := []) (rest := [.ref q3, .ref a]) (b := q3) (mc := 1) (ms := 4) eX4_init_34 k_4_23 rfl rfl (Nat.le_of_ble_eq_true rfl) (Nat.le_of_ble_eq_true rfl) (by omega) (by omega) (c_X6_init hs4 (Nat.le_refl _) (Nat.le_refl _)) (fun v4 m4 z4 => ?_)
  obtain ⟨rfl, t4, C4, hc4⟩ := z4
  have hb4 : m4 a = some (.inr (4, [.null, .ref q0, .ref q1, .ref q2, .null, .null, .null, .null])) := C4.2.1 a _ (Ne.symm hn4) hG4
  refine r_putk (fs2 := [.null, .ref q0, .ref q1, .ref q2, .ref q3, .null, .null, .null]) eX4_init_37 p_4_24 hb4 (Nat.le_of_ble_eq_true rfl) rfl rfl (fun q => by first | rfl | cases q) rfl (fun h4 ha4 hk4 => ?_)
  have B4 := Al.obj hq4 hn4 hg4 C4 hc4 ⟨_, ha3⟩ hk4
  have A4 : Al h h4 a (cat 3 (cat 2 (cat 1 (cat 0 (fun _ => 0) (fun _ => q0)) (fun _ => q1)) (fun _ => q2)) (cat 1 (fun _ => q3) t4)) [.inl (ar 0, 240, .inl (fun _ => 0)), .inl (ar 0, 240, .inl (fun _ => 0)), .inl (ar 0, 1, .inl (fun _ => 0)), .inr (6, fsX6 (fun i => [].getD i 0) (fun i => [(t4 0)].getD i 0) (fun i => [].getD i 0) (fun _ => 0)), .inl (ar 1, 4, .inr (.inl (fun _ => 0)))] := A3.trans B4
  refine r_aload_n eX4_init_40 rfl ?_
  refine r_sipush (v := 240) eX4_init_41 (by decide) ?_
  refine r_mki (N := 240) (fs2 := fun q => [.null, .ref q0, .ref q1, .ref q2, .ref q3, .ref q, .null, .null]) eX4_init_44 eX4_init_46 p_4_28 ha4 (Nat.le_of_ble_eq_true rfl) (fun _ => ⟨rfl, rfl⟩) (fun _ => rfl) (fun _ => rfl) (by decide) (by decide) (by decide) (by omega) (by omega) (fun q5 h5 ha5 B5 => ?_)
  have A5 : Al h h5 a (cat 5 (cat 3 (cat 2 (cat 1 (cat 0 (fun _ => 0) (fun _ => q0)) (fun _ => q1)) (fun _ => q2)) (cat 1 (fun _ => q3) t4)) (fun _ => q5)) [.inl (ar 0, 240, .inl (fun _ => 0)), .inl (ar 0, 240, .inl (fun _ => 0)), .inl (ar 0, 1, .inl (fun _ => 0)), .inr (6, fsX6 (fun i => [].getD i 0) (fun i => [(t4 0)].getD i 0) (fun i => [].getD i 0) (fun _ => 0)), .inl (ar 1, 4, .inr (.inl (fun _ => 0))), .inl (ar 0, 240, .inl (fun _ => 0))] := A4.trans B5
  refine r_aload_n eX4_init_49 rfl ?_
  refine r_bipush (v := 40) eX4_init_50 (by decide) ?_
  refine r_mki (N := 40) (fs2 := fun q => [.null, .ref q0, .ref q1, .ref q2, .ref q3, .ref q5, .ref q, .null]) eX4_init_52 eX4_init_54 p_4_31 ha5 (Nat.le_of_ble_eq_true rfl) (fun _ => ⟨rfl, rfl⟩) (fun _ => rfl) (fun _ => rfl) (by decide) (by decide) (by decide) (by omega) (by omega) (fun q6 h6 ha6 B6 => ?_)
  have A6 : Al h h6 a (cat 6 (cat 5 (cat 3 (cat 2 (cat 1 (cat 0 (fun _ => 0) (fun _ => q0)) (fun _ => q1)) (fun _ => q2)) (cat 1 (fun _ => q3) t4)) (fun _ => q5)) (fun _ => q6)) [.inl (ar 0, 240, .inl (fun _ => 0)), .inl (ar 0, 240, .inl (fun _ => 0)), .inl (ar 0, 1, .inl (fun _ => 0)), .inr (6, fsX6 (fun i => [].getD i 0) (fun i => [(t4 0)].getD i 0) (fun i => [].getD i 0) (fun _ => 0)), .inl (ar 1, 4, .inr (.inl (fun _ => 0))), .inl (ar 0, 240, .inl (fun _ => 0)), .inl (ar 0, 40, .inl (fun _ => 0))] := A5.trans B6
  refine r_aload_n eX4_init_57 rfl ?_
  refine r_bipush (v := 40) eX4_init_58 (by decide) ?_
  refine r_mki (N := 40) (fs2 := fun q => [.null, .ref q0, .ref q1, .ref q2, .ref q3, .ref q5, .ref q6, .ref q]) eX4_init_60 eX4_init_62 p_4_34 ha6 (Nat.le_of_ble_eq_true rfl) (fun _ => ⟨rfl, rfl⟩) (fun _ => rfl) (fun _ => rfl) (by decide) (by decide) (by decide) (by omega) (by omega) (fun q7 h7 ha7 B7 => ?_)
  have A7 : Al h h7 a (cat 7 (cat 6 (cat 5 (cat 3 (cat 2 (cat 1 (cat 0 (fun _ => 0) (fun _ => q0)) (fun _ => q1)) (fun _ => q2)) (cat 1 (fun _ => q3) t4)) (fun _ => q5)) (fun _ => q6)) (fun _ => q7)) [.inl (ar 0, 240, .inl (fun _ => 0)), .inl (ar 0, 240, .inl (fun _ => 0)), .inl (ar 0, 1, .inl (fun _ => 0)), .inr (6, fsX6 (fun i => [].getD i 0) (fun i => [(t4 0)].getD i 0) (fun i => [].getD i 0) (fun _ => 0)), .inl (ar 1, 4, .inr (.inl (fun _ => 0))), .inl (ar 0, 240, .inl (fun _ => 0)), .inl (ar 0, 40, .inl (fun _ => 0)), .inl (ar 0, 40, .inl (fun _ => 0))] := A6.trans B7
  refine r_aload_n eX4_init_65 rfl ?_
  refine r_aload_n eX4_init_66 rfl ?_
  refine r_putk (fs2 := [.ref b0, .ref q0, .ref q1, .ref q2, .ref q3, .ref q5, .ref q6, .ref q7]) eX4_init_67 p_4_37 ha7 (Nat.le_of_ble_eq_true rfl) (by first | rfl | decide) rfl (fun q => by first | rfl | cases q) rfl (fun h8 ha8 hk8 => ?_)
  have A8 : Al h h8 a (cat 7 (cat 6 (cat 5 (cat 3 (cat 2 (cat 1 (cat 0 (fun _ => 0) (fun _ => q0)) (fun _ => q1)) (fun _ => q2)) (cat 1 (fun _ => q3) t4)) (fun _ => q5)) (fun _ => q6)) (fun _ => q7)) [.inl (ar 0, 240, .inl (fun _ => 0)), .inl (ar 0, 240, .inl (fun _ => 0)), .inl (ar 0, 1, .inl (fun _ => 0)), .inr (6, fsX6 (fun i => [].getD i 0) (fun i => [(t4 0)].getD i 0) (fun i => [].getD i 0) (fun _ => 0)), .inl (ar 1, 4, .inr (.inl (fun _ => 0))), .inl (ar 0, 240, .inl (fun _ => 0)), .inl (ar 0, 40, .inl (fun _ => 0)), .inl (ar 0, 40, .inl (fun _ => 0))] := A7.put hk8
  exact r_vret eX4_init_70 rfl ⟨rfl, _, A8, ha8⟩
end INITS

