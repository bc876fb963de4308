/-! PURE PROGRAMS over heaps: each method as a function; OK o Φ : the program's end meets Φ. Rows t_..: from a program to WP -/
abbrev Rs : Type := Option (Ou × Hp)
/-- array numbers, texts' addresses, fuel, arrays that are only read -/
abbrev Ev : Type := (Nat → ClassId) × (Nat → Nat) × Nat × (Nat → Option (Nat × (Nat → Int32)))
def OK (o : Rs) (Φ : Ou → Hp → Prop) : Prop := match o with | some (u, h) => Φ u h | none => False
def ix (i : Int32) (n : Nat) : Option Nat := if i < 0 ∨ n ≤ i.toNatClampNeg then none else some i.toNatClampNeg
def gf (h : Hp) (a ci k : Nat) : Option Value := match h a with | some (.inr (c, fs)) => if c = ci then fs[k]? else none | _ => none
def gfI (h : Hp) (a ci k : Nat) : Option Int32 := match gf h a ci k with | some (.int x) => some x | _ => none
def gfL (h : Hp) (a ci k : Nat) : Option Int64 := match gf h a ci k with | some (.long x) => some x | _ => none
def gfR (h : Hp) (a ci k : Nat) : Option Nat := match gf h a ci k with | some (.ref x) => some x | _ => none
def pf (h : Hp) (a ci k : Nat) (v : Value) : Option Hp := match h a with | some (.inr (c, fs)) => if c = ci ∧ k < fs.length then some (hset h a (.inr (ci, fs.set k v))) else none | _ => none
def pfZ (h : Hp) (a ci k : Nat) (x : Int32) : Option Hp := if x = 0 ∨ x = 1 then pf h a ci k (.int x) else none
def isO (h : Hp) (a ci : Nat) : Option Unit := match h a with | some (.inr (c, _)) => if c = ci then some () else none | _ => none
section
variable (E : Ev)
def gaI (t : Nat) (h : Hp) (a : Nat) (i : Int32) : Option Int32 := match h a with | some (.inl (c, n, .inl f)) => if c = E.1 t then (ix i n).map f else none | _ => none
def gaL (h : Hp) (a : Nat) (i : Int32) : Option Int64 := match h a with | some (.inl (c, n, .inr (.inl f))) => if c = E.1 1 then (ix i n).map f else none | _ => none
def gaR (t : Nat) (h : Hp) (a : Nat) (i : Int32) : Option (Option Nat) := match h a with | some (.inl (c, n, .inr (.inr (.inr (.inr f))))) => if c = E.1 t then (ix i n).map f else none | _ => none
def gaS (a : Nat) (i : Int32) : Option Int32 := match E.2.2.2 a with | some (n, f) => (ix i n).map f | none => none
def paI (h : Hp) (a : Nat) (i : Int32) (x : Int32) : Option Hp := match h a with | some (.inl (c, n, .inl f)) => if c = E.1 0 then (ix i n).map (fun k => hset h a (.inl (E.1 0, n, .inl (upd f k x)))) else none | _ => none
def paZ (h : Hp) (a : Nat) (i : Int32) (x : Int32) : Option Hp := match h a with | some (.inl (c, n, .inl f)) => if c = E.1 2 then (ix i n).map (fun k => hset h a (.inl (E.1 2, n, .inl (upd f k (vp_nar .boolean x))))) else none | _ => none
def paB (h : Hp) (a : Nat) (i : Int32) (x : Int32) : Option Hp := match h a with | some (.inl (c, n, .inl f)) => if c = E.1 3 then (ix i n).map (fun k => hset h a (.inl (E.1 3, n, .inl (upd f k (vp_nar .byte x))))) else none | _ => none
def paL (h : Hp) (a : Nat) (i : Int32) (x : Int64) : Option Hp := match h a with | some (.inl (c, n, .inr (.inl f))) => if c = E.1 1 then (ix i n).map (fun k => hset h a (.inl (E.1 1, n, .inr (.inl (vp_updL f k x))))) else none | _ => none
def aln (t : Nat) (h : Hp) (a : Nat) : Option Int32 := match h a with | some (.inl (c, n, _)) => if c = E.1 t then some (Int32.ofNat n) else none | _ => none
def alnS (a : Nat) : Option Int32 := match E.2.2.2 a with | some (n, _) => some (Int32.ofNat n) | none => none
def acp (t : Nat) (h : Hp) (a : Nat) (z : Int32) (b : Nat) (x y : Int32) : Option Hp := match h a, h b with
  | some (.inl (c, n0, .inl f)), some (.inl (c1, n1, .inl g)) => if c = E.1 t ∧ c1 = E.1 t ∧ ¬ z < 0 ∧ ¬ x < 0 ∧ ¬ y < 0 ∧ z.toNatClampNeg + y.toNatClampNeg ≤ n0 ∧ x.toNatClampNeg + y.toNatClampNeg ≤ n1 ∧ (t = 0 ∨ (t = 2 ∧ ∀ i, i < y.toNatClampNeg → f (z.toNatClampNeg + i) = 0 ∨ f (z.toNatClampNeg + i) = 1)) then some (hset h b (.inl (E.1 t, n1, .inl (va_cpy f g z.toNatClampNeg x.toNatClampNeg y.toNatClampNeg)))) else none
  | _, _ => none
end
def dvI (x y : Int32) : Option Int32 := if y = 0 then none else some (x / y)
def rmI (x y : Int32) : Option Int32 := if y = 0 then none else some (x - x / y * y)
def dvL (x y : Int64) : Option Int64 := if y = 0 then none else some (x / y)
def rtI (v : Int32) (h : Hp) : Rs := some (.inl (some (.int v)), h)
def rtL (v : Int64) (h : Hp) : Rs := some (.inl (some (.long v)), h)
def rtV (h : Hp) : Rs := some (.inl none, h)
def rtZ (v : Int32) (h : Hp) : Rs := if v = 0 ∨ v = 1 then some (.inl (some (.int v)), h) else none
def thr (E : String) (h : Hp) : Rs := some (.inr E, h)
def cI (o : Rs) (k : Int32 → Hp → Rs) : Rs := match o with | some (.inl (some (.int v)), h) => k v h | _ => none
def cL (o : Rs) (k : Int64 → Hp → Rs) : Rs := match o with | some (.inl (some (.long v)), h) => k v h | _ => none
def cV (o : Rs) (k : Hp → Rs) : Rs := match o with | some (.inl none, h) => k h | _ => none
def xI (o : Rs) (x : String → Hp → Rs) (k : Int32 → Hp → Rs) : Rs := match o with | some (.inl (some (.int v)), h) => k v h | some (.inr E, h) => x E h | _ => none
def xL (o : Rs) (x : String → Hp → Rs) (k : Int64 → Hp → Rs) : Rs := match o with | some (.inl (some (.long v)), h) => k v h | some (.inr E, h) => x E h | _ => none
def xV (o : Rs) (x : String → Hp → Rs) (k : Hp → Rs) : Rs := match o with | some (.inl none, h) => k h | some (.inr E, h) => x E h | _ => none
def lt {α β : Type} (x : α) (f : α → β) : β := f x
theorem OK_bind {α : Type} {o : Option α} {K : α → Rs} {Φ : Ou → Hp → Prop} (q : OK (o.bind K) Φ) : ∃ x, o = some x ∧ OK (K x) Φ := by
  cases o with
  | none => exact q.elim
  | some x => exact ⟨x, rfl, q⟩
theorem ix_s {i : Int32} {n k : Nat} (q : ix i n = some k) : vp_in i n ∧ i.toNatClampNeg = k := by
  unfold ix at q
  split at q
  · cases q
  · rename_i c; cases q; exact ⟨c, rfl⟩
theorem gf_s {h : Hp} {a ci k : Nat} {v : Value} (q : gf h a ci k = some v) : ∃ fs, h a = some (.inr (ci, fs)) ∧ fs[k]? = some v := by
  unfold gf at q
  split at q
  · rename_i c fs e
    split at q
    · rename_i ec; subst ec; exact ⟨fs, e, q⟩
    · cases q
  · cases q
theorem gfI_s {h : Hp} {a ci k : Nat} {x : Int32} (q : gfI h a ci k = some x) : gf h a ci k = some (.int x) := by
  unfold gfI at q
  split at q
  · rename_i e; cases q; exact e
  · cases q
theorem gfL_s {h : Hp} {a ci k : Nat} {x : Int64} (q : gfL h a ci k = some x) : gf h a ci k = some (.long x) := by
  unfold gfL at q
  split at q
  · rename_i e; cases q; exact e
  · cases q
theorem gfR_s {h : Hp} {a ci k : Nat} {x : Nat} (q : gfR h a ci k = some x) : gf h a ci k = some (.ref x) := by
  unfold gfR at q
  split at q
  · rename_i e; cases q; exact e
  · cases q
theorem pf_s {h h' : Hp} {a ci k : Nat} {v : Value} (q : pf h a ci k v = some h') : ∃ fs, h a = some (.inr (ci, fs)) ∧ k < fs.length ∧ h' = hset h a (.inr (ci, fs.set k v)) := by
  unfold pf at q
  split at q
  · rename_i c fs e
    split at q
    · rename_i ec; obtain ⟨rfl, e2⟩ := ec; cases q; exact ⟨fs, e, e2, rfl⟩
    · cases q
  · cases q
theorem isO_s {h : Hp} {a ci : Nat} {u : Unit} (q : isO h a ci = some u) : ∃ fs, h a = some (.inr (ci, fs)) := by
  unfold isO at q
  split at q
  · rename_i c fs e
    split at q
    · rename_i ec; subst ec; exact ⟨fs, e⟩
    · cases q
  · cases q
section
variable {E : Ev}
theorem gaI_s {t : Nat} {h : Hp} {a : Nat} {i x : Int32} (q : gaI E t h a i = some x) : ∃ n f, h a = some (.inl (E.1 t, n, .inl f)) ∧ vp_in i n ∧ f i.toNatClampNeg = x := by
  unfold gaI at q
  split at q
  · rename_i c n f e
    split at q
    · rename_i ec; subst ec
      cases e2 : ix i n with
      | none => rw [e2] at q; cases q
      | some k => rw [e2] at q; cases q; obtain ⟨h1, rfl⟩ := ix_s e2; exact ⟨n, f, e, h1, rfl⟩
    · cases q
  · cases q
theorem gaL_s {h : Hp} {a : Nat} {i : Int32} {x : Int64} (q : gaL E h a i = some x) : ∃ n f, h a = some (.inl (E.1 1, n, .inr (.inl f))) ∧ vp_in i n ∧ f i.toNatClampNeg = x := by
  unfold gaL at q
  split at q
  · rename_i c n f e
    split at q
    · rename_i ec; subst ec
      cases e2 : ix i n with
      | none => rw [e2] at q; cases q
      | some k => rw [e2] at q; cases q; obtain ⟨h1, rfl⟩ := ix_s e2; exact ⟨n, f, e, h1, rfl⟩
    · cases q
  · cases q
theorem gaR_s {t : Nat} {h : Hp} {a : Nat} {i : Int32} {x : Option Nat} (q : gaR E t h a i = some x) : ∃ n f, h a = some (.inl (E.1 t, n, .inr (.inr (.inr (.inr f))))) ∧ vp_in i n ∧ f i.toNatClampNeg = x := by
  unfold gaR at q
  split at q
  · rename_i c n f e
    split at q
    · rename_i ec; subst ec
      cases e2 : ix i n with
      | none => rw [e2] at q; cases q
      | some k => rw [e2] at q; cases q; obtain ⟨h1, rfl⟩ := ix_s e2; exact ⟨n, f, e, h1, rfl⟩
    · cases q
  · cases q
theorem gaS_s {a : Nat} {i x : Int32} (q : gaS E a i = some x) : ∃ n f, E.2.2.2 a = some (n, f) ∧ vp_in i n ∧ f i.toNatClampNeg = x := by
  unfold gaS at q
  split at q
  · rename_i n f e
    cases e2 : ix i n with
    | none => rw [e2] at q; cases q
    | some k => rw [e2] at q; cases q; obtain ⟨h1, rfl⟩ := ix_s e2; exact ⟨n, f, e, h1, rfl⟩
  · cases q
theorem paI_s {h h' : Hp} {a : Nat} {i x : Int32} (q : paI E h a i x = some h') : ∃ n f, h a = some (.inl (E.1 0, n, .inl f)) ∧ vp_in i n ∧ h' = hset h a (.inl (E.1 0, n, .inl (upd f i.toNatClampNeg x))) := by
  unfold paI at q
  split at q
  · rename_i c n f e
    split at q
    · rename_i ec; subst ec
      cases e2 : ix i n with
      | none => rw [e2] at q; cases q
      | some k => rw [e2] at q; cases q; obtain ⟨h1, rfl⟩ := ix_s e2; exact ⟨n, f, e, h1, rfl⟩
    · cases q
  · cases q
theorem paZ_s {h h' : Hp} {a : Nat} {i x : Int32} (q : paZ E h a i x = some h') : ∃ n f, h a = some (.inl (E.1 2, n, .inl f)) ∧ vp_in i n ∧ h' = hset h a (.inl (E.1 2, n, .inl (upd f i.toNatClampNeg (vp_nar .boolean x)))) := by
  unfold paZ at q
  split at q
  · rename_i c n f e
    split at q
    · rename_i ec; subst ec
      cases e2 : ix i n with
      | none => rw [e2] at q; cases q
      | some k => rw [e2] at q; cases q; obtain ⟨h1, rfl⟩ := ix_s e2; exact ⟨n, f, e, h1, rfl⟩
    · cases q
  · cases q
theorem paB_s {h h' : Hp} {a : Nat} {i x : Int32} (q : paB E h a i x = some h') : ∃ n f, h a = some (.inl (E.1 3, n, .inl f)) ∧ vp_in i n ∧ h' = hset h a (.inl (E.1 3, n, .inl (upd f i.toNatClampNeg (vp_nar .byte x)))) := by
  unfold paB at q
  split at q
  · rename_i c n f e
    split at q
    · rename_i ec; subst ec
      cases e2 : ix i n with
      | none => rw [e2] at q; cases q
      | some k => rw [e2] at q; cases q; obtain ⟨h1, rfl⟩ := ix_s e2; exact ⟨n, f, e, h1, rfl⟩
    · cases q
  · cases q
theorem paL_s {h h' : Hp} {a : Nat} {i : Int32} {x : Int64} (q : paL E h a i x = some h') : ∃ n f, h a = some (.inl (E.1 1, n, .inr (.inl f))) ∧ vp_in i n ∧ h' = hset h a (.inl (E.1 1, n, .inr (.inl (vp_updL f i.toNatClampNeg x)))) := by
  unfold paL at q
  split at q
  · rename_i c n f e
    split at q
    · rename_i ec; subst ec
      cases e2 : ix i n with
      | none => rw [e2] at q; cases q
      | some k => rw [e2] at q; cases q; obtain ⟨h1, rfl⟩ := ix_s e2; exact ⟨n, f, e, h1, rfl⟩
    · cases q
  · cases q
theorem aln_s {t : Nat} {h : Hp} {a : Nat} {x : Int32} (q : aln E t h a = some x) : ∃ n f, h a = some (.inl (E.1 t, n, f)) ∧ x = Int32.ofNat n := by
  unfold aln at q
  split at q
  · rename_i c n f e
    split at q
    · rename_i ec; subst ec; cases q; exact ⟨n, f, e, rfl⟩
    · cases q
  · cases q
theorem alnS_s {a : Nat} {x : Int32} (q : alnS E a = some x) : ∃ n f, E.2.2.2 a = some (n, f) ∧ x = Int32.ofNat n := by
  unfold alnS at q
  split at q
  · rename_i n f e; cases q; exact ⟨n, f, e, rfl⟩
  · cases q
end
abbrev WE (E : Ev) (M : Mth) (d pc : Nat) (lv : Lv) (st : List Value) (h : Hp) (kc ks : Nat) (Φ : Ou → Hp → Prop) : Prop := WP E.1 E.2.2.2 E.2.1 M d pc lv st h kc ks Φ
abbrev CE (E : Ev) (M : Mth) (d : Nat) (av : List Value) (h : Hp) (mc ms : Nat) (Ψ : Ou → Hp → Prop) : Prop := CT E.1 E.2.2.2 E.2.1 M d av h mc ms Ψ
section RT
variable {E : Ev} {M : Mth} {d pc len nx : Nat} {lv lv' : Lv} {st : List Value} {h : Hp} {kc ks : Nat} {Φ : Ou → Hp → Prop}
theorem t_gfI {i a ci k : Nat} {K : Int32 → Rs} (hd : dc M pc (.getfield i) 3 nx) (hf : FLg (mo M) i ci k) (q : OK ((gfI h a ci k).bind K) Φ) (kk : ∀ x, OK (K x) Φ → WE E M d nx lv (.int x :: st) h kc ks Φ) : WE E M d pc lv (.ref a :: st) h kc ks Φ := by
  obtain ⟨x, e, q⟩ := OK_bind q
  obtain ⟨fs, e1, e2⟩ := gf_s (gfI_s e)
  exact r_getf hd hf e1 e2 (kk x q)
theorem t_gfL {i a ci k : Nat} {K : Int64 → Rs} (hd : dc M pc (.getfield i) 3 nx) (hf : FLg (mo M) i ci k) (q : OK ((gfL h a ci k).bind K) Φ) (kk : ∀ x, OK (K x) Φ → WE E M d nx lv (.long x :: st) h kc ks Φ) : WE E M d pc lv (.ref a :: st) h kc ks Φ := by
  obtain ⟨x, e, q⟩ := OK_bind q
  obtain ⟨fs, e1, e2⟩ := gf_s (gfL_s e)
  exact r_getf hd hf e1 e2 (kk x q)
theorem t_gfR {i a ci k : Nat} {K : Nat → Rs} (hd : dc M pc (.getfield i) 3 nx) (hf : FLg (mo M) i ci k) (q : OK ((gfR h a ci k).bind K) Φ) (kk : ∀ x, OK (K x) Φ → WE E M d nx lv (.ref x :: st) h kc ks Φ) : WE E M d pc lv (.ref a :: st) h kc ks Φ := by
  obtain ⟨x, e, q⟩ := OK_bind q
  obtain ⟨fs, e1, e2⟩ := gf_s (gfR_s e)
  exact r_getf hd hf e1 e2 (kk x q)
theorem t_pf {i a ci k : Nat} {v : Value} {fin : Bool} {ty : FieldType} {K : Hp → Rs} (hd : dc M pc (.putfield i) 3 nx) (hf : FLp (mo M) i ci k fin ty) (hn : narrow ty v = v) (hft : fits ty v = true) (hfi : fin = true → (my M).name = "<init>") (q : OK ((pf h a ci k v).bind K) Φ) (kk : ∀ h', OK (K h') Φ → WE E M d nx lv st h' kc ks Φ) : WE E M d pc lv (v :: .ref a :: st) h kc ks Φ := by
  obtain ⟨h', e, q⟩ := OK_bind q
  obtain ⟨fs, e1, e2, rfl⟩ := pf_s e
  exact r_putf hd hf e1 e2 hn hft hfi rfl (kk _ q)
theorem t_pfZ {i a ci k : Nat} {x : Int32} {fin : Bool} {K : Hp → Rs} (hd : dc M pc (.putfield i) 3 nx) (hf : FLp (mo M) i ci k fin .boolean) (hfi : fin = true → (my M).name = "<init>") (q : OK ((pfZ h a ci k x).bind K) Φ) (kk : ∀ h', OK (K h') Φ → WE E M d nx lv st h' kc ks Φ) : WE E M d pc lv (.int x :: .ref a :: st) h kc ks Φ := by
  obtain ⟨h', e, q⟩ := OK_bind q
  unfold pfZ at e
  split at e
  · rename_i c
    obtain ⟨fs, e1, e2, rfl⟩ := pf_s e
    exact r_putf hd hf e1 e2 (by rcases c with rfl | rfl <;> rfl) (by rcases c with rfl | rfl <;> rfl) hfi rfl (kk _ q)
  · cases e
theorem t_gaI {a : Nat} {i : Int32} {K : Int32 → Rs} (hd : dc M pc .iaload 1 nx) (q : OK ((gaI E 0 h a i).bind K) Φ) (kk : ∀ x, OK (K x) Φ → WE E M d nx lv (.int x :: st) h kc ks Φ) : WE E M d pc lv (.int i :: .ref a :: st) h kc ks Φ := by
  obtain ⟨x, e, q⟩ := OK_bind q
  obtain ⟨n, f, e1, e2, rfl⟩ := gaI_s e
  exact r_iald hd e1 e2 (kk _ q)
theorem t_gaS {a : Nat} {i : Int32} {K : Int32 → Rs} (hd : dc M pc .iaload 1 nx) (q : OK ((gaS E a i).bind K) Φ) (kk : ∀ x, OK (K x) Φ → WE E M d nx lv (.int x :: st) h kc ks Φ) : WE E M d pc lv (.int i :: .ref a :: st) h kc ks Φ := by
  obtain ⟨x, e, q⟩ := OK_bind q
  obtain ⟨n, f, e1, e2, rfl⟩ := gaS_s e
  exact r_iald_ro hd e1 e2 (kk _ q)
theorem t_gaZ {a : Nat} {i : Int32} {K : Int32 → Rs} (hd : dc M pc .baload 1 nx) (q : OK ((gaI E 2 h a i).bind K) Φ) (kk : ∀ x, OK (K x) Φ → WE E M d nx lv (.int x :: st) h kc ks Φ) : WE E M d pc lv (.int i :: .ref a :: st) h kc ks Φ := by
  obtain ⟨x, e, q⟩ := OK_bind q
  obtain ⟨n, f, e1, e2, rfl⟩ := gaI_s e
  exact r_zald hd e1 e2 (kk _ q)
theorem t_gaB {a : Nat} {i : Int32} {K : Int32 → Rs} (hd : dc M pc .baload 1 nx) (q : OK ((gaI E 3 h a i).bind K) Φ) (kk : ∀ x, OK (K x) Φ → WE E M d nx lv (.int x :: st) h kc ks Φ) : WE E M d pc lv (.int i :: .ref a :: st) h kc ks Φ := by
  obtain ⟨x, e, q⟩ := OK_bind q
  obtain ⟨n, f, e1, e2, rfl⟩ := gaI_s e
  exact r_bald hd e1 e2 (kk _ q)
theorem t_gaL {a : Nat} {i : Int32} {K : Int64 → Rs} (hd : dc M pc .laload 1 nx) (q : OK ((gaL E h a i).bind K) Φ) (kk : ∀ x, OK (K x) Φ → WE E M d nx lv (.long x :: st) h kc ks Φ) : WE E M d pc lv (.int i :: .ref a :: st) h kc ks Φ := by
  obtain ⟨x, e, q⟩ := OK_bind q
  obtain ⟨n, f, e1, e2, rfl⟩ := gaL_s e
  exact r_lald hd e1 e2 (kk _ q)
theorem t_gaR {t a : Nat} {i : Int32} {K : Nat → Rs} (hd : dc M pc .aaload 1 nx) (ht : 4 ≤ t ∧ t ≤ 8) (q : OK ((gaR E t h a i).join.bind K) Φ) (kk : ∀ x, OK (K x) Φ → WE E M d nx lv (.ref x :: st) h kc ks Φ) : WE E M d pc lv (.int i :: .ref a :: st) h kc ks Φ := by
  obtain ⟨x, e, q⟩ := OK_bind q
  cases e0 : gaR E t h a i with
  | none => rw [e0] at e; cases e
  | some z =>
    rw [e0] at e
    obtain ⟨n, f, e1, e2, e3⟩ := gaR_s e0
    have e4 : z = some x := e
    exact r_aald hd e1 ht e2 (by rw [e3, e4]; rfl) (kk _ q)
theorem t_gaN {t a t1 nx1 : Nat} {i : Int32} {off : Int} {K1 K2 : Rs} (hd : dc M pc .aaload 1 nx1) (hd2 : dc M nx1 (.ifnull off) 3 nx) (ht2 : (nx1 : Int) + off = t1) (ht : 4 ≤ t ∧ t ≤ 8) (q : OK ((gaR E t h a i).bind fun z => if z = none then K1 else K2) Φ) (k1 : OK K1 Φ → WE E M d t1 lv st h kc ks Φ) (k2 : OK K2 Φ → WE E M d nx lv st h kc ks Φ) : WE E M d pc lv (.int i :: .ref a :: st) h kc ks Φ := by
  obtain ⟨z, e, q⟩ := OK_bind q
  obtain ⟨n, f, e1, e2, e3⟩ := gaR_s e
  cases z with
  | none => exact r_aald hd e1 ht e2 (v := .null) (by rw [e3]; rfl) (r_ifnull_n hd2 ht2 (k1 q))
  | some x => exact r_aald hd e1 ht e2 (v := .ref x) (by rw [e3]; rfl) (r_ifnull_r hd2 (k2 q))
theorem t_gaM {t a t1 nx1 : Nat} {i : Int32} {off : Int} {K1 K2 : Rs} (hd : dc M pc .aaload 1 nx1) (hd2 : dc M nx1 (.ifnonnull off) 3 nx) (ht2 : (nx1 : Int) + off = t1) (ht : 4 ≤ t ∧ t ≤ 8) (q : OK ((gaR E t h a i).bind fun z => if z = none then K1 else K2) Φ) (k1 : OK K1 Φ → WE E M d nx lv st h kc ks Φ) (k2 : OK K2 Φ → WE E M d t1 lv st h kc ks Φ) : WE E M d pc lv (.int i :: .ref a :: st) h kc ks Φ := by
  obtain ⟨z, e, q⟩ := OK_bind q
  obtain ⟨n, f, e1, e2, e3⟩ := gaR_s e
  cases z with
  | none => exact r_aald hd e1 ht e2 (v := .null) (by rw [e3]; rfl) (r_ifnonnull_n hd2 (k1 q))
  | some x => exact r_aald hd e1 ht e2 (v := .ref x) (by rw [e3]; rfl) (r_ifnonnull_r hd2 ht2 (k2 q))
theorem t_paI {a : Nat} {i x : Int32} {K : Hp → Rs} (hd : dc M pc .iastore 1 nx) (q : OK ((paI E h a i x).bind K) Φ) (kk : ∀ h', OK (K h') Φ → WE E M d nx lv st h' kc ks Φ) : WE E M d pc lv (.int x :: .int i :: .ref a :: st) h kc ks Φ := by
  obtain ⟨x, e, q⟩ := OK_bind q
  obtain ⟨n, f, e1, e2, rfl⟩ := paI_s e
  exact r_iast hd e1 e2 (kk _ q)
theorem t_paZ {a : Nat} {i x : Int32} {K : Hp → Rs} (hd : dc M pc .bastore 1 nx) (q : OK ((paZ E h a i x).bind K) Φ) (kk : ∀ h', OK (K h') Φ → WE E M d nx lv st h' kc ks Φ) : WE E M d pc lv (.int x :: .int i :: .ref a :: st) h kc ks Φ := by
  obtain ⟨x, e, q⟩ := OK_bind q
  obtain ⟨n, f, e1, e2, rfl⟩ := paZ_s e
  exact r_zast hd e1 e2 (kk _ q)
theorem t_paB {a : Nat} {i x : Int32} {K : Hp → Rs} (hd : dc M pc .bastore 1 nx) (q : OK ((paB E h a i x).bind K) Φ) (kk : ∀ h', OK (K h') Φ → WE E M d nx lv st h' kc ks Φ) : WE E M d pc lv (.int x :: .int i :: .ref a :: st) h kc ks Φ := by
  obtain ⟨x, e, q⟩ := OK_bind q
  obtain ⟨n, f, e1, e2, rfl⟩ := paB_s e
  exact r_bast hd e1 e2 (kk _ q)
theorem t_paL {a : Nat} {i : Int32} {x : Int64} {K : Hp → Rs} (hd : dc M pc .lastore 1 nx) (q : OK ((paL E h a i x).bind K) Φ) (kk : ∀ h', OK (K h') Φ → WE E M d nx lv st h' kc ks Φ) : WE E M d pc lv (.long x :: .int i :: .ref a :: st) h kc ks Φ := by
  obtain ⟨x, e, q⟩ := OK_bind q
  obtain ⟨n, f, e1, e2, rfl⟩ := paL_s e
  exact r_last hd e1 e2 (kk _ q)
theorem t_aln {t a : Nat} {K : Int32 → Rs} (hd : dc M pc .arraylength 1 nx) (ht : t ≤ 8) (q : OK ((aln E t h a).bind K) Φ) (kk : ∀ x, OK (K x) Φ → WE E M d nx lv (.int x :: st) h kc ks Φ) : WE E M d pc lv (.ref a :: st) h kc ks Φ := by
  obtain ⟨x, e, q⟩ := OK_bind q
  obtain ⟨n, f, e1, rfl⟩ := aln_s e
  exact r_alen hd e1 ht (kk _ q)
theorem t_alnS {a : Nat} {K : Int32 → Rs} (hd : dc M pc .arraylength 1 nx) (q : OK ((alnS E a).bind K) Φ) (kk : ∀ x, OK (K x) Φ → WE E M d nx lv (.int x :: st) h kc ks Φ) : WE E M d pc lv (.ref a :: st) h kc ks Φ := by
  obtain ⟨x, e, q⟩ := OK_bind q
  obtain ⟨n, f, e1, rfl⟩ := alnS_s e
  exact r_alen_ro hd e1 (kk _ q)
theorem t_dvI {x y : Int32} {K : Int32 → Rs} (hd : dc M pc .idiv 1 nx) (q : OK ((dvI x y).bind K) Φ) (kk : ∀ z, OK (K z) Φ → WE E M d nx lv (.int z :: st) h kc ks Φ) : WE E M d pc lv (.int y :: .int x :: st) h kc ks Φ := by
  obtain ⟨z, e, q⟩ := OK_bind q
  unfold dvI at e
  split at e
  · cases e
  · rename_i c; cases e; exact r_idiv hd c (kk _ q)
theorem t_rmI {x y : Int32} {K : Int32 → Rs} (hd : dc M pc .irem 1 nx) (q : OK ((rmI x y).bind K) Φ) (kk : ∀ z, OK (K z) Φ → WE E M d nx lv (.int z :: st) h kc ks Φ) : WE E M d pc lv (.int y :: .int x :: st) h kc ks Φ := by
  obtain ⟨z, e, q⟩ := OK_bind q
  unfold rmI at e
  split at e
  · cases e
  · rename_i c; cases e; exact r_irem hd c (kk _ q)
theorem t_dvL {x y : Int64} {K : Int64 → Rs} (hd : dc M pc .ldiv 1 nx) (q : OK ((dvL x y).bind K) Φ) (kk : ∀ z, OK (K z) Φ → WE E M d nx lv (.long z :: st) h kc ks Φ) : WE E M d pc lv (.long y :: .long x :: st) h kc ks Φ := by
  obtain ⟨z, e, q⟩ := OK_bind q
  unfold dvL at e
  split at e
  · cases e
  · rename_i c; cases e; exact r_ldiv hd c (kk _ q)
theorem OK_t {c : Prop} {A B : Rs} (i : Decidable c) (q : OK (@ite _ c i A B) Φ) (hc : c) : OK A Φ := by rw [if_pos hc] at q; exact q
theorem OK_f {c : Prop} {A B : Rs} (i : Decidable c) (q : OK (@ite _ c i A B) Φ) (hc : ¬ c) : OK B Φ := by rw [if_neg hc] at q; exact q
theorem t_icmp_eq {x y : Int32} {off : Int} {t : Nat} {A B : Rs} {i : Decidable (x = y)} (hd : dc M pc (.if_icmp .eq off) 3 nx) (ht : (pc : Int) + off = t) (q : OK (@ite _ (x = y) i A B) Φ) (k1 : OK A Φ → WE E M d t lv st h kc ks Φ) (k2 : OK B Φ → WE E M d nx lv st h kc ks Φ) : WE E M d pc lv (.int y :: .int x :: st) h kc ks Φ := r_icmp_eq hd ht (fun c => k1 (OK_t i q c)) (fun c => k2 (OK_f i q c))
theorem t_if_eq {x : Int32} {off : Int} {t : Nat} {A B : Rs} {i : Decidable (x = 0)} (hd : dc M pc (.ifCond .eq off) 3 nx) (ht : (pc : Int) + off = t) (q : OK (@ite _ (x = 0) i A B) Φ) (k1 : OK A Φ → WE E M d t lv st h kc ks Φ) (k2 : OK B Φ → WE E M d nx lv st h kc ks Φ) : WE E M d pc lv (.int x :: st) h kc ks Φ := r_if_eq hd ht (fun c => k1 (OK_t i q c)) (fun c => k2 (OK_f i q c))
theorem t_icmp_ne {x y : Int32} {off : Int} {t : Nat} {A B : Rs} {i : Decidable (¬ x = y)} (hd : dc M pc (.if_icmp .ne off) 3 nx) (ht : (pc : Int) + off = t) (q : OK (@ite _ (¬ x = y) i A B) Φ) (k1 : OK A Φ → WE E M d t lv st h kc ks Φ) (k2 : OK B Φ → WE E M d nx lv st h kc ks Φ) : WE E M d pc lv (.int y :: .int x :: st) h kc ks Φ := r_icmp_ne hd ht (fun c => k1 (OK_t i q c)) (fun c => k2 (OK_f i q c))
theorem t_if_ne {x : Int32} {off : Int} {t : Nat} {A B : Rs} {i : Decidable (¬ x = 0)} (hd : dc M pc (.ifCond .ne off) 3 nx) (ht : (pc : Int) + off = t) (q : OK (@ite _ (¬ x = 0) i A B) Φ) (k1 : OK A Φ → WE E M d t lv st h kc ks Φ) (k2 : OK B Φ → WE E M d nx lv st h kc ks Φ) : WE E M d pc lv (.int x :: st) h kc ks Φ := r_if_ne hd ht (fun c => k1 (OK_t i q c)) (fun c => k2 (OK_f i q c))
theorem t_icmp_lt {x y : Int32} {off : Int} {t : Nat} {A B : Rs} {i : Decidable (x < y)} (hd : dc M pc (.if_icmp .lt off) 3 nx) (ht : (pc : Int) + off = t) (q : OK (@ite _ (x < y) i A B) Φ) (k1 : OK A Φ → WE E M d t lv st h kc ks Φ) (k2 : OK B Φ → WE E M d nx lv st h kc ks Φ) : WE E M d pc lv (.int y :: .int x :: st) h kc ks Φ := r_icmp_lt hd ht (fun c => k1 (OK_t i q c)) (fun c => k2 (OK_f i q c))
theorem t_if_lt {x : Int32} {off : Int} {t : Nat} {A B : Rs} {i : Decidable (x < 0)} (hd : dc M pc (.ifCond .lt off) 3 nx) (ht : (pc : Int) + off = t) (q : OK (@ite _ (x < 0) i A B) Φ) (k1 : OK A Φ → WE E M d t lv st h kc ks Φ) (k2 : OK B Φ → WE E M d nx lv st h kc ks Φ) : WE E M d pc lv (.int x :: st) h kc ks Φ := r_if_lt hd ht (fun c => k1 (OK_t i q c)) (fun c => k2 (OK_f i q c))
theorem t_icmp_ge {x y : Int32} {off : Int} {t : Nat} {A B : Rs} {i : Decidable (y ≤ x)} (hd : dc M pc (.if_icmp .ge off) 3 nx) (ht : (pc : Int) + off = t) (q : OK (@ite _ (y ≤ x) i A B) Φ) (k1 : OK A Φ → WE E M d t lv st h kc ks Φ) (k2 : OK B Φ → WE E M d nx lv st h kc ks Φ) : WE E M d pc lv (.int y :: .int x :: st) h kc ks Φ := r_icmp_ge hd ht (fun c => k1 (OK_t i q c)) (fun c => k2 (OK_f i q c))
theorem t_if_ge {x : Int32} {off : Int} {t : Nat} {A B : Rs} {i : Decidable (0 ≤ x)} (hd : dc M pc (.ifCond .ge off) 3 nx) (ht : (pc : Int) + off = t) (q : OK (@ite _ (0 ≤ x) i A B) Φ) (k1 : OK A Φ → WE E M d t lv st h kc ks Φ) (k2 : OK B Φ → WE E M d nx lv st h kc ks Φ) : WE E M d pc lv (.int x :: st) h kc ks Φ := r_if_ge hd ht (fun c => k1 (OK_t i q c)) (fun c => k2 (OK_f i q c))
theorem t_icmp_gt {x y : Int32} {off : Int} {t : Nat} {A B : Rs} {i : Decidable (y < x)} (hd : dc M pc (.if_icmp .gt off) 3 nx) (ht : (pc : Int) + off = t) (q : OK (@ite _ (y < x) i A B) Φ) (k1 : OK A Φ → WE E M d t lv st h kc ks Φ) (k2 : OK B Φ → WE E M d nx lv st h kc ks Φ) : WE E M d pc lv (.int y :: .int x :: st) h kc ks Φ := r_icmp_gt hd ht (fun c => k1 (OK_t i q c)) (fun c => k2 (OK_f i q c))
theorem t_if_gt {x : Int32} {off : Int} {t : Nat} {A B : Rs} {i : Decidable (0 < x)} (hd : dc M pc (.ifCond .gt off) 3 nx) (ht : (pc : Int) + off = t) (q : OK (@ite _ (0 < x) i A B) Φ) (k1 : OK A Φ → WE E M d t lv st h kc ks Φ) (k2 : OK B Φ → WE E M d nx lv st h kc ks Φ) : WE E M d pc lv (.int x :: st) h kc ks Φ := r_if_gt hd ht (fun c => k1 (OK_t i q c)) (fun c => k2 (OK_f i q c))
theorem t_icmp_le {x y : Int32} {off : Int} {t : Nat} {A B : Rs} {i : Decidable (x ≤ y)} (hd : dc M pc (.if_icmp .le off) 3 nx) (ht : (pc : Int) + off = t) (q : OK (@ite _ (x ≤ y) i A B) Φ) (k1 : OK A Φ → WE E M d t lv st h kc ks Φ) (k2 : OK B Φ → WE E M d nx lv st h kc ks Φ) : WE E M d pc lv (.int y :: .int x :: st) h kc ks Φ := r_icmp_le hd ht (fun c => k1 (OK_t i q c)) (fun c => k2 (OK_f i q c))
theorem t_if_le {x : Int32} {off : Int} {t : Nat} {A B : Rs} {i : Decidable (x ≤ 0)} (hd : dc M pc (.ifCond .le off) 3 nx) (ht : (pc : Int) + off = t) (q : OK (@ite _ (x ≤ 0) i A B) Φ) (k1 : OK A Φ → WE E M d t lv st h kc ks Φ) (k2 : OK B Φ → WE E M d nx lv st h kc ks Φ) : WE E M d pc lv (.int x :: st) h kc ks Φ := r_if_le hd ht (fun c => k1 (OK_t i q c)) (fun c => k2 (OK_f i q c))
theorem lgc_eq {x y : Int64} : lg_cmp x y = 0 ↔ x = y := by
  unfold lg_cmp
  by_cases c : x > y
  · rw [if_pos c]; exact ⟨fun q => absurd q (by decide), fun q => by subst q; exact absurd c Int64.lt_irrefl⟩
  · rw [if_neg c]
    by_cases c2 : x = y
    · rw [if_pos c2]; exact ⟨fun _ => c2, fun _ => rfl⟩
    · rw [if_neg c2]; exact ⟨fun q => absurd q (by decide), fun q => absurd q c2⟩
theorem lgc_lt {x y : Int64} : lg_cmp x y < 0 ↔ x < y := by
  unfold lg_cmp
  by_cases c : x > y
  · rw [if_pos c]; exact ⟨fun q => absurd q (by decide), fun q => absurd q (Int64.not_lt.mpr (Int64.le_of_lt c))⟩
  · rw [if_neg c]
    by_cases c2 : x = y
    · rw [if_pos c2]; exact ⟨fun q => absurd q (by decide), fun q => by subst c2; exact absurd q Int64.lt_irrefl⟩
    · rw [if_neg c2]; exact ⟨fun _ => Int64.lt_of_le_of_ne (Int64.not_lt.mp c) c2, fun _ => by decide⟩
theorem lgc_gt {x y : Int64} : 0 < lg_cmp x y ↔ y < x := by
  unfold lg_cmp
  by_cases c : x > y
  · rw [if_pos c]; exact ⟨fun _ => c, fun _ => by decide⟩
  · rw [if_neg c]
    by_cases c2 : x = y
    · rw [if_pos c2]; exact ⟨fun q => absurd q (by decide), fun q => absurd q c⟩
    · rw [if_neg c2]; exact ⟨fun q => absurd q (by decide), fun q => absurd q c⟩
theorem lgc_ge {x y : Int64} : 0 ≤ lg_cmp x y ↔ y ≤ x := by rw [← Int32.not_lt, ← Int64.not_lt]; exact not_congr lgc_lt
theorem lgc_le {x y : Int64} : lg_cmp x y ≤ 0 ↔ x ≤ y := by rw [← Int32.not_lt, ← Int64.not_lt]; exact not_congr lgc_gt
theorem lgc_ne {x y : Int64} : ¬ lg_cmp x y = 0 ↔ ¬ x = y := not_congr lgc_eq
theorem t_lc_eq {x y : Int64} {off : Int} {t nx1 : Nat} {A B : Rs} {i : Decidable (x = y)} (hd0 : dc M pc .lcmp 1 nx1) (hd : dc M nx1 (.ifCond .eq off) 3 nx) (ht : (nx1 : Int) + off = t) (q : OK (@ite _ (x = y) i A B) Φ) (k1 : OK A Φ → WE E M d t lv st h kc ks Φ) (k2 : OK B Φ → WE E M d nx lv st h kc ks Φ) : WE E M d pc lv (.long y :: .long x :: st) h kc ks Φ := r_lcmp hd0 (r_if_eq hd ht (fun c => k1 (OK_t i q (lgc_eq.mp c))) (fun c => k2 (OK_f i q (fun z => c (lgc_eq.mpr z)))))
theorem t_lc_ne {x y : Int64} {off : Int} {t nx1 : Nat} {A B : Rs} {i : Decidable (¬ x = y)} (hd0 : dc M pc .lcmp 1 nx1) (hd : dc M nx1 (.ifCond .ne off) 3 nx) (ht : (nx1 : Int) + off = t) (q : OK (@ite _ (¬ x = y) i A B) Φ) (k1 : OK A Φ → WE E M d t lv st h kc ks Φ) (k2 : OK B Φ → WE E M d nx lv st h kc ks Φ) : WE E M d pc lv (.long y :: .long x :: st) h kc ks Φ := r_lcmp hd0 (r_if_ne hd ht (fun c => k1 (OK_t i q (lgc_ne.mp c))) (fun c => k2 (OK_f i q (fun z => c (lgc_ne.mpr z)))))
theorem t_lc_lt {x y : Int64} {off : Int} {t nx1 : Nat} {A B : Rs} {i : Decidable (x < y)} (hd0 : dc M pc .lcmp 1 nx1) (hd : dc M nx1 (.ifCond .lt off) 3 nx) (ht : (nx1 : Int) + off = t) (q : OK (@ite _ (x < y) i A B) Φ) (k1 : OK A Φ → WE E M d t lv st h kc ks Φ) (k2 : OK B Φ → WE E M d nx lv st h kc ks Φ) : WE E M d pc lv (.long y :: .long x :: st) h kc ks Φ := r_lcmp hd0 (r_if_lt hd ht (fun c => k1 (OK_t i q (lgc_lt.mp c))) (fun c => k2 (OK_f i q (fun z => c (lgc_lt.mpr z)))))
theorem t_lc_ge {x y : Int64} {off : Int} {t nx1 : Nat} {A B : Rs} {i : Decidable (y ≤ x)} (hd0 : dc M pc .lcmp 1 nx1) (hd : dc M nx1 (.ifCond .ge off) 3 nx) (ht : (nx1 : Int) + off = t) (q : OK (@ite _ (y ≤ x) i A B) Φ) (k1 : OK A Φ → WE E M d t lv st h kc ks Φ) (k2 : OK B Φ → WE E M d nx lv st h kc ks Φ) : WE E M d pc lv (.long y :: .long x :: st) h kc ks Φ := r_lcmp hd0 (r_if_ge hd ht (fun c => k1 (OK_t i q (lgc_ge.mp c))) (fun c => k2 (OK_f i q (fun z => c (lgc_ge.mpr z)))))
theorem t_lc_gt {x y : Int64} {off : Int} {t nx1 : Nat} {A B : Rs} {i : Decidable (y < x)} (hd0 : dc M pc .lcmp 1 nx1) (hd : dc M nx1 (.ifCond .gt off) 3 nx) (ht : (nx1 : Int) + off = t) (q : OK (@ite _ (y < x) i A B) Φ) (k1 : OK A Φ → WE E M d t lv st h kc ks Φ) (k2 : OK B Φ → WE E M d nx lv st h kc ks Φ) : WE E M d pc lv (.long y :: .long x :: st) h kc ks Φ := r_lcmp hd0 (r_if_gt hd ht (fun c => k1 (OK_t i q (lgc_gt.mp c))) (fun c => k2 (OK_f i q (fun z => c (lgc_gt.mpr z)))))
theorem t_lc_le {x y : Int64} {off : Int} {t nx1 : Nat} {A B : Rs} {i : Decidable (x ≤ y)} (hd0 : dc M pc .lcmp 1 nx1) (hd : dc M nx1 (.ifCond .le off) 3 nx) (ht : (nx1 : Int) + off = t) (q : OK (@ite _ (x ≤ y) i A B) Φ) (k1 : OK A Φ → WE E M d t lv st h kc ks Φ) (k2 : OK B Φ → WE E M d nx lv st h kc ks Φ) : WE E M d pc lv (.long y :: .long x :: st) h kc ks Φ := r_lcmp hd0 (r_if_le hd ht (fun c => k1 (OK_t i q (lgc_le.mp c))) (fun c => k2 (OK_f i q (fun z => c (lgc_le.mpr z)))))
theorem OK_ite {c : Prop} {i : Decidable c} {A B : Rs} {X : Prop} (q : OK (@ite _ c i A B) Φ) (k1 : c → OK A Φ → X) (k2 : ¬ c → OK B Φ → X) : X := by
  by_cases hc : c
  · exact k1 hc (OK_t i q hc)
  · exact k2 hc (OK_f i q hc)
def tswT (pc : Nat) (df lo hi : Int) (offs : Array Int) (x : Int) : Option Nat := if x < lo ∨ hi < x then (if 0 ≤ (pc : Int) + df then some (tgt pc df) else none) else match offs[(x - lo).toNat]? with | some off => if 0 ≤ (pc : Int) + off then some (tgt pc off) else none | none => none
theorem r_tsw {df lo hi : Int} {offs : Array Int} {x : Int32} (t : Nat) (hd : dc M pc (.tableswitch df lo hi offs) len nx) (ht : tswT pc df lo hi offs x.toInt = some t) (k : WE E M d t lv st h kc ks Φ) : WE E M d pc lv (.int x :: st) h kc ks Φ := by
  refine WPc.intro _ _ _ ⟨_, _, hd.1, Or.inr (Or.inr (Or.inl ⟨fun c => ?_, fun c1 c2 => ?_⟩))⟩
  · unfold tswT at ht
    rw [if_pos c] at ht
    split at ht
    · rename_i c3; cases ht; exact ⟨c3, k⟩
    · cases ht
  · unfold tswT at ht
    rw [if_neg (by omega)] at ht
    split at ht
    · rename_i off e
      split at ht
      · rename_i c3; cases ht; exact ⟨off, e, c3, k⟩
      · cases ht
    · cases ht
theorem tsw_d {df lo hi : Int} {offs : Array Int} {x : Int} {t : Nat} (hx : x < lo ∨ hi < x) (h0 : 0 ≤ (pc : Int) + df) (ht : tgt pc df = t) : tswT pc df lo hi offs x = some t := by
  unfold tswT; rw [if_pos hx, if_pos h0, ht]
theorem r_lsw {df : Int} {ps : Array (Int × Int)} {x : Int32} (t : Nat) (hd : dc M pc (.lookupswitch df ps) len nx) (hs : (ps.toList.zip (ps.toList.drop 1)).all (fun (a, next) => a.1 < next.1) = true) (h0 : 0 ≤ (pc : Int) + Op.lookupswitch.offset ps.toList df x.toInt) (ht : tgt pc (Op.lookupswitch.offset ps.toList df x.toInt) = t) (k : WE E M d t lv st h kc ks Φ) : WE E M d pc lv (.int x :: st) h kc ks Φ := by
  subst ht
  exact WPc.intro _ _ _ ⟨_, _, hd.1, Or.inr (Or.inr (Or.inl ⟨hs, h0, k⟩))⟩
theorem ne_i {x y : Int32} (h : ¬ x = y) : ¬ x.toInt = y.toInt := fun e => h (Int32.toInt_inj.mp e)
theorem r_max {i a : Nat} {x y : Int32} (hd : dc M pc (.invokestatic i) 3 nx) (hj : Cond.methodLink (cn (mo M)) i Lib.Math.max.name ∈ tblG ∧ Cond.static Lib.Math.max.name ∈ tblG ∧ Cond.initialized "java/lang/Math" ∈ tblG ∧ Cond.code Lib.Math.max.name Lib.Math.max.code 2 (some .int) ∈ tblG) (k : WE E M d nx lv (.int (if x < y then y else x) :: [.ref a]) h kc ks Φ) : WE E M d pc lv (.int y :: .int x :: [.ref a]) h kc ks Φ := by
  obtain ⟨h9, rfl⟩ := hd; obtain ⟨j1, j2, j3, j4⟩ := hj
  exact WPc.intro _ _ _ ⟨_, _, h9, Or.inr (Or.inr (Or.inr (Or.inr (Or.inr (Or.inl ⟨j1, j2, j3, j4, (Nat.le_of_ble_eq_true rfl), k⟩)))))⟩
theorem r_min {i a : Nat} {x y : Int32} (hd : dc M pc (.invokestatic i) 3 nx) (hj : Cond.methodLink (cn (mo M)) i Lib.Math.min.name ∈ tblG ∧ Cond.static Lib.Math.min.name ∈ tblG ∧ Cond.initialized "java/lang/Math" ∈ tblG ∧ Cond.code Lib.Math.min.name Lib.Math.min.code 2 (some .int) ∈ tblG) (k : WE E M d nx lv (.int (if y < x then y else x) :: [.ref a]) h kc ks Φ) : WE E M d pc lv (.int y :: .int x :: [.ref a]) h kc ks Φ := by
  obtain ⟨h9, rfl⟩ := hd; obtain ⟨j1, j2, j3, j4⟩ := hj
  exact WPc.intro _ _ _ ⟨_, _, h9, Or.inr (Or.inr (Or.inr (Or.inr (Or.inr (Or.inr ⟨j1, j2, j3, j4, (Nat.le_of_ble_eq_true rfl), k⟩)))))⟩
theorem r_absl {i : Nat} {x : Int64} (hd : dc M pc (.invokestatic i) 3 nx) (hj : Cond.methodLink (cn (mo M)) i Lib.MathLoose.abs_long.x ∈ tblG ∧ Cond.static Lib.MathLoose.abs_long.x ∈ tblG ∧ Cond.initialized "java/lang/Math" ∈ tblG ∧ Cond.code Lib.MathLoose.abs_long.x Lib.MathLoose.abs_long.code 2 (some .long) ∈ tblG) (hs : (st.map fun v => v.category).sum ≤ 8) (k : WE E M d nx lv (.long (if 0 < x then x else -x) :: st) h kc ks Φ) : WE E M d pc lv (.long x :: st) h kc ks Φ := by
  obtain ⟨h9, rfl⟩ := hd; obtain ⟨j1, j2, j3, j4⟩ := hj
  exact WPc.intro _ _ _ ⟨_, _, h9, Or.inr (Or.inr (Or.inr (Or.inr (Or.inr (⟨j1, j2, j3, j4, hs, k⟩)))))⟩
theorem t_acp {t i a b : Nat} {z x y : Int32} {K : Hp → Rs} (hd : dc M pc (.invokestatic i) 3 nx) (hj : Cond.methodLink (cn (mo M)) i arraycopyName ∈ tblG ∧ Cond.native arraycopyName ∈ tblG ∧ Cond.static arraycopyName ∈ tblG ∧ Cond.initialized "java/lang/System" ∈ tblG) (hs : (st.map fun v => v.category).sum ≤ 8) (q : OK ((acp E t h a z b x y).bind K) Φ) (kk : ∀ h', OK (K h') Φ → WE E M d nx lv st h' kc ks Φ) : WE E M d pc lv (.int y :: .int x :: .ref b :: .int z :: .ref a :: st) h kc ks Φ := by
  obtain ⟨h9, rfl⟩ := hd; obtain ⟨j1, j2, j3, j4⟩ := hj
  obtain ⟨h', e, q⟩ := OK_bind q
  unfold acp at e
  split at e
  · rename_i c n0 f c1 n1 g ea eb
    split at e
    · rename_i cc
      obtain ⟨rfl, rfl, p1, p2, p3, p4, p5, p6⟩ := cc
      cases e
      refine WPc.intro _ _ _ ⟨_, _, h9, Or.inr (Or.inr (Or.inr (Or.inr (Or.inr (⟨j1, j2, j3, j4, hs, p1, p2, p3, t, n0, n1, f, g, ?_, ea, eb, p4, p5, ?_, kk _ q⟩)))))⟩
      · rcases p6 with p6 | p6
        · exact Or.inl p6
        · exact Or.inr p6.1
      · intro i hi
        rcases p6 with p6 | p6
        · subst p6; rfl
        · obtain ⟨rfl, p6⟩ := p6
          rcases p6 i hi with e | e <;> rw [e] <;> rfl
    · cases e
  · cases e
def sLn (j : Nat) : Option Int32 := if j < 25 then some (Int32.ofNat (sln j)) else none
def sCh (j : Nat) (k : Int32) : Option Int32 := if j < 25 then (ix k (sln j)).map (fun i => Int32.ofNat (sch j i)) else none
theorem t_sLn {i j : Nat} {K : Int32 → Rs} (hd : dc M pc (.invokevirtual i) 3 nx) (hj : Cond.methodLink (cn (mo M)) i yLen ∈ tblG) (hs : (st.map fun v => v.category).sum ≤ 8) (q : OK ((sLn j).bind K) Φ) (kk : ∀ x, OK (K x) Φ → WE E M d nx lv (.int x :: st) h kc ks Φ) : WE E M d pc lv (.ref (E.2.1 j) :: st) h kc ks Φ := by
  obtain ⟨h9, rfl⟩ := hd
  obtain ⟨x, e, q⟩ := OK_bind q
  unfold sLn at e
  split at e
  · rename_i c; cases e
    exact WPc.intro _ _ _ ⟨_, _, h9, Or.inr (Or.inr (Or.inr (Or.inr (Or.inr (⟨j, c, rfl, hj, hs, kk _ q⟩)))))⟩
  · cases e
theorem t_sCh {i j : Nat} {k : Int32} {K : Int32 → Rs} (hd : dc M pc (.invokevirtual i) 3 nx) (hj : Cond.methodLink (cn (mo M)) i yChr ∈ tblG) (hs : (st.map fun v => v.category).sum ≤ 8) (q : OK ((sCh j k).bind K) Φ) (kk : ∀ x, OK (K x) Φ → WE E M d nx lv (.int x :: st) h kc ks Φ) : WE E M d pc lv (.int k :: .ref (E.2.1 j) :: st) h kc ks Φ := by
  obtain ⟨h9, rfl⟩ := hd
  obtain ⟨x, e, q⟩ := OK_bind q
  unfold sCh at e
  split at e
  · rename_i c
    cases e2 : ix k (sln j) with
    | none => rw [e2] at e; cases e
    | some z =>
      rw [e2] at e; cases e
      obtain ⟨h1, rfl⟩ := ix_s e2
      exact WPc.intro _ _ _ ⟨_, _, h9, Or.inr (Or.inr (Or.inr (Or.inr (Or.inr (⟨j, c, rfl, hj, h1, hs, kk _ q⟩)))))⟩
  · cases e
theorem t_rtZ {v : Int32} (hd : dc M pc .ireturn 1 nx) (hr : mr M = some .boolean) (q : OK (rtZ v h) Φ) : WE E M d pc lv [.int v] h kc ks Φ := by
  unfold rtZ at q
  split at q
  · rename_i c; exact r_zret hd hr (by rcases c with rfl | rfl <;> rfl) q
  · exact q.elim
theorem t_rtI {v : Int32} (hd : dc M pc .ireturn 1 nx) (hr : mr M = some .int) (q : OK (rtI v h) Φ) : WE E M d pc lv [.int v] h kc ks Φ := r_iret hd hr q
theorem t_rtL {v : Int64} (hd : dc M pc .lreturn 1 nx) (hr : mr M = some .long) (q : OK (rtL v h) Φ) : WE E M d pc lv [.long v] h kc ks Φ := r_lret hd hr q
theorem t_rtV (hd : dc M pc .return_ 1 nx) (hr : mr M = none) (q : OK (rtV h) Φ) : WE E M d pc lv [] h kc ks Φ := r_vret hd hr q
theorem t_statI {idx d' : Nat} {M' : Mth} {As rest : List Value} {Fc : Rs} {KK : Int32 → Hp → Rs} (hd : dc M pc (.invokestatic idx) 3 nx) (hl : MLk (mo M) idx M' 0 As.length) (hst : st = As.reverse ++ rest) (hdd : d = d' + 1) (hw : (rest.map fun v => v.category).sum ≤ 8) (ha : (lg_sl As).length ≤ ml M') (hq : ∀ Ψ, OK Fc Ψ → CE E M' d' As h 0 0 Ψ) (q : OK (cI Fc KK) Φ) (kk : ∀ (v : Int32) (h' : Hp), OK (KK v h') Φ → WE E M d nx lv (.int v :: rest) h' kc ks Φ) : WE E M d pc lv st h kc ks Φ := by
  unfold cI at q
  split at q
  · rename_i _ v h'
    refine r_stat (post := fun v' h'' => v' = some (.int v) ∧ h'' = h') hd hl hst hdd hw ha (Nat.zero_le _) (Nat.zero_le _) (hq _ ⟨rfl, rfl⟩) (fun v' h'' e => ?_)
    obtain ⟨rfl, rfl⟩ := e
    exact kk v h'' q
  · exact q.elim
theorem t_statIx {idx d' mc ms : Nat} {M' : Mth} {As rest : List Value} {Fc : Rs} {Kx : String → Hp → Rs} {KK : Int32 → Hp → Rs} (hd : dc M pc (.invokestatic idx) 3 nx) (hl : MLk (mo M) idx M' 0 As.length) (hL : Lkd M idx M') (hst : st = As.reverse ++ rest) (hdd : d = d' + 1) (hw : (rest.map fun v => v.category).sum ≤ 8) (ha : (lg_sl As).length ≤ ml M') (h1 : mc ≤ kc) (h2 : ms ≤ ks) (hq : ∀ Ψ, OK Fc Ψ → CE E M' d' As h mc ms Ψ) (q : OK (xI Fc Kx KK) Φ) (kx : ∀ (Ex : String) (h' : Hp), OK (Kx Ex h') Φ → (mh M = [] ∧ Φ (.inr Ex) h') ∨ (∃ hpc : Nat, XHs M pc Ex hpc ncsL ∧ ∀ q : Nat, WE E M d hpc lv [.ref q] h' (kc - mc) (ks - ms) Φ)) (kk : ∀ (v : Int32) (h' : Hp), OK (KK v h') Φ → WE E M d nx lv (.int v :: rest) h' (kc - mc) (ks - ms) Φ) : WE E M d pc lv st h kc ks Φ := by
  unfold xI at q
  split at q
  · rename_i _ v h'
    refine r_statX (post := fun v' h'' => v' = some (.int v) ∧ h'' = h') (xs := No) hd hl hL hst hdd hw ha h1 h2 (hq _ ⟨rfl, rfl⟩) (fun _ _ z => z.elim) (fun v' h'' e => ?_)
    obtain ⟨rfl, rfl⟩ := e
    exact kk v h'' q
  · rename_i _ Ee h'
    refine r_statX (post := fun _ _ => False) (xs := fun e h'' => e = Ee ∧ h'' = h') hd hl hL hst hdd hw ha h1 h2 (hq _ ⟨rfl, rfl⟩) (fun e h'' z => ?_) (fun _ _ z => z.elim)
    obtain ⟨rfl, rfl⟩ := z
    exact kx _ _ q
  · exact q.elim
theorem t_statL {idx d' : Nat} {M' : Mth} {As rest : List Value} {Fc : Rs} {KK : Int64 → Hp → Rs} (hd : dc M pc (.invokestatic idx) 3 nx) (hl : MLk (mo M) idx M' 0 As.length) (hst : st = As.reverse ++ rest) (hdd : d = d' + 1) (hw : (rest.map fun v => v.category).sum ≤ 8) (ha : (lg_sl As).length ≤ ml M') (hq : ∀ Ψ, OK Fc Ψ → CE E M' d' As h 0 0 Ψ) (q : OK (cL Fc KK) Φ) (kk : ∀ (v : Int64) (h' : Hp), OK (KK v h') Φ → WE E M d nx lv (.long v :: rest) h' kc ks Φ) : WE E M d pc lv st h kc ks Φ := by
  unfold cL at q
  split at q
  · rename_i _ v h'
    refine r_stat (post := fun v' h'' => v' = some (.long v) ∧ h'' = h') hd hl hst hdd hw ha (Nat.zero_le _) (Nat.zero_le _) (hq _ ⟨rfl, rfl⟩) (fun v' h'' e => ?_)
    obtain ⟨rfl, rfl⟩ := e
    exact kk v h'' q
  · exact q.elim
theorem t_statLx {idx d' mc ms : Nat} {M' : Mth} {As rest : List Value} {Fc : Rs} {Kx : String → Hp → Rs} {KK : Int64 → Hp → Rs} (hd : dc M pc (.invokestatic idx) 3 nx) (hl : MLk (mo M) idx M' 0 As.length) (hL : Lkd M idx M') (hst : st = As.reverse ++ rest) (hdd : d = d' + 1) (hw : (rest.map fun v => v.category).sum ≤ 8) (ha : (lg_sl As).length ≤ ml M') (h1 : mc ≤ kc) (h2 : ms ≤ ks) (hq : ∀ Ψ, OK Fc Ψ → CE E M' d' As h mc ms Ψ) (q : OK (xL Fc Kx KK) Φ) (kx : ∀ (Ex : String) (h' : Hp), OK (Kx Ex h') Φ → (mh M = [] ∧ Φ (.inr Ex) h') ∨ (∃ hpc : Nat, XHs M pc Ex hpc ncsL ∧ ∀ q : Nat, WE E M d hpc lv [.ref q] h' (kc - mc) (ks - ms) Φ)) (kk : ∀ (v : Int64) (h' : Hp), OK (KK v h') Φ → WE E M d nx lv (.long v :: rest) h' (kc - mc) (ks - ms) Φ) : WE E M d pc lv st h kc ks Φ := by
  unfold xL at q
  split at q
  · rename_i _ v h'
    refine r_statX (post := fun v' h'' => v' = some (.long v) ∧ h'' = h') (xs := No) hd hl hL hst hdd hw ha h1 h2 (hq _ ⟨rfl, rfl⟩) (fun _ _ z => z.elim) (fun v' h'' e => ?_)
    obtain ⟨rfl, rfl⟩ := e
    exact kk v h'' q
  · rename_i _ Ee h'
    refine r_statX (post := fun _ _ => False) (xs := fun e h'' => e = Ee ∧ h'' = h') hd hl hL hst hdd hw ha h1 h2 (hq _ ⟨rfl, rfl⟩) (fun e h'' z => ?_) (fun _ _ z => z.elim)
    obtain ⟨rfl, rfl⟩ := z
    exact kx _ _ q
  · exact q.elim
theorem t_statV {idx d' : Nat} {M' : Mth} {As rest : List Value} {Fc : Rs} {KK : Hp → Rs} (hd : dc M pc (.invokestatic idx) 3 nx) (hl : MLk (mo M) idx M' 0 As.length) (hst : st = As.reverse ++ rest) (hdd : d = d' + 1) (hw : (rest.map fun v => v.category).sum ≤ 8) (ha : (lg_sl As).length ≤ ml M') (hq : ∀ Ψ, OK Fc Ψ → CE E M' d' As h 0 0 Ψ) (q : OK (cV Fc KK) Φ) (kk : ∀ (h' : Hp), OK (KK h') Φ → WE E M d nx lv (rest) h' kc ks Φ) : WE E M d pc lv st h kc ks Φ := by
  unfold cV at q
  split at q
  · rename_i _ h'
    refine r_stat (post := fun v' h'' => v' = none ∧ h'' = h') hd hl hst hdd hw ha (Nat.zero_le _) (Nat.zero_le _) (hq _ ⟨rfl, rfl⟩) (fun v' h'' e => ?_)
    obtain ⟨rfl, rfl⟩ := e
    exact kk h'' q
  · exact q.elim
theorem t_statVx {idx d' mc ms : Nat} {M' : Mth} {As rest : List Value} {Fc : Rs} {Kx : String → Hp → Rs} {KK : Hp → Rs} (hd : dc M pc (.invokestatic idx) 3 nx) (hl : MLk (mo M) idx M' 0 As.length) (hL : Lkd M idx M') (hst : st = As.reverse ++ rest) (hdd : d = d' + 1) (hw : (rest.map fun v => v.category).sum ≤ 8) (ha : (lg_sl As).length ≤ ml M') (h1 : mc ≤ kc) (h2 : ms ≤ ks) (hq : ∀ Ψ, OK Fc Ψ → CE E M' d' As h mc ms Ψ) (q : OK (xV Fc Kx KK) Φ) (kx : ∀ (Ex : String) (h' : Hp), OK (Kx Ex h') Φ → (mh M = [] ∧ Φ (.inr Ex) h') ∨ (∃ hpc : Nat, XHs M pc Ex hpc ncsL ∧ ∀ q : Nat, WE E M d hpc lv [.ref q] h' (kc - mc) (ks - ms) Φ)) (kk : ∀ (h' : Hp), OK (KK h') Φ → WE E M d nx lv (rest) h' (kc - mc) (ks - ms) Φ) : WE E M d pc lv st h kc ks Φ := by
  unfold xV at q
  split at q
  · rename_i _ h'
    refine r_statX (post := fun v' h'' => v' = none ∧ h'' = h') (xs := No) hd hl hL hst hdd hw ha h1 h2 (hq _ ⟨rfl, rfl⟩) (fun _ _ z => z.elim) (fun v' h'' e => ?_)
    obtain ⟨rfl, rfl⟩ := e
    exact kk h'' q
  · rename_i _ Ee h'
    refine r_statX (post := fun _ _ => False) (xs := fun e h'' => e = Ee ∧ h'' = h') hd hl hL hst hdd hw ha h1 h2 (hq _ ⟨rfl, rfl⟩) (fun e h'' z => ?_) (fun _ _ z => z.elim)
    obtain ⟨rfl, rfl⟩ := z
    exact kx _ _ q
  · exact q.elim
theorem t_virtI {idx d' : Nat} {b ci : Nat} {r : vw_C} {M' : Mth} {As rest : List Value} {Fc : Rs} {KK : Int32 → Hp → Rs} (hd : dc M pc (.invokevirtual idx) 3 nx) (hl : MLk (mo M) idx M' 1 As.length) (hst : st = As.reverse ++ .ref b :: rest) (hc : clsL[ci]? = some r) (hr : r.1 = (my M').cls) (hdd : d = d' + 1) (hw : (rest.map fun v => v.category).sum ≤ 8) (ha : (lg_sl (.ref b :: As)).length ≤ ml M') (hq : ∀ Ψ, OK Fc Ψ → CE E M' d' (.ref b :: As) h 0 0 Ψ) (q : OK ((isO h b ci).bind fun _ => cI Fc KK) Φ) (kk : ∀ (v : Int32) (h' : Hp), OK (KK v h') Φ → WE E M d nx lv (.int v :: rest) h' kc ks Φ) : WE E M d pc lv st h kc ks Φ := by
  obtain ⟨_, eo1, q2⟩ := OK_bind q
  clear q
  obtain ⟨fs, eo⟩ := isO_s eo1
  have q := q2
  clear q2
  unfold cI at q
  split at q
  · rename_i _ v h'
    refine r_virt (post := fun v' h'' => v' = some (.int v) ∧ h'' = h') hd hl hst eo hc hr hdd hw ha (Nat.zero_le _) (Nat.zero_le _) (hq _ ⟨rfl, rfl⟩) (fun v' h'' e => ?_)
    obtain ⟨rfl, rfl⟩ := e
    exact kk v h'' q
  · exact q.elim
theorem t_virtIx {idx d' mc ms : Nat} {b ci : Nat} {r : vw_C} {M' : Mth} {As rest : List Value} {Fc : Rs} {Kx : String → Hp → Rs} {KK : Int32 → Hp → Rs} (hd : dc M pc (.invokevirtual idx) 3 nx) (hl : MLk (mo M) idx M' 1 As.length) (hL : Lkd M idx M') (hst : st = As.reverse ++ .ref b :: rest) (hc : clsL[ci]? = some r) (hr : r.1 = (my M').cls) (hdd : d = d' + 1) (hw : (rest.map fun v => v.category).sum ≤ 8) (ha : (lg_sl (.ref b :: As)).length ≤ ml M') (h1 : mc ≤ kc) (h2 : ms ≤ ks) (hq : ∀ Ψ, OK Fc Ψ → CE E M' d' (.ref b :: As) h mc ms Ψ) (q : OK ((isO h b ci).bind fun _ => xI Fc Kx KK) Φ) (kx : ∀ (Ex : String) (h' : Hp), OK (Kx Ex h') Φ → (mh M = [] ∧ Φ (.inr Ex) h') ∨ (∃ hpc : Nat, XHs M pc Ex hpc ncsL ∧ ∀ q : Nat, WE E M d hpc lv [.ref q] h' (kc - mc) (ks - ms) Φ)) (kk : ∀ (v : Int32) (h' : Hp), OK (KK v h') Φ → WE E M d nx lv (.int v :: rest) h' (kc - mc) (ks - ms) Φ) : WE E M d pc lv st h kc ks Φ := by
  obtain ⟨_, eo1, q2⟩ := OK_bind q
  clear q
  obtain ⟨fs, eo⟩ := isO_s eo1
  have q := q2
  clear q2
  unfold xI at q
  split at q
  · rename_i _ v h'
    refine r_virtX (post := fun v' h'' => v' = some (.int v) ∧ h'' = h') (xs := No) hd hl hL hst eo hc hr hdd hw ha h1 h2 (hq _ ⟨rfl, rfl⟩) (fun _ _ z => z.elim) (fun v' h'' e => ?_)
    obtain ⟨rfl, rfl⟩ := e
    exact kk v h'' q
  · rename_i _ Ee h'
    refine r_virtX (post := fun _ _ => False) (xs := fun e h'' => e = Ee ∧ h'' = h') hd hl hL hst eo hc hr hdd hw ha h1 h2 (hq _ ⟨rfl, rfl⟩) (fun e h'' z => ?_) (fun _ _ z => z.elim)
    obtain ⟨rfl, rfl⟩ := z
    exact kx _ _ q
  · exact q.elim
theorem t_virtL {idx d' : Nat} {b ci : Nat} {r : vw_C} {M' : Mth} {As rest : List Value} {Fc : Rs} {KK : Int64 → Hp → Rs} (hd : dc M pc (.invokevirtual idx) 3 nx) (hl : MLk (mo M) idx M' 1 As.length) (hst : st = As.reverse ++ .ref b :: rest) (hc : clsL[ci]? = some r) (hr : r.1 = (my M').cls) (hdd : d = d' + 1) (hw : (rest.map fun v => v.category).sum ≤ 8) (ha : (lg_sl (.ref b :: As)).length ≤ ml M') (hq : ∀ Ψ, OK Fc Ψ → CE E M' d' (.ref b :: As) h 0 0 Ψ) (q : OK ((isO h b ci).bind fun _ => cL Fc KK) Φ) (kk : ∀ (v : Int64) (h' : Hp), OK (KK v h') Φ → WE E M d nx lv (.long v :: rest) h' kc ks Φ) : WE E M d pc lv st h kc ks Φ := by
  obtain ⟨_, eo1, q2⟩ := OK_bind q
  clear q
  obtain ⟨fs, eo⟩ := isO_s eo1
  have q := q2
  clear q2
  unfold cL at q
  split at q
  · rename_i _ v h'
    refine r_virt (post := fun v' h'' => v' = some (.long v) ∧ h'' = h') hd hl hst eo hc hr hdd hw ha (Nat.zero_le _) (Nat.zero_le _) (hq _ ⟨rfl, rfl⟩) (fun v' h'' e => ?_)
    obtain ⟨rfl, rfl⟩ := e
    exact kk v h'' q
  · exact q.elim
theorem t_virtLx {idx d' mc ms : Nat} {b ci : Nat} {r : vw_C} {M' : Mth} {As rest : List Value} {Fc : Rs} {Kx : String → Hp → Rs} {KK : Int64 → Hp → Rs} (hd : dc M pc (.invokevirtual idx) 3 nx) (hl : MLk (mo M) idx M' 1 As.length) (hL : Lkd M idx M') (hst : st = As.reverse ++ .ref b :: rest) (hc : clsL[ci]? = some r) (hr : r.1 = (my M').cls) (hdd : d = d' + 1) (hw : (rest.map fun v => v.category).sum ≤ 8) (ha : (lg_sl (.ref b :: As)).length ≤ ml M') (h1 : mc ≤ kc) (h2 : ms ≤ ks) (hq : ∀ Ψ, OK Fc Ψ → CE E M' d' (.ref b :: As) h mc ms Ψ) (q : OK ((isO h b ci).bind fun _ => xL Fc Kx KK) Φ) (kx : ∀ (Ex : String) (h' : Hp), OK (Kx Ex h') Φ → (mh M = [] ∧ Φ (.inr Ex) h') ∨ (∃ hpc : Nat, XHs M pc Ex hpc ncsL ∧ ∀ q : Nat, WE E M d hpc lv [.ref q] h' (kc - mc) (ks - ms) Φ)) (kk : ∀ (v : Int64) (h' : Hp), OK (KK v h') Φ → WE E M d nx lv (.long v :: rest) h' (kc - mc) (ks - ms) Φ) : WE E M d pc lv st h kc ks Φ := by
  obtain ⟨_, eo1, q2⟩ := OK_bind q
  clear q
  obtain ⟨fs, eo⟩ := isO_s eo1
  have q := q2
  clear q2
  unfold xL at q
  split at q
  · rename_i _ v h'
    refine r_virtX (post := fun v' h'' => v' = some (.long v) ∧ h'' = h') (xs := No) hd hl hL hst eo hc hr hdd hw ha h1 h2 (hq _ ⟨rfl, rfl⟩) (fun _ _ z => z.elim) (fun v' h'' e => ?_)
    obtain ⟨rfl, rfl⟩ := e
    exact kk v h'' q
  · rename_i _ Ee h'
    refine r_virtX (post := fun _ _ => False) (xs := fun e h'' => e = Ee ∧ h'' = h') hd hl hL hst eo hc hr hdd hw ha h1 h2 (hq _ ⟨rfl, rfl⟩) (fun e h'' z => ?_) (fun _ _ z => z.elim)
    obtain ⟨rfl, rfl⟩ := z
    exact kx _ _ q
  · exact q.elim
theorem t_virtV {idx d' : Nat} {b ci : Nat} {r : vw_C} {M' : Mth} {As rest : List Value} {Fc : Rs} {KK : Hp → Rs} (hd : dc M pc (.invokevirtual idx) 3 nx) (hl : MLk (mo M) idx M' 1 As.length) (hst : st = As.reverse ++ .ref b :: rest) (hc : clsL[ci]? = some r) (hr : r.1 = (my M').cls) (hdd : d = d' + 1) (hw : (rest.map fun v => v.category).sum ≤ 8) (ha : (lg_sl (.ref b :: As)).length ≤ ml M') (hq : ∀ Ψ, OK Fc Ψ → CE E M' d' (.ref b :: As) h 0 0 Ψ) (q : OK ((isO h b ci).bind fun _ => cV Fc KK) Φ) (kk : ∀ (h' : Hp), OK (KK h') Φ → WE E M d nx lv (rest) h' kc ks Φ) : WE E M d pc lv st h kc ks Φ := by
  obtain ⟨_, eo1, q2⟩ := OK_bind q
  clear q
  obtain ⟨fs, eo⟩ := isO_s eo1
  have q := q2
  clear q2
  unfold cV at q
  split at q
  · rename_i _ h'
    refine r_virt (post := fun v' h'' => v' = none ∧ h'' = h') hd hl hst eo hc hr hdd hw ha (Nat.zero_le _) (Nat.zero_le _) (hq _ ⟨rfl, rfl⟩) (fun v' h'' e => ?_)
    obtain ⟨rfl, rfl⟩ := e
    exact kk h'' q
  · exact q.elim
theorem t_virtVx {idx d' mc ms : Nat} {b ci : Nat} {r : vw_C} {M' : Mth} {As rest : List Value} {Fc : Rs} {Kx : String → Hp → Rs} {KK : Hp → Rs} (hd : dc M pc (.invokevirtual idx) 3 nx) (hl : MLk (mo M) idx M' 1 As.length) (hL : Lkd M idx M') (hst : st = As.reverse ++ .ref b :: rest) (hc : clsL[ci]? = some r) (hr : r.1 = (my M').cls) (hdd : d = d' + 1) (hw : (rest.map fun v => v.category).sum ≤ 8) (ha : (lg_sl (.ref b :: As)).length ≤ ml M') (h1 : mc ≤ kc) (h2 : ms ≤ ks) (hq : ∀ Ψ, OK Fc Ψ → CE E M' d' (.ref b :: As) h mc ms Ψ) (q : OK ((isO h b ci).bind fun _ => xV Fc Kx KK) Φ) (kx : ∀ (Ex : String) (h' : Hp), OK (Kx Ex h') Φ → (mh M = [] ∧ Φ (.inr Ex) h') ∨ (∃ hpc : Nat, XHs M pc Ex hpc ncsL ∧ ∀ q : Nat, WE E M d hpc lv [.ref q] h' (kc - mc) (ks - ms) Φ)) (kk : ∀ (h' : Hp), OK (KK h') Φ → WE E M d nx lv (rest) h' (kc - mc) (ks - ms) Φ) : WE E M d pc lv st h kc ks Φ := by
  obtain ⟨_, eo1, q2⟩ := OK_bind q
  clear q
  obtain ⟨fs, eo⟩ := isO_s eo1
  have q := q2
  clear q2
  unfold xV at q
  split at q
  · rename_i _ h'
    refine r_virtX (post := fun v' h'' => v' = none ∧ h'' = h') (xs := No) hd hl hL hst eo hc hr hdd hw ha h1 h2 (hq _ ⟨rfl, rfl⟩) (fun _ _ z => z.elim) (fun v' h'' e => ?_)
    obtain ⟨rfl, rfl⟩ := e
    exact kk h'' q
  · rename_i _ Ee h'
    refine r_virtX (post := fun _ _ => False) (xs := fun e h'' => e = Ee ∧ h'' = h') hd hl hL hst eo hc hr hdd hw ha h1 h2 (hq _ ⟨rfl, rfl⟩) (fun e h'' z => ?_) (fun _ _ z => z.elim)
    obtain ⟨rfl, rfl⟩ := z
    exact kx _ _ q
  · exact q.elim
end RT
