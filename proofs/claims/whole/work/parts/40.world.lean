/-! THE WORLD: all cells of both objects by number; ints, longs, references by cell and place -/
abbrev Sh : Type := (Nat × Nat) ⊕ (Nat × List Nat)
def shT : List Sh := [.inr (3, [0, 4, 5, 0, 6, 7, 8, 9, 10, 11, 12, 0, 13, 14, 15, 16, 17]), .inl (0, 40), .inl (0, 40), .inl (0, 60), .inl (0, 60), .inl (0, 60), .inl (0, 60), .inl (0, 240), .inl (0, 120), .inl (0, 120), .inl (0, 40), .inl (0, 40), .inl (2, 40), .inl (0, 40), .inl (0, 40), .inr (2, [0, 19, 0, 20, 21, 22, 23, 24]), .inl (0, 72), .inl (0, 8), .inl (0, 8), .inl (2, 8), .inl (2, 8), .inl (0, 8), .inr (0, [0, 26, 27, 28, 29, 0, 30, 31, 32, 33, 34]), .inl (0, 12), .inl (0, 12), .inl (0, 12), .inl (0, 480), .inl (0, 30), .inl (0, 30), .inl (0, 30), .inl (0, 30), .inl (0, 30), .inr (10, [3, 0, 0, 0, 1, 36, 37, 38, 39, 40, 41, 42]), .inl (1, 2), .inl (1, 80), .inl (1, 40), .inl (1, 12), .inl (1, 12), .inl (2, 240), .inl (1, 1920), .inr (9, [35, 18, 25, 51, 44, 45, 0, 2, 2, 50]), .inl (0, 96), .inl (1, 96), .inr (6, [47]), .inl (1, 4), .inr (6, [49]), .inl (1, 4), .inl (0, 240), .inr (7, [35, 0, 2, 2, 0, 2, 2, 2, 0, 0, 1]), .inl (0, 120), .inl (1, 120), .inl (0, 120), .inl (1, 120), .inl (0, 1), .inr (4, [43, 2, 2, 60, 61, 63, 64, 65]), .inl (0, 240), .inl (0, 240), .inl (0, 1), .inr (6, [62]), .inl (1, 4), .inl (0, 240), .inl (0, 40), .inl (0, 40), .inr (1, [43, 0, 1, 67, 68, 69, 70, 71, 72, 74, 75]), .inl (0, 3), .inl (8, 24), .inl (0, 1920), .inl (0, 1920), .inl (0, 1920), .inr (6, [73]), .inl (1, 4), .inl (0, 240), .inl (0, 1), .inr (6, [77]), .inl (1, 4), .inr (6, [79]), .inl (1, 4), .inr (6, [81]), .inl (1, 4), .inr (6, [83]), .inl (1, 4), .inr (6, [85]), .inl (1, 4), .inr (6, [87]), .inl (1, 4), .inr (6, [89]), .inl (1, 4), .inr (6, [91]), .inl (1, 4), .inr (6, [93]), .inl (1, 4), .inr (6, [95]), .inl (1, 4), .inr (6, [97]), .inl (1, 4), .inr (6, [99]), .inl (1, 4), .inr (6, [101]), .inl (1, 4), .inr (6, [103]), .inl (1, 4), .inr (6, [105]), .inl (1, 4), .inr (6, [107]), .inl (1, 4), .inr (6, [109]), .inl (1, 4), .inr (6, [111]), .inl (1, 4), .inr (6, [113]), .inl (1, 4), .inr (6, [115]), .inl (1, 4), .inr (6, [117]), .inl (1, 4), .inr (6, [119]), .inl (1, 4), .inr (6, [121]), .inl (1, 4), .inr (6, [123]), .inl (1, 4), .inr (5, [125, 0, 0, 0, 126, 0, 0, 0, 0, 0, 0, 0, 0, 0]), .inl (3, 200), .inl (0, 40), .inl (4, 4), .inl (5, 3), .inl (6, 3), .inl (7, 3), .inr (8, [0, 0, 0, 132]), .inl (1, 12), .inr (8, [0, 0, 0, 134]), .inl (1, 12), .inr (8, [0, 0, 0, 136]), .inl (1, 12), .inr (8, [0, 0, 0, 138]), .inl (1, 12), .inr (11, [3, 18, 25, 35, 43, 57, 66, 124, 127, 128, 129, 130]), .inl (0, 2988), .inl (0, 8964), .inl (2, 3), .inl (1, 4800), .inl (1, 384), .inl (2, 96), .inl (0, 120), .inl (0, 200), .inl (0, 173), .inl (1, 4), .inl (1, 4), .inl (1, 4), .inl (1, 164), .inl (1, 164), .inl (1, 4), .inl (1, 4), .inl (2, 40), .inl (2, 40), .inl (0, 240), .inl (0, 240), .inl (0, 40), .inl (1, 128), .inl (0, 3), .inl (0, 4), .inl (0, 4), .inl (1, 48), .inr (12, [140, 141, 142, 0, 0, 143, 144, 145, 146, 147, 0, 0, 0, 0, 0, 0, 0, 0, 0, 0, 148, 149, 150, 151, 152, 153, 154, 155, 156, 157, 158, 159, 160, 161, 162, 0, 0, 163, 164, 165]), .inl (1, 1), .inr (3, [0, 169, 170, 0, 171, 172, 173, 174, 175, 176, 177, 0, 178, 179, 180, 181, 182]), .inl (0, 40), .inl (0, 40), .inl (0, 60), .inl (0, 60), .inl (0, 60), .inl (0, 60), .inl (0, 240), .inl (0, 120), .inl (0, 120), .inl (0, 40), .inl (0, 40), .inl (2, 40), .inl (0, 40), .inl (0, 40), .inr (2, [0, 184, 0, 185, 186, 187, 188, 189]), .inl (0, 72), .inl (0, 8), .inl (0, 8), .inl (2, 8), .inl (2, 8), .inl (0, 8), .inr (0, [0, 191, 192, 193, 194, 0, 195, 196, 197, 198, 199]), .inl (0, 12), .inl (0, 12), .inl (0, 12), .inl (0, 480), .inl (0, 30), .inl (0, 30), .inl (0, 30), .inl (0, 30), .inl (0, 30), .inr (3, [0, 201, 202, 0, 203, 204, 205, 206, 207, 208, 209, 0, 210, 211, 212, 213, 214]), .inl (0, 40), .inl (0, 40), .inl (0, 60), .inl (0, 60), .inl (0, 60), .inl (0, 60), .inl (0, 240), .inl (0, 120), .inl (0, 120), .inl (0, 40), .inl (0, 40), .inl (2, 40), .inl (0, 40), .inl (0, 40), .inr (2, [0, 216, 0, 217, 218, 219, 220, 221]), .inl (0, 72), .inl (0, 8), .inl (0, 8), .inl (2, 8), .inl (2, 8), .inl (0, 8), .inr (0, [0, 223, 224, 225, 226, 0, 227, 228, 229, 230, 231]), .inl (0, 12), .inl (0, 12), .inl (0, 12), .inl (0, 480), .inl (0, 30), .inl (0, 30), .inl (0, 30), .inl (0, 30), .inl (0, 30), .inr (3, [0, 233, 234, 0, 235, 236, 237, 238, 239, 240, 241, 0, 242, 243, 244, 245, 246]), .inl (0, 40), .inl (0, 40), .inl (0, 60), .inl (0, 60), .inl (0, 60), .inl (0, 60), .inl (0, 240), .inl (0, 120), .inl (0, 120), .inl (0, 40), .inl (0, 40), .inl (2, 40), .inl (0, 40), .inl (0, 40), .inr (2, [0, 248, 0, 249, 250, 251, 252, 253]), .inl (0, 72), .inl (0, 8), .inl (0, 8), .inl (2, 8), .inl (2, 8), .inl (0, 8), .inr (0, [0, 255, 256, 257, 258, 0, 259, 260, 261, 262, 263]), .inl (0, 12), .inl (0, 12), .inl (0, 12), .inl (0, 480), .inl (0, 30), .inl (0, 30), .inl (0, 30), .inl (0, 30), .inl (0, 30)]
def sh (k : Nat) : Sh := shT.getD k (.inl (9, 0))
def up2 {α : Type} (f : Nat → Nat → α) (k i : Nat) (x : α) : Nat → Nat → α := fun k' i' => if k' = k ∧ i' = i then x else f k' i'
/-- addresses, which cells are there, the rest of the heap -/
abbrev Wo : Type := {x : (Nat → Nat) × (Nat → Bool) × Hp // (∀ i, i < 165 → x.2.1 i = true) ∧ (∀ i j, x.2.1 i = true → x.2.1 j = true → x.1 i = x.1 j → i = j) ∧ (∀ i, x.2.1 i = true → i < 261)}
def rr (w : Wo) (k : Nat) : Nat := w.1.1 k
def lvk (w : Wo) (k : Nat) : Prop := w.1.2.1 k = true
section WORLD
variable {E : Ev} {w : Wo} {I : Nat → Nat → Int32} {L : Nat → Nat → Int64} {Q : Nat → Nat → Option Nat}
def fvl (w : Wo) (I : Nat → Nat → Int32) (L : Nat → Nat → Int64) (Q : Nat → Nat → Option Nat) (k f c : Nat) : Value := match c with | 0 => .int (I k f) | 1 => .long (L k f) | 2 => va_rf ((Q k f).map (rr w)) | j + 3 => .ref (rr w j)
def fls (w : Wo) (I : Nat → Nat → Int32) (L : Nat → Nat → Int64) (Q : Nat → Nat → Option Nat) (k : Nat) (ks : List Nat) : List Value := ks.mapIdx (fun f c => fvl w I L Q k f c)
def cel (E : Ev) (w : Wo) (I : Nat → Nat → Int32) (L : Nat → Nat → Int64) (Q : Nat → Nat → Option Nat) (k : Nat) : va_E := match sh k with
  | .inl (t, n) => .inl (E.1 t, n, if t = 1 then .inr (.inl (L k)) else if 4 ≤ t then .inr (.inr (.inr (.inr (fun i => (Q k i).map (rr w))))) else .inl (I k))
  | .inr (ci, ks) => .inr (ci, fls w I L Q k ks)
def fnd (w : Wo) (a : Nat) : Option Nat := (List.range 261).find? (fun k => w.1.2.1 k && w.1.1 k == a)
def Hw (E : Ev) (w : Wo) (I : Nat → Nat → Int32) (L : Nat → Nat → Int64) (Q : Nat → Nat → Option Nat) : Hp := fun a => match fnd w a with | some k => some (cel E w I L Q k) | none => w.1.2.2 a
theorem fnd_at {k : Nat} (hk : lvk w k) : fnd w (rr w k) = some k := by
  unfold fnd
  cases e : (List.range 261).find? (fun j => w.1.2.1 j && w.1.1 j == rr w k) with
  | none =>
    have := List.find?_eq_none.mp e k (List.mem_range.mpr (w.2.2.2 k hk))
    exact absurd (by rw [show w.1.2.1 k = true from hk]; simp [rr]) this
  | some j =>
    have h1 := List.find?_some e
    simp only [Bool.and_eq_true, beq_iff_eq] at h1
    rw [w.2.2.1 j k h1.1 hk h1.2]
theorem fnd_s {a k : Nat} (e : fnd w a = some k) : lvk w k ∧ rr w k = a := by
  have h1 := List.find?_some e
  simp only [Bool.and_eq_true, beq_iff_eq] at h1
  exact h1
theorem Hw_at {k : Nat} (hk : lvk w k) : Hw E w I L Q (rr w k) = some (cel E w I L Q k) := by
  unfold Hw; rw [fnd_at hk]
theorem Hw_set {k : Nat} {I' : Nat → Nat → Int32} {L' : Nat → Nat → Int64} {Q' : Nat → Nat → Option Nat} {e : va_E} (hk : lvk w k) (h1 : e = cel E w I' L' Q' k) (h2 : ∀ j, j ≠ k → cel E w I' L' Q' j = cel E w I L Q j) : hset (Hw E w I L Q) (rr w k) e = Hw E w I' L' Q' := by
  funext a
  unfold hset
  by_cases c : a = rr w k
  · rw [if_pos c, c, Hw_at hk, h1]
  · rw [if_neg c]
    unfold Hw
    cases ef : fnd w a with
    | none => rfl
    | some j =>
      have := fnd_s ef
      have hj : j ≠ k := fun e => c (by rw [← this.2, e])
      show some _ = some _
      rw [h2 j hj]
theorem up2_s {α : Type} (f : Nat → Nat → α) (k i : Nat) (x : α) : up2 f k i x k i = x := by simp [up2]
theorem up2_k {α : Type} (f : Nat → Nat → α) {k i k' : Nat} (i' : Nat) (x : α) (h : k' ≠ k) : up2 f k i x k' i' = f k' i' := by simp [up2, h]
theorem up2_i {α : Type} (f : Nat → Nat → α) {k i i' : Nat} (k' : Nat) (x : α) (h : i' ≠ i) : up2 f k i x k' i' = f k' i' := by simp [up2, h]
theorem up2_row {α : Type} (f : Nat → Nat → α) {k i k' : Nat} (x : α) (h : k' ≠ k) : up2 f k i x k' = f k' := by funext j; exact up2_k f j x h
theorem fvl_eq {I' : Nat → Nat → Int32} {L' : Nat → Nat → Int64} {Q' : Nat → Nat → Option Nat} {k f c : Nat} (h1 : I' k f = I k f) (h2 : L' k f = L k f) (h3 : Q' k f = Q k f) : fvl w I' L' Q' k f c = fvl w I L Q k f c := by
  unfold fvl; rw [h1, h2, h3]
theorem fls_eq {I' : Nat → Nat → Int32} {L' : Nat → Nat → Int64} {Q' : Nat → Nat → Option Nat} {k : Nat} {ks : List Nat} (h1 : ∀ f, I' k f = I k f) (h2 : ∀ f, L' k f = L k f) (h3 : ∀ f, Q' k f = Q k f) : fls w I' L' Q' k ks = fls w I L Q k ks := by
  unfold fls
  congr 1
  funext f c
  exact fvl_eq (h1 f) (h2 f) (h3 f)
theorem cel_eq {I' : Nat → Nat → Int32} {L' : Nat → Nat → Int64} {Q' : Nat → Nat → Option Nat} {k : Nat} (h1 : ∀ f, I' k f = I k f) (h2 : ∀ f, L' k f = L k f) (h3 : ∀ f, Q' k f = Q k f) : cel E w I' L' Q' k = cel E w I L Q k := by
  unfold cel
  rw [show I' k = I k from funext h1, show L' k = L k from funext h2, show Q' k = Q k from funext h3]
  split
  · rfl
  · rw [fls_eq h1 h2 h3]
theorem fls_get {k f c : Nat} {ks : List Nat} (h : ks[f]? = some c) : (fls w I L Q k ks)[f]? = some (fvl w I L Q k f c) := by
  unfold fls; rw [List.getElem?_mapIdx, h]; rfl
theorem gf_w {k ci f c : Nat} {ks : List Nat} (hk : lvk w k) (hs : sh k = .inr (ci, ks)) (hf : ks[f]? = some c) : gf (Hw E w I L Q) (rr w k) ci f = some (fvl w I L Q k f c) := by
  unfold gf; rw [Hw_at hk]; unfold cel; rw [hs]
  show (if ci = ci then (fls w I L Q k ks)[f]? else none) = _
  rw [if_pos rfl, fls_get hf]
theorem gfI_w {k ci f : Nat} {ks : List Nat} (hk : lvk w k) (hs : sh k = .inr (ci, ks)) (hf : ks[f]? = some 0) : gfI (Hw E w I L Q) (rr w k) ci f = some (I k f) := by
  unfold gfI; rw [gf_w hk hs hf]; rfl
theorem gfL_w {k ci f : Nat} {ks : List Nat} (hk : lvk w k) (hs : sh k = .inr (ci, ks)) (hf : ks[f]? = some 1) : gfL (Hw E w I L Q) (rr w k) ci f = some (L k f) := by
  unfold gfL; rw [gf_w hk hs hf]; rfl
theorem gfC_w {k ci f j : Nat} {ks : List Nat} (hk : lvk w k) (hs : sh k = .inr (ci, ks)) (hf : ks[f]? = some (j + 3)) : gfR (Hw E w I L Q) (rr w k) ci f = some (rr w j) := by
  unfold gfR; rw [gf_w hk hs hf]; rfl
theorem gfQ_w {k ci f : Nat} {ks : List Nat} (hk : lvk w k) (hs : sh k = .inr (ci, ks)) (hf : ks[f]? = some 2) : gfR (Hw E w I L Q) (rr w k) ci f = (Q k f).map (rr w) := by
  unfold gfR; rw [gf_w hk hs hf]
  show (match some (va_rf ((Q k f).map (rr w))) with | some (.ref x) => some x | _ => none) = _
  cases Q k f <;> rfl
theorem isO_w {k ci : Nat} {ks : List Nat} (hk : lvk w k) (hs : sh k = .inr (ci, ks)) : isO (Hw E w I L Q) (rr w k) ci = some () := by
  unfold isO; rw [Hw_at hk]; unfold cel; rw [hs]
  show (if ci = ci then some () else none) = _
  rw [if_pos rfl]
theorem pf_w {k ci f c : Nat} {ks : List Nat} {v : Value} {I' : Nat → Nat → Int32} {L' : Nat → Nat → Int64} {Q' : Nat → Nat → Option Nat} (hk : lvk w k) (hs : sh k = .inr (ci, ks)) (hf : ks[f]? = some c) (hv : fvl w I' L' Q' k f c = v) (h1 : ∀ j i, (j, i) ≠ (k, f) → I' j i = I j i) (h2 : ∀ j i, (j, i) ≠ (k, f) → L' j i = L j i) (h3 : ∀ j i, (j, i) ≠ (k, f) → Q' j i = Q j i) : pf (Hw E w I L Q) (rr w k) ci f v = some (Hw E w I' L' Q') := by
  have hlen : f < ks.length := by
    rcases Nat.lt_or_ge f ks.length with h | h
    · exact h
    · rw [List.getElem?_eq_none h] at hf; cases hf
  unfold pf; rw [Hw_at hk]
  have e0 : cel E w I L Q k = .inr (ci, fls w I L Q k ks) := by unfold cel; rw [hs]
  rw [e0]
  show (if ci = ci ∧ f < (fls w I L Q k ks).length then some (hset _ _ (.inr (ci, (fls w I L Q k ks).set f v))) else none) = _
  rw [if_pos ⟨rfl, by unfold fls; rw [List.length_mapIdx]; exact hlen⟩]
  rw [Hw_set hk (I' := I') (L' := L') (Q' := Q')]
  · unfold cel; rw [hs]
    show (.inr (ci, (fls w I L Q k ks).set f v) : va_E) = .inr (ci, fls w I' L' Q' k ks)
    congr 2
    apply List.ext_getElem?
    intro i
    by_cases c1 : i = f
    · subst c1
      rw [fls_get hf, hv, List.getElem?_set_self (by unfold fls; rw [List.length_mapIdx]; exact hlen)]
    · rw [List.getElem?_set_ne (fun e => c1 e.symm)]
      unfold fls
      rw [List.getElem?_mapIdx, List.getElem?_mapIdx]
      cases ks[i]? with
      | none => rfl
      | some cc =>
        have e1 : (k, i) ≠ (k, f) := fun e => c1 (Prod.mk.inj e).2
        show some (fvl w I L Q k i cc) = some (fvl w I' L' Q' k i cc)
        rw [fvl_eq (h1 k i e1) (h2 k i e1) (h3 k i e1)]
  · intro j hj
    have e1 : ∀ i, (j, i) ≠ (k, f) := fun i e => hj (Prod.mk.inj e).1
    exact cel_eq (fun i => h1 j i (e1 i)) (fun i => h2 j i (e1 i)) (fun i => h3 j i (e1 i))
theorem up2_ne {α : Type} (f : Nat → Nat → α) {k i : Nat} (x : α) (j l : Nat) (h : (j, l) ≠ (k, i)) : up2 f k i x j l = f j l := by
  unfold up2; rw [if_neg (fun e => h (by rw [e.1, e.2]))]
theorem pfI_w {k ci f : Nat} {ks : List Nat} {v : Int32} (hk : lvk w k) (hs : sh k = .inr (ci, ks)) (hf : ks[f]? = some 0) : pf (Hw E w I L Q) (rr w k) ci f (.int v) = some (Hw E w (up2 I k f v) L Q) :=
  pf_w hk hs hf (show Value.int (up2 I k f v k f) = _ by rw [up2_s]) (up2_ne I v) (fun _ _ _ => rfl) (fun _ _ _ => rfl)
theorem pfZ_w {k ci f : Nat} {ks : List Nat} {v : Int32} (hk : lvk w k) (hs : sh k = .inr (ci, ks)) (hf : ks[f]? = some 0) : pfZ (Hw E w I L Q) (rr w k) ci f v = if v = 0 ∨ v = 1 then some (Hw E w (up2 I k f v) L Q) else none := by
  unfold pfZ; rw [pfI_w hk hs hf]
theorem pfL_w {k ci f : Nat} {ks : List Nat} {v : Int64} (hk : lvk w k) (hs : sh k = .inr (ci, ks)) (hf : ks[f]? = some 1) : pf (Hw E w I L Q) (rr w k) ci f (.long v) = some (Hw E w I (up2 L k f v) Q) :=
  pf_w hk hs hf (show Value.long (up2 L k f v k f) = _ by rw [up2_s]) (fun _ _ _ => rfl) (up2_ne L v) (fun _ _ _ => rfl)
theorem pfQ_w {k ci f j : Nat} {ks : List Nat} (hk : lvk w k) (hs : sh k = .inr (ci, ks)) (hf : ks[f]? = some 2) : pf (Hw E w I L Q) (rr w k) ci f (.ref (rr w j)) = some (Hw E w I L (up2 Q k f (some j))) :=
  pf_w hk hs hf (show va_rf ((up2 Q k f (some j) k f).map (rr w)) = _ by rw [up2_s]; rfl) (fun _ _ _ => rfl) (fun _ _ _ => rfl) (up2_ne Q (some j))
theorem cel_a {k t n : Nat} (hs : sh k = .inl (t, n)) : cel E w I L Q k = .inl (E.1 t, n, if t = 1 then .inr (.inl (L k)) else if 4 ≤ t then .inr (.inr (.inr (.inr (fun i => (Q k i).map (rr w))))) else .inl (I k)) := by
  unfold cel; rw [hs]
theorem Hw_ai {k t n : Nat} (hk : lvk w k) (hs : sh k = .inl (t, n)) (h1 : ¬ t = 1) (h2 : ¬ 4 ≤ t) : Hw E w I L Q (rr w k) = some (.inl (E.1 t, n, .inl (I k))) := by
  rw [Hw_at hk, cel_a hs, if_neg h1, if_neg h2]
theorem Hw_al {k n : Nat} (hk : lvk w k) (hs : sh k = .inl (1, n)) : Hw E w I L Q (rr w k) = some (.inl (E.1 1, n, .inr (.inl (L k)))) := by
  rw [Hw_at hk, cel_a hs, if_pos rfl]
theorem Hw_ar {k t n : Nat} (hk : lvk w k) (hs : sh k = .inl (t, n)) (h2 : 4 ≤ t) : Hw E w I L Q (rr w k) = some (.inl (E.1 t, n, .inr (.inr (.inr (.inr (fun i => (Q k i).map (rr w))))))) := by
  rw [Hw_at hk, cel_a hs, if_neg (by omega), if_pos h2]
theorem gaI_w {k t n : Nat} {i : Int32} (hk : lvk w k) (hs : sh k = .inl (t, n)) (h1 : ¬ t = 1) (h2 : ¬ 4 ≤ t) : gaI E t (Hw E w I L Q) (rr w k) i = (ix i n).map (I k) := by
  unfold gaI; rw [Hw_ai hk hs h1 h2]
  show (if E.1 t = E.1 t then _ else _) = _
  rw [if_pos rfl]
theorem gaL_w {k n : Nat} {i : Int32} (hk : lvk w k) (hs : sh k = .inl (1, n)) : gaL E (Hw E w I L Q) (rr w k) i = (ix i n).map (L k) := by
  unfold gaL; rw [Hw_al hk hs]
  show (if E.1 1 = E.1 1 then _ else _) = _
  rw [if_pos rfl]
theorem gaR_w {k t n : Nat} {i : Int32} (hk : lvk w k) (hs : sh k = .inl (t, n)) (h2 : 4 ≤ t) : gaR E t (Hw E w I L Q) (rr w k) i = (ix i n).map (fun j => (Q k j).map (rr w)) := by
  unfold gaR; rw [Hw_ar hk hs h2]
  show (if E.1 t = E.1 t then _ else _) = _
  rw [if_pos rfl]
theorem aln_w {k t n : Nat} (hk : lvk w k) (hs : sh k = .inl (t, n)) : aln E t (Hw E w I L Q) (rr w k) = some (Int32.ofNat n) := by
  unfold aln; rw [Hw_at hk, cel_a hs]
  show (if E.1 t = E.1 t then _ else _) = _
  rw [if_pos rfl]
theorem setI_w {k t n j : Nat} {x : Int32} (hk : lvk w k) (hs : sh k = .inl (t, n)) (h1 : ¬ t = 1) (h2 : ¬ 4 ≤ t) : hset (Hw E w I L Q) (rr w k) (.inl (E.1 t, n, .inl (upd (I k) j x))) = Hw E w (up2 I k j x) L Q := by
  refine Hw_set hk ?_ (fun l hl => cel_eq (fun f => up2_k I f x hl) (fun _ => rfl) (fun _ => rfl))
  rw [cel_a hs, if_neg h1, if_neg h2]
  congr 4
  funext l
  unfold upd up2
  by_cases c : l = j
  · rw [if_pos c, if_pos ⟨rfl, c⟩]
  · rw [if_neg c, if_neg (fun e => c e.2)]
theorem setL_w {k n j : Nat} {x : Int64} (hk : lvk w k) (hs : sh k = .inl (1, n)) : hset (Hw E w I L Q) (rr w k) (.inl (E.1 1, n, .inr (.inl (vp_updL (L k) j x)))) = Hw E w I (up2 L k j x) Q := by
  refine Hw_set hk ?_ (fun l hl => cel_eq (fun _ => rfl) (fun f => up2_k L f x hl) (fun _ => rfl))
  rw [cel_a hs, if_pos rfl]
  congr 5
  funext l
  unfold vp_updL up2
  by_cases c : l = j
  · rw [if_pos c, if_pos ⟨rfl, c⟩]
  · rw [if_neg c, if_neg (fun e => c e.2)]
theorem paI_w {k n : Nat} {i x : Int32} (hk : lvk w k) (hs : sh k = .inl (0, n)) : paI E (Hw E w I L Q) (rr w k) i x = (ix i n).map (fun j => Hw E w (up2 I k j x) L Q) := by
  unfold paI; rw [Hw_ai hk hs (by decide) (by decide)]
  show (if E.1 0 = E.1 0 then _ else _) = _
  rw [if_pos rfl]
  congr 1
  funext j
  exact setI_w hk hs (by decide) (by decide)
theorem paZ_w {k n : Nat} {i x : Int32} (hk : lvk w k) (hs : sh k = .inl (2, n)) : paZ E (Hw E w I L Q) (rr w k) i x = (ix i n).map (fun j => Hw E w (up2 I k j (vp_nar .boolean x)) L Q) := by
  unfold paZ; rw [Hw_ai hk hs (by decide) (by decide)]
  show (if E.1 2 = E.1 2 then _ else _) = _
  rw [if_pos rfl]
  congr 1
  funext j
  exact setI_w hk hs (by decide) (by decide)
theorem paB_w {k n : Nat} {i x : Int32} (hk : lvk w k) (hs : sh k = .inl (3, n)) : paB E (Hw E w I L Q) (rr w k) i x = (ix i n).map (fun j => Hw E w (up2 I k j (vp_nar .byte x)) L Q) := by
  unfold paB; rw [Hw_ai hk hs (by decide) (by decide)]
  show (if E.1 3 = E.1 3 then _ else _) = _
  rw [if_pos rfl]
  congr 1
  funext j
  exact setI_w hk hs (by decide) (by decide)
theorem paL_w {k n : Nat} {i : Int32} {x : Int64} (hk : lvk w k) (hs : sh k = .inl (1, n)) : paL E (Hw E w I L Q) (rr w k) i x = (ix i n).map (fun j => Hw E w I (up2 L k j x) Q) := by
  unfold paL; rw [Hw_al hk hs]
  show (if E.1 1 = E.1 1 then _ else _) = _
  rw [if_pos rfl]
  congr 1
  funext j
  exact setL_w hk hs
/-- a stretch of one row copied into another -/
def cp2 (I : Nat → Nat → Int32) (k k2 z x y : Nat) : Nat → Nat → Int32 := fun j i => if j = k2 then va_cpy (I k) (I k2) z x y i else I j i
theorem acp_w {k k2 t n n2 z x y : Nat} {zi xi yi : Int32} (hk : lvk w k) (hk2 : lvk w k2) (hs : sh k = .inl (t, n)) (hs2 : sh k2 = .inl (t, n2)) (h1 : ¬ t = 1) (h2 : ¬ 4 ≤ t) (ez : ¬ zi < 0 ∧ zi.toNatClampNeg = z) (ex : ¬ xi < 0 ∧ xi.toNatClampNeg = x) (ey : ¬ yi < 0 ∧ yi.toNatClampNeg = y) (b1 : z + y ≤ n) (b2 : x + y ≤ n2) (hb : t = 0 ∨ (t = 2 ∧ ∀ i, i < y → I k (z + i) = 0 ∨ I k (z + i) = 1)) : acp E t (Hw E w I L Q) (rr w k) zi (rr w k2) xi yi = some (Hw E w (cp2 I k k2 z x y) L Q) := by
  unfold acp
  rw [Hw_ai hk hs h1 h2, Hw_ai hk2 hs2 h1 h2]
  show (if E.1 t = E.1 t ∧ E.1 t = E.1 t ∧ _ then _ else _) = _
  rw [ez.2, ex.2, ey.2]
  rw [if_pos ⟨rfl, rfl, ez.1, ex.1, ey.1, b1, b2, hb⟩]
  congr 1
  refine Hw_set hk2 ?_ (fun l hl => cel_eq (fun f => by unfold cp2; rw [if_neg hl]) (fun _ => rfl) (fun _ => rfl))
  rw [cel_a hs2, if_neg h1, if_neg h2]
  congr 4
  funext i
  unfold cp2
  rw [if_pos rfl]
theorem lv_of {k : Nat} (h : k < 165) : lvk w k := w.2.1 k h
theorem o0 : isO (Hw E w I L Q) (rr w 0) 3 = some () := isO_w (lv_of (by decide)) rfl
theorem gf0_0 : gfI (Hw E w I L Q) (rr w 0) 3 0 = some (I 0 0) := gfI_w (lv_of (by decide)) rfl rfl
theorem pf0_0 {v : Int32} : pf (Hw E w I L Q) (rr w 0) 3 0 (.int v) = some (Hw E w (up2 I 0 0 v) L Q) := pfI_w (lv_of (by decide)) rfl rfl
theorem gf0_1 : gfR (Hw E w I L Q) (rr w 0) 3 1 = some (rr w 1) := gfC_w (lv_of (by decide)) rfl rfl
theorem gf0_2 : gfR (Hw E w I L Q) (rr w 0) 3 2 = some (rr w 2) := gfC_w (lv_of (by decide)) rfl rfl
theorem gf0_3 : gfI (Hw E w I L Q) (rr w 0) 3 3 = some (I 0 3) := gfI_w (lv_of (by decide)) rfl rfl
theorem pf0_3 {v : Int32} : pf (Hw E w I L Q) (rr w 0) 3 3 (.int v) = some (Hw E w (up2 I 0 3 v) L Q) := pfI_w (lv_of (by decide)) rfl rfl
theorem gf0_4 : gfR (Hw E w I L Q) (rr w 0) 3 4 = some (rr w 3) := gfC_w (lv_of (by decide)) rfl rfl
theorem gf0_5 : gfR (Hw E w I L Q) (rr w 0) 3 5 = some (rr w 4) := gfC_w (lv_of (by decide)) rfl rfl
theorem gf0_6 : gfR (Hw E w I L Q) (rr w 0) 3 6 = some (rr w 5) := gfC_w (lv_of (by decide)) rfl rfl
theorem gf0_7 : gfR (Hw E w I L Q) (rr w 0) 3 7 = some (rr w 6) := gfC_w (lv_of (by decide)) rfl rfl
theorem gf0_8 : gfR (Hw E w I L Q) (rr w 0) 3 8 = some (rr w 7) := gfC_w (lv_of (by decide)) rfl rfl
theorem gf0_9 : gfR (Hw E w I L Q) (rr w 0) 3 9 = some (rr w 8) := gfC_w (lv_of (by decide)) rfl rfl
theorem gf0_10 : gfR (Hw E w I L Q) (rr w 0) 3 10 = some (rr w 9) := gfC_w (lv_of (by decide)) rfl rfl
theorem gf0_11 : gfI (Hw E w I L Q) (rr w 0) 3 11 = some (I 0 11) := gfI_w (lv_of (by decide)) rfl rfl
theorem pf0_11 {v : Int32} : pf (Hw E w I L Q) (rr w 0) 3 11 (.int v) = some (Hw E w (up2 I 0 11 v) L Q) := pfI_w (lv_of (by decide)) rfl rfl
theorem gf0_12 : gfR (Hw E w I L Q) (rr w 0) 3 12 = some (rr w 10) := gfC_w (lv_of (by decide)) rfl rfl
theorem gf0_13 : gfR (Hw E w I L Q) (rr w 0) 3 13 = some (rr w 11) := gfC_w (lv_of (by decide)) rfl rfl
theorem gf0_14 : gfR (Hw E w I L Q) (rr w 0) 3 14 = some (rr w 12) := gfC_w (lv_of (by decide)) rfl rfl
theorem gf0_15 : gfR (Hw E w I L Q) (rr w 0) 3 15 = some (rr w 13) := gfC_w (lv_of (by decide)) rfl rfl
theorem gf0_16 : gfR (Hw E w I L Q) (rr w 0) 3 16 = some (rr w 14) := gfC_w (lv_of (by decide)) rfl rfl
theorem ga1 {i : Int32} : gaI E 0 (Hw E w I L Q) (rr w 1) i = (ix i 40).map (I 1) := gaI_w (lv_of (by decide)) rfl (by decide) (by decide)
theorem pa1 {i x : Int32} : paI E (Hw E w I L Q) (rr w 1) i x = (ix i 40).map (fun j => Hw E w (up2 I 1 j x) L Q) := paI_w (lv_of (by decide)) rfl
theorem an1 : aln E 0 (Hw E w I L Q) (rr w 1) = some (Int32.ofNat 40) := aln_w (lv_of (by decide)) rfl
theorem ga2 {i : Int32} : gaI E 0 (Hw E w I L Q) (rr w 2) i = (ix i 40).map (I 2) := gaI_w (lv_of (by decide)) rfl (by decide) (by decide)
theorem pa2 {i x : Int32} : paI E (Hw E w I L Q) (rr w 2) i x = (ix i 40).map (fun j => Hw E w (up2 I 2 j x) L Q) := paI_w (lv_of (by decide)) rfl
theorem an2 : aln E 0 (Hw E w I L Q) (rr w 2) = some (Int32.ofNat 40) := aln_w (lv_of (by decide)) rfl
theorem ga3 {i : Int32} : gaI E 0 (Hw E w I L Q) (rr w 3) i = (ix i 60).map (I 3) := gaI_w (lv_of (by decide)) rfl (by decide) (by decide)
theorem pa3 {i x : Int32} : paI E (Hw E w I L Q) (rr w 3) i x = (ix i 60).map (fun j => Hw E w (up2 I 3 j x) L Q) := paI_w (lv_of (by decide)) rfl
theorem an3 : aln E 0 (Hw E w I L Q) (rr w 3) = some (Int32.ofNat 60) := aln_w (lv_of (by decide)) rfl
theorem ga4 {i : Int32} : gaI E 0 (Hw E w I L Q) (rr w 4) i = (ix i 60).map (I 4) := gaI_w (lv_of (by decide)) rfl (by decide) (by decide)
theorem pa4 {i x : Int32} : paI E (Hw E w I L Q) (rr w 4) i x = (ix i 60).map (fun j => Hw E w (up2 I 4 j x) L Q) := paI_w (lv_of (by decide)) rfl
theorem an4 : aln E 0 (Hw E w I L Q) (rr w 4) = some (Int32.ofNat 60) := aln_w (lv_of (by decide)) rfl
theorem ga5 {i : Int32} : gaI E 0 (Hw E w I L Q) (rr w 5) i = (ix i 60).map (I 5) := gaI_w (lv_of (by decide)) rfl (by decide) (by decide)
theorem pa5 {i x : Int32} : paI E (Hw E w I L Q) (rr w 5) i x = (ix i 60).map (fun j => Hw E w (up2 I 5 j x) L Q) := paI_w (lv_of (by decide)) rfl
theorem an5 : aln E 0 (Hw E w I L Q) (rr w 5) = some (Int32.ofNat 60) := aln_w (lv_of (by decide)) rfl
theorem ga6 {i : Int32} : gaI E 0 (Hw E w I L Q) (rr w 6) i = (ix i 60).map (I 6) := gaI_w (lv_of (by decide)) rfl (by decide) (by decide)
theorem pa6 {i x : Int32} : paI E (Hw E w I L Q) (rr w 6) i x = (ix i 60).map (fun j => Hw E w (up2 I 6 j x) L Q) := paI_w (lv_of (by decide)) rfl
theorem an6 : aln E 0 (Hw E w I L Q) (rr w 6) = some (Int32.ofNat 60) := aln_w (lv_of (by decide)) rfl
theorem ga7 {i : Int32} : gaI E 0 (Hw E w I L Q) (rr w 7) i = (ix i 240).map (I 7) := gaI_w (lv_of (by decide)) rfl (by decide) (by decide)
theorem pa7 {i x : Int32} : paI E (Hw E w I L Q) (rr w 7) i x = (ix i 240).map (fun j => Hw E w (up2 I 7 j x) L Q) := paI_w (lv_of (by decide)) rfl
theorem an7 : aln E 0 (Hw E w I L Q) (rr w 7) = some (Int32.ofNat 240) := aln_w (lv_of (by decide)) rfl
theorem ga8 {i : Int32} : gaI E 0 (Hw E w I L Q) (rr w 8) i = (ix i 120).map (I 8) := gaI_w (lv_of (by decide)) rfl (by decide) (by decide)
theorem pa8 {i x : Int32} : paI E (Hw E w I L Q) (rr w 8) i x = (ix i 120).map (fun j => Hw E w (up2 I 8 j x) L Q) := paI_w (lv_of (by decide)) rfl
theorem an8 : aln E 0 (Hw E w I L Q) (rr w 8) = some (Int32.ofNat 120) := aln_w (lv_of (by decide)) rfl
theorem ga9 {i : Int32} : gaI E 0 (Hw E w I L Q) (rr w 9) i = (ix i 120).map (I 9) := gaI_w (lv_of (by decide)) rfl (by decide) (by decide)
theorem pa9 {i x : Int32} : paI E (Hw E w I L Q) (rr w 9) i x = (ix i 120).map (fun j => Hw E w (up2 I 9 j x) L Q) := paI_w (lv_of (by decide)) rfl
theorem an9 : aln E 0 (Hw E w I L Q) (rr w 9) = some (Int32.ofNat 120) := aln_w (lv_of (by decide)) rfl
theorem ga10 {i : Int32} : gaI E 0 (Hw E w I L Q) (rr w 10) i = (ix i 40).map (I 10) := gaI_w (lv_of (by decide)) rfl (by decide) (by decide)
theorem pa10 {i x : Int32} : paI E (Hw E w I L Q) (rr w 10) i x = (ix i 40).map (fun j => Hw E w (up2 I 10 j x) L Q) := paI_w (lv_of (by decide)) rfl
theorem an10 : aln E 0 (Hw E w I L Q) (rr w 10) = some (Int32.ofNat 40) := aln_w (lv_of (by decide)) rfl
theorem ga11 {i : Int32} : gaI E 0 (Hw E w I L Q) (rr w 11) i = (ix i 40).map (I 11) := gaI_w (lv_of (by decide)) rfl (by decide) (by decide)
theorem pa11 {i x : Int32} : paI E (Hw E w I L Q) (rr w 11) i x = (ix i 40).map (fun j => Hw E w (up2 I 11 j x) L Q) := paI_w (lv_of (by decide)) rfl
theorem an11 : aln E 0 (Hw E w I L Q) (rr w 11) = some (Int32.ofNat 40) := aln_w (lv_of (by decide)) rfl
theorem ga12 {i : Int32} : gaI E 2 (Hw E w I L Q) (rr w 12) i = (ix i 40).map (I 12) := gaI_w (lv_of (by decide)) rfl (by decide) (by decide)
theorem pa12 {i x : Int32} : paZ E (Hw E w I L Q) (rr w 12) i x = (ix i 40).map (fun j => Hw E w (up2 I 12 j (vp_nar .boolean x)) L Q) := paZ_w (lv_of (by decide)) rfl
theorem an12 : aln E 2 (Hw E w I L Q) (rr w 12) = some (Int32.ofNat 40) := aln_w (lv_of (by decide)) rfl
theorem ga13 {i : Int32} : gaI E 0 (Hw E w I L Q) (rr w 13) i = (ix i 40).map (I 13) := gaI_w (lv_of (by decide)) rfl (by decide) (by decide)
theorem pa13 {i x : Int32} : paI E (Hw E w I L Q) (rr w 13) i x = (ix i 40).map (fun j => Hw E w (up2 I 13 j x) L Q) := paI_w (lv_of (by decide)) rfl
theorem an13 : aln E 0 (Hw E w I L Q) (rr w 13) = some (Int32.ofNat 40) := aln_w (lv_of (by decide)) rfl
theorem ga14 {i : Int32} : gaI E 0 (Hw E w I L Q) (rr w 14) i = (ix i 40).map (I 14) := gaI_w (lv_of (by decide)) rfl (by decide) (by decide)
theorem pa14 {i x : Int32} : paI E (Hw E w I L Q) (rr w 14) i x = (ix i 40).map (fun j => Hw E w (up2 I 14 j x) L Q) := paI_w (lv_of (by decide)) rfl
theorem an14 : aln E 0 (Hw E w I L Q) (rr w 14) = some (Int32.ofNat 40) := aln_w (lv_of (by decide)) rfl
theorem o15 : isO (Hw E w I L Q) (rr w 15) 2 = some () := isO_w (lv_of (by decide)) rfl
theorem gf15_0 : gfI (Hw E w I L Q) (rr w 15) 2 0 = some (I 15 0) := gfI_w (lv_of (by decide)) rfl rfl
theorem pf15_0 {v : Int32} : pf (Hw E w I L Q) (rr w 15) 2 0 (.int v) = some (Hw E w (up2 I 15 0 v) L Q) := pfI_w (lv_of (by decide)) rfl rfl
theorem gf15_1 : gfR (Hw E w I L Q) (rr w 15) 2 1 = some (rr w 16) := gfC_w (lv_of (by decide)) rfl rfl
theorem gf15_2 : gfI (Hw E w I L Q) (rr w 15) 2 2 = some (I 15 2) := gfI_w (lv_of (by decide)) rfl rfl
theorem pf15_2 {v : Int32} : pf (Hw E w I L Q) (rr w 15) 2 2 (.int v) = some (Hw E w (up2 I 15 2 v) L Q) := pfI_w (lv_of (by decide)) rfl rfl
theorem gf15_3 : gfR (Hw E w I L Q) (rr w 15) 2 3 = some (rr w 17) := gfC_w (lv_of (by decide)) rfl rfl
theorem gf15_4 : gfR (Hw E w I L Q) (rr w 15) 2 4 = some (rr w 18) := gfC_w (lv_of (by decide)) rfl rfl
theorem gf15_5 : gfR (Hw E w I L Q) (rr w 15) 2 5 = some (rr w 19) := gfC_w (lv_of (by decide)) rfl rfl
theorem gf15_6 : gfR (Hw E w I L Q) (rr w 15) 2 6 = some (rr w 20) := gfC_w (lv_of (by decide)) rfl rfl
theorem gf15_7 : gfR (Hw E w I L Q) (rr w 15) 2 7 = some (rr w 21) := gfC_w (lv_of (by decide)) rfl rfl
theorem ga16 {i : Int32} : gaI E 0 (Hw E w I L Q) (rr w 16) i = (ix i 72).map (I 16) := gaI_w (lv_of (by decide)) rfl (by decide) (by decide)
theorem pa16 {i x : Int32} : paI E (Hw E w I L Q) (rr w 16) i x = (ix i 72).map (fun j => Hw E w (up2 I 16 j x) L Q) := paI_w (lv_of (by decide)) rfl
theorem an16 : aln E 0 (Hw E w I L Q) (rr w 16) = some (Int32.ofNat 72) := aln_w (lv_of (by decide)) rfl
theorem ga17 {i : Int32} : gaI E 0 (Hw E w I L Q) (rr w 17) i = (ix i 8).map (I 17) := gaI_w (lv_of (by decide)) rfl (by decide) (by decide)
theorem pa17 {i x : Int32} : paI E (Hw E w I L Q) (rr w 17) i x = (ix i 8).map (fun j => Hw E w (up2 I 17 j x) L Q) := paI_w (lv_of (by decide)) rfl
theorem an17 : aln E 0 (Hw E w I L Q) (rr w 17) = some (Int32.ofNat 8) := aln_w (lv_of (by decide)) rfl
theorem ga18 {i : Int32} : gaI E 0 (Hw E w I L Q) (rr w 18) i = (ix i 8).map (I 18) := gaI_w (lv_of (by decide)) rfl (by decide) (by decide)
theorem pa18 {i x : Int32} : paI E (Hw E w I L Q) (rr w 18) i x = (ix i 8).map (fun j => Hw E w (up2 I 18 j x) L Q) := paI_w (lv_of (by decide)) rfl
theorem an18 : aln E 0 (Hw E w I L Q) (rr w 18) = some (Int32.ofNat 8) := aln_w (lv_of (by decide)) rfl
theorem ga19 {i : Int32} : gaI E 2 (Hw E w I L Q) (rr w 19) i = (ix i 8).map (I 19) := gaI_w (lv_of (by decide)) rfl (by decide) (by decide)
theorem pa19 {i x : Int32} : paZ E (Hw E w I L Q) (rr w 19) i x = (ix i 8).map (fun j => Hw E w (up2 I 19 j (vp_nar .boolean x)) L Q) := paZ_w (lv_of (by decide)) rfl
theorem an19 : aln E 2 (Hw E w I L Q) (rr w 19) = some (Int32.ofNat 8) := aln_w (lv_of (by decide)) rfl
theorem ga20 {i : Int32} : gaI E 2 (Hw E w I L Q) (rr w 20) i = (ix i 8).map (I 20) := gaI_w (lv_of (by decide)) rfl (by decide) (by decide)
theorem pa20 {i x : Int32} : paZ E (Hw E w I L Q) (rr w 20) i x = (ix i 8).map (fun j => Hw E w (up2 I 20 j (vp_nar .boolean x)) L Q) := paZ_w (lv_of (by decide)) rfl
theorem an20 : aln E 2 (Hw E w I L Q) (rr w 20) = some (Int32.ofNat 8) := aln_w (lv_of (by decide)) rfl
theorem ga21 {i : Int32} : gaI E 0 (Hw E w I L Q) (rr w 21) i = (ix i 8).map (I 21) := gaI_w (lv_of (by decide)) rfl (by decide) (by decide)
theorem pa21 {i x : Int32} : paI E (Hw E w I L Q) (rr w 21) i x = (ix i 8).map (fun j => Hw E w (up2 I 21 j x) L Q) := paI_w (lv_of (by decide)) rfl
theorem an21 : aln E 0 (Hw E w I L Q) (rr w 21) = some (Int32.ofNat 8) := aln_w (lv_of (by decide)) rfl
theorem o22 : isO (Hw E w I L Q) (rr w 22) 0 = some () := isO_w (lv_of (by decide)) rfl
theorem gf22_0 : gfI (Hw E w I L Q) (rr w 22) 0 0 = some (I 22 0) := gfI_w (lv_of (by decide)) rfl rfl
theorem pf22_0 {v : Int32} : pf (Hw E w I L Q) (rr w 22) 0 0 (.int v) = some (Hw E w (up2 I 22 0 v) L Q) := pfI_w (lv_of (by decide)) rfl rfl
theorem gf22_1 : gfR (Hw E w I L Q) (rr w 22) 0 1 = some (rr w 23) := gfC_w (lv_of (by decide)) rfl rfl
theorem gf22_2 : gfR (Hw E w I L Q) (rr w 22) 0 2 = some (rr w 24) := gfC_w (lv_of (by decide)) rfl rfl
theorem gf22_3 : gfR (Hw E w I L Q) (rr w 22) 0 3 = some (rr w 25) := gfC_w (lv_of (by decide)) rfl rfl
theorem gf22_4 : gfR (Hw E w I L Q) (rr w 22) 0 4 = some (rr w 26) := gfC_w (lv_of (by decide)) rfl rfl
theorem gf22_5 : gfI (Hw E w I L Q) (rr w 22) 0 5 = some (I 22 5) := gfI_w (lv_of (by decide)) rfl rfl
theorem pf22_5 {v : Int32} : pf (Hw E w I L Q) (rr w 22) 0 5 (.int v) = some (Hw E w (up2 I 22 5 v) L Q) := pfI_w (lv_of (by decide)) rfl rfl
theorem gf22_6 : gfR (Hw E w I L Q) (rr w 22) 0 6 = some (rr w 27) := gfC_w (lv_of (by decide)) rfl rfl
theorem gf22_7 : gfR (Hw E w I L Q) (rr w 22) 0 7 = some (rr w 28) := gfC_w (lv_of (by decide)) rfl rfl
theorem gf22_8 : gfR (Hw E w I L Q) (rr w 22) 0 8 = some (rr w 29) := gfC_w (lv_of (by decide)) rfl rfl
theorem gf22_9 : gfR (Hw E w I L Q) (rr w 22) 0 9 = some (rr w 30) := gfC_w (lv_of (by decide)) rfl rfl
theorem gf22_10 : gfR (Hw E w I L Q) (rr w 22) 0 10 = some (rr w 31) := gfC_w (lv_of (by decide)) rfl rfl
theorem ga23 {i : Int32} : gaI E 0 (Hw E w I L Q) (rr w 23) i = (ix i 12).map (I 23) := gaI_w (lv_of (by decide)) rfl (by decide) (by decide)
theorem pa23 {i x : Int32} : paI E (Hw E w I L Q) (rr w 23) i x = (ix i 12).map (fun j => Hw E w (up2 I 23 j x) L Q) := paI_w (lv_of (by decide)) rfl
theorem an23 : aln E 0 (Hw E w I L Q) (rr w 23) = some (Int32.ofNat 12) := aln_w (lv_of (by decide)) rfl
theorem ga24 {i : Int32} : gaI E 0 (Hw E w I L Q) (rr w 24) i = (ix i 12).map (I 24) := gaI_w (lv_of (by decide)) rfl (by decide) (by decide)
theorem pa24 {i x : Int32} : paI E (Hw E w I L Q) (rr w 24) i x = (ix i 12).map (fun j => Hw E w (up2 I 24 j x) L Q) := paI_w (lv_of (by decide)) rfl
theorem an24 : aln E 0 (Hw E w I L Q) (rr w 24) = some (Int32.ofNat 12) := aln_w (lv_of (by decide)) rfl
theorem ga25 {i : Int32} : gaI E 0 (Hw E w I L Q) (rr w 25) i = (ix i 12).map (I 25) := gaI_w (lv_of (by decide)) rfl (by decide) (by decide)
theorem pa25 {i x : Int32} : paI E (Hw E w I L Q) (rr w 25) i x = (ix i 12).map (fun j => Hw E w (up2 I 25 j x) L Q) := paI_w (lv_of (by decide)) rfl
theorem an25 : aln E 0 (Hw E w I L Q) (rr w 25) = some (Int32.ofNat 12) := aln_w (lv_of (by decide)) rfl
theorem ga26 {i : Int32} : gaI E 0 (Hw E w I L Q) (rr w 26) i = (ix i 480).map (I 26) := gaI_w (lv_of (by decide)) rfl (by decide) (by decide)
theorem pa26 {i x : Int32} : paI E (Hw E w I L Q) (rr w 26) i x = (ix i 480).map (fun j => Hw E w (up2 I 26 j x) L Q) := paI_w (lv_of (by decide)) rfl
theorem an26 : aln E 0 (Hw E w I L Q) (rr w 26) = some (Int32.ofNat 480) := aln_w (lv_of (by decide)) rfl
theorem ga27 {i : Int32} : gaI E 0 (Hw E w I L Q) (rr w 27) i = (ix i 30).map (I 27) := gaI_w (lv_of (by decide)) rfl (by decide) (by decide)
theorem pa27 {i x : Int32} : paI E (Hw E w I L Q) (rr w 27) i x = (ix i 30).map (fun j => Hw E w (up2 I 27 j x) L Q) := paI_w (lv_of (by decide)) rfl
theorem an27 : aln E 0 (Hw E w I L Q) (rr w 27) = some (Int32.ofNat 30) := aln_w (lv_of (by decide)) rfl
theorem ga28 {i : Int32} : gaI E 0 (Hw E w I L Q) (rr w 28) i = (ix i 30).map (I 28) := gaI_w (lv_of (by decide)) rfl (by decide) (by decide)
theorem pa28 {i x : Int32} : paI E (Hw E w I L Q) (rr w 28) i x = (ix i 30).map (fun j => Hw E w (up2 I 28 j x) L Q) := paI_w (lv_of (by decide)) rfl
theorem an28 : aln E 0 (Hw E w I L Q) (rr w 28) = some (Int32.ofNat 30) := aln_w (lv_of (by decide)) rfl
theorem ga29 {i : Int32} : gaI E 0 (Hw E w I L Q) (rr w 29) i = (ix i 30).map (I 29) := gaI_w (lv_of (by decide)) rfl (by decide) (by decide)
theorem pa29 {i x : Int32} : paI E (Hw E w I L Q) (rr w 29) i x = (ix i 30).map (fun j => Hw E w (up2 I 29 j x) L Q) := paI_w (lv_of (by decide)) rfl
theorem an29 : aln E 0 (Hw E w I L Q) (rr w 29) = some (Int32.ofNat 30) := aln_w (lv_of (by decide)) rfl
theorem ga30 {i : Int32} : gaI E 0 (Hw E w I L Q) (rr w 30) i = (ix i 30).map (I 30) := gaI_w (lv_of (by decide)) rfl (by decide) (by decide)
theorem pa30 {i x : Int32} : paI E (Hw E w I L Q) (rr w 30) i x = (ix i 30).map (fun j => Hw E w (up2 I 30 j x) L Q) := paI_w (lv_of (by decide)) rfl
theorem an30 : aln E 0 (Hw E w I L Q) (rr w 30) = some (Int32.ofNat 30) := aln_w (lv_of (by decide)) rfl
theorem ga31 {i : Int32} : gaI E 0 (Hw E w I L Q) (rr w 31) i = (ix i 30).map (I 31) := gaI_w (lv_of (by decide)) rfl (by decide) (by decide)
theorem pa31 {i x : Int32} : paI E (Hw E w I L Q) (rr w 31) i x = (ix i 30).map (fun j => Hw E w (up2 I 31 j x) L Q) := paI_w (lv_of (by decide)) rfl
theorem an31 : aln E 0 (Hw E w I L Q) (rr w 31) = some (Int32.ofNat 30) := aln_w (lv_of (by decide)) rfl
theorem o32 : isO (Hw E w I L Q) (rr w 32) 10 = some () := isO_w (lv_of (by decide)) rfl
theorem gf32_0 : gfR (Hw E w I L Q) (rr w 32) 10 0 = some (rr w 0) := gfC_w (lv_of (by decide)) rfl rfl
theorem gf32_1 : gfI (Hw E w I L Q) (rr w 32) 10 1 = some (I 32 1) := gfI_w (lv_of (by decide)) rfl rfl
theorem pf32_1 {v : Int32} : pf (Hw E w I L Q) (rr w 32) 10 1 (.int v) = some (Hw E w (up2 I 32 1 v) L Q) := pfI_w (lv_of (by decide)) rfl rfl
theorem gf32_2 : gfI (Hw E w I L Q) (rr w 32) 10 2 = some (I 32 2) := gfI_w (lv_of (by decide)) rfl rfl
theorem pf32_2 {v : Int32} : pf (Hw E w I L Q) (rr w 32) 10 2 (.int v) = some (Hw E w (up2 I 32 2 v) L Q) := pfI_w (lv_of (by decide)) rfl rfl
theorem gf32_3 : gfI (Hw E w I L Q) (rr w 32) 10 3 = some (I 32 3) := gfI_w (lv_of (by decide)) rfl rfl
theorem pf32_3 {v : Int32} : pfZ (Hw E w I L Q) (rr w 32) 10 3 v = if v = 0 ∨ v = 1 then some (Hw E w (up2 I 32 3 v) L Q) else none := pfZ_w (lv_of (by decide)) rfl rfl
theorem gf32_4 : gfL (Hw E w I L Q) (rr w 32) 10 4 = some (L 32 4) := gfL_w (lv_of (by decide)) rfl rfl
theorem pf32_4 {v : Int64} : pf (Hw E w I L Q) (rr w 32) 10 4 (.long v) = some (Hw E w I (up2 L 32 4 v) Q) := pfL_w (lv_of (by decide)) rfl rfl
theorem gf32_5 : gfR (Hw E w I L Q) (rr w 32) 10 5 = some (rr w 33) := gfC_w (lv_of (by decide)) rfl rfl
theorem gf32_6 : gfR (Hw E w I L Q) (rr w 32) 10 6 = some (rr w 34) := gfC_w (lv_of (by decide)) rfl rfl
theorem gf32_7 : gfR (Hw E w I L Q) (rr w 32) 10 7 = some (rr w 35) := gfC_w (lv_of (by decide)) rfl rfl
theorem gf32_8 : gfR (Hw E w I L Q) (rr w 32) 10 8 = some (rr w 36) := gfC_w (lv_of (by decide)) rfl rfl
theorem gf32_9 : gfR (Hw E w I L Q) (rr w 32) 10 9 = some (rr w 37) := gfC_w (lv_of (by decide)) rfl rfl
theorem gf32_10 : gfR (Hw E w I L Q) (rr w 32) 10 10 = some (rr w 38) := gfC_w (lv_of (by decide)) rfl rfl
theorem gf32_11 : gfR (Hw E w I L Q) (rr w 32) 10 11 = some (rr w 39) := gfC_w (lv_of (by decide)) rfl rfl
theorem ga33 {i : Int32} : gaL E (Hw E w I L Q) (rr w 33) i = (ix i 2).map (L 33) := gaL_w (lv_of (by decide)) rfl
theorem pa33 {i : Int32} {x : Int64} : paL E (Hw E w I L Q) (rr w 33) i x = (ix i 2).map (fun j => Hw E w I (up2 L 33 j x) Q) := paL_w (lv_of (by decide)) rfl
theorem an33 : aln E 1 (Hw E w I L Q) (rr w 33) = some (Int32.ofNat 2) := aln_w (lv_of (by decide)) rfl
theorem ga34 {i : Int32} : gaL E (Hw E w I L Q) (rr w 34) i = (ix i 80).map (L 34) := gaL_w (lv_of (by decide)) rfl
theorem pa34 {i : Int32} {x : Int64} : paL E (Hw E w I L Q) (rr w 34) i x = (ix i 80).map (fun j => Hw E w I (up2 L 34 j x) Q) := paL_w (lv_of (by decide)) rfl
theorem an34 : aln E 1 (Hw E w I L Q) (rr w 34) = some (Int32.ofNat 80) := aln_w (lv_of (by decide)) rfl
theorem ga35 {i : Int32} : gaL E (Hw E w I L Q) (rr w 35) i = (ix i 40).map (L 35) := gaL_w (lv_of (by decide)) rfl
theorem pa35 {i : Int32} {x : Int64} : paL E (Hw E w I L Q) (rr w 35) i x = (ix i 40).map (fun j => Hw E w I (up2 L 35 j x) Q) := paL_w (lv_of (by decide)) rfl
theorem an35 : aln E 1 (Hw E w I L Q) (rr w 35) = some (Int32.ofNat 40) := aln_w (lv_of (by decide)) rfl
theorem ga36 {i : Int32} : gaL E (Hw E w I L Q) (rr w 36) i = (ix i 12).map (L 36) := gaL_w (lv_of (by decide)) rfl
theorem pa36 {i : Int32} {x : Int64} : paL E (Hw E w I L Q) (rr w 36) i x = (ix i 12).map (fun j => Hw E w I (up2 L 36 j x) Q) := paL_w (lv_of (by decide)) rfl
theorem an36 : aln E 1 (Hw E w I L Q) (rr w 36) = some (Int32.ofNat 12) := aln_w (lv_of (by decide)) rfl
theorem ga37 {i : Int32} : gaL E (Hw E w I L Q) (rr w 37) i = (ix i 12).map (L 37) := gaL_w (lv_of (by decide)) rfl
theorem pa37 {i : Int32} {x : Int64} : paL E (Hw E w I L Q) (rr w 37) i x = (ix i 12).map (fun j => Hw E w I (up2 L 37 j x) Q) := paL_w (lv_of (by decide)) rfl
theorem an37 : aln E 1 (Hw E w I L Q) (rr w 37) = some (Int32.ofNat 12) := aln_w (lv_of (by decide)) rfl
theorem ga38 {i : Int32} : gaI E 2 (Hw E w I L Q) (rr w 38) i = (ix i 240).map (I 38) := gaI_w (lv_of (by decide)) rfl (by decide) (by decide)
theorem pa38 {i x : Int32} : paZ E (Hw E w I L Q) (rr w 38) i x = (ix i 240).map (fun j => Hw E w (up2 I 38 j (vp_nar .boolean x)) L Q) := paZ_w (lv_of (by decide)) rfl
theorem an38 : aln E 2 (Hw E w I L Q) (rr w 38) = some (Int32.ofNat 240) := aln_w (lv_of (by decide)) rfl
theorem ga39 {i : Int32} : gaL E (Hw E w I L Q) (rr w 39) i = (ix i 1920).map (L 39) := gaL_w (lv_of (by decide)) rfl
theorem pa39 {i : Int32} {x : Int64} : paL E (Hw E w I L Q) (rr w 39) i x = (ix i 1920).map (fun j => Hw E w I (up2 L 39 j x) Q) := paL_w (lv_of (by decide)) rfl
theorem an39 : aln E 1 (Hw E w I L Q) (rr w 39) = some (Int32.ofNat 1920) := aln_w (lv_of (by decide)) rfl
theorem o40 : isO (Hw E w I L Q) (rr w 40) 9 = some () := isO_w (lv_of (by decide)) rfl
theorem gf40_0 : gfR (Hw E w I L Q) (rr w 40) 9 0 = some (rr w 32) := gfC_w (lv_of (by decide)) rfl rfl
theorem gf40_1 : gfR (Hw E w I L Q) (rr w 40) 9 1 = some (rr w 15) := gfC_w (lv_of (by decide)) rfl rfl
theorem gf40_2 : gfR (Hw E w I L Q) (rr w 40) 9 2 = some (rr w 22) := gfC_w (lv_of (by decide)) rfl rfl
theorem gf40_3 : gfR (Hw E w I L Q) (rr w 40) 9 3 = some (rr w 48) := gfC_w (lv_of (by decide)) rfl rfl
theorem gf40_4 : gfR (Hw E w I L Q) (rr w 40) 9 4 = some (rr w 41) := gfC_w (lv_of (by decide)) rfl rfl
theorem gf40_5 : gfR (Hw E w I L Q) (rr w 40) 9 5 = some (rr w 42) := gfC_w (lv_of (by decide)) rfl rfl
theorem gf40_6 : gfI (Hw E w I L Q) (rr w 40) 9 6 = some (I 40 6) := gfI_w (lv_of (by decide)) rfl rfl
theorem pf40_6 {v : Int32} : pf (Hw E w I L Q) (rr w 40) 9 6 (.int v) = some (Hw E w (up2 I 40 6 v) L Q) := pfI_w (lv_of (by decide)) rfl rfl
theorem gf40_7 : gfR (Hw E w I L Q) (rr w 40) 9 7 = (Q 40 7).map (rr w) := gfQ_w (lv_of (by decide)) rfl rfl
theorem pf40_7 {j : Nat} : pf (Hw E w I L Q) (rr w 40) 9 7 (.ref (rr w j)) = some (Hw E w I L (up2 Q 40 7 (some j))) := pfQ_w (lv_of (by decide)) rfl rfl
theorem gf40_8 : gfR (Hw E w I L Q) (rr w 40) 9 8 = (Q 40 8).map (rr w) := gfQ_w (lv_of (by decide)) rfl rfl
theorem pf40_8 {j : Nat} : pf (Hw E w I L Q) (rr w 40) 9 8 (.ref (rr w j)) = some (Hw E w I L (up2 Q 40 8 (some j))) := pfQ_w (lv_of (by decide)) rfl rfl
theorem gf40_9 : gfR (Hw E w I L Q) (rr w 40) 9 9 = some (rr w 47) := gfC_w (lv_of (by decide)) rfl rfl
theorem ga41 {i : Int32} : gaI E 0 (Hw E w I L Q) (rr w 41) i = (ix i 96).map (I 41) := gaI_w (lv_of (by decide)) rfl (by decide) (by decide)
theorem pa41 {i x : Int32} : paI E (Hw E w I L Q) (rr w 41) i x = (ix i 96).map (fun j => Hw E w (up2 I 41 j x) L Q) := paI_w (lv_of (by decide)) rfl
theorem an41 : aln E 0 (Hw E w I L Q) (rr w 41) = some (Int32.ofNat 96) := aln_w (lv_of (by decide)) rfl
theorem ga42 {i : Int32} : gaL E (Hw E w I L Q) (rr w 42) i = (ix i 96).map (L 42) := gaL_w (lv_of (by decide)) rfl
theorem pa42 {i : Int32} {x : Int64} : paL E (Hw E w I L Q) (rr w 42) i x = (ix i 96).map (fun j => Hw E w I (up2 L 42 j x) Q) := paL_w (lv_of (by decide)) rfl
theorem an42 : aln E 1 (Hw E w I L Q) (rr w 42) = some (Int32.ofNat 96) := aln_w (lv_of (by decide)) rfl
theorem o43 : isO (Hw E w I L Q) (rr w 43) 6 = some () := isO_w (lv_of (by decide)) rfl
theorem gf43_0 : gfR (Hw E w I L Q) (rr w 43) 6 0 = some (rr w 44) := gfC_w (lv_of (by decide)) rfl rfl
theorem ga44 {i : Int32} : gaL E (Hw E w I L Q) (rr w 44) i = (ix i 4).map (L 44) := gaL_w (lv_of (by decide)) rfl
theorem pa44 {i : Int32} {x : Int64} : paL E (Hw E w I L Q) (rr w 44) i x = (ix i 4).map (fun j => Hw E w I (up2 L 44 j x) Q) := paL_w (lv_of (by decide)) rfl
theorem an44 : aln E 1 (Hw E w I L Q) (rr w 44) = some (Int32.ofNat 4) := aln_w (lv_of (by decide)) rfl
theorem o45 : isO (Hw E w I L Q) (rr w 45) 6 = some () := isO_w (lv_of (by decide)) rfl
theorem gf45_0 : gfR (Hw E w I L Q) (rr w 45) 6 0 = some (rr w 46) := gfC_w (lv_of (by decide)) rfl rfl
theorem ga46 {i : Int32} : gaL E (Hw E w I L Q) (rr w 46) i = (ix i 4).map (L 46) := gaL_w (lv_of (by decide)) rfl
theorem pa46 {i : Int32} {x : Int64} : paL E (Hw E w I L Q) (rr w 46) i x = (ix i 4).map (fun j => Hw E w I (up2 L 46 j x) Q) := paL_w (lv_of (by decide)) rfl
theorem an46 : aln E 1 (Hw E w I L Q) (rr w 46) = some (Int32.ofNat 4) := aln_w (lv_of (by decide)) rfl
theorem ga47 {i : Int32} : gaI E 0 (Hw E w I L Q) (rr w 47) i = (ix i 240).map (I 47) := gaI_w (lv_of (by decide)) rfl (by decide) (by decide)
theorem pa47 {i x : Int32} : paI E (Hw E w I L Q) (rr w 47) i x = (ix i 240).map (fun j => Hw E w (up2 I 47 j x) L Q) := paI_w (lv_of (by decide)) rfl
theorem an47 : aln E 0 (Hw E w I L Q) (rr w 47) = some (Int32.ofNat 240) := aln_w (lv_of (by decide)) rfl
theorem o48 : isO (Hw E w I L Q) (rr w 48) 7 = some () := isO_w (lv_of (by decide)) rfl
theorem gf48_0 : gfR (Hw E w I L Q) (rr w 48) 7 0 = some (rr w 32) := gfC_w (lv_of (by decide)) rfl rfl
theorem gf48_1 : gfI (Hw E w I L Q) (rr w 48) 7 1 = some (I 48 1) := gfI_w (lv_of (by decide)) rfl rfl
theorem pf48_1 {v : Int32} : pf (Hw E w I L Q) (rr w 48) 7 1 (.int v) = some (Hw E w (up2 I 48 1 v) L Q) := pfI_w (lv_of (by decide)) rfl rfl
theorem gf48_2 : gfR (Hw E w I L Q) (rr w 48) 7 2 = (Q 48 2).map (rr w) := gfQ_w (lv_of (by decide)) rfl rfl
theorem pf48_2 {j : Nat} : pf (Hw E w I L Q) (rr w 48) 7 2 (.ref (rr w j)) = some (Hw E w I L (up2 Q 48 2 (some j))) := pfQ_w (lv_of (by decide)) rfl rfl
theorem gf48_3 : gfR (Hw E w I L Q) (rr w 48) 7 3 = (Q 48 3).map (rr w) := gfQ_w (lv_of (by decide)) rfl rfl
theorem pf48_3 {j : Nat} : pf (Hw E w I L Q) (rr w 48) 7 3 (.ref (rr w j)) = some (Hw E w I L (up2 Q 48 3 (some j))) := pfQ_w (lv_of (by decide)) rfl rfl
theorem gf48_4 : gfI (Hw E w I L Q) (rr w 48) 7 4 = some (I 48 4) := gfI_w (lv_of (by decide)) rfl rfl
theorem pf48_4 {v : Int32} : pf (Hw E w I L Q) (rr w 48) 7 4 (.int v) = some (Hw E w (up2 I 48 4 v) L Q) := pfI_w (lv_of (by decide)) rfl rfl
theorem gf48_5 : gfR (Hw E w I L Q) (rr w 48) 7 5 = (Q 48 5).map (rr w) := gfQ_w (lv_of (by decide)) rfl rfl
theorem pf48_5 {j : Nat} : pf (Hw E w I L Q) (rr w 48) 7 5 (.ref (rr w j)) = some (Hw E w I L (up2 Q 48 5 (some j))) := pfQ_w (lv_of (by decide)) rfl rfl
theorem gf48_6 : gfR (Hw E w I L Q) (rr w 48) 7 6 = (Q 48 6).map (rr w) := gfQ_w (lv_of (by decide)) rfl rfl
theorem pf48_6 {j : Nat} : pf (Hw E w I L Q) (rr w 48) 7 6 (.ref (rr w j)) = some (Hw E w I L (up2 Q 48 6 (some j))) := pfQ_w (lv_of (by decide)) rfl rfl
theorem gf48_7 : gfR (Hw E w I L Q) (rr w 48) 7 7 = (Q 48 7).map (rr w) := gfQ_w (lv_of (by decide)) rfl rfl
theorem pf48_7 {j : Nat} : pf (Hw E w I L Q) (rr w 48) 7 7 (.ref (rr w j)) = some (Hw E w I L (up2 Q 48 7 (some j))) := pfQ_w (lv_of (by decide)) rfl rfl
theorem gf48_8 : gfI (Hw E w I L Q) (rr w 48) 7 8 = some (I 48 8) := gfI_w (lv_of (by decide)) rfl rfl
theorem pf48_8 {v : Int32} : pf (Hw E w I L Q) (rr w 48) 7 8 (.int v) = some (Hw E w (up2 I 48 8 v) L Q) := pfI_w (lv_of (by decide)) rfl rfl
theorem gf48_9 : gfI (Hw E w I L Q) (rr w 48) 7 9 = some (I 48 9) := gfI_w (lv_of (by decide)) rfl rfl
theorem pf48_9 {v : Int32} : pf (Hw E w I L Q) (rr w 48) 7 9 (.int v) = some (Hw E w (up2 I 48 9 v) L Q) := pfI_w (lv_of (by decide)) rfl rfl
theorem gf48_10 : gfL (Hw E w I L Q) (rr w 48) 7 10 = some (L 48 10) := gfL_w (lv_of (by decide)) rfl rfl
theorem pf48_10 {v : Int64} : pf (Hw E w I L Q) (rr w 48) 7 10 (.long v) = some (Hw E w I (up2 L 48 10 v) Q) := pfL_w (lv_of (by decide)) rfl rfl
theorem ga49 {i : Int32} : gaI E 0 (Hw E w I L Q) (rr w 49) i = (ix i 120).map (I 49) := gaI_w (lv_of (by decide)) rfl (by decide) (by decide)
theorem pa49 {i x : Int32} : paI E (Hw E w I L Q) (rr w 49) i x = (ix i 120).map (fun j => Hw E w (up2 I 49 j x) L Q) := paI_w (lv_of (by decide)) rfl
theorem an49 : aln E 0 (Hw E w I L Q) (rr w 49) = some (Int32.ofNat 120) := aln_w (lv_of (by decide)) rfl
theorem ga50 {i : Int32} : gaL E (Hw E w I L Q) (rr w 50) i = (ix i 120).map (L 50) := gaL_w (lv_of (by decide)) rfl
theorem pa50 {i : Int32} {x : Int64} : paL E (Hw E w I L Q) (rr w 50) i x = (ix i 120).map (fun j => Hw E w I (up2 L 50 j x) Q) := paL_w (lv_of (by decide)) rfl
theorem an50 : aln E 1 (Hw E w I L Q) (rr w 50) = some (Int32.ofNat 120) := aln_w (lv_of (by decide)) rfl
theorem ga51 {i : Int32} : gaI E 0 (Hw E w I L Q) (rr w 51) i = (ix i 120).map (I 51) := gaI_w (lv_of (by decide)) rfl (by decide) (by decide)
theorem pa51 {i x : Int32} : paI E (Hw E w I L Q) (rr w 51) i x = (ix i 120).map (fun j => Hw E w (up2 I 51 j x) L Q) := paI_w (lv_of (by decide)) rfl
theorem an51 : aln E 0 (Hw E w I L Q) (rr w 51) = some (Int32.ofNat 120) := aln_w (lv_of (by decide)) rfl
theorem ga52 {i : Int32} : gaL E (Hw E w I L Q) (rr w 52) i = (ix i 120).map (L 52) := gaL_w (lv_of (by decide)) rfl
theorem pa52 {i : Int32} {x : Int64} : paL E (Hw E w I L Q) (rr w 52) i x = (ix i 120).map (fun j => Hw E w I (up2 L 52 j x) Q) := paL_w (lv_of (by decide)) rfl
theorem an52 : aln E 1 (Hw E w I L Q) (rr w 52) = some (Int32.ofNat 120) := aln_w (lv_of (by decide)) rfl
theorem ga53 {i : Int32} : gaI E 0 (Hw E w I L Q) (rr w 53) i = (ix i 1).map (I 53) := gaI_w (lv_of (by decide)) rfl (by decide) (by decide)
theorem pa53 {i x : Int32} : paI E (Hw E w I L Q) (rr w 53) i x = (ix i 1).map (fun j => Hw E w (up2 I 53 j x) L Q) := paI_w (lv_of (by decide)) rfl
theorem an53 : aln E 0 (Hw E w I L Q) (rr w 53) = some (Int32.ofNat 1) := aln_w (lv_of (by decide)) rfl
theorem o54 : isO (Hw E w I L Q) (rr w 54) 4 = some () := isO_w (lv_of (by decide)) rfl
theorem gf54_0 : gfR (Hw E w I L Q) (rr w 54) 4 0 = some (rr w 40) := gfC_w (lv_of (by decide)) rfl rfl
theorem gf54_1 : gfR (Hw E w I L Q) (rr w 54) 4 1 = (Q 54 1).map (rr w) := gfQ_w (lv_of (by decide)) rfl rfl
theorem pf54_1 {j : Nat} : pf (Hw E w I L Q) (rr w 54) 4 1 (.ref (rr w j)) = some (Hw E w I L (up2 Q 54 1 (some j))) := pfQ_w (lv_of (by decide)) rfl rfl
theorem gf54_2 : gfR (Hw E w I L Q) (rr w 54) 4 2 = (Q 54 2).map (rr w) := gfQ_w (lv_of (by decide)) rfl rfl
theorem pf54_2 {j : Nat} : pf (Hw E w I L Q) (rr w 54) 4 2 (.ref (rr w j)) = some (Hw E w I L (up2 Q 54 2 (some j))) := pfQ_w (lv_of (by decide)) rfl rfl
theorem gf54_3 : gfR (Hw E w I L Q) (rr w 54) 4 3 = some (rr w 57) := gfC_w (lv_of (by decide)) rfl rfl
theorem gf54_4 : gfR (Hw E w I L Q) (rr w 54) 4 4 = some (rr w 58) := gfC_w (lv_of (by decide)) rfl rfl
theorem gf54_5 : gfR (Hw E w I L Q) (rr w 54) 4 5 = some (rr w 60) := gfC_w (lv_of (by decide)) rfl rfl
theorem gf54_6 : gfR (Hw E w I L Q) (rr w 54) 4 6 = some (rr w 61) := gfC_w (lv_of (by decide)) rfl rfl
theorem gf54_7 : gfR (Hw E w I L Q) (rr w 54) 4 7 = some (rr w 62) := gfC_w (lv_of (by decide)) rfl rfl
theorem ga55 {i : Int32} : gaI E 0 (Hw E w I L Q) (rr w 55) i = (ix i 240).map (I 55) := gaI_w (lv_of (by decide)) rfl (by decide) (by decide)
theorem pa55 {i x : Int32} : paI E (Hw E w I L Q) (rr w 55) i x = (ix i 240).map (fun j => Hw E w (up2 I 55 j x) L Q) := paI_w (lv_of (by decide)) rfl
theorem an55 : aln E 0 (Hw E w I L Q) (rr w 55) = some (Int32.ofNat 240) := aln_w (lv_of (by decide)) rfl
theorem ga56 {i : Int32} : gaI E 0 (Hw E w I L Q) (rr w 56) i = (ix i 240).map (I 56) := gaI_w (lv_of (by decide)) rfl (by decide) (by decide)
theorem pa56 {i x : Int32} : paI E (Hw E w I L Q) (rr w 56) i x = (ix i 240).map (fun j => Hw E w (up2 I 56 j x) L Q) := paI_w (lv_of (by decide)) rfl
theorem an56 : aln E 0 (Hw E w I L Q) (rr w 56) = some (Int32.ofNat 240) := aln_w (lv_of (by decide)) rfl
theorem ga57 {i : Int32} : gaI E 0 (Hw E w I L Q) (rr w 57) i = (ix i 1).map (I 57) := gaI_w (lv_of (by decide)) rfl (by decide) (by decide)
theorem pa57 {i x : Int32} : paI E (Hw E w I L Q) (rr w 57) i x = (ix i 1).map (fun j => Hw E w (up2 I 57 j x) L Q) := paI_w (lv_of (by decide)) rfl
theorem an57 : aln E 0 (Hw E w I L Q) (rr w 57) = some (Int32.ofNat 1) := aln_w (lv_of (by decide)) rfl
theorem o58 : isO (Hw E w I L Q) (rr w 58) 6 = some () := isO_w (lv_of (by decide)) rfl
theorem gf58_0 : gfR (Hw E w I L Q) (rr w 58) 6 0 = some (rr w 59) := gfC_w (lv_of (by decide)) rfl rfl
theorem ga59 {i : Int32} : gaL E (Hw E w I L Q) (rr w 59) i = (ix i 4).map (L 59) := gaL_w (lv_of (by decide)) rfl
theorem pa59 {i : Int32} {x : Int64} : paL E (Hw E w I L Q) (rr w 59) i x = (ix i 4).map (fun j => Hw E w I (up2 L 59 j x) Q) := paL_w (lv_of (by decide)) rfl
theorem an59 : aln E 1 (Hw E w I L Q) (rr w 59) = some (Int32.ofNat 4) := aln_w (lv_of (by decide)) rfl
theorem ga60 {i : Int32} : gaI E 0 (Hw E w I L Q) (rr w 60) i = (ix i 240).map (I 60) := gaI_w (lv_of (by decide)) rfl (by decide) (by decide)
theorem pa60 {i x : Int32} : paI E (Hw E w I L Q) (rr w 60) i x = (ix i 240).map (fun j => Hw E w (up2 I 60 j x) L Q) := paI_w (lv_of (by decide)) rfl
theorem an60 : aln E 0 (Hw E w I L Q) (rr w 60) = some (Int32.ofNat 240) := aln_w (lv_of (by decide)) rfl
theorem ga61 {i : Int32} : gaI E 0 (Hw E w I L Q) (rr w 61) i = (ix i 40).map (I 61) := gaI_w (lv_of (by decide)) rfl (by decide) (by decide)
theorem pa61 {i x : Int32} : paI E (Hw E w I L Q) (rr w 61) i x = (ix i 40).map (fun j => Hw E w (up2 I 61 j x) L Q) := paI_w (lv_of (by decide)) rfl
theorem an61 : aln E 0 (Hw E w I L Q) (rr w 61) = some (Int32.ofNat 40) := aln_w (lv_of (by decide)) rfl
theorem ga62 {i : Int32} : gaI E 0 (Hw E w I L Q) (rr w 62) i = (ix i 40).map (I 62) := gaI_w (lv_of (by decide)) rfl (by decide) (by decide)
theorem pa62 {i x : Int32} : paI E (Hw E w I L Q) (rr w 62) i x = (ix i 40).map (fun j => Hw E w (up2 I 62 j x) L Q) := paI_w (lv_of (by decide)) rfl
theorem an62 : aln E 0 (Hw E w I L Q) (rr w 62) = some (Int32.ofNat 40) := aln_w (lv_of (by decide)) rfl
theorem o63 : isO (Hw E w I L Q) (rr w 63) 1 = some () := isO_w (lv_of (by decide)) rfl
theorem gf63_0 : gfR (Hw E w I L Q) (rr w 63) 1 0 = some (rr w 40) := gfC_w (lv_of (by decide)) rfl rfl
theorem gf63_1 : gfI (Hw E w I L Q) (rr w 63) 1 1 = some (I 63 1) := gfI_w (lv_of (by decide)) rfl rfl
theorem pf63_1 {v : Int32} : pf (Hw E w I L Q) (rr w 63) 1 1 (.int v) = some (Hw E w (up2 I 63 1 v) L Q) := pfI_w (lv_of (by decide)) rfl rfl
theorem gf63_2 : gfL (Hw E w I L Q) (rr w 63) 1 2 = some (L 63 2) := gfL_w (lv_of (by decide)) rfl rfl
theorem pf63_2 {v : Int64} : pf (Hw E w I L Q) (rr w 63) 1 2 (.long v) = some (Hw E w I (up2 L 63 2 v) Q) := pfL_w (lv_of (by decide)) rfl rfl
theorem gf63_3 : gfR (Hw E w I L Q) (rr w 63) 1 3 = some (rr w 64) := gfC_w (lv_of (by decide)) rfl rfl
theorem gf63_4 : gfR (Hw E w I L Q) (rr w 63) 1 4 = some (rr w 65) := gfC_w (lv_of (by decide)) rfl rfl
theorem gf63_5 : gfR (Hw E w I L Q) (rr w 63) 1 5 = some (rr w 66) := gfC_w (lv_of (by decide)) rfl rfl
theorem gf63_6 : gfR (Hw E w I L Q) (rr w 63) 1 6 = some (rr w 67) := gfC_w (lv_of (by decide)) rfl rfl
theorem gf63_7 : gfR (Hw E w I L Q) (rr w 63) 1 7 = some (rr w 68) := gfC_w (lv_of (by decide)) rfl rfl
theorem gf63_8 : gfR (Hw E w I L Q) (rr w 63) 1 8 = some (rr w 69) := gfC_w (lv_of (by decide)) rfl rfl
theorem gf63_9 : gfR (Hw E w I L Q) (rr w 63) 1 9 = some (rr w 71) := gfC_w (lv_of (by decide)) rfl rfl
theorem gf63_10 : gfR (Hw E w I L Q) (rr w 63) 1 10 = some (rr w 72) := gfC_w (lv_of (by decide)) rfl rfl
theorem ga64 {i : Int32} : gaI E 0 (Hw E w I L Q) (rr w 64) i = (ix i 3).map (I 64) := gaI_w (lv_of (by decide)) rfl (by decide) (by decide)
theorem pa64 {i x : Int32} : paI E (Hw E w I L Q) (rr w 64) i x = (ix i 3).map (fun j => Hw E w (up2 I 64 j x) L Q) := paI_w (lv_of (by decide)) rfl
theorem an64 : aln E 0 (Hw E w I L Q) (rr w 64) = some (Int32.ofNat 3) := aln_w (lv_of (by decide)) rfl
theorem ga65 {i : Int32} : gaR E 8 (Hw E w I L Q) (rr w 65) i = (ix i 24).map (fun j => (Q 65 j).map (rr w)) := gaR_w (lv_of (by decide)) rfl (by decide)
theorem an65 : aln E 8 (Hw E w I L Q) (rr w 65) = some (Int32.ofNat 24) := aln_w (lv_of (by decide)) rfl
theorem ga66 {i : Int32} : gaI E 0 (Hw E w I L Q) (rr w 66) i = (ix i 1920).map (I 66) := gaI_w (lv_of (by decide)) rfl (by decide) (by decide)
theorem pa66 {i x : Int32} : paI E (Hw E w I L Q) (rr w 66) i x = (ix i 1920).map (fun j => Hw E w (up2 I 66 j x) L Q) := paI_w (lv_of (by decide)) rfl
theorem an66 : aln E 0 (Hw E w I L Q) (rr w 66) = some (Int32.ofNat 1920) := aln_w (lv_of (by decide)) rfl
theorem ga67 {i : Int32} : gaI E 0 (Hw E w I L Q) (rr w 67) i = (ix i 1920).map (I 67) := gaI_w (lv_of (by decide)) rfl (by decide) (by decide)
theorem pa67 {i x : Int32} : paI E (Hw E w I L Q) (rr w 67) i x = (ix i 1920).map (fun j => Hw E w (up2 I 67 j x) L Q) := paI_w (lv_of (by decide)) rfl
theorem an67 : aln E 0 (Hw E w I L Q) (rr w 67) = some (Int32.ofNat 1920) := aln_w (lv_of (by decide)) rfl
theorem ga68 {i : Int32} : gaI E 0 (Hw E w I L Q) (rr w 68) i = (ix i 1920).map (I 68) := gaI_w (lv_of (by decide)) rfl (by decide) (by decide)
theorem pa68 {i x : Int32} : paI E (Hw E w I L Q) (rr w 68) i x = (ix i 1920).map (fun j => Hw E w (up2 I 68 j x) L Q) := paI_w (lv_of (by decide)) rfl
theorem an68 : aln E 0 (Hw E w I L Q) (rr w 68) = some (Int32.ofNat 1920) := aln_w (lv_of (by decide)) rfl
theorem o69 : isO (Hw E w I L Q) (rr w 69) 6 = some () := isO_w (lv_of (by decide)) rfl
theorem gf69_0 : gfR (Hw E w I L Q) (rr w 69) 6 0 = some (rr w 70) := gfC_w (lv_of (by decide)) rfl rfl
theorem ga70 {i : Int32} : gaL E (Hw E w I L Q) (rr w 70) i = (ix i 4).map (L 70) := gaL_w (lv_of (by decide)) rfl
theorem pa70 {i : Int32} {x : Int64} : paL E (Hw E w I L Q) (rr w 70) i x = (ix i 4).map (fun j => Hw E w I (up2 L 70 j x) Q) := paL_w (lv_of (by decide)) rfl
theorem an70 : aln E 1 (Hw E w I L Q) (rr w 70) = some (Int32.ofNat 4) := aln_w (lv_of (by decide)) rfl
theorem ga71 {i : Int32} : gaI E 0 (Hw E w I L Q) (rr w 71) i = (ix i 240).map (I 71) := gaI_w (lv_of (by decide)) rfl (by decide) (by decide)
theorem pa71 {i x : Int32} : paI E (Hw E w I L Q) (rr w 71) i x = (ix i 240).map (fun j => Hw E w (up2 I 71 j x) L Q) := paI_w (lv_of (by decide)) rfl
theorem an71 : aln E 0 (Hw E w I L Q) (rr w 71) = some (Int32.ofNat 240) := aln_w (lv_of (by decide)) rfl
theorem ga72 {i : Int32} : gaI E 0 (Hw E w I L Q) (rr w 72) i = (ix i 1).map (I 72) := gaI_w (lv_of (by decide)) rfl (by decide) (by decide)
theorem pa72 {i x : Int32} : paI E (Hw E w I L Q) (rr w 72) i x = (ix i 1).map (fun j => Hw E w (up2 I 72 j x) L Q) := paI_w (lv_of (by decide)) rfl
theorem an72 : aln E 0 (Hw E w I L Q) (rr w 72) = some (Int32.ofNat 1) := aln_w (lv_of (by decide)) rfl
theorem o73 : isO (Hw E w I L Q) (rr w 73) 6 = some () := isO_w (lv_of (by decide)) rfl
theorem gf73_0 : gfR (Hw E w I L Q) (rr w 73) 6 0 = some (rr w 74) := gfC_w (lv_of (by decide)) rfl rfl
theorem ga74 {i : Int32} : gaL E (Hw E w I L Q) (rr w 74) i = (ix i 4).map (L 74) := gaL_w (lv_of (by decide)) rfl
theorem pa74 {i : Int32} {x : Int64} : paL E (Hw E w I L Q) (rr w 74) i x = (ix i 4).map (fun j => Hw E w I (up2 L 74 j x) Q) := paL_w (lv_of (by decide)) rfl
theorem an74 : aln E 1 (Hw E w I L Q) (rr w 74) = some (Int32.ofNat 4) := aln_w (lv_of (by decide)) rfl
theorem o75 : isO (Hw E w I L Q) (rr w 75) 6 = some () := isO_w (lv_of (by decide)) rfl
theorem gf75_0 : gfR (Hw E w I L Q) (rr w 75) 6 0 = some (rr w 76) := gfC_w (lv_of (by decide)) rfl rfl
theorem ga76 {i : Int32} : gaL E (Hw E w I L Q) (rr w 76) i = (ix i 4).map (L 76) := gaL_w (lv_of (by decide)) rfl
theorem pa76 {i : Int32} {x : Int64} : paL E (Hw E w I L Q) (rr w 76) i x = (ix i 4).map (fun j => Hw E w I (up2 L 76 j x) Q) := paL_w (lv_of (by decide)) rfl
theorem an76 : aln E 1 (Hw E w I L Q) (rr w 76) = some (Int32.ofNat 4) := aln_w (lv_of (by decide)) rfl
theorem o77 : isO (Hw E w I L Q) (rr w 77) 6 = some () := isO_w (lv_of (by decide)) rfl
theorem gf77_0 : gfR (Hw E w I L Q) (rr w 77) 6 0 = some (rr w 78) := gfC_w (lv_of (by decide)) rfl rfl
theorem ga78 {i : Int32} : gaL E (Hw E w I L Q) (rr w 78) i = (ix i 4).map (L 78) := gaL_w (lv_of (by decide)) rfl
theorem pa78 {i : Int32} {x : Int64} : paL E (Hw E w I L Q) (rr w 78) i x = (ix i 4).map (fun j => Hw E w I (up2 L 78 j x) Q) := paL_w (lv_of (by decide)) rfl
theorem an78 : aln E 1 (Hw E w I L Q) (rr w 78) = some (Int32.ofNat 4) := aln_w (lv_of (by decide)) rfl
theorem o79 : isO (Hw E w I L Q) (rr w 79) 6 = some () := isO_w (lv_of (by decide)) rfl
theorem gf79_0 : gfR (Hw E w I L Q) (rr w 79) 6 0 = some (rr w 80) := gfC_w (lv_of (by decide)) rfl rfl
theorem ga80 {i : Int32} : gaL E (Hw E w I L Q) (rr w 80) i = (ix i 4).map (L 80) := gaL_w (lv_of (by decide)) rfl
theorem pa80 {i : Int32} {x : Int64} : paL E (Hw E w I L Q) (rr w 80) i x = (ix i 4).map (fun j => Hw E w I (up2 L 80 j x) Q) := paL_w (lv_of (by decide)) rfl
theorem an80 : aln E 1 (Hw E w I L Q) (rr w 80) = some (Int32.ofNat 4) := aln_w (lv_of (by decide)) rfl
theorem o81 : isO (Hw E w I L Q) (rr w 81) 6 = some () := isO_w (lv_of (by decide)) rfl
theorem gf81_0 : gfR (Hw E w I L Q) (rr w 81) 6 0 = some (rr w 82) := gfC_w (lv_of (by decide)) rfl rfl
theorem ga82 {i : Int32} : gaL E (Hw E w I L Q) (rr w 82) i = (ix i 4).map (L 82) := gaL_w (lv_of (by decide)) rfl
theorem pa82 {i : Int32} {x : Int64} : paL E (Hw E w I L Q) (rr w 82) i x = (ix i 4).map (fun j => Hw E w I (up2 L 82 j x) Q) := paL_w (lv_of (by decide)) rfl
theorem an82 : aln E 1 (Hw E w I L Q) (rr w 82) = some (Int32.ofNat 4) := aln_w (lv_of (by decide)) rfl
theorem o83 : isO (Hw E w I L Q) (rr w 83) 6 = some () := isO_w (lv_of (by decide)) rfl
theorem gf83_0 : gfR (Hw E w I L Q) (rr w 83) 6 0 = some (rr w 84) := gfC_w (lv_of (by decide)) rfl rfl
theorem ga84 {i : Int32} : gaL E (Hw E w I L Q) (rr w 84) i = (ix i 4).map (L 84) := gaL_w (lv_of (by decide)) rfl
theorem pa84 {i : Int32} {x : Int64} : paL E (Hw E w I L Q) (rr w 84) i x = (ix i 4).map (fun j => Hw E w I (up2 L 84 j x) Q) := paL_w (lv_of (by decide)) rfl
theorem an84 : aln E 1 (Hw E w I L Q) (rr w 84) = some (Int32.ofNat 4) := aln_w (lv_of (by decide)) rfl
theorem o85 : isO (Hw E w I L Q) (rr w 85) 6 = some () := isO_w (lv_of (by decide)) rfl
theorem gf85_0 : gfR (Hw E w I L Q) (rr w 85) 6 0 = some (rr w 86) := gfC_w (lv_of (by decide)) rfl rfl
theorem ga86 {i : Int32} : gaL E (Hw E w I L Q) (rr w 86) i = (ix i 4).map (L 86) := gaL_w (lv_of (by decide)) rfl
theorem pa86 {i : Int32} {x : Int64} : paL E (Hw E w I L Q) (rr w 86) i x = (ix i 4).map (fun j => Hw E w I (up2 L 86 j x) Q) := paL_w (lv_of (by decide)) rfl
theorem an86 : aln E 1 (Hw E w I L Q) (rr w 86) = some (Int32.ofNat 4) := aln_w (lv_of (by decide)) rfl
theorem o87 : isO (Hw E w I L Q) (rr w 87) 6 = some () := isO_w (lv_of (by decide)) rfl
theorem gf87_0 : gfR (Hw E w I L Q) (rr w 87) 6 0 = some (rr w 88) := gfC_w (lv_of (by decide)) rfl rfl
theorem ga88 {i : Int32} : gaL E (Hw E w I L Q) (rr w 88) i = (ix i 4).map (L 88) := gaL_w (lv_of (by decide)) rfl
theorem pa88 {i : Int32} {x : Int64} : paL E (Hw E w I L Q) (rr w 88) i x = (ix i 4).map (fun j => Hw E w I (up2 L 88 j x) Q) := paL_w (lv_of (by decide)) rfl
theorem an88 : aln E 1 (Hw E w I L Q) (rr w 88) = some (Int32.ofNat 4) := aln_w (lv_of (by decide)) rfl
theorem o89 : isO (Hw E w I L Q) (rr w 89) 6 = some () := isO_w (lv_of (by decide)) rfl
theorem gf89_0 : gfR (Hw E w I L Q) (rr w 89) 6 0 = some (rr w 90) := gfC_w (lv_of (by decide)) rfl rfl
theorem ga90 {i : Int32} : gaL E (Hw E w I L Q) (rr w 90) i = (ix i 4).map (L 90) := gaL_w (lv_of (by decide)) rfl
theorem pa90 {i : Int32} {x : Int64} : paL E (Hw E w I L Q) (rr w 90) i x = (ix i 4).map (fun j => Hw E w I (up2 L 90 j x) Q) := paL_w (lv_of (by decide)) rfl
theorem an90 : aln E 1 (Hw E w I L Q) (rr w 90) = some (Int32.ofNat 4) := aln_w (lv_of (by decide)) rfl
theorem o91 : isO (Hw E w I L Q) (rr w 91) 6 = some () := isO_w (lv_of (by decide)) rfl
theorem gf91_0 : gfR (Hw E w I L Q) (rr w 91) 6 0 = some (rr w 92) := gfC_w (lv_of (by decide)) rfl rfl
theorem ga92 {i : Int32} : gaL E (Hw E w I L Q) (rr w 92) i = (ix i 4).map (L 92) := gaL_w (lv_of (by decide)) rfl
theorem pa92 {i : Int32} {x : Int64} : paL E (Hw E w I L Q) (rr w 92) i x = (ix i 4).map (fun j => Hw E w I (up2 L 92 j x) Q) := paL_w (lv_of (by decide)) rfl
theorem an92 : aln E 1 (Hw E w I L Q) (rr w 92) = some (Int32.ofNat 4) := aln_w (lv_of (by decide)) rfl
theorem o93 : isO (Hw E w I L Q) (rr w 93) 6 = some () := isO_w (lv_of (by decide)) rfl
theorem gf93_0 : gfR (Hw E w I L Q) (rr w 93) 6 0 = some (rr w 94) := gfC_w (lv_of (by decide)) rfl rfl
theorem ga94 {i : Int32} : gaL E (Hw E w I L Q) (rr w 94) i = (ix i 4).map (L 94) := gaL_w (lv_of (by decide)) rfl
theorem pa94 {i : Int32} {x : Int64} : paL E (Hw E w I L Q) (rr w 94) i x = (ix i 4).map (fun j => Hw E w I (up2 L 94 j x) Q) := paL_w (lv_of (by decide)) rfl
theorem an94 : aln E 1 (Hw E w I L Q) (rr w 94) = some (Int32.ofNat 4) := aln_w (lv_of (by decide)) rfl
theorem o95 : isO (Hw E w I L Q) (rr w 95) 6 = some () := isO_w (lv_of (by decide)) rfl
theorem gf95_0 : gfR (Hw E w I L Q) (rr w 95) 6 0 = some (rr w 96) := gfC_w (lv_of (by decide)) rfl rfl
theorem ga96 {i : Int32} : gaL E (Hw E w I L Q) (rr w 96) i = (ix i 4).map (L 96) := gaL_w (lv_of (by decide)) rfl
theorem pa96 {i : Int32} {x : Int64} : paL E (Hw E w I L Q) (rr w 96) i x = (ix i 4).map (fun j => Hw E w I (up2 L 96 j x) Q) := paL_w (lv_of (by decide)) rfl
theorem an96 : aln E 1 (Hw E w I L Q) (rr w 96) = some (Int32.ofNat 4) := aln_w (lv_of (by decide)) rfl
theorem o97 : isO (Hw E w I L Q) (rr w 97) 6 = some () := isO_w (lv_of (by decide)) rfl
theorem gf97_0 : gfR (Hw E w I L Q) (rr w 97) 6 0 = some (rr w 98) := gfC_w (lv_of (by decide)) rfl rfl
theorem ga98 {i : Int32} : gaL E (Hw E w I L Q) (rr w 98) i = (ix i 4).map (L 98) := gaL_w (lv_of (by decide)) rfl
theorem pa98 {i : Int32} {x : Int64} : paL E (Hw E w I L Q) (rr w 98) i x = (ix i 4).map (fun j => Hw E w I (up2 L 98 j x) Q) := paL_w (lv_of (by decide)) rfl
theorem an98 : aln E 1 (Hw E w I L Q) (rr w 98) = some (Int32.ofNat 4) := aln_w (lv_of (by decide)) rfl
theorem o99 : isO (Hw E w I L Q) (rr w 99) 6 = some () := isO_w (lv_of (by decide)) rfl
theorem gf99_0 : gfR (Hw E w I L Q) (rr w 99) 6 0 = some (rr w 100) := gfC_w (lv_of (by decide)) rfl rfl
theorem ga100 {i : Int32} : gaL E (Hw E w I L Q) (rr w 100) i = (ix i 4).map (L 100) := gaL_w (lv_of (by decide)) rfl
theorem pa100 {i : Int32} {x : Int64} : paL E (Hw E w I L Q) (rr w 100) i x = (ix i 4).map (fun j => Hw E w I (up2 L 100 j x) Q) := paL_w (lv_of (by decide)) rfl
theorem an100 : aln E 1 (Hw E w I L Q) (rr w 100) = some (Int32.ofNat 4) := aln_w (lv_of (by decide)) rfl
theorem o101 : isO (Hw E w I L Q) (rr w 101) 6 = some () := isO_w (lv_of (by decide)) rfl
theorem gf101_0 : gfR (Hw E w I L Q) (rr w 101) 6 0 = some (rr w 102) := gfC_w (lv_of (by decide)) rfl rfl
theorem ga102 {i : Int32} : gaL E (Hw E w I L Q) (rr w 102) i = (ix i 4).map (L 102) := gaL_w (lv_of (by decide)) rfl
theorem pa102 {i : Int32} {x : Int64} : paL E (Hw E w I L Q) (rr w 102) i x = (ix i 4).map (fun j => Hw E w I (up2 L 102 j x) Q) := paL_w (lv_of (by decide)) rfl
theorem an102 : aln E 1 (Hw E w I L Q) (rr w 102) = some (Int32.ofNat 4) := aln_w (lv_of (by decide)) rfl
theorem o103 : isO (Hw E w I L Q) (rr w 103) 6 = some () := isO_w (lv_of (by decide)) rfl
theorem gf103_0 : gfR (Hw E w I L Q) (rr w 103) 6 0 = some (rr w 104) := gfC_w (lv_of (by decide)) rfl rfl
theorem ga104 {i : Int32} : gaL E (Hw E w I L Q) (rr w 104) i = (ix i 4).map (L 104) := gaL_w (lv_of (by decide)) rfl
theorem pa104 {i : Int32} {x : Int64} : paL E (Hw E w I L Q) (rr w 104) i x = (ix i 4).map (fun j => Hw E w I (up2 L 104 j x) Q) := paL_w (lv_of (by decide)) rfl
theorem an104 : aln E 1 (Hw E w I L Q) (rr w 104) = some (Int32.ofNat 4) := aln_w (lv_of (by decide)) rfl
theorem o105 : isO (Hw E w I L Q) (rr w 105) 6 = some () := isO_w (lv_of (by decide)) rfl
theorem gf105_0 : gfR (Hw E w I L Q) (rr w 105) 6 0 = some (rr w 106) := gfC_w (lv_of (by decide)) rfl rfl
theorem ga106 {i : Int32} : gaL E (Hw E w I L Q) (rr w 106) i = (ix i 4).map (L 106) := gaL_w (lv_of (by decide)) rfl
theorem pa106 {i : Int32} {x : Int64} : paL E (Hw E w I L Q) (rr w 106) i x = (ix i 4).map (fun j => Hw E w I (up2 L 106 j x) Q) := paL_w (lv_of (by decide)) rfl
theorem an106 : aln E 1 (Hw E w I L Q) (rr w 106) = some (Int32.ofNat 4) := aln_w (lv_of (by decide)) rfl
theorem o107 : isO (Hw E w I L Q) (rr w 107) 6 = some () := isO_w (lv_of (by decide)) rfl
theorem gf107_0 : gfR (Hw E w I L Q) (rr w 107) 6 0 = some (rr w 108) := gfC_w (lv_of (by decide)) rfl rfl
theorem ga108 {i : Int32} : gaL E (Hw E w I L Q) (rr w 108) i = (ix i 4).map (L 108) := gaL_w (lv_of (by decide)) rfl
theorem pa108 {i : Int32} {x : Int64} : paL E (Hw E w I L Q) (rr w 108) i x = (ix i 4).map (fun j => Hw E w I (up2 L 108 j x) Q) := paL_w (lv_of (by decide)) rfl
theorem an108 : aln E 1 (Hw E w I L Q) (rr w 108) = some (Int32.ofNat 4) := aln_w (lv_of (by decide)) rfl
theorem o109 : isO (Hw E w I L Q) (rr w 109) 6 = some () := isO_w (lv_of (by decide)) rfl
theorem gf109_0 : gfR (Hw E w I L Q) (rr w 109) 6 0 = some (rr w 110) := gfC_w (lv_of (by decide)) rfl rfl
theorem ga110 {i : Int32} : gaL E (Hw E w I L Q) (rr w 110) i = (ix i 4).map (L 110) := gaL_w (lv_of (by decide)) rfl
theorem pa110 {i : Int32} {x : Int64} : paL E (Hw E w I L Q) (rr w 110) i x = (ix i 4).map (fun j => Hw E w I (up2 L 110 j x) Q) := paL_w (lv_of (by decide)) rfl
theorem an110 : aln E 1 (Hw E w I L Q) (rr w 110) = some (Int32.ofNat 4) := aln_w (lv_of (by decide)) rfl
theorem o111 : isO (Hw E w I L Q) (rr w 111) 6 = some () := isO_w (lv_of (by decide)) rfl
theorem gf111_0 : gfR (Hw E w I L Q) (rr w 111) 6 0 = some (rr w 112) := gfC_w (lv_of (by decide)) rfl rfl
theorem ga112 {i : Int32} : gaL E (Hw E w I L Q) (rr w 112) i = (ix i 4).map (L 112) := gaL_w (lv_of (by decide)) rfl
theorem pa112 {i : Int32} {x : Int64} : paL E (Hw E w I L Q) (rr w 112) i x = (ix i 4).map (fun j => Hw E w I (up2 L 112 j x) Q) := paL_w (lv_of (by decide)) rfl
theorem an112 : aln E 1 (Hw E w I L Q) (rr w 112) = some (Int32.ofNat 4) := aln_w (lv_of (by decide)) rfl
theorem o113 : isO (Hw E w I L Q) (rr w 113) 6 = some () := isO_w (lv_of (by decide)) rfl
theorem gf113_0 : gfR (Hw E w I L Q) (rr w 113) 6 0 = some (rr w 114) := gfC_w (lv_of (by decide)) rfl rfl
theorem ga114 {i : Int32} : gaL E (Hw E w I L Q) (rr w 114) i = (ix i 4).map (L 114) := gaL_w (lv_of (by decide)) rfl
theorem pa114 {i : Int32} {x : Int64} : paL E (Hw E w I L Q) (rr w 114) i x = (ix i 4).map (fun j => Hw E w I (up2 L 114 j x) Q) := paL_w (lv_of (by decide)) rfl
theorem an114 : aln E 1 (Hw E w I L Q) (rr w 114) = some (Int32.ofNat 4) := aln_w (lv_of (by decide)) rfl
theorem o115 : isO (Hw E w I L Q) (rr w 115) 6 = some () := isO_w (lv_of (by decide)) rfl
theorem gf115_0 : gfR (Hw E w I L Q) (rr w 115) 6 0 = some (rr w 116) := gfC_w (lv_of (by decide)) rfl rfl
theorem ga116 {i : Int32} : gaL E (Hw E w I L Q) (rr w 116) i = (ix i 4).map (L 116) := gaL_w (lv_of (by decide)) rfl
theorem pa116 {i : Int32} {x : Int64} : paL E (Hw E w I L Q) (rr w 116) i x = (ix i 4).map (fun j => Hw E w I (up2 L 116 j x) Q) := paL_w (lv_of (by decide)) rfl
theorem an116 : aln E 1 (Hw E w I L Q) (rr w 116) = some (Int32.ofNat 4) := aln_w (lv_of (by decide)) rfl
theorem o117 : isO (Hw E w I L Q) (rr w 117) 6 = some () := isO_w (lv_of (by decide)) rfl
theorem gf117_0 : gfR (Hw E w I L Q) (rr w 117) 6 0 = some (rr w 118) := gfC_w (lv_of (by decide)) rfl rfl
theorem ga118 {i : Int32} : gaL E (Hw E w I L Q) (rr w 118) i = (ix i 4).map (L 118) := gaL_w (lv_of (by decide)) rfl
theorem pa118 {i : Int32} {x : Int64} : paL E (Hw E w I L Q) (rr w 118) i x = (ix i 4).map (fun j => Hw E w I (up2 L 118 j x) Q) := paL_w (lv_of (by decide)) rfl
theorem an118 : aln E 1 (Hw E w I L Q) (rr w 118) = some (Int32.ofNat 4) := aln_w (lv_of (by decide)) rfl
theorem o119 : isO (Hw E w I L Q) (rr w 119) 6 = some () := isO_w (lv_of (by decide)) rfl
theorem gf119_0 : gfR (Hw E w I L Q) (rr w 119) 6 0 = some (rr w 120) := gfC_w (lv_of (by decide)) rfl rfl
theorem ga120 {i : Int32} : gaL E (Hw E w I L Q) (rr w 120) i = (ix i 4).map (L 120) := gaL_w (lv_of (by decide)) rfl
theorem pa120 {i : Int32} {x : Int64} : paL E (Hw E w I L Q) (rr w 120) i x = (ix i 4).map (fun j => Hw E w I (up2 L 120 j x) Q) := paL_w (lv_of (by decide)) rfl
theorem an120 : aln E 1 (Hw E w I L Q) (rr w 120) = some (Int32.ofNat 4) := aln_w (lv_of (by decide)) rfl
theorem o121 : isO (Hw E w I L Q) (rr w 121) 5 = some () := isO_w (lv_of (by decide)) rfl
theorem gf121_0 : gfR (Hw E w I L Q) (rr w 121) 5 0 = some (rr w 122) := gfC_w (lv_of (by decide)) rfl rfl
theorem gf121_1 : gfI (Hw E w I L Q) (rr w 121) 5 1 = some (I 121 1) := gfI_w (lv_of (by decide)) rfl rfl
theorem pf121_1 {v : Int32} : pf (Hw E w I L Q) (rr w 121) 5 1 (.int v) = some (Hw E w (up2 I 121 1 v) L Q) := pfI_w (lv_of (by decide)) rfl rfl
theorem gf121_2 : gfI (Hw E w I L Q) (rr w 121) 5 2 = some (I 121 2) := gfI_w (lv_of (by decide)) rfl rfl
theorem pf121_2 {v : Int32} : pf (Hw E w I L Q) (rr w 121) 5 2 (.int v) = some (Hw E w (up2 I 121 2 v) L Q) := pfI_w (lv_of (by decide)) rfl rfl
theorem gf121_3 : gfI (Hw E w I L Q) (rr w 121) 5 3 = some (I 121 3) := gfI_w (lv_of (by decide)) rfl rfl
theorem pf121_3 {v : Int32} : pf (Hw E w I L Q) (rr w 121) 5 3 (.int v) = some (Hw E w (up2 I 121 3 v) L Q) := pfI_w (lv_of (by decide)) rfl rfl
theorem gf121_4 : gfR (Hw E w I L Q) (rr w 121) 5 4 = some (rr w 123) := gfC_w (lv_of (by decide)) rfl rfl
theorem gf121_5 : gfI (Hw E w I L Q) (rr w 121) 5 5 = some (I 121 5) := gfI_w (lv_of (by decide)) rfl rfl
theorem pf121_5 {v : Int32} : pf (Hw E w I L Q) (rr w 121) 5 5 (.int v) = some (Hw E w (up2 I 121 5 v) L Q) := pfI_w (lv_of (by decide)) rfl rfl
theorem gf121_6 : gfI (Hw E w I L Q) (rr w 121) 5 6 = some (I 121 6) := gfI_w (lv_of (by decide)) rfl rfl
theorem pf121_6 {v : Int32} : pf (Hw E w I L Q) (rr w 121) 5 6 (.int v) = some (Hw E w (up2 I 121 6 v) L Q) := pfI_w (lv_of (by decide)) rfl rfl
theorem gf121_7 : gfI (Hw E w I L Q) (rr w 121) 5 7 = some (I 121 7) := gfI_w (lv_of (by decide)) rfl rfl
theorem pf121_7 {v : Int32} : pf (Hw E w I L Q) (rr w 121) 5 7 (.int v) = some (Hw E w (up2 I 121 7 v) L Q) := pfI_w (lv_of (by decide)) rfl rfl
theorem gf121_8 : gfI (Hw E w I L Q) (rr w 121) 5 8 = some (I 121 8) := gfI_w (lv_of (by decide)) rfl rfl
theorem pf121_8 {v : Int32} : pf (Hw E w I L Q) (rr w 121) 5 8 (.int v) = some (Hw E w (up2 I 121 8 v) L Q) := pfI_w (lv_of (by decide)) rfl rfl
theorem gf121_9 : gfI (Hw E w I L Q) (rr w 121) 5 9 = some (I 121 9) := gfI_w (lv_of (by decide)) rfl rfl
theorem pf121_9 {v : Int32} : pf (Hw E w I L Q) (rr w 121) 5 9 (.int v) = some (Hw E w (up2 I 121 9 v) L Q) := pfI_w (lv_of (by decide)) rfl rfl
theorem gf121_10 : gfI (Hw E w I L Q) (rr w 121) 5 10 = some (I 121 10) := gfI_w (lv_of (by decide)) rfl rfl
theorem pf121_10 {v : Int32} : pf (Hw E w I L Q) (rr w 121) 5 10 (.int v) = some (Hw E w (up2 I 121 10 v) L Q) := pfI_w (lv_of (by decide)) rfl rfl
theorem gf121_11 : gfI (Hw E w I L Q) (rr w 121) 5 11 = some (I 121 11) := gfI_w (lv_of (by decide)) rfl rfl
theorem pf121_11 {v : Int32} : pf (Hw E w I L Q) (rr w 121) 5 11 (.int v) = some (Hw E w (up2 I 121 11 v) L Q) := pfI_w (lv_of (by decide)) rfl rfl
theorem gf121_12 : gfI (Hw E w I L Q) (rr w 121) 5 12 = some (I 121 12) := gfI_w (lv_of (by decide)) rfl rfl
theorem pf121_12 {v : Int32} : pf (Hw E w I L Q) (rr w 121) 5 12 (.int v) = some (Hw E w (up2 I 121 12 v) L Q) := pfI_w (lv_of (by decide)) rfl rfl
theorem gf121_13 : gfI (Hw E w I L Q) (rr w 121) 5 13 = some (I 121 13) := gfI_w (lv_of (by decide)) rfl rfl
theorem pf121_13 {v : Int32} : pf (Hw E w I L Q) (rr w 121) 5 13 (.int v) = some (Hw E w (up2 I 121 13 v) L Q) := pfI_w (lv_of (by decide)) rfl rfl
theorem ga122 {i : Int32} : gaI E 3 (Hw E w I L Q) (rr w 122) i = (ix i 200).map (I 122) := gaI_w (lv_of (by decide)) rfl (by decide) (by decide)
theorem pa122 {i x : Int32} : paB E (Hw E w I L Q) (rr w 122) i x = (ix i 200).map (fun j => Hw E w (up2 I 122 j (vp_nar .byte x)) L Q) := paB_w (lv_of (by decide)) rfl
theorem an122 : aln E 3 (Hw E w I L Q) (rr w 122) = some (Int32.ofNat 200) := aln_w (lv_of (by decide)) rfl
theorem ga123 {i : Int32} : gaI E 0 (Hw E w I L Q) (rr w 123) i = (ix i 40).map (I 123) := gaI_w (lv_of (by decide)) rfl (by decide) (by decide)
theorem pa123 {i x : Int32} : paI E (Hw E w I L Q) (rr w 123) i x = (ix i 40).map (fun j => Hw E w (up2 I 123 j x) L Q) := paI_w (lv_of (by decide)) rfl
theorem an123 : aln E 0 (Hw E w I L Q) (rr w 123) = some (Int32.ofNat 40) := aln_w (lv_of (by decide)) rfl
theorem ga124 {i : Int32} : gaR E 4 (Hw E w I L Q) (rr w 124) i = (ix i 4).map (fun j => (Q 124 j).map (rr w)) := gaR_w (lv_of (by decide)) rfl (by decide)
theorem an124 : aln E 4 (Hw E w I L Q) (rr w 124) = some (Int32.ofNat 4) := aln_w (lv_of (by decide)) rfl
theorem ga125 {i : Int32} : gaR E 5 (Hw E w I L Q) (rr w 125) i = (ix i 3).map (fun j => (Q 125 j).map (rr w)) := gaR_w (lv_of (by decide)) rfl (by decide)
theorem an125 : aln E 5 (Hw E w I L Q) (rr w 125) = some (Int32.ofNat 3) := aln_w (lv_of (by decide)) rfl
theorem ga126 {i : Int32} : gaR E 6 (Hw E w I L Q) (rr w 126) i = (ix i 3).map (fun j => (Q 126 j).map (rr w)) := gaR_w (lv_of (by decide)) rfl (by decide)
theorem an126 : aln E 6 (Hw E w I L Q) (rr w 126) = some (Int32.ofNat 3) := aln_w (lv_of (by decide)) rfl
theorem ga127 {i : Int32} : gaR E 7 (Hw E w I L Q) (rr w 127) i = (ix i 3).map (fun j => (Q 127 j).map (rr w)) := gaR_w (lv_of (by decide)) rfl (by decide)
theorem an127 : aln E 7 (Hw E w I L Q) (rr w 127) = some (Int32.ofNat 3) := aln_w (lv_of (by decide)) rfl
theorem o128 : isO (Hw E w I L Q) (rr w 128) 8 = some () := isO_w (lv_of (by decide)) rfl
theorem gf128_0 : gfI (Hw E w I L Q) (rr w 128) 8 0 = some (I 128 0) := gfI_w (lv_of (by decide)) rfl rfl
theorem pf128_0 {v : Int32} : pfZ (Hw E w I L Q) (rr w 128) 8 0 v = if v = 0 ∨ v = 1 then some (Hw E w (up2 I 128 0 v) L Q) else none := pfZ_w (lv_of (by decide)) rfl rfl
theorem gf128_1 : gfI (Hw E w I L Q) (rr w 128) 8 1 = some (I 128 1) := gfI_w (lv_of (by decide)) rfl rfl
theorem pf128_1 {v : Int32} : pf (Hw E w I L Q) (rr w 128) 8 1 (.int v) = some (Hw E w (up2 I 128 1 v) L Q) := pfI_w (lv_of (by decide)) rfl rfl
theorem gf128_2 : gfI (Hw E w I L Q) (rr w 128) 8 2 = some (I 128 2) := gfI_w (lv_of (by decide)) rfl rfl
theorem pf128_2 {v : Int32} : pf (Hw E w I L Q) (rr w 128) 8 2 (.int v) = some (Hw E w (up2 I 128 2 v) L Q) := pfI_w (lv_of (by decide)) rfl rfl
theorem gf128_3 : gfR (Hw E w I L Q) (rr w 128) 8 3 = some (rr w 129) := gfC_w (lv_of (by decide)) rfl rfl
theorem ga129 {i : Int32} : gaL E (Hw E w I L Q) (rr w 129) i = (ix i 12).map (L 129) := gaL_w (lv_of (by decide)) rfl
theorem pa129 {i : Int32} {x : Int64} : paL E (Hw E w I L Q) (rr w 129) i x = (ix i 12).map (fun j => Hw E w I (up2 L 129 j x) Q) := paL_w (lv_of (by decide)) rfl
theorem an129 : aln E 1 (Hw E w I L Q) (rr w 129) = some (Int32.ofNat 12) := aln_w (lv_of (by decide)) rfl
theorem o130 : isO (Hw E w I L Q) (rr w 130) 8 = some () := isO_w (lv_of (by decide)) rfl
theorem gf130_0 : gfI (Hw E w I L Q) (rr w 130) 8 0 = some (I 130 0) := gfI_w (lv_of (by decide)) rfl rfl
theorem pf130_0 {v : Int32} : pfZ (Hw E w I L Q) (rr w 130) 8 0 v = if v = 0 ∨ v = 1 then some (Hw E w (up2 I 130 0 v) L Q) else none := pfZ_w (lv_of (by decide)) rfl rfl
theorem gf130_1 : gfI (Hw E w I L Q) (rr w 130) 8 1 = some (I 130 1) := gfI_w (lv_of (by decide)) rfl rfl
theorem pf130_1 {v : Int32} : pf (Hw E w I L Q) (rr w 130) 8 1 (.int v) = some (Hw E w (up2 I 130 1 v) L Q) := pfI_w (lv_of (by decide)) rfl rfl
theorem gf130_2 : gfI (Hw E w I L Q) (rr w 130) 8 2 = some (I 130 2) := gfI_w (lv_of (by decide)) rfl rfl
theorem pf130_2 {v : Int32} : pf (Hw E w I L Q) (rr w 130) 8 2 (.int v) = some (Hw E w (up2 I 130 2 v) L Q) := pfI_w (lv_of (by decide)) rfl rfl
theorem gf130_3 : gfR (Hw E w I L Q) (rr w 130) 8 3 = some (rr w 131) := gfC_w (lv_of (by decide)) rfl rfl
theorem ga131 {i : Int32} : gaL E (Hw E w I L Q) (rr w 131) i = (ix i 12).map (L 131) := gaL_w (lv_of (by decide)) rfl
theorem pa131 {i : Int32} {x : Int64} : paL E (Hw E w I L Q) (rr w 131) i x = (ix i 12).map (fun j => Hw E w I (up2 L 131 j x) Q) := paL_w (lv_of (by decide)) rfl
theorem an131 : aln E 1 (Hw E w I L Q) (rr w 131) = some (Int32.ofNat 12) := aln_w (lv_of (by decide)) rfl
theorem o132 : isO (Hw E w I L Q) (rr w 132) 8 = some () := isO_w (lv_of (by decide)) rfl
theorem gf132_0 : gfI (Hw E w I L Q) (rr w 132) 8 0 = some (I 132 0) := gfI_w (lv_of (by decide)) rfl rfl
theorem pf132_0 {v : Int32} : pfZ (Hw E w I L Q) (rr w 132) 8 0 v = if v = 0 ∨ v = 1 then some (Hw E w (up2 I 132 0 v) L Q) else none := pfZ_w (lv_of (by decide)) rfl rfl
theorem gf132_1 : gfI (Hw E w I L Q) (rr w 132) 8 1 = some (I 132 1) := gfI_w (lv_of (by decide)) rfl rfl
theorem pf132_1 {v : Int32} : pf (Hw E w I L Q) (rr w 132) 8 1 (.int v) = some (Hw E w (up2 I 132 1 v) L Q) := pfI_w (lv_of (by decide)) rfl rfl
theorem gf132_2 : gfI (Hw E w I L Q) (rr w 132) 8 2 = some (I 132 2) := gfI_w (lv_of (by decide)) rfl rfl
theorem pf132_2 {v : Int32} : pf (Hw E w I L Q) (rr w 132) 8 2 (.int v) = some (Hw E w (up2 I 132 2 v) L Q) := pfI_w (lv_of (by decide)) rfl rfl
theorem gf132_3 : gfR (Hw E w I L Q) (rr w 132) 8 3 = some (rr w 133) := gfC_w (lv_of (by decide)) rfl rfl
theorem ga133 {i : Int32} : gaL E (Hw E w I L Q) (rr w 133) i = (ix i 12).map (L 133) := gaL_w (lv_of (by decide)) rfl
theorem pa133 {i : Int32} {x : Int64} : paL E (Hw E w I L Q) (rr w 133) i x = (ix i 12).map (fun j => Hw E w I (up2 L 133 j x) Q) := paL_w (lv_of (by decide)) rfl
theorem an133 : aln E 1 (Hw E w I L Q) (rr w 133) = some (Int32.ofNat 12) := aln_w (lv_of (by decide)) rfl
theorem o134 : isO (Hw E w I L Q) (rr w 134) 8 = some () := isO_w (lv_of (by decide)) rfl
theorem gf134_0 : gfI (Hw E w I L Q) (rr w 134) 8 0 = some (I 134 0) := gfI_w (lv_of (by decide)) rfl rfl
theorem pf134_0 {v : Int32} : pfZ (Hw E w I L Q) (rr w 134) 8 0 v = if v = 0 ∨ v = 1 then some (Hw E w (up2 I 134 0 v) L Q) else none := pfZ_w (lv_of (by decide)) rfl rfl
theorem gf134_1 : gfI (Hw E w I L Q) (rr w 134) 8 1 = some (I 134 1) := gfI_w (lv_of (by decide)) rfl rfl
theorem pf134_1 {v : Int32} : pf (Hw E w I L Q) (rr w 134) 8 1 (.int v) = some (Hw E w (up2 I 134 1 v) L Q) := pfI_w (lv_of (by decide)) rfl rfl
theorem gf134_2 : gfI (Hw E w I L Q) (rr w 134) 8 2 = some (I 134 2) := gfI_w (lv_of (by decide)) rfl rfl
theorem pf134_2 {v : Int32} : pf (Hw E w I L Q) (rr w 134) 8 2 (.int v) = some (Hw E w (up2 I 134 2 v) L Q) := pfI_w (lv_of (by decide)) rfl rfl
theorem gf134_3 : gfR (Hw E w I L Q) (rr w 134) 8 3 = some (rr w 135) := gfC_w (lv_of (by decide)) rfl rfl
theorem ga135 {i : Int32} : gaL E (Hw E w I L Q) (rr w 135) i = (ix i 12).map (L 135) := gaL_w (lv_of (by decide)) rfl
theorem pa135 {i : Int32} {x : Int64} : paL E (Hw E w I L Q) (rr w 135) i x = (ix i 12).map (fun j => Hw E w I (up2 L 135 j x) Q) := paL_w (lv_of (by decide)) rfl
theorem an135 : aln E 1 (Hw E w I L Q) (rr w 135) = some (Int32.ofNat 12) := aln_w (lv_of (by decide)) rfl
theorem o136 : isO (Hw E w I L Q) (rr w 136) 11 = some () := isO_w (lv_of (by decide)) rfl
theorem gf136_0 : gfR (Hw E w I L Q) (rr w 136) 11 0 = some (rr w 0) := gfC_w (lv_of (by decide)) rfl rfl
theorem gf136_1 : gfR (Hw E w I L Q) (rr w 136) 11 1 = some (rr w 15) := gfC_w (lv_of (by decide)) rfl rfl
theorem gf136_2 : gfR (Hw E w I L Q) (rr w 136) 11 2 = some (rr w 22) := gfC_w (lv_of (by decide)) rfl rfl
theorem gf136_3 : gfR (Hw E w I L Q) (rr w 136) 11 3 = some (rr w 32) := gfC_w (lv_of (by decide)) rfl rfl
theorem gf136_4 : gfR (Hw E w I L Q) (rr w 136) 11 4 = some (rr w 40) := gfC_w (lv_of (by decide)) rfl rfl
theorem gf136_5 : gfR (Hw E w I L Q) (rr w 136) 11 5 = some (rr w 54) := gfC_w (lv_of (by decide)) rfl rfl
theorem gf136_6 : gfR (Hw E w I L Q) (rr w 136) 11 6 = some (rr w 63) := gfC_w (lv_of (by decide)) rfl rfl
theorem gf136_7 : gfR (Hw E w I L Q) (rr w 136) 11 7 = some (rr w 121) := gfC_w (lv_of (by decide)) rfl rfl
theorem gf136_8 : gfR (Hw E w I L Q) (rr w 136) 11 8 = some (rr w 124) := gfC_w (lv_of (by decide)) rfl rfl
theorem gf136_9 : gfR (Hw E w I L Q) (rr w 136) 11 9 = some (rr w 125) := gfC_w (lv_of (by decide)) rfl rfl
theorem gf136_10 : gfR (Hw E w I L Q) (rr w 136) 11 10 = some (rr w 126) := gfC_w (lv_of (by decide)) rfl rfl
theorem gf136_11 : gfR (Hw E w I L Q) (rr w 136) 11 11 = some (rr w 127) := gfC_w (lv_of (by decide)) rfl rfl
theorem ga137 {i : Int32} : gaI E 0 (Hw E w I L Q) (rr w 137) i = (ix i 2988).map (I 137) := gaI_w (lv_of (by decide)) rfl (by decide) (by decide)
theorem pa137 {i x : Int32} : paI E (Hw E w I L Q) (rr w 137) i x = (ix i 2988).map (fun j => Hw E w (up2 I 137 j x) L Q) := paI_w (lv_of (by decide)) rfl
theorem an137 : aln E 0 (Hw E w I L Q) (rr w 137) = some (Int32.ofNat 2988) := aln_w (lv_of (by decide)) rfl
theorem ga138 {i : Int32} : gaI E 0 (Hw E w I L Q) (rr w 138) i = (ix i 8964).map (I 138) := gaI_w (lv_of (by decide)) rfl (by decide) (by decide)
theorem pa138 {i x : Int32} : paI E (Hw E w I L Q) (rr w 138) i x = (ix i 8964).map (fun j => Hw E w (up2 I 138 j x) L Q) := paI_w (lv_of (by decide)) rfl
theorem an138 : aln E 0 (Hw E w I L Q) (rr w 138) = some (Int32.ofNat 8964) := aln_w (lv_of (by decide)) rfl
theorem ga139 {i : Int32} : gaI E 2 (Hw E w I L Q) (rr w 139) i = (ix i 3).map (I 139) := gaI_w (lv_of (by decide)) rfl (by decide) (by decide)
theorem pa139 {i x : Int32} : paZ E (Hw E w I L Q) (rr w 139) i x = (ix i 3).map (fun j => Hw E w (up2 I 139 j (vp_nar .boolean x)) L Q) := paZ_w (lv_of (by decide)) rfl
theorem an139 : aln E 2 (Hw E w I L Q) (rr w 139) = some (Int32.ofNat 3) := aln_w (lv_of (by decide)) rfl
theorem ga140 {i : Int32} : gaL E (Hw E w I L Q) (rr w 140) i = (ix i 4800).map (L 140) := gaL_w (lv_of (by decide)) rfl
theorem pa140 {i : Int32} {x : Int64} : paL E (Hw E w I L Q) (rr w 140) i x = (ix i 4800).map (fun j => Hw E w I (up2 L 140 j x) Q) := paL_w (lv_of (by decide)) rfl
theorem an140 : aln E 1 (Hw E w I L Q) (rr w 140) = some (Int32.ofNat 4800) := aln_w (lv_of (by decide)) rfl
theorem ga141 {i : Int32} : gaL E (Hw E w I L Q) (rr w 141) i = (ix i 384).map (L 141) := gaL_w (lv_of (by decide)) rfl
theorem pa141 {i : Int32} {x : Int64} : paL E (Hw E w I L Q) (rr w 141) i x = (ix i 384).map (fun j => Hw E w I (up2 L 141 j x) Q) := paL_w (lv_of (by decide)) rfl
theorem an141 : aln E 1 (Hw E w I L Q) (rr w 141) = some (Int32.ofNat 384) := aln_w (lv_of (by decide)) rfl
theorem ga142 {i : Int32} : gaI E 2 (Hw E w I L Q) (rr w 142) i = (ix i 96).map (I 142) := gaI_w (lv_of (by decide)) rfl (by decide) (by decide)
theorem pa142 {i x : Int32} : paZ E (Hw E w I L Q) (rr w 142) i x = (ix i 96).map (fun j => Hw E w (up2 I 142 j (vp_nar .boolean x)) L Q) := paZ_w (lv_of (by decide)) rfl
theorem an142 : aln E 2 (Hw E w I L Q) (rr w 142) = some (Int32.ofNat 96) := aln_w (lv_of (by decide)) rfl
theorem ga143 {i : Int32} : gaI E 0 (Hw E w I L Q) (rr w 143) i = (ix i 120).map (I 143) := gaI_w (lv_of (by decide)) rfl (by decide) (by decide)
theorem pa143 {i x : Int32} : paI E (Hw E w I L Q) (rr w 143) i x = (ix i 120).map (fun j => Hw E w (up2 I 143 j x) L Q) := paI_w (lv_of (by decide)) rfl
theorem an143 : aln E 0 (Hw E w I L Q) (rr w 143) = some (Int32.ofNat 120) := aln_w (lv_of (by decide)) rfl
theorem ga144 {i : Int32} : gaI E 0 (Hw E w I L Q) (rr w 144) i = (ix i 200).map (I 144) := gaI_w (lv_of (by decide)) rfl (by decide) (by decide)
theorem pa144 {i x : Int32} : paI E (Hw E w I L Q) (rr w 144) i x = (ix i 200).map (fun j => Hw E w (up2 I 144 j x) L Q) := paI_w (lv_of (by decide)) rfl
theorem an144 : aln E 0 (Hw E w I L Q) (rr w 144) = some (Int32.ofNat 200) := aln_w (lv_of (by decide)) rfl
theorem ga145 {i : Int32} : gaI E 0 (Hw E w I L Q) (rr w 145) i = (ix i 173).map (I 145) := gaI_w (lv_of (by decide)) rfl (by decide) (by decide)
theorem pa145 {i x : Int32} : paI E (Hw E w I L Q) (rr w 145) i x = (ix i 173).map (fun j => Hw E w (up2 I 145 j x) L Q) := paI_w (lv_of (by decide)) rfl
theorem an145 : aln E 0 (Hw E w I L Q) (rr w 145) = some (Int32.ofNat 173) := aln_w (lv_of (by decide)) rfl
theorem ga146 {i : Int32} : gaL E (Hw E w I L Q) (rr w 146) i = (ix i 4).map (L 146) := gaL_w (lv_of (by decide)) rfl
theorem pa146 {i : Int32} {x : Int64} : paL E (Hw E w I L Q) (rr w 146) i x = (ix i 4).map (fun j => Hw E w I (up2 L 146 j x) Q) := paL_w (lv_of (by decide)) rfl
theorem an146 : aln E 1 (Hw E w I L Q) (rr w 146) = some (Int32.ofNat 4) := aln_w (lv_of (by decide)) rfl
theorem ga147 {i : Int32} : gaL E (Hw E w I L Q) (rr w 147) i = (ix i 4).map (L 147) := gaL_w (lv_of (by decide)) rfl
theorem pa147 {i : Int32} {x : Int64} : paL E (Hw E w I L Q) (rr w 147) i x = (ix i 4).map (fun j => Hw E w I (up2 L 147 j x) Q) := paL_w (lv_of (by decide)) rfl
theorem an147 : aln E 1 (Hw E w I L Q) (rr w 147) = some (Int32.ofNat 4) := aln_w (lv_of (by decide)) rfl
theorem ga148 {i : Int32} : gaL E (Hw E w I L Q) (rr w 148) i = (ix i 4).map (L 148) := gaL_w (lv_of (by decide)) rfl
theorem pa148 {i : Int32} {x : Int64} : paL E (Hw E w I L Q) (rr w 148) i x = (ix i 4).map (fun j => Hw E w I (up2 L 148 j x) Q) := paL_w (lv_of (by decide)) rfl
theorem an148 : aln E 1 (Hw E w I L Q) (rr w 148) = some (Int32.ofNat 4) := aln_w (lv_of (by decide)) rfl
theorem ga149 {i : Int32} : gaL E (Hw E w I L Q) (rr w 149) i = (ix i 164).map (L 149) := gaL_w (lv_of (by decide)) rfl
theorem pa149 {i : Int32} {x : Int64} : paL E (Hw E w I L Q) (rr w 149) i x = (ix i 164).map (fun j => Hw E w I (up2 L 149 j x) Q) := paL_w (lv_of (by decide)) rfl
theorem an149 : aln E 1 (Hw E w I L Q) (rr w 149) = some (Int32.ofNat 164) := aln_w (lv_of (by decide)) rfl
theorem ga150 {i : Int32} : gaL E (Hw E w I L Q) (rr w 150) i = (ix i 164).map (L 150) := gaL_w (lv_of (by decide)) rfl
theorem pa150 {i : Int32} {x : Int64} : paL E (Hw E w I L Q) (rr w 150) i x = (ix i 164).map (fun j => Hw E w I (up2 L 150 j x) Q) := paL_w (lv_of (by decide)) rfl
theorem an150 : aln E 1 (Hw E w I L Q) (rr w 150) = some (Int32.ofNat 164) := aln_w (lv_of (by decide)) rfl
theorem ga151 {i : Int32} : gaL E (Hw E w I L Q) (rr w 151) i = (ix i 4).map (L 151) := gaL_w (lv_of (by decide)) rfl
theorem pa151 {i : Int32} {x : Int64} : paL E (Hw E w I L Q) (rr w 151) i x = (ix i 4).map (fun j => Hw E w I (up2 L 151 j x) Q) := paL_w (lv_of (by decide)) rfl
theorem an151 : aln E 1 (Hw E w I L Q) (rr w 151) = some (Int32.ofNat 4) := aln_w (lv_of (by decide)) rfl
theorem ga152 {i : Int32} : gaL E (Hw E w I L Q) (rr w 152) i = (ix i 4).map (L 152) := gaL_w (lv_of (by decide)) rfl
theorem pa152 {i : Int32} {x : Int64} : paL E (Hw E w I L Q) (rr w 152) i x = (ix i 4).map (fun j => Hw E w I (up2 L 152 j x) Q) := paL_w (lv_of (by decide)) rfl
theorem an152 : aln E 1 (Hw E w I L Q) (rr w 152) = some (Int32.ofNat 4) := aln_w (lv_of (by decide)) rfl
theorem ga153 {i : Int32} : gaI E 2 (Hw E w I L Q) (rr w 153) i = (ix i 40).map (I 153) := gaI_w (lv_of (by decide)) rfl (by decide) (by decide)
theorem pa153 {i x : Int32} : paZ E (Hw E w I L Q) (rr w 153) i x = (ix i 40).map (fun j => Hw E w (up2 I 153 j (vp_nar .boolean x)) L Q) := paZ_w (lv_of (by decide)) rfl
theorem an153 : aln E 2 (Hw E w I L Q) (rr w 153) = some (Int32.ofNat 40) := aln_w (lv_of (by decide)) rfl
theorem ga154 {i : Int32} : gaI E 2 (Hw E w I L Q) (rr w 154) i = (ix i 40).map (I 154) := gaI_w (lv_of (by decide)) rfl (by decide) (by decide)
theorem pa154 {i x : Int32} : paZ E (Hw E w I L Q) (rr w 154) i x = (ix i 40).map (fun j => Hw E w (up2 I 154 j (vp_nar .boolean x)) L Q) := paZ_w (lv_of (by decide)) rfl
theorem an154 : aln E 2 (Hw E w I L Q) (rr w 154) = some (Int32.ofNat 40) := aln_w (lv_of (by decide)) rfl
theorem ga155 {i : Int32} : gaI E 0 (Hw E w I L Q) (rr w 155) i = (ix i 240).map (I 155) := gaI_w (lv_of (by decide)) rfl (by decide) (by decide)
theorem pa155 {i x : Int32} : paI E (Hw E w I L Q) (rr w 155) i x = (ix i 240).map (fun j => Hw E w (up2 I 155 j x) L Q) := paI_w (lv_of (by decide)) rfl
theorem an155 : aln E 0 (Hw E w I L Q) (rr w 155) = some (Int32.ofNat 240) := aln_w (lv_of (by decide)) rfl
theorem ga156 {i : Int32} : gaI E 0 (Hw E w I L Q) (rr w 156) i = (ix i 240).map (I 156) := gaI_w (lv_of (by decide)) rfl (by decide) (by decide)
theorem pa156 {i x : Int32} : paI E (Hw E w I L Q) (rr w 156) i x = (ix i 240).map (fun j => Hw E w (up2 I 156 j x) L Q) := paI_w (lv_of (by decide)) rfl
theorem an156 : aln E 0 (Hw E w I L Q) (rr w 156) = some (Int32.ofNat 240) := aln_w (lv_of (by decide)) rfl
theorem ga157 {i : Int32} : gaI E 0 (Hw E w I L Q) (rr w 157) i = (ix i 40).map (I 157) := gaI_w (lv_of (by decide)) rfl (by decide) (by decide)
theorem pa157 {i x : Int32} : paI E (Hw E w I L Q) (rr w 157) i x = (ix i 40).map (fun j => Hw E w (up2 I 157 j x) L Q) := paI_w (lv_of (by decide)) rfl
theorem an157 : aln E 0 (Hw E w I L Q) (rr w 157) = some (Int32.ofNat 40) := aln_w (lv_of (by decide)) rfl
theorem ga158 {i : Int32} : gaL E (Hw E w I L Q) (rr w 158) i = (ix i 128).map (L 158) := gaL_w (lv_of (by decide)) rfl
theorem pa158 {i : Int32} {x : Int64} : paL E (Hw E w I L Q) (rr w 158) i x = (ix i 128).map (fun j => Hw E w I (up2 L 158 j x) Q) := paL_w (lv_of (by decide)) rfl
theorem an158 : aln E 1 (Hw E w I L Q) (rr w 158) = some (Int32.ofNat 128) := aln_w (lv_of (by decide)) rfl
theorem ga159 {i : Int32} : gaI E 0 (Hw E w I L Q) (rr w 159) i = (ix i 3).map (I 159) := gaI_w (lv_of (by decide)) rfl (by decide) (by decide)
theorem pa159 {i x : Int32} : paI E (Hw E w I L Q) (rr w 159) i x = (ix i 3).map (fun j => Hw E w (up2 I 159 j x) L Q) := paI_w (lv_of (by decide)) rfl
theorem an159 : aln E 0 (Hw E w I L Q) (rr w 159) = some (Int32.ofNat 3) := aln_w (lv_of (by decide)) rfl
theorem ga160 {i : Int32} : gaI E 0 (Hw E w I L Q) (rr w 160) i = (ix i 4).map (I 160) := gaI_w (lv_of (by decide)) rfl (by decide) (by decide)
theorem pa160 {i x : Int32} : paI E (Hw E w I L Q) (rr w 160) i x = (ix i 4).map (fun j => Hw E w (up2 I 160 j x) L Q) := paI_w (lv_of (by decide)) rfl
theorem an160 : aln E 0 (Hw E w I L Q) (rr w 160) = some (Int32.ofNat 4) := aln_w (lv_of (by decide)) rfl
theorem ga161 {i : Int32} : gaI E 0 (Hw E w I L Q) (rr w 161) i = (ix i 4).map (I 161) := gaI_w (lv_of (by decide)) rfl (by decide) (by decide)
theorem pa161 {i x : Int32} : paI E (Hw E w I L Q) (rr w 161) i x = (ix i 4).map (fun j => Hw E w (up2 I 161 j x) L Q) := paI_w (lv_of (by decide)) rfl
theorem an161 : aln E 0 (Hw E w I L Q) (rr w 161) = some (Int32.ofNat 4) := aln_w (lv_of (by decide)) rfl
theorem ga162 {i : Int32} : gaL E (Hw E w I L Q) (rr w 162) i = (ix i 48).map (L 162) := gaL_w (lv_of (by decide)) rfl
theorem pa162 {i : Int32} {x : Int64} : paL E (Hw E w I L Q) (rr w 162) i x = (ix i 48).map (fun j => Hw E w I (up2 L 162 j x) Q) := paL_w (lv_of (by decide)) rfl
theorem an162 : aln E 1 (Hw E w I L Q) (rr w 162) = some (Int32.ofNat 48) := aln_w (lv_of (by decide)) rfl
theorem o163 : isO (Hw E w I L Q) (rr w 163) 12 = some () := isO_w (lv_of (by decide)) rfl
theorem gf163_0 : gfR (Hw E w I L Q) (rr w 163) 12 0 = some (rr w 137) := gfC_w (lv_of (by decide)) rfl rfl
theorem gf163_1 : gfR (Hw E w I L Q) (rr w 163) 12 1 = some (rr w 138) := gfC_w (lv_of (by decide)) rfl rfl
theorem gf163_2 : gfR (Hw E w I L Q) (rr w 163) 12 2 = some (rr w 139) := gfC_w (lv_of (by decide)) rfl rfl
theorem gf163_3 : gfI (Hw E w I L Q) (rr w 163) 12 3 = some (I 163 3) := gfI_w (lv_of (by decide)) rfl rfl
theorem pf163_3 {v : Int32} : pf (Hw E w I L Q) (rr w 163) 12 3 (.int v) = some (Hw E w (up2 I 163 3 v) L Q) := pfI_w (lv_of (by decide)) rfl rfl
theorem gf163_4 : gfI (Hw E w I L Q) (rr w 163) 12 4 = some (I 163 4) := gfI_w (lv_of (by decide)) rfl rfl
theorem pf163_4 {v : Int32} : pf (Hw E w I L Q) (rr w 163) 12 4 (.int v) = some (Hw E w (up2 I 163 4 v) L Q) := pfI_w (lv_of (by decide)) rfl rfl
theorem gf163_5 : gfR (Hw E w I L Q) (rr w 163) 12 5 = some (rr w 140) := gfC_w (lv_of (by decide)) rfl rfl
theorem gf163_6 : gfR (Hw E w I L Q) (rr w 163) 12 6 = some (rr w 141) := gfC_w (lv_of (by decide)) rfl rfl
theorem gf163_7 : gfR (Hw E w I L Q) (rr w 163) 12 7 = some (rr w 142) := gfC_w (lv_of (by decide)) rfl rfl
theorem gf163_8 : gfR (Hw E w I L Q) (rr w 163) 12 8 = some (rr w 143) := gfC_w (lv_of (by decide)) rfl rfl
theorem gf163_9 : gfR (Hw E w I L Q) (rr w 163) 12 9 = some (rr w 144) := gfC_w (lv_of (by decide)) rfl rfl
theorem gf163_10 : gfI (Hw E w I L Q) (rr w 163) 12 10 = some (I 163 10) := gfI_w (lv_of (by decide)) rfl rfl
theorem pf163_10 {v : Int32} : pf (Hw E w I L Q) (rr w 163) 12 10 (.int v) = some (Hw E w (up2 I 163 10 v) L Q) := pfI_w (lv_of (by decide)) rfl rfl
theorem gf163_11 : gfI (Hw E w I L Q) (rr w 163) 12 11 = some (I 163 11) := gfI_w (lv_of (by decide)) rfl rfl
theorem pf163_11 {v : Int32} : pf (Hw E w I L Q) (rr w 163) 12 11 (.int v) = some (Hw E w (up2 I 163 11 v) L Q) := pfI_w (lv_of (by decide)) rfl rfl
theorem gf163_12 : gfI (Hw E w I L Q) (rr w 163) 12 12 = some (I 163 12) := gfI_w (lv_of (by decide)) rfl rfl
theorem pf163_12 {v : Int32} : pf (Hw E w I L Q) (rr w 163) 12 12 (.int v) = some (Hw E w (up2 I 163 12 v) L Q) := pfI_w (lv_of (by decide)) rfl rfl
theorem gf163_13 : gfI (Hw E w I L Q) (rr w 163) 12 13 = some (I 163 13) := gfI_w (lv_of (by decide)) rfl rfl
theorem pf163_13 {v : Int32} : pf (Hw E w I L Q) (rr w 163) 12 13 (.int v) = some (Hw E w (up2 I 163 13 v) L Q) := pfI_w (lv_of (by decide)) rfl rfl
theorem gf163_14 : gfI (Hw E w I L Q) (rr w 163) 12 14 = some (I 163 14) := gfI_w (lv_of (by decide)) rfl rfl
theorem pf163_14 {v : Int32} : pf (Hw E w I L Q) (rr w 163) 12 14 (.int v) = some (Hw E w (up2 I 163 14 v) L Q) := pfI_w (lv_of (by decide)) rfl rfl
theorem gf163_15 : gfI (Hw E w I L Q) (rr w 163) 12 15 = some (I 163 15) := gfI_w (lv_of (by decide)) rfl rfl
theorem pf163_15 {v : Int32} : pf (Hw E w I L Q) (rr w 163) 12 15 (.int v) = some (Hw E w (up2 I 163 15 v) L Q) := pfI_w (lv_of (by decide)) rfl rfl
theorem gf163_16 : gfI (Hw E w I L Q) (rr w 163) 12 16 = some (I 163 16) := gfI_w (lv_of (by decide)) rfl rfl
theorem pf163_16 {v : Int32} : pf (Hw E w I L Q) (rr w 163) 12 16 (.int v) = some (Hw E w (up2 I 163 16 v) L Q) := pfI_w (lv_of (by decide)) rfl rfl
theorem gf163_17 : gfI (Hw E w I L Q) (rr w 163) 12 17 = some (I 163 17) := gfI_w (lv_of (by decide)) rfl rfl
theorem pf163_17 {v : Int32} : pf (Hw E w I L Q) (rr w 163) 12 17 (.int v) = some (Hw E w (up2 I 163 17 v) L Q) := pfI_w (lv_of (by decide)) rfl rfl
theorem gf163_18 : gfI (Hw E w I L Q) (rr w 163) 12 18 = some (I 163 18) := gfI_w (lv_of (by decide)) rfl rfl
theorem pf163_18 {v : Int32} : pf (Hw E w I L Q) (rr w 163) 12 18 (.int v) = some (Hw E w (up2 I 163 18 v) L Q) := pfI_w (lv_of (by decide)) rfl rfl
theorem gf163_19 : gfI (Hw E w I L Q) (rr w 163) 12 19 = some (I 163 19) := gfI_w (lv_of (by decide)) rfl rfl
theorem pf163_19 {v : Int32} : pf (Hw E w I L Q) (rr w 163) 12 19 (.int v) = some (Hw E w (up2 I 163 19 v) L Q) := pfI_w (lv_of (by decide)) rfl rfl
theorem gf163_20 : gfR (Hw E w I L Q) (rr w 163) 12 20 = some (rr w 145) := gfC_w (lv_of (by decide)) rfl rfl
theorem gf163_21 : gfR (Hw E w I L Q) (rr w 163) 12 21 = some (rr w 146) := gfC_w (lv_of (by decide)) rfl rfl
theorem gf163_22 : gfR (Hw E w I L Q) (rr w 163) 12 22 = some (rr w 147) := gfC_w (lv_of (by decide)) rfl rfl
theorem gf163_23 : gfR (Hw E w I L Q) (rr w 163) 12 23 = some (rr w 148) := gfC_w (lv_of (by decide)) rfl rfl
theorem gf163_24 : gfR (Hw E w I L Q) (rr w 163) 12 24 = some (rr w 149) := gfC_w (lv_of (by decide)) rfl rfl
theorem gf163_25 : gfR (Hw E w I L Q) (rr w 163) 12 25 = some (rr w 150) := gfC_w (lv_of (by decide)) rfl rfl
theorem gf163_26 : gfR (Hw E w I L Q) (rr w 163) 12 26 = some (rr w 151) := gfC_w (lv_of (by decide)) rfl rfl
theorem gf163_27 : gfR (Hw E w I L Q) (rr w 163) 12 27 = some (rr w 152) := gfC_w (lv_of (by decide)) rfl rfl
theorem gf163_28 : gfR (Hw E w I L Q) (rr w 163) 12 28 = some (rr w 153) := gfC_w (lv_of (by decide)) rfl rfl
theorem gf163_29 : gfR (Hw E w I L Q) (rr w 163) 12 29 = some (rr w 154) := gfC_w (lv_of (by decide)) rfl rfl
theorem gf163_30 : gfR (Hw E w I L Q) (rr w 163) 12 30 = some (rr w 155) := gfC_w (lv_of (by decide)) rfl rfl
theorem gf163_31 : gfR (Hw E w I L Q) (rr w 163) 12 31 = some (rr w 156) := gfC_w (lv_of (by decide)) rfl rfl
theorem gf163_32 : gfR (Hw E w I L Q) (rr w 163) 12 32 = some (rr w 157) := gfC_w (lv_of (by decide)) rfl rfl
theorem gf163_33 : gfR (Hw E w I L Q) (rr w 163) 12 33 = some (rr w 158) := gfC_w (lv_of (by decide)) rfl rfl
theorem gf163_34 : gfR (Hw E w I L Q) (rr w 163) 12 34 = some (rr w 159) := gfC_w (lv_of (by decide)) rfl rfl
theorem gf163_35 : gfI (Hw E w I L Q) (rr w 163) 12 35 = some (I 163 35) := gfI_w (lv_of (by decide)) rfl rfl
theorem pf163_35 {v : Int32} : pf (Hw E w I L Q) (rr w 163) 12 35 (.int v) = some (Hw E w (up2 I 163 35 v) L Q) := pfI_w (lv_of (by decide)) rfl rfl
theorem gf163_36 : gfI (Hw E w I L Q) (rr w 163) 12 36 = some (I 163 36) := gfI_w (lv_of (by decide)) rfl rfl
theorem pf163_36 {v : Int32} : pf (Hw E w I L Q) (rr w 163) 12 36 (.int v) = some (Hw E w (up2 I 163 36 v) L Q) := pfI_w (lv_of (by decide)) rfl rfl
theorem gf163_37 : gfR (Hw E w I L Q) (rr w 163) 12 37 = some (rr w 160) := gfC_w (lv_of (by decide)) rfl rfl
theorem gf163_38 : gfR (Hw E w I L Q) (rr w 163) 12 38 = some (rr w 161) := gfC_w (lv_of (by decide)) rfl rfl
theorem gf163_39 : gfR (Hw E w I L Q) (rr w 163) 12 39 = some (rr w 162) := gfC_w (lv_of (by decide)) rfl rfl
theorem ga164 {i : Int32} : gaL E (Hw E w I L Q) (rr w 164) i = (ix i 1).map (L 164) := gaL_w (lv_of (by decide)) rfl
theorem pa164 {i : Int32} {x : Int64} : paL E (Hw E w I L Q) (rr w 164) i x = (ix i 1).map (fun j => Hw E w I (up2 L 164 j x) Q) := paL_w (lv_of (by decide)) rfl
theorem an164 : aln E 1 (Hw E w I L Q) (rr w 164) = some (Int32.ofNat 1) := aln_w (lv_of (by decide)) rfl
end WORLD
