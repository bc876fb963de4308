/-! image: a new home is made -/
theorem stage {hA h2 h3 : Hp} {p P : Nat} {e e' v y : va_E} {r : Nat → Nat} {cs : List va_E} (hp : hA p = none) (C : Al (hset hA p e) h2 p r cs) (c : h2 p = some e') (hP : hA P = some y) (e3 : h3 = hset h2 P v) : (∀ b x, b ≠ P → hA b = some x → h3 b = some x) ∧ h3 P = some v ∧ h3 p = some e' ∧ AtL h3 r cs ∧ (∀ j, j < cs.length → hA (r j) = none ∧ r j ≠ p) ∧ ∀ i j, i < cs.length → j < cs.length → r i = r j → i = j := by
  obtain ⟨⟨n1, n2⟩, kp, at1⟩ := C
  have pP : p ≠ P := fun z => by rw [z, hP] at hp; cases hp
  have fr : ∀ j, j < cs.length → hA (r j) = none ∧ r j ≠ p := fun j hj => by
    have z := n1 j hj
    have := z.2
    rw [hset_n _ _ z.1] at this
    exact ⟨this, z.1⟩
  have rP : ∀ j, j < cs.length → r j ≠ P := fun j hj z => by have := (fr j hj).1; rw [z, hP] at this; cases this
  refine ⟨fun b x hb hx => ?_, by rw [e3]; exact hset_s _ _ _, by rw [e3, hset_n _ _ pP]; exact c, fun j x hx => ?_, fr, n2⟩
  · have bp : b ≠ p := fun z => by rw [z, hp] at hx; cases hx
    rw [e3, hset_n _ _ hb]
    exact kp b x bp (by rw [hset_n _ _ bp]; exact hx)
  · rw [e3, hset_n _ _ (rP j (List.getElem?_eq_some_iff.mp hx).1)]
    exact at1 j x hx
abbrev Rg (i k : Nat) : Prop := 165 + 32 * i ≤ k ∧ k < 197 + 32 * i
def sgm (i j : Nat) : Nat := if j < 261 ∧ ¬ Rg i j then j else 261 + j
def imQ (i : Nat) (Q : Nat → Nat → Option Nat) (k f : Nat) : Option Nat := if f = i ∧ k = 125 then some (165 + 32 * i) else if f = i ∧ k = 126 then some (180 + 32 * i) else if f = i ∧ k = 127 then some (187 + 32 * i) else (Q k f).map (sgm i)
def imI (i : Nat) (I : Nat → Nat → Int32) (k f : Nat) : Int32 := if Rg i k then 0 else I k f
def imA (i : Nat) (a r1 r2 r3 : Nat → Nat) (p1 p2 p3 k : Nat) : Nat := if k < 261 then (if k = 165 + 32 * i then p1 else if 165 + 32 * i < k ∧ k < 180 + 32 * i then r1 (k - (166 + 32 * i)) else if k = 180 + 32 * i then p2 else if 180 + 32 * i < k ∧ k < 187 + 32 * i then r2 (k - (181 + 32 * i)) else if k = 187 + 32 * i then p3 else if 187 + 32 * i < k ∧ k < 197 + 32 * i then r3 (k - (188 + 32 * i)) else a k) else a (k - 261)
def imL (i : Nat) (l : Nat → Bool) (k : Nat) : Bool := l k || decide (Rg i k)
def shC (i : Nat) : Bool := (List.range 261).all fun k => decide (Rg i k) || match sh k with | .inl _ => true | .inr (_, ks) => ks.all fun c => decide (c < 3) || decide (c - 3 < 261 ∧ ¬ Rg i (c - 3))
theorem shC_ok : ∀ i, i < 3 → shC i = true := by decide +kernel
theorem shC_at {i k ci f c : Nat} {ks : List Nat} (hi : i < 3) (hk : k < 261) (hR : ¬ Rg i k) (hs : sh k = .inr (ci, ks)) (hf : ks[f]? = some c) : c < 3 ∨ (c - 3 < 261 ∧ ¬ Rg i (c - 3)) := by
  have z := List.all_eq_true.mp (shC_ok i hi) k (List.mem_range.mpr hk)
  rw [hs] at z
  simp only [Bool.or_eq_true, decide_eq_true_eq] at z
  rcases z with z | z
  · exact absurd z hR
  · have y := List.all_eq_true.mp z c (List.mem_of_getElem? hf)
    simp only [Bool.or_eq_true, decide_eq_true_eq] at y
    exact y
section
variable {E : Ev} {w : Wo} {I : Nat → Nat → Int32} {L : Nat → Nat → Int64} {Q : Nat → Nat → Option Nat} {c : Nat → Nat} {i p1 p2 p3 : Nat} {r1 r2 r3 : Nat → Nat} {h : Hp}
theorem imA_o {a : Nat → Nat} {k : Nat} (hk : k < 261) (hR : ¬ Rg i k) : imA i a r1 r2 r3 p1 p2 p3 k = a k := by
  unfold Rg at hR
  unfold imA
  rw [if_pos hk, if_neg (by omega), if_neg (by omega), if_neg (by omega), if_neg (by omega), if_neg (by omega), if_neg (by omega)]
theorem imA_s {a : Nat → Nat} {j : Nat} : imA i a r1 r2 r3 p1 p2 p3 (sgm i j) = a j := by
  unfold sgm
  by_cases c : j < 261 ∧ ¬ Rg i j
  · rw [if_pos c, imA_o c.1 c.2]
  · rw [if_neg c]
    unfold imA
    rw [if_neg (by omega), show 261 + j - 261 = j by omega]
theorem imQ_125 : imQ i Q 125 i = some (165 + 32 * i) := if_pos ⟨rfl, rfl⟩
theorem imQ_126 : imQ i Q 126 i = some (180 + 32 * i) := (if_neg (by omega)).trans (if_pos ⟨rfl, rfl⟩)
theorem imQ_127 : imQ i Q 127 i = some (187 + 32 * i) := (if_neg (by omega)).trans ((if_neg (by omega)).trans (if_pos ⟨rfl, rfl⟩))
theorem imQ_o {k f : Nat} (hk : ¬ (f = i ∧ (k = 125 ∨ k = 126 ∨ k = 127))) : imQ i Q k f = (Q k f).map (sgm i) := by
  unfold imQ
  rw [if_neg (by omega), if_neg (by omega), if_neg (by omega)]
theorem sgm_o {j : Nat} (hj : j < 261) (hR : ¬ Rg i j) : sgm i j = j := if_pos ⟨hj, hR⟩
theorem im_q (pf : (∀ k, k < 165 → imL i w.1.2.1 k = true) ∧ (∀ k j, imL i w.1.2.1 k = true → imL i w.1.2.1 j = true → imA i w.1.1 r1 r2 r3 p1 p2 p3 k = imA i w.1.1 r1 r2 r3 p1 p2 p3 j → k = j) ∧ (∀ k, imL i w.1.2.1 k = true → k < 261)) {k f : Nat} (hk : ¬ (f = i ∧ (k = 125 ∨ k = 126 ∨ k = 127))) : (imQ i Q k f).map (rr ⟨(imA i w.1.1 r1 r2 r3 p1 p2 p3, imL i w.1.2.1, h), pf⟩) = (Q k f).map (rr w) := by
  unfold imQ
  rw [if_neg (by omega), if_neg (by omega), if_neg (by omega), Option.map_map]
  congr 1
  funext j
  exact imA_s
theorem im_old (pf : (∀ k, k < 165 → imL i w.1.2.1 k = true) ∧ (∀ k j, imL i w.1.2.1 k = true → imL i w.1.2.1 j = true → imA i w.1.1 r1 r2 r3 p1 p2 p3 k = imA i w.1.1 r1 r2 r3 p1 p2 p3 j → k = j) ∧ (∀ k, imL i w.1.2.1 k = true → k < 261)) {k : Nat} (hi : i < 3) (hk : k < 261) (hR : ¬ Rg i k) (hk2 : k ≠ 125 ∧ k ≠ 126 ∧ k ≠ 127) : cel E ⟨(imA i w.1.1 r1 r2 r3 p1 p2 p3, imL i w.1.2.1, h), pf⟩ (imI i I) L (imQ i Q) k = cel E w I L Q k := by
  have eI : imI i I k = I k := funext fun f => if_neg hR
  have eQ : ∀ f, (imQ i Q k f).map (rr ⟨(imA i w.1.1 r1 r2 r3 p1 p2 p3, imL i w.1.2.1, h), pf⟩) = (Q k f).map (rr w) := fun f => im_q pf (by omega)
  unfold cel
  rw [eI]
  cases e : sh k with
  | inl x =>
    obtain ⟨t, n⟩ := x
    show (Sum.inl (E.1 t, n, if t = 1 then .inr (.inl (L k)) else if 4 ≤ t then .inr (.inr (.inr (.inr (fun f => (imQ i Q k f).map (rr ⟨(imA i w.1.1 r1 r2 r3 p1 p2 p3, imL i w.1.2.1, h), pf⟩))))) else .inl (I k)) : va_E) = Sum.inl (E.1 t, n, if t = 1 then .inr (.inl (L k)) else if 4 ≤ t then .inr (.inr (.inr (.inr (fun f => (Q k f).map (rr w))))) else .inl (I k))
    rw [show (fun f => (imQ i Q k f).map (rr ⟨(imA i w.1.1 r1 r2 r3 p1 p2 p3, imL i w.1.2.1, h), pf⟩)) = fun f => (Q k f).map (rr w) from funext eQ]
  | inr x =>
    obtain ⟨ci, ks⟩ := x
    show (Sum.inr (ci, fls ⟨(imA i w.1.1 r1 r2 r3 p1 p2 p3, imL i w.1.2.1, h), pf⟩ (imI i I) L (imQ i Q) k ks) : va_E) = Sum.inr (ci, fls w I L Q k ks)
    congr 2
    apply List.ext_getElem?
    intro f
    unfold fls
    rw [List.getElem?_mapIdx, List.getElem?_mapIdx]
    cases ef : ks[f]? with
    | none => rfl
    | some c =>
      show some _ = some _
      congr 1
      have ok := shC_at hi hk hR e ef
      match c, ok with
      | 0, _ => show Value.int (imI i I k f) = Value.int (I k f); rw [eI]
      | 1, _ => rfl
      | 2, _ => show va_rf ((imQ i Q k f).map (rr ⟨(imA i w.1.1 r1 r2 r3 p1 p2 p3, imL i w.1.2.1, h), pf⟩)) = va_rf ((Q k f).map (rr w)); rw [eQ f]
      | j + 3, ok =>
        show Value.ref (imA i w.1.1 r1 r2 r3 p1 p2 p3 j) = Value.ref (w.1.1 j)
        have ok' : j < 261 ∧ ¬ Rg i j := by
          rcases ok with z | z
          · omega
          · exact ⟨by omega, by have := z.2; rw [show j + 3 - 3 = j by omega] at this; exact this⟩
        rw [imA_o ok'.1 ok'.2]
theorem im_125 (pf : (∀ k, k < 165 → imL i w.1.2.1 k = true) ∧ (∀ k j, imL i w.1.2.1 k = true → imL i w.1.2.1 j = true → imA i w.1.1 r1 r2 r3 p1 p2 p3 k = imA i w.1.1 r1 r2 r3 p1 p2 p3 j → k = j) ∧ (∀ k, imL i w.1.2.1 k = true → k < 261)) (hi : i < 3) : cel E ⟨(imA i w.1.1 r1 r2 r3 p1 p2 p3, imL i w.1.2.1, h), pf⟩ (imI i I) L (imQ i Q) 125 = .inl (E.1 5, 3, .inr (.inr (.inr (.inr (va_up (fun f => (Q 125 f).map (rr w)) i (some p1)))))) := by
  have e : ∀ f g : Nat → Option Nat, f = g → (.inl (E.1 5, 3, .inr (.inr (.inr (.inr f)))) : va_E) = .inl (E.1 5, 3, .inr (.inr (.inr (.inr g)))) := fun f g h => by rw [h]
  refine e (fun f => (imQ i Q 125 f).map (rr ⟨(imA i w.1.1 r1 r2 r3 p1 p2 p3, imL i w.1.2.1, h), pf⟩)) _ (funext fun f => ?_)
  unfold va_up
  by_cases c : f = i
  · rw [if_pos c]
    have : imQ i Q 125 f = some (165 + 32 * i) := by
      rw [c]; exact imQ_125
    rw [this]
    show some (imA i w.1.1 r1 r2 r3 p1 p2 p3 (165 + 32 * i)) = some p1
    congr 1
    have : i = 0 ∨ i = 1 ∨ i = 2 := by omega
    rcases this with rfl | rfl | rfl <;> rfl
  · rw [if_neg c]; exact im_q pf (by omega)
theorem im_126 (pf : (∀ k, k < 165 → imL i w.1.2.1 k = true) ∧ (∀ k j, imL i w.1.2.1 k = true → imL i w.1.2.1 j = true → imA i w.1.1 r1 r2 r3 p1 p2 p3 k = imA i w.1.1 r1 r2 r3 p1 p2 p3 j → k = j) ∧ (∀ k, imL i w.1.2.1 k = true → k < 261)) (hi : i < 3) : cel E ⟨(imA i w.1.1 r1 r2 r3 p1 p2 p3, imL i w.1.2.1, h), pf⟩ (imI i I) L (imQ i Q) 126 = .inl (E.1 6, 3, .inr (.inr (.inr (.inr (va_up (fun f => (Q 126 f).map (rr w)) i (some p2)))))) := by
  have e : ∀ f g : Nat → Option Nat, f = g → (.inl (E.1 6, 3, .inr (.inr (.inr (.inr f)))) : va_E) = .inl (E.1 6, 3, .inr (.inr (.inr (.inr g)))) := fun f g h => by rw [h]
  refine e (fun f => (imQ i Q 126 f).map (rr ⟨(imA i w.1.1 r1 r2 r3 p1 p2 p3, imL i w.1.2.1, h), pf⟩)) _ (funext fun f => ?_)
  unfold va_up
  by_cases c : f = i
  · rw [if_pos c]
    have : imQ i Q 126 f = some (180 + 32 * i) := by
      rw [c]; exact imQ_126
    rw [this]
    show some (imA i w.1.1 r1 r2 r3 p1 p2 p3 (180 + 32 * i)) = some p2
    congr 1
    have : i = 0 ∨ i = 1 ∨ i = 2 := by omega
    rcases this with rfl | rfl | rfl <;> rfl
  · rw [if_neg c]; exact im_q pf (by omega)
theorem im_127 (pf : (∀ k, k < 165 → imL i w.1.2.1 k = true) ∧ (∀ k j, imL i w.1.2.1 k = true → imL i w.1.2.1 j = true → imA i w.1.1 r1 r2 r3 p1 p2 p3 k = imA i w.1.1 r1 r2 r3 p1 p2 p3 j → k = j) ∧ (∀ k, imL i w.1.2.1 k = true → k < 261)) (hi : i < 3) : cel E ⟨(imA i w.1.1 r1 r2 r3 p1 p2 p3, imL i w.1.2.1, h), pf⟩ (imI i I) L (imQ i Q) 127 = .inl (E.1 7, 3, .inr (.inr (.inr (.inr (va_up (fun f => (Q 127 f).map (rr w)) i (some p3)))))) := by
  have e : ∀ f g : Nat → Option Nat, f = g → (.inl (E.1 7, 3, .inr (.inr (.inr (.inr f)))) : va_E) = .inl (E.1 7, 3, .inr (.inr (.inr (.inr g)))) := fun f g h => by rw [h]
  refine e (fun f => (imQ i Q 127 f).map (rr ⟨(imA i w.1.1 r1 r2 r3 p1 p2 p3, imL i w.1.2.1, h), pf⟩)) _ (funext fun f => ?_)
  unfold va_up
  by_cases c : f = i
  · rw [if_pos c]
    have : imQ i Q 127 f = some (187 + 32 * i) := by
      rw [c]; exact imQ_127
    rw [this]
    show some (imA i w.1.1 r1 r2 r3 p1 p2 p3 (187 + 32 * i)) = some p3
    congr 1
    have : i = 0 ∨ i = 1 ∨ i = 2 := by omega
    rcases this with rfl | rfl | rfl <;> rfl
  · rw [if_neg c]; exact im_q pf (by omega)
set_option maxRecDepth 100000 in
theorem im_new (pf : (∀ k, k < 165 → imL i w.1.2.1 k = true) ∧ (∀ k j, imL i w.1.2.1 k = true → imL i w.1.2.1 j = true → imA i w.1.1 r1 r2 r3 p1 p2 p3 k = imA i w.1.1 r1 r2 r3 p1 p2 p3 j → k = j) ∧ (∀ k, imL i w.1.2.1 k = true → k < 261)) (hi : i < 3) {g : Hp} (c1 : g p1 = some (.inr (3, fsX3 (fun i => [].getD i 0) (fun i => [(r1 0), (r1 1), (r1 2), (r1 3), (r1 4), (r1 5), (r1 6), (r1 7), (r1 8), (r1 9), (r1 10), (r1 11), (r1 12), (r1 13)].getD i 0) (fun i => [(0 : Int32), (0 : Int32), (0 : Int32)].getD i 0) (fun _ => 0)))) (a1 : AtL g r1 [.inl (E.1 0, 40, .inl (fun _ => 0)), .inl (E.1 0, 40, .inl (fun _ => 0)), .inl (E.1 0, 60, .inl (fun _ => 0)), .inl (E.1 0, 60, .inl (fun _ => 0)), .inl (E.1 0, 60, .inl (fun _ => 0)), .inl (E.1 0, 60, .inl (fun _ => 0)), .inl (E.1 0, 240, .inl (fun _ => 0)), .inl (E.1 0, 120, .inl (fun _ => 0)), .inl (E.1 0, 120, .inl (fun _ => 0)), .inl (E.1 0, 40, .inl (fun _ => 0)), .inl (E.1 0, 40, .inl (fun _ => 0)), .inl (E.1 2, 40, .inl (fun _ => 0)), .inl (E.1 0, 40, .inl (fun _ => 0)), .inl (E.1 0, 40, .inl (fun _ => 0))]) (c2 : g p2 = some (.inr (2, fsX2 (fun i => [].getD i 0) (fun i => [(r2 0), (r2 1), (r2 2), (r2 3), (r2 4), (r2 5)].getD i 0) (fun i => [(0 : Int32), (0 : Int32)].getD i 0) (fun _ => 0)))) (a2 : AtL g r2 [.inl (E.1 0, 72, .inl (fun _ => 0)), .inl (E.1 0, 8, .inl (fun _ => 0)), .inl (E.1 0, 8, .inl (fun _ => 0)), .inl (E.1 2, 8, .inl (fun _ => 0)), .inl (E.1 2, 8, .inl (fun _ => 0)), .inl (E.1 0, 8, .inl (fun _ => 0))]) (c3 : g p3 = some (.inr (0, fsX0 (fun i => [].getD i 0) (fun i => [(r3 0), (r3 1), (r3 2), (r3 3), (r3 4), (r3 5), (r3 6), (r3 7), (r3 8)].getD i 0) (fun i => [(0 : Int32), (0 : Int32)].getD i 0) (fun _ => 0)))) (a3 : AtL g r3 [.inl (E.1 0, 12, .inl (fun _ => 0)), .inl (E.1 0, 12, .inl (fun _ => 0)), .inl (E.1 0, 12, .inl (fun _ => 0)), .inl (E.1 0, 480, .inl (fun _ => 0)), .inl (E.1 0, 30, .inl (fun _ => 0)), .inl (E.1 0, 30, .inl (fun _ => 0)), .inl (E.1 0, 30, .inl (fun _ => 0)), .inl (E.1 0, 30, .inl (fun _ => 0)), .inl (E.1 0, 30, .inl (fun _ => 0))]) : ∀ k, Rg i k → g (imA i w.1.1 r1 r2 r3 p1 p2 p3 k) = some (cel E ⟨(imA i w.1.1 r1 r2 r3 p1 p2 p3, imL i w.1.2.1, h), pf⟩ (imI i I) L (imQ i Q) k) := by
  intro k hk
  obtain ⟨j, hj, rfl⟩ : ∃ j, j < 32 ∧ k = 165 + 32 * i + j := ⟨k - (165 + 32 * i), by unfold Rg at hk; omega, by unfold Rg at hk; omega⟩
  clear hk
  have : i = 0 ∨ i = 1 ∨ i = 2 := by omega
  rcases this with rfl | rfl | rfl
  · by_cases z0 : j = 0
    · rw [z0]; exact c1
    by_cases z1 : j = 1
    · rw [z1]; exact a1 0 _ rfl
    by_cases z2 : j = 2
    · rw [z2]; exact a1 1 _ rfl
    by_cases z3 : j = 3
    · rw [z3]; exact a1 2 _ rfl
    by_cases z4 : j = 4
    · rw [z4]; exact a1 3 _ rfl
    by_cases z5 : j = 5
    · rw [z5]; exact a1 4 _ rfl
    by_cases z6 : j = 6
    · rw [z6]; exact a1 5 _ rfl
    by_cases z7 : j = 7
    · rw [z7]; exact a1 6 _ rfl
    by_cases z8 : j = 8
    · rw [z8]; exact a1 7 _ rfl
    by_cases z9 : j = 9
    · rw [z9]; exact a1 8 _ rfl
    by_cases z10 : j = 10
    · rw [z10]; exact a1 9 _ rfl
    by_cases z11 : j = 11
    · rw [z11]; exact a1 10 _ rfl
    by_cases z12 : j = 12
    · rw [z12]; exact a1 11 _ rfl
    by_cases z13 : j = 13
    · rw [z13]; exact a1 12 _ rfl
    by_cases z14 : j = 14
    · rw [z14]; exact a1 13 _ rfl
    by_cases z15 : j = 15
    · rw [z15]; exact c2
    by_cases z16 : j = 16
    · rw [z16]; exact a2 0 _ rfl
    by_cases z17 : j = 17
    · rw [z17]; exact a2 1 _ rfl
    by_cases z18 : j = 18
    · rw [z18]; exact a2 2 _ rfl
    by_cases z19 : j = 19
    · rw [z19]; exact a2 3 _ rfl
    by_cases z20 : j = 20
    · rw [z20]; exact a2 4 _ rfl
    by_cases z21 : j = 21
    · rw [z21]; exact a2 5 _ rfl
    by_cases z22 : j = 22
    · rw [z22]; exact c3
    by_cases z23 : j = 23
    · rw [z23]; exact a3 0 _ rfl
    by_cases z24 : j = 24
    · rw [z24]; exact a3 1 _ rfl
    by_cases z25 : j = 25
    · rw [z25]; exact a3 2 _ rfl
    by_cases z26 : j = 26
    · rw [z26]; exact a3 3 _ rfl
    by_cases z27 : j = 27
    · rw [z27]; exact a3 4 _ rfl
    by_cases z28 : j = 28
    · rw [z28]; exact a3 5 _ rfl
    by_cases z29 : j = 29
    · rw [z29]; exact a3 6 _ rfl
    by_cases z30 : j = 30
    · rw [z30]; exact a3 7 _ rfl
    by_cases z31 : j = 31
    · rw [z31]; exact a3 8 _ rfl
    omega
  · by_cases z0 : j = 0
    · rw [z0]; exact c1
    by_cases z1 : j = 1
    · rw [z1]; exact a1 0 _ rfl
    by_cases z2 : j = 2
    · rw [z2]; exact a1 1 _ rfl
    by_cases z3 : j = 3
    · rw [z3]; exact a1 2 _ rfl
    by_cases z4 : j = 4
    · rw [z4]; exact a1 3 _ rfl
    by_cases z5 : j = 5
    · rw [z5]; exact a1 4 _ rfl
    by_cases z6 : j = 6
    · rw [z6]; exact a1 5 _ rfl
    by_cases z7 : j = 7
    · rw [z7]; exact a1 6 _ rfl
    by_cases z8 : j = 8
    · rw [z8]; exact a1 7 _ rfl
    by_cases z9 : j = 9
    · rw [z9]; exact a1 8 _ rfl
    by_cases z10 : j = 10
    · rw [z10]; exact a1 9 _ rfl
    by_cases z11 : j = 11
    · rw [z11]; exact a1 10 _ rfl
    by_cases z12 : j = 12
    · rw [z12]; exact a1 11 _ rfl
    by_cases z13 : j = 13
    · rw [z13]; exact a1 12 _ rfl
    by_cases z14 : j = 14
    · rw [z14]; exact a1 13 _ rfl
    by_cases z15 : j = 15
    · rw [z15]; exact c2
    by_cases z16 : j = 16
    · rw [z16]; exact a2 0 _ rfl
    by_cases z17 : j = 17
    · rw [z17]; exact a2 1 _ rfl
    by_cases z18 : j = 18
    · rw [z18]; exact a2 2 _ rfl
    by_cases z19 : j = 19
    · rw [z19]; exact a2 3 _ rfl
    by_cases z20 : j = 20
    · rw [z20]; exact a2 4 _ rfl
    by_cases z21 : j = 21
    · rw [z21]; exact a2 5 _ rfl
    by_cases z22 : j = 22
    · rw [z22]; exact c3
    by_cases z23 : j = 23
    · rw [z23]; exact a3 0 _ rfl
    by_cases z24 : j = 24
    · rw [z24]; exact a3 1 _ rfl
    by_cases z25 : j = 25
    · rw [z25]; exact a3 2 _ rfl
    by_cases z26 : j = 26
    · rw [z26]; exact a3 3 _ rfl
    by_cases z27 : j = 27
    · rw [z27]; exact a3 4 _ rfl
    by_cases z28 : j = 28
    · rw [z28]; exact a3 5 _ rfl
    by_cases z29 : j = 29
    · rw [z29]; exact a3 6 _ rfl
    by_cases z30 : j = 30
    · rw [z30]; exact a3 7 _ rfl
    by_cases z31 : j = 31
    · rw [z31]; exact a3 8 _ rfl
    omega
  · by_cases z0 : j = 0
    · rw [z0]; exact c1
    by_cases z1 : j = 1
    · rw [z1]; exact a1 0 _ rfl
    by_cases z2 : j = 2
    · rw [z2]; exact a1 1 _ rfl
    by_cases z3 : j = 3
    · rw [z3]; exact a1 2 _ rfl
    by_cases z4 : j = 4
    · rw [z4]; exact a1 3 _ rfl
    by_cases z5 : j = 5
    · rw [z5]; exact a1 4 _ rfl
    by_cases z6 : j = 6
    · rw [z6]; exact a1 5 _ rfl
    by_cases z7 : j = 7
    · rw [z7]; exact a1 6 _ rfl
    by_cases z8 : j = 8
    · rw [z8]; exact a1 7 _ rfl
    by_cases z9 : j = 9
    · rw [z9]; exact a1 8 _ rfl
    by_cases z10 : j = 10
    · rw [z10]; exact a1 9 _ rfl
    by_cases z11 : j = 11
    · rw [z11]; exact a1 10 _ rfl
    by_cases z12 : j = 12
    · rw [z12]; exact a1 11 _ rfl
    by_cases z13 : j = 13
    · rw [z13]; exact a1 12 _ rfl
    by_cases z14 : j = 14
    · rw [z14]; exact a1 13 _ rfl
    by_cases z15 : j = 15
    · rw [z15]; exact c2
    by_cases z16 : j = 16
    · rw [z16]; exact a2 0 _ rfl
    by_cases z17 : j = 17
    · rw [z17]; exact a2 1 _ rfl
    by_cases z18 : j = 18
    · rw [z18]; exact a2 2 _ rfl
    by_cases z19 : j = 19
    · rw [z19]; exact a2 3 _ rfl
    by_cases z20 : j = 20
    · rw [z20]; exact a2 4 _ rfl
    by_cases z21 : j = 21
    · rw [z21]; exact a2 5 _ rfl
    by_cases z22 : j = 22
    · rw [z22]; exact c3
    by_cases z23 : j = 23
    · rw [z23]; exact a3 0 _ rfl
    by_cases z24 : j = 24
    · rw [z24]; exact a3 1 _ rfl
    by_cases z25 : j = 25
    · rw [z25]; exact a3 2 _ rfl
    by_cases z26 : j = 26
    · rw [z26]; exact a3 3 _ rfl
    by_cases z27 : j = 27
    · rw [z27]; exact a3 4 _ rfl
    by_cases z28 : j = 28
    · rw [z28]; exact a3 5 _ rfl
    by_cases z29 : j = 29
    · rw [z29]; exact a3 6 _ rfl
    by_cases z30 : j = 30
    · rw [z30]; exact a3 7 _ rfl
    by_cases z31 : j = 31
    · rw [z31]; exact a3 8 _ rfl
    omega
end
