/-! the first world -/
theorem Hw_mk {E : Ev} {w : Wo} {I : Nat → Nat → Int32} {L : Nat → Nat → Int64} {Q : Nat → Nat → Option Nat} {h : Hp} (hr : w.1.2.2 = h) (hc : ∀ k, lvk w k → h (rr w k) = some (cel E w I L Q k)) : Hw E w I L Q = h := by
  funext a
  unfold Hw
  cases e : fnd w a with
  | none => show w.1.2.2 a = h a; rw [hr]
  | some k =>
    obtain ⟨h1, h2⟩ := fnd_s e
    show some (cel E w I L Q k) = h a
    rw [← h2, hc k h1]
def I0 (k i : Nat) : Int32 := if k = 32 then (if i = 2 then -1 else if i = 3 then 1 else 0) else if k = 121 then (if i = 3 then -1 else 0) else if k = 128 then (if i = 0 then 1 else 0) else if k = 130 then (if i = 0 then 1 else 0) else if k = 132 then (if i = 0 then 1 else 0) else if k = 134 then (if i = 0 then 1 else 0) else if k = 160 then upd (upd (upd (upd (fun _ => 0) 0 (-1)) 1 (-1)) 2 (-1)) 3 (-1) i else if k = 163 then (if i = 4 then -1 else if i = 19 then -1 else 0) else 0
def L0 (_ _ : Nat) : Int64 := 0
def Q0 (k i : Nat) : Option Nat := if k = 40 then (if i = 7 then some 43 else if i = 8 then some 45 else none) else if k = 48 then (if i = 2 then some 49 else if i = 3 then some 50 else if i = 5 then some 51 else if i = 6 then some 52 else if i = 7 then some 53 else none) else if k = 54 then (if i = 1 then some 55 else if i = 2 then some 56 else none) else if k = 65 then (if i < 24 then some (73 + 2 * i) else none) else if k = 124 then (if i < 4 then some (128 + 2 * i) else none) else none
def adr0 (r r' : Nat → Nat) (a b c : Nat) (k : Nat) : Nat := if k < 136 then r k else if k = 136 then a else if k < 163 then r' (k - 137) else if k = 163 then b else c
theorem inv_start {w : Wo} (hw : ∀ k, 165 ≤ k → ¬ lvk w k) : Inv w I0 L0 Q0 := by
  refine ⟨fun _ => 0, ⟨fun i hi => ⟨rfl, Nat.zero_le _⟩, ⟨fun p hp => absurd hp (Nat.not_lt_zero _), fun p q hp => absurd hp (Nat.not_lt_zero _)⟩, fun v hv => absurd hv (Nat.not_lt_zero _), fun v hv => absurd hv (Nat.not_lt_zero _), fun v hv => absurd hv (Nat.not_lt_zero _), fun v hv => absurd hv (Nat.not_lt_zero _), fun v hv => absurd hv (Nat.not_lt_zero _), fun v hv => absurd hv (Nat.not_lt_zero _)⟩, ⟨⟨rfl, fun p hp => absurd hp (Nat.not_lt_zero _)⟩, ⟨rfl, fun v hv => absurd hv (Nat.not_lt_zero _)⟩, ⟨rfl, fun v hv => absurd hv (Nat.not_lt_zero _)⟩, fun m hm => Or.inl rfl⟩, ⟨⟨rfl, fun v hv => absurd hv (Nat.not_lt_zero _)⟩, ⟨rfl, fun v hv => absurd hv (Nat.not_lt_zero _)⟩, fun k hk => ⟨Or.inl rfl, Or.inl rfl⟩⟩, ⟨⟨rfl, fun v hv => absurd hv (Nat.not_lt_zero _)⟩, ⟨rfl, fun v hv => absurd hv (Nat.not_lt_zero _)⟩⟩, MapR_f rfl rfl rfl, Or.inl rfl, ⟨49, 50, 0, Or.inl ⟨rfl, rfl, rfl⟩, Or.inl ⟨rfl, rfl, rfl⟩, ⟨53, rfl⟩, rfl, by omega, rfl, fun i hi => absurd hi (by omega), fun _ _ _ => rfl, fun _ _ => rfl⟩, Or.inl ⟨rfl, rfl⟩, Or.inl ⟨rfl, rfl⟩, ⟨fun n hn => if_pos hn, fun n hn => if_pos hn⟩, ⟨⟨0, rfl, rfl, by omega, fun i hi => absurd hi (by omega)⟩, rfl, rfl⟩, fun t ht => ?_, fun i hi => Or.inl ⟨rfl, rfl, rfl, rfl, fun j hj => hw _ (by omega)⟩⟩
  have : t = 0 ∨ t = 1 ∨ t = 2 ∨ t = 3 := by omega
  rcases this with rfl | rfl | rfl | rfl <;> exact Or.inl ⟨rfl, rfl⟩
section
variable {E : Ev} {r r' : Nat → Nat} {a b c : Nat} {lv : Nat → Bool} {h : Hp}
set_option maxRecDepth 100000 in
theorem q65 (pf : (∀ i, i < 165 → lv i = true) ∧ (∀ i j, lv i = true → lv j = true → adr0 r r' a b c i = adr0 r r' a b c j → i = j) ∧ (∀ i, lv i = true → i < 261)) : (.inl (E.1 8, 24, .inr (.inr (.inr (.inr (va_up (va_up (va_up (va_up (va_up (va_up (va_up (va_up (va_up (va_up (va_up (va_up (va_up (va_up (va_up (va_up (va_up (va_up (va_up (va_up (va_up (va_up (va_up (va_up (fun _ => none) 0 (some (r 73))) 1 (some (r 75))) 2 (some (r 77))) 3 (some (r 79))) 4 (some (r 81))) 5 (some (r 83))) 6 (some (r 85))) 7 (some (r 87))) 8 (some (r 89))) 9 (some (r 91))) 10 (some (r 93))) 11 (some (r 95))) 12 (some (r 97))) 13 (some (r 99))) 14 (some (r 101))) 15 (some (r 103))) 16 (some (r 105))) 17 (some (r 107))) 18 (some (r 109))) 19 (some (r 111))) 20 (some (r 113))) 21 (some (r 115))) 22 (some (r 117))) 23 (some (r 119))))))) : va_E) = cel E ⟨(adr0 r r' a b c, lv, h), pf⟩ I0 L0 Q0 65 := by
  have e : ∀ f g : Nat → Option Nat, f = g → (.inl (E.1 8, 24, .inr (.inr (.inr (.inr f)))) : va_E) = .inl (E.1 8, 24, .inr (.inr (.inr (.inr g)))) := fun f g h => by rw [h]
  refine e _ (fun i => (Q0 65 i).map (rr ⟨(adr0 r r' a b c, lv, h), pf⟩)) (funext fun i => ?_)
  by_cases hi : i < 24
  · have : i = 0 ∨ i = 1 ∨ i = 2 ∨ i = 3 ∨ i = 4 ∨ i = 5 ∨ i = 6 ∨ i = 7 ∨ i = 8 ∨ i = 9 ∨ i = 10 ∨ i = 11 ∨ i = 12 ∨ i = 13 ∨ i = 14 ∨ i = 15 ∨ i = 16 ∨ i = 17 ∨ i = 18 ∨ i = 19 ∨ i = 20 ∨ i = 21 ∨ i = 22 ∨ i = 23 := by omega
    rcases this with rfl | rfl | rfl | rfl | rfl | rfl | rfl | rfl | rfl | rfl | rfl | rfl | rfl | rfl | rfl | rfl | rfl | rfl | rfl | rfl | rfl | rfl | rfl | rfl <;> rfl
  · have e1 : Q0 65 i = none := if_neg hi
    rw [e1]
    unfold va_up
    rw [if_neg (by omega), if_neg (by omega), if_neg (by omega), if_neg (by omega), if_neg (by omega), if_neg (by omega), if_neg (by omega), if_neg (by omega), if_neg (by omega), if_neg (by omega), if_neg (by omega), if_neg (by omega), if_neg (by omega), if_neg (by omega), if_neg (by omega), if_neg (by omega), if_neg (by omega), if_neg (by omega), if_neg (by omega), if_neg (by omega), if_neg (by omega), if_neg (by omega), if_neg (by omega), if_neg (by omega)]
    rfl
theorem q124 (pf : (∀ i, i < 165 → lv i = true) ∧ (∀ i j, lv i = true → lv j = true → adr0 r r' a b c i = adr0 r r' a b c j → i = j) ∧ (∀ i, lv i = true → i < 261)) : (.inl (E.1 4, 4, .inr (.inr (.inr (.inr (va_up (va_up (va_up (va_up (fun _ => none) 0 (some (r 128))) 1 (some (r 130))) 2 (some (r 132))) 3 (some (r 134))))))) : va_E) = cel E ⟨(adr0 r r' a b c, lv, h), pf⟩ I0 L0 Q0 124 := by
  have e : ∀ f g : Nat → Option Nat, f = g → (.inl (E.1 4, 4, .inr (.inr (.inr (.inr f)))) : va_E) = .inl (E.1 4, 4, .inr (.inr (.inr (.inr g)))) := fun f g h => by rw [h]
  refine e _ (fun i => (Q0 124 i).map (rr ⟨(adr0 r r' a b c, lv, h), pf⟩)) (funext fun i => ?_)
  by_cases hi : i < 4
  · have : i = 0 ∨ i = 1 ∨ i = 2 ∨ i = 3 := by omega
    rcases this with rfl | rfl | rfl | rfl <;> rfl
  · have e1 : Q0 124 i = none := if_neg hi
    rw [e1]
    unfold va_up
    rw [if_neg (by omega), if_neg (by omega), if_neg (by omega), if_neg (by omega)]
    rfl
set_option maxRecDepth 100000 in
theorem st_A {h2 : Hp} (pf : (∀ i, i < 165 → lv i = true) ∧ (∀ i j, lv i = true → lv j = true → adr0 r r' a b c i = adr0 r r' a b c j → i = j) ∧ (∀ i, lv i = true → i < 261)) (A : AtL h2 r [.inr (3, fsX3 (fun i => [].getD i 0) (fun i => [(r 1), (r 2), (r 3), (r 4), (r 5), (r 6), (r 7), (r 8), (r 9), (r 10), (r 11), (r 12), (r 13), (r 14)].getD i 0) (fun i => [(0 : Int32), (0 : Int32), (0 : Int32)].getD i 0) (fun _ => 0)), .inl (E.1 0, 40, .inl (fun _ => 0)), .inl (E.1 0, 40, .inl (fun _ => 0)), .inl (E.1 0, 60, .inl (fun _ => 0)), .inl (E.1 0, 60, .inl (fun _ => 0)), .inl (E.1 0, 60, .inl (fun _ => 0)), .inl (E.1 0, 60, .inl (fun _ => 0)), .inl (E.1 0, 240, .inl (fun _ => 0)), .inl (E.1 0, 120, .inl (fun _ => 0)), .inl (E.1 0, 120, .inl (fun _ => 0)), .inl (E.1 0, 40, .inl (fun _ => 0)), .inl (E.1 0, 40, .inl (fun _ => 0)), .inl (E.1 2, 40, .inl (fun _ => 0)), .inl (E.1 0, 40, .inl (fun _ => 0)), .inl (E.1 0, 40, .inl (fun _ => 0)), .inr (2, fsX2 (fun i => [].getD i 0) (fun i => [(r 16), (r 17), (r 18), (r 19), (r 20), (r 21)].getD i 0) (fun i => [(0 : Int32), (0 : Int32)].getD i 0) (fun _ => 0)), .inl (E.1 0, 72, .inl (fun _ => 0)), .inl (E.1 0, 8, .inl (fun _ => 0)), .inl (E.1 0, 8, .inl (fun _ => 0)), .inl (E.1 2, 8, .inl (fun _ => 0)), .inl (E.1 2, 8, .inl (fun _ => 0)), .inl (E.1 0, 8, .inl (fun _ => 0)), .inr (0, fsX0 (fun i => [].getD i 0) (fun i => [(r 23), (r 24), (r 25), (r 26), (r 27), (r 28), (r 29), (r 30), (r 31)].getD i 0) (fun i => [(0 : Int32), (0 : Int32)].getD i 0) (fun _ => 0)), .inl (E.1 0, 12, .inl (fun _ => 0)), .inl (E.1 0, 12, .inl (fun _ => 0)), .inl (E.1 0, 12, .inl (fun _ => 0)), .inl (E.1 0, 480, .inl (fun _ => 0)), .inl (E.1 0, 30, .inl (fun _ => 0)), .inl (E.1 0, 30, .inl (fun _ => 0)), .inl (E.1 0, 30, .inl (fun _ => 0)), .inl (E.1 0, 30, .inl (fun _ => 0)), .inl (E.1 0, 30, .inl (fun _ => 0)), .inr (10, fsX10 (fun i => [(r 0)].getD i 0) (fun i => [(r 33), (r 34), (r 35), (r 36), (r 37), (r 38), (r 39)].getD i 0) (fun i => [((0) : Int32), ((-1) : Int32), ((1) : Int32)].getD i 0) (fun _ => 0)), .inl (E.1 1, 2, .inr (.inl (fun _ => 0))), .inl (E.1 1, 80, .inr (.inl (fun _ => 0))), .inl (E.1 1, 40, .inr (.inl (fun _ => 0))), .inl (E.1 1, 12, .inr (.inl (fun _ => 0))), .inl (E.1 1, 12, .inr (.inl (fun _ => 0))), .inl (E.1 2, 240, .inl (fun _ => 0)), .inl (E.1 1, 1920, .inr (.inl (fun _ => 0))), .inr (9, fsX9 (fun i => [(r 32), (r 15), (r 22), (r 48), (r 43), (r 45)].getD i 0) (fun i => [(r 41), (r 42), (r 47)].getD i 0) (fun i => [(0 : Int32)].getD i 0) (fun _ => 0)), .inl (E.1 0, 96, .inl (fun _ => 0)), .inl (E.1 1, 96, .inr (.inl (fun _ => 0))), .inr (6, fsX6 (fun i => [].getD i 0) (fun i => [(r 44)].getD i 0) (fun i => [].getD i 0) (fun _ => 0)), .inl (E.1 1, 4, .inr (.inl (fun _ => 0))), .inr (6, fsX6 (fun i => [].getD i 0) (fun i => [(r 46)].getD i 0) (fun i => [].getD i 0) (fun _ => 0)), .inl (E.1 1, 4, .inr (.inl (fun _ => 0))), .inl (E.1 0, 240, .inl (fun _ => 0)), .inr (7, fsX7 (fun i => [((r 32))].getD i 0) (fun i => [(r 49), (r 50), (r 51), (r 52), (r 53)].getD i 0) (fun i => [(0 : Int32), (0 : Int32), (0 : Int32), (0 : Int32)].getD i 0) (fun _ => 0)), .inl (E.1 0, 120, .inl (fun _ => 0)), .inl (E.1 1, 120, .inr (.inl (fun _ => 0))), .inl (E.1 0, 120, .inl (fun _ => 0)), .inl (E.1 1, 120, .inr (.inl (fun _ => 0))), .inl (E.1 0, 1, .inl (fun _ => 0)), .inr (4, fsX4 (fun i => [(r 40), (r 58)].getD i 0) (fun i => [(r 55), (r 56), (r 57), (r 60), (r 61), (r 62)].getD i 0) (fun i => [].getD i 0) (fun _ => 0)), .inl (E.1 0, 240, .inl (fun _ => 0)), .inl (E.1 0, 240, .inl (fun _ => 0)), .inl (E.1 0, 1, .inl (fun _ => 0)), .inr (6, fsX6 (fun i => [].getD i 0) (fun i => [(r 59)].getD i 0) (fun i => [].getD i 0) (fun _ => 0)), .inl (E.1 1, 4, .inr (.inl (fun _ => 0))), .inl (E.1 0, 240, .inl (fun _ => 0)), .inl (E.1 0, 40, .inl (fun _ => 0)), .inl (E.1 0, 40, .inl (fun _ => 0)), .inr (1, fsX1 (fun i => [(r 40), (r 69)].getD i 0) (fun i => [(r 64), (r 65), (r 66), (r 67), (r 68), (r 71), (r 72)].getD i 0) (fun i => [(0 : Int32)].getD i 0) (fun _ => 0)), .inl (E.1 0, 3, .inl (fun _ => 0)), .inl (E.1 8, 24, .inr (.inr (.inr (.inr (va_up (va_up (va_up (va_up (va_up (va_up (va_up (va_up (va_up (va_up (va_up (va_up (va_up (va_up (va_up (va_up (va_up (va_up (va_up (va_up (va_up (va_up (va_up (va_up (fun _ => none) 0 (some (r 73))) 1 (some (r 75))) 2 (some (r 77))) 3 (some (r 79))) 4 (some (r 81))) 5 (some (r 83))) 6 (some (r 85))) 7 (some (r 87))) 8 (some (r 89))) 9 (some (r 91))) 10 (some (r 93))) 11 (some (r 95))) 12 (some (r 97))) 13 (some (r 99))) 14 (some (r 101))) 15 (some (r 103))) 16 (some (r 105))) 17 (some (r 107))) 18 (some (r 109))) 19 (some (r 111))) 20 (some (r 113))) 21 (some (r 115))) 22 (some (r 117))) 23 (some (r 119))))))), .inl (E.1 0, 1920, .inl (fun _ => 0)), .inl (E.1 0, 1920, .inl (fun _ => 0)), .inl (E.1 0, 1920, .inl (fun _ => 0)), .inr (6, fsX6 (fun i => [].getD i 0) (fun i => [(r 70)].getD i 0) (fun i => [].getD i 0) (fun _ => 0)), .inl (E.1 1, 4, .inr (.inl (fun _ => 0))), .inl (E.1 0, 240, .inl (fun _ => 0)), .inl (E.1 0, 1, .inl (fun _ => 0)), .inr (6, fsX6 (fun i => [].getD i 0) (fun i => [(r 74)].getD i 0) (fun i => [].getD i 0) (fun _ => 0)), .inl (E.1 1, 4, .inr (.inl (fun _ => 0))), .inr (6, fsX6 (fun i => [].getD i 0) (fun i => [(r 76)].getD i 0) (fun i => [].getD i 0) (fun _ => 0)), .inl (E.1 1, 4, .inr (.inl (fun _ => 0))), .inr (6, fsX6 (fun i => [].getD i 0) (fun i => [(r 78)].getD i 0) (fun i => [].getD i 0) (fun _ => 0)), .inl (E.1 1, 4, .inr (.inl (fun _ => 0))), .inr (6, fsX6 (fun i => [].getD i 0) (fun i => [(r 80)].getD i 0) (fun i => [].getD i 0) (fun _ => 0)), .inl (E.1 1, 4, .inr (.inl (fun _ => 0))), .inr (6, fsX6 (fun i => [].getD i 0) (fun i => [(r 82)].getD i 0) (fun i => [].getD i 0) (fun _ => 0)), .inl (E.1 1, 4, .inr (.inl (fun _ => 0))), .inr (6, fsX6 (fun i => [].getD i 0) (fun i => [(r 84)].getD i 0) (fun i => [].getD i 0) (fun _ => 0)), .inl (E.1 1, 4, .inr (.inl (fun _ => 0))), .inr (6, fsX6 (fun i => [].getD i 0) (fun i => [(r 86)].getD i 0) (fun i => [].getD i 0) (fun _ => 0)), .inl (E.1 1, 4, .inr (.inl (fun _ => 0))), .inr (6, fsX6 (fun i => [].getD i 0) (fun i => [(r 88)].getD i 0) (fun i => [].getD i 0) (fun _ => 0)), .inl (E.1 1, 4, .inr (.inl (fun _ => 0))), .inr (6, fsX6 (fun i => [].getD i 0) (fun i => [(r 90)].getD i 0) (fun i => [].getD i 0) (fun _ => 0)), .inl (E.1 1, 4, .inr (.inl (fun _ => 0))), .inr (6, fsX6 (fun i => [].getD i 0) (fun i => [(r 92)].getD i 0) (fun i => [].getD i 0) (fun _ => 0)), .inl (E.1 1, 4, .inr (.inl (fun _ => 0))), .inr (6, fsX6 (fun i => [].getD i 0) (fun i => [(r 94)].getD i 0) (fun i => [].getD i 0) (fun _ => 0)), .inl (E.1 1, 4, .inr (.inl (fun _ => 0))), .inr (6, fsX6 (fun i => [].getD i 0) (fun i => [(r 96)].getD i 0) (fun i => [].getD i 0) (fun _ => 0)), .inl (E.1 1, 4, .inr (.inl (fun _ => 0))), .inr (6, fsX6 (fun i => [].getD i 0) (fun i => [(r 98)].getD i 0) (fun i => [].getD i 0) (fun _ => 0)), .inl (E.1 1, 4, .inr (.inl (fun _ => 0))), .inr (6, fsX6 (fun i => [].getD i 0) (fun i => [(r 100)].getD i 0) (fun i => [].getD i 0) (fun _ => 0)), .inl (E.1 1, 4, .inr (.inl (fun _ => 0))), .inr (6, fsX6 (fun i => [].getD i 0) (fun i => [(r 102)].getD i 0) (fun i => [].getD i 0) (fun _ => 0)), .inl (E.1 1, 4, .inr (.inl (fun _ => 0))), .inr (6, fsX6 (fun i => [].getD i 0) (fun i => [(r 104)].getD i 0) (fun i => [].getD i 0) (fun _ => 0)), .inl (E.1 1, 4, .inr (.inl (fun _ => 0))), .inr (6, fsX6 (fun i => [].getD i 0) (fun i => [(r 106)].getD i 0) (fun i => [].getD i 0) (fun _ => 0)), .inl (E.1 1, 4, .inr (.inl (fun _ => 0))), .inr (6, fsX6 (fun i => [].getD i 0) (fun i => [(r 108)].getD i 0) (fun i => [].getD i 0) (fun _ => 0)), .inl (E.1 1, 4, .inr (.inl (fun _ => 0))), .inr (6, fsX6 (fun i => [].getD i 0) (fun i => [(r 110)].getD i 0) (fun i => [].getD i 0) (fun _ => 0)), .inl (E.1 1, 4, .inr (.inl (fun _ => 0))), .inr (6, fsX6 (fun i => [].getD i 0) (fun i => [(r 112)].getD i 0) (fun i => [].getD i 0) (fun _ => 0)), .inl (E.1 1, 4, .inr (.inl (fun _ => 0))), .inr (6, fsX6 (fun i => [].getD i 0) (fun i => [(r 114)].getD i 0) (fun i => [].getD i 0) (fun _ => 0)), .inl (E.1 1, 4, .inr (.inl (fun _ => 0))), .inr (6, fsX6 (fun i => [].getD i 0) (fun i => [(r 116)].getD i 0) (fun i => [].getD i 0) (fun _ => 0)), .inl (E.1 1, 4, .inr (.inl (fun _ => 0))), .inr (6, fsX6 (fun i => [].getD i 0) (fun i => [(r 118)].getD i 0) (fun i => [].getD i 0) (fun _ => 0)), .inl (E.1 1, 4, .inr (.inl (fun _ => 0))), .inr (6, fsX6 (fun i => [].getD i 0) (fun i => [(r 120)].getD i 0) (fun i => [].getD i 0) (fun _ => 0)), .inl (E.1 1, 4, .inr (.inl (fun _ => 0))), .inr (5, fsX5 (fun i => [].getD i 0) (fun i => [(r 122), (r 123)].getD i 0) (fun i => [(0 : Int32), (0 : Int32), ((-1) : Int32), (0 : Int32), (0 : Int32), (0 : Int32), (0 : Int32), (0 : Int32), (0 : Int32), (0 : Int32), (0 : Int32), (0 : Int32)].getD i 0) (fun _ => 0)), .inl (E.1 3, 200, .inl (fun _ => 0)), .inl (E.1 0, 40, .inl (fun _ => 0)), .inl (E.1 4, 4, .inr (.inr (.inr (.inr (va_up (va_up (va_up (va_up (fun _ => none) 0 (some (r 128))) 1 (some (r 130))) 2 (some (r 132))) 3 (some (r 134))))))), .inl (E.1 5, 3, .inr (.inr (.inr (.inr (fun _ => none))))), .inl (E.1 6, 3, .inr (.inr (.inr (.inr (fun _ => none))))), .inl (E.1 7, 3, .inr (.inr (.inr (.inr (fun _ => none))))), .inr (8, fsX8 (fun i => [].getD i 0) (fun i => [(r 129)].getD i 0) (fun i => [((1) : Int32), (0 : Int32), (0 : Int32)].getD i 0) (fun _ => 0)), .inl (E.1 1, 12, .inr (.inl (fun _ => 0))), .inr (8, fsX8 (fun i => [].getD i 0) (fun i => [(r 131)].getD i 0) (fun i => [((1) : Int32), (0 : Int32), (0 : Int32)].getD i 0) (fun _ => 0)), .inl (E.1 1, 12, .inr (.inl (fun _ => 0))), .inr (8, fsX8 (fun i => [].getD i 0) (fun i => [(r 133)].getD i 0) (fun i => [((1) : Int32), (0 : Int32), (0 : Int32)].getD i 0) (fun _ => 0)), .inl (E.1 1, 12, .inr (.inl (fun _ => 0))), .inr (8, fsX8 (fun i => [].getD i 0) (fun i => [(r 135)].getD i 0) (fun i => [((1) : Int32), (0 : Int32), (0 : Int32)].getD i 0) (fun _ => 0)), .inl (E.1 1, 12, .inr (.inl (fun _ => 0)))]) : ∀ k, k < 136 → h2 (r k) = some (cel E ⟨(adr0 r r' a b c, lv, h), pf⟩ I0 L0 Q0 k) := by
  intro k hk
  by_cases c0 : k = 0
  · rw [c0]; exact A 0 _ rfl
  by_cases c1 : k = 1
  · rw [c1]; exact A 1 _ rfl
  by_cases c2 : k = 2
  · rw [c2]; exact A 2 _ rfl
  by_cases c3 : k = 3
  · rw [c3]; exact A 3 _ rfl
  by_cases c4 : k = 4
  · rw [c4]; exact A 4 _ rfl
  by_cases c5 : k = 5
  · rw [c5]; exact A 5 _ rfl
  by_cases c6 : k = 6
  · rw [c6]; exact A 6 _ rfl
  by_cases c7 : k = 7
  · rw [c7]; exact A 7 _ rfl
  by_cases c8 : k = 8
  · rw [c8]; exact A 8 _ rfl
  by_cases c9 : k = 9
  · rw [c9]; exact A 9 _ rfl
  by_cases c10 : k = 10
  · rw [c10]; exact A 10 _ rfl
  by_cases c11 : k = 11
  · rw [c11]; exact A 11 _ rfl
  by_cases c12 : k = 12
  · rw [c12]; exact A 12 _ rfl
  by_cases c13 : k = 13
  · rw [c13]; exact A 13 _ rfl
  by_cases c14 : k = 14
  · rw [c14]; exact A 14 _ rfl
  by_cases c15 : k = 15
  · rw [c15]; exact A 15 _ rfl
  by_cases c16 : k = 16
  · rw [c16]; exact A 16 _ rfl
  by_cases c17 : k = 17
  · rw [c17]; exact A 17 _ rfl
  by_cases c18 : k = 18
  · rw [c18]; exact A 18 _ rfl
  by_cases c19 : k = 19
  · rw [c19]; exact A 19 _ rfl
  by_cases c20 : k = 20
  · rw [c20]; exact A 20 _ rfl
  by_cases c21 : k = 21
  · rw [c21]; exact A 21 _ rfl
  by_cases c22 : k = 22
  · rw [c22]; exact A 22 _ rfl
  by_cases c23 : k = 23
  · rw [c23]; exact A 23 _ rfl
  by_cases c24 : k = 24
  · rw [c24]; exact A 24 _ rfl
  by_cases c25 : k = 25
  · rw [c25]; exact A 25 _ rfl
  by_cases c26 : k = 26
  · rw [c26]; exact A 26 _ rfl
  by_cases c27 : k = 27
  · rw [c27]; exact A 27 _ rfl
  by_cases c28 : k = 28
  · rw [c28]; exact A 28 _ rfl
  by_cases c29 : k = 29
  · rw [c29]; exact A 29 _ rfl
  by_cases c30 : k = 30
  · rw [c30]; exact A 30 _ rfl
  by_cases c31 : k = 31
  · rw [c31]; exact A 31 _ rfl
  by_cases c32 : k = 32
  · rw [c32]; exact A 32 _ rfl
  by_cases c33 : k = 33
  · rw [c33]; exact A 33 _ rfl
  by_cases c34 : k = 34
  · rw [c34]; exact A 34 _ rfl
  by_cases c35 : k = 35
  · rw [c35]; exact A 35 _ rfl
  by_cases c36 : k = 36
  · rw [c36]; exact A 36 _ rfl
  by_cases c37 : k = 37
  · rw [c37]; exact A 37 _ rfl
  by_cases c38 : k = 38
  · rw [c38]; exact A 38 _ rfl
  by_cases c39 : k = 39
  · rw [c39]; exact A 39 _ rfl
  by_cases c40 : k = 40
  · rw [c40]; exact A 40 _ rfl
  by_cases c41 : k = 41
  · rw [c41]; exact A 41 _ rfl
  by_cases c42 : k = 42
  · rw [c42]; exact A 42 _ rfl
  by_cases c43 : k = 43
  · rw [c43]; exact A 43 _ rfl
  by_cases c44 : k = 44
  · rw [c44]; exact A 44 _ rfl
  by_cases c45 : k = 45
  · rw [c45]; exact A 45 _ rfl
  by_cases c46 : k = 46
  · rw [c46]; exact A 46 _ rfl
  by_cases c47 : k = 47
  · rw [c47]; exact A 47 _ rfl
  by_cases c48 : k = 48
  · rw [c48]; exact A 48 _ rfl
  by_cases c49 : k = 49
  · rw [c49]; exact A 49 _ rfl
  by_cases c50 : k = 50
  · rw [c50]; exact A 50 _ rfl
  by_cases c51 : k = 51
  · rw [c51]; exact A 51 _ rfl
  by_cases c52 : k = 52
  · rw [c52]; exact A 52 _ rfl
  by_cases c53 : k = 53
  · rw [c53]; exact A 53 _ rfl
  by_cases c54 : k = 54
  · rw [c54]; exact A 54 _ rfl
  by_cases c55 : k = 55
  · rw [c55]; exact A 55 _ rfl
  by_cases c56 : k = 56
  · rw [c56]; exact A 56 _ rfl
  by_cases c57 : k = 57
  · rw [c57]; exact A 57 _ rfl
  by_cases c58 : k = 58
  · rw [c58]; exact A 58 _ rfl
  by_cases c59 : k = 59
  · rw [c59]; exact A 59 _ rfl
  by_cases c60 : k = 60
  · rw [c60]; exact A 60 _ rfl
  by_cases c61 : k = 61
  · rw [c61]; exact A 61 _ rfl
  by_cases c62 : k = 62
  · rw [c62]; exact A 62 _ rfl
  by_cases c63 : k = 63
  · rw [c63]; exact A 63 _ rfl
  by_cases c64 : k = 64
  · rw [c64]; exact A 64 _ rfl
  by_cases c65 : k = 65
  · rw [c65, A 65 _ rfl, q65 pf]
  by_cases c66 : k = 66
  · rw [c66]; exact A 66 _ rfl
  by_cases c67 : k = 67
  · rw [c67]; exact A 67 _ rfl
  by_cases c68 : k = 68
  · rw [c68]; exact A 68 _ rfl
  by_cases c69 : k = 69
  · rw [c69]; exact A 69 _ rfl
  by_cases c70 : k = 70
  · rw [c70]; exact A 70 _ rfl
  by_cases c71 : k = 71
  · rw [c71]; exact A 71 _ rfl
  by_cases c72 : k = 72
  · rw [c72]; exact A 72 _ rfl
  by_cases c73 : k = 73
  · rw [c73]; exact A 73 _ rfl
  by_cases c74 : k = 74
  · rw [c74]; exact A 74 _ rfl
  by_cases c75 : k = 75
  · rw [c75]; exact A 75 _ rfl
  by_cases c76 : k = 76
  · rw [c76]; exact A 76 _ rfl
  by_cases c77 : k = 77
  · rw [c77]; exact A 77 _ rfl
  by_cases c78 : k = 78
  · rw [c78]; exact A 78 _ rfl
  by_cases c79 : k = 79
  · rw [c79]; exact A 79 _ rfl
  by_cases c80 : k = 80
  · rw [c80]; exact A 80 _ rfl
  by_cases c81 : k = 81
  · rw [c81]; exact A 81 _ rfl
  by_cases c82 : k = 82
  · rw [c82]; exact A 82 _ rfl
  by_cases c83 : k = 83
  · rw [c83]; exact A 83 _ rfl
  by_cases c84 : k = 84
  · rw [c84]; exact A 84 _ rfl
  by_cases c85 : k = 85
  · rw [c85]; exact A 85 _ rfl
  by_cases c86 : k = 86
  · rw [c86]; exact A 86 _ rfl
  by_cases c87 : k = 87
  · rw [c87]; exact A 87 _ rfl
  by_cases c88 : k = 88
  · rw [c88]; exact A 88 _ rfl
  by_cases c89 : k = 89
  · rw [c89]; exact A 89 _ rfl
  by_cases c90 : k = 90
  · rw [c90]; exact A 90 _ rfl
  by_cases c91 : k = 91
  · rw [c91]; exact A 91 _ rfl
  by_cases c92 : k = 92
  · rw [c92]; exact A 92 _ rfl
  by_cases c93 : k = 93
  · rw [c93]; exact A 93 _ rfl
  by_cases c94 : k = 94
  · rw [c94]; exact A 94 _ rfl
  by_cases c95 : k = 95
  · rw [c95]; exact A 95 _ rfl
  by_cases c96 : k = 96
  · rw [c96]; exact A 96 _ rfl
  by_cases c97 : k = 97
  · rw [c97]; exact A 97 _ rfl
  by_cases c98 : k = 98
  · rw [c98]; exact A 98 _ rfl
  by_cases c99 : k = 99
  · rw [c99]; exact A 99 _ rfl
  by_cases c100 : k = 100
  · rw [c100]; exact A 100 _ rfl
  by_cases c101 : k = 101
  · rw [c101]; exact A 101 _ rfl
  by_cases c102 : k = 102
  · rw [c102]; exact A 102 _ rfl
  by_cases c103 : k = 103
  · rw [c103]; exact A 103 _ rfl
  by_cases c104 : k = 104
  · rw [c104]; exact A 104 _ rfl
  by_cases c105 : k = 105
  · rw [c105]; exact A 105 _ rfl
  by_cases c106 : k = 106
  · rw [c106]; exact A 106 _ rfl
  by_cases c107 : k = 107
  · rw [c107]; exact A 107 _ rfl
  by_cases c108 : k = 108
  · rw [c108]; exact A 108 _ rfl
  by_cases c109 : k = 109
  · rw [c109]; exact A 109 _ rfl
  by_cases c110 : k = 110
  · rw [c110]; exact A 110 _ rfl
  by_cases c111 : k = 111
  · rw [c111]; exact A 111 _ rfl
  by_cases c112 : k = 112
  · rw [c112]; exact A 112 _ rfl
  by_cases c113 : k = 113
  · rw [c113]; exact A 113 _ rfl
  by_cases c114 : k = 114
  · rw [c114]; exact A 114 _ rfl
  by_cases c115 : k = 115
  · rw [c115]; exact A 115 _ rfl
  by_cases c116 : k = 116
  · rw [c116]; exact A 116 _ rfl
  by_cases c117 : k = 117
  · rw [c117]; exact A 117 _ rfl
  by_cases c118 : k = 118
  · rw [c118]; exact A 118 _ rfl
  by_cases c119 : k = 119
  · rw [c119]; exact A 119 _ rfl
  by_cases c120 : k = 120
  · rw [c120]; exact A 120 _ rfl
  by_cases c121 : k = 121
  · rw [c121]; exact A 121 _ rfl
  by_cases c122 : k = 122
  · rw [c122]; exact A 122 _ rfl
  by_cases c123 : k = 123
  · rw [c123]; exact A 123 _ rfl
  by_cases c124 : k = 124
  · rw [c124, A 124 _ rfl, q124 pf]
  by_cases c125 : k = 125
  · rw [c125]; exact A 125 _ rfl
  by_cases c126 : k = 126
  · rw [c126]; exact A 126 _ rfl
  by_cases c127 : k = 127
  · rw [c127]; exact A 127 _ rfl
  by_cases c128 : k = 128
  · rw [c128]; exact A 128 _ rfl
  by_cases c129 : k = 129
  · rw [c129]; exact A 129 _ rfl
  by_cases c130 : k = 130
  · rw [c130]; exact A 130 _ rfl
  by_cases c131 : k = 131
  · rw [c131]; exact A 131 _ rfl
  by_cases c132 : k = 132
  · rw [c132]; exact A 132 _ rfl
  by_cases c133 : k = 133
  · rw [c133]; exact A 133 _ rfl
  by_cases c134 : k = 134
  · rw [c134]; exact A 134 _ rfl
  by_cases c135 : k = 135
  · rw [c135]; exact A 135 _ rfl
  omega
set_option maxRecDepth 100000 in
theorem st_B {h4 : Hp} (pf : (∀ i, i < 165 → lv i = true) ∧ (∀ i j, lv i = true → lv j = true → adr0 r r' a b c i = adr0 r r' a b c j → i = j) ∧ (∀ i, lv i = true → i < 261)) (A : AtL h4 r' [.inl (E.1 0, 2988, .inl (fun _ => 0)), .inl (E.1 0, 8964, .inl (fun _ => 0)), .inl (E.1 2, 3, .inl (fun _ => 0)), .inl (E.1 1, 4800, .inr (.inl (fun _ => 0))), .inl (E.1 1, 384, .inr (.inl (fun _ => 0))), .inl (E.1 2, 96, .inl (fun _ => 0)), .inl (E.1 0, 120, .inl (fun _ => 0)), .inl (E.1 0, 200, .inl (fun _ => 0)), .inl (E.1 0, 173, .inl (fun _ => 0)), .inl (E.1 1, 4, .inr (.inl (fun _ => 0))), .inl (E.1 1, 4, .inr (.inl (fun _ => 0))), .inl (E.1 1, 4, .inr (.inl (fun _ => 0))), .inl (E.1 1, 164, .inr (.inl (fun _ => 0))), .inl (E.1 1, 164, .inr (.inl (fun _ => 0))), .inl (E.1 1, 4, .inr (.inl (fun _ => 0))), .inl (E.1 1, 4, .inr (.inl (fun _ => 0))), .inl (E.1 2, 40, .inl (fun _ => 0)), .inl (E.1 2, 40, .inl (fun _ => 0)), .inl (E.1 0, 240, .inl (fun _ => 0)), .inl (E.1 0, 240, .inl (fun _ => 0)), .inl (E.1 0, 40, .inl (fun _ => 0)), .inl (E.1 1, 128, .inr (.inl (fun _ => 0))), .inl (E.1 0, 3, .inl (fun _ => 0)), .inl (E.1 0, 4, .inl (upd (upd (upd (upd (fun _ => 0) 0 (-1)) 1 (-1)) 2 (-1)) 3 (-1))), .inl (E.1 0, 4, .inl (fun _ => 0)), .inl (E.1 1, 48, .inr (.inl (fun _ => 0)))]) : ∀ k, k < 26 → h4 (r' k) = some (cel E ⟨(adr0 r r' a b c, lv, h), pf⟩ I0 L0 Q0 (137 + k)) := by
  intro k hk
  by_cases c0 : k = 0
  · rw [c0]; exact A 0 _ rfl
  by_cases c1 : k = 1
  · rw [c1]; exact A 1 _ rfl
  by_cases c2 : k = 2
  · rw [c2]; exact A 2 _ rfl
  by_cases c3 : k = 3
  · rw [c3]; exact A 3 _ rfl
  by_cases c4 : k = 4
  · rw [c4]; exact A 4 _ rfl
  by_cases c5 : k = 5
  · rw [c5]; exact A 5 _ rfl
  by_cases c6 : k = 6
  · rw [c6]; exact A 6 _ rfl
  by_cases c7 : k = 7
  · rw [c7]; exact A 7 _ rfl
  by_cases c8 : k = 8
  · rw [c8]; exact A 8 _ rfl
  by_cases c9 : k = 9
  · rw [c9]; exact A 9 _ rfl
  by_cases c10 : k = 10
  · rw [c10]; exact A 10 _ rfl
  by_cases c11 : k = 11
  · rw [c11]; exact A 11 _ rfl
  by_cases c12 : k = 12
  · rw [c12]; exact A 12 _ rfl
  by_cases c13 : k = 13
  · rw [c13]; exact A 13 _ rfl
  by_cases c14 : k = 14
  · rw [c14]; exact A 14 _ rfl
  by_cases c15 : k = 15
  · rw [c15]; exact A 15 _ rfl
  by_cases c16 : k = 16
  · rw [c16]; exact A 16 _ rfl
  by_cases c17 : k = 17
  · rw [c17]; exact A 17 _ rfl
  by_cases c18 : k = 18
  · rw [c18]; exact A 18 _ rfl
  by_cases c19 : k = 19
  · rw [c19]; exact A 19 _ rfl
  by_cases c20 : k = 20
  · rw [c20]; exact A 20 _ rfl
  by_cases c21 : k = 21
  · rw [c21]; exact A 21 _ rfl
  by_cases c22 : k = 22
  · rw [c22]; exact A 22 _ rfl
  by_cases c23 : k = 23
  · rw [c23]; exact A 23 _ rfl
  by_cases c24 : k = 24
  · rw [c24]; exact A 24 _ rfl
  by_cases c25 : k = 25
  · rw [c25]; exact A 25 _ rfl
  omega
theorem st_136 (pf : (∀ i, i < 165 → lv i = true) ∧ (∀ i j, lv i = true → lv j = true → adr0 r r' a b c i = adr0 r r' a b c j → i = j) ∧ (∀ i, lv i = true → i < 261)) : ((.inr (11, fsX11 (fun i => [(r 0), (r 15), (r 22), (r 32), (r 40), (r 54), (r 63), (r 121)].getD i 0) (fun i => [(r 124), (r 125), (r 126), (r 127)].getD i 0) (fun i => [].getD i 0) (fun _ => 0))) : va_E) = cel E ⟨(adr0 r r' a b c, lv, h), pf⟩ I0 L0 Q0 136 := rfl
set_option maxRecDepth 100000 in
theorem st_163 (pf : (∀ i, i < 165 → lv i = true) ∧ (∀ i j, lv i = true → lv j = true → adr0 r r' a b c i = adr0 r r' a b c j → i = j) ∧ (∀ i, lv i = true → i < 261)) : ((.inr (12, fsX12 (fun i => [].getD i 0) (fun i => [(r' 0), (r' 1), (r' 2), (r' 3), (r' 4), (r' 5), (r' 6), (r' 7), (r' 8), (r' 9), (r' 10), (r' 11), (r' 12), (r' 13), (r' 14), (r' 15), (r' 16), (r' 17), (r' 18), (r' 19), (r' 20), (r' 21), (r' 22), (r' 23), (r' 24), (r' 25)].getD i 0) (fun i => [(0 : Int32), ((-1) : Int32), (0 : Int32), (0 : Int32), (0 : Int32), (0 : Int32), (0 : Int32), (0 : Int32), (0 : Int32), (0 : Int32), (0 : Int32), ((-1) : Int32), (0 : Int32), (0 : Int32)].getD i 0) (fun _ => 0))) : va_E) = cel E ⟨(adr0 r r' a b c, lv, h), pf⟩ I0 L0 Q0 163 := by
  unfold cel
  refine congrArg (fun l => (Sum.inr (12, l) : va_E)) ?_
  unfold fls fsX12
  simp only [List.mapIdx_cons, List.mapIdx_nil]
  rfl
theorem st_164 (pf : (∀ i, i < 165 → lv i = true) ∧ (∀ i j, lv i = true → lv j = true → adr0 r r' a b c i = adr0 r r' a b c j → i = j) ∧ (∀ i, lv i = true → i < 261)) : (.inl (E.1 1, 1, .inr (.inl (fun _ => 0))) : va_E) = cel E ⟨(adr0 r r' a b c, lv, h), pf⟩ I0 L0 Q0 164 := rfl
end
