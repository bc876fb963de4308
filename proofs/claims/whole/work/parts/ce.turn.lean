/-! one turn of the law -/
section
variable {Φ : Ou → Hp → Prop}
theorem ok_b {α : Type} {x : Option α} {v : α} {f : α → Rs} (e : x = some v) (q : OK (f v) Φ) : OK (x.bind f) Φ := by rw [e]; exact q
theorem ok_x {o : Rs} {v : Int32} {h : Hp} {x : String → Hp → Rs} {k : Int32 → Hp → Rs} (e : o = rtI v h) (q : OK (k v h) Φ) : OK (xI o x k) Φ := by rw [e]; exact q
theorem ok_c {o : Rs} {v : Int32} {h : Hp} {k : Int32 → Hp → Rs} (e : o = rtI v h) (q : OK (k v h) Φ) : OK (cI o k) Φ := by rw [e]; exact q
theorem ok_l {o : Rs} {v : Int64} {h : Hp} {k : Int64 → Hp → Rs} (e : o = rtL v h) (q : OK (k v h) Φ) : OK (cL o k) Φ := by rw [e]; exact q
theorem ok_v {o : Rs} {h : Hp} {k : Hp → Rs} (e : o = rtV h) (q : OK (k h) Φ) : OK (cV o k) Φ := by rw [e]; exact q
theorem ok_i {c : Prop} {i : Decidable c} {A B : Rs} (k1 : c → OK A Φ) (k2 : ¬ c → OK B Φ) : OK (@ite _ c i A B) Φ := by
  by_cases h : c
  · rw [if_pos h]; exact k1 h
  · rw [if_neg h]; exact k2 h
/-- answers that are a truth value -/
def Bo (o : Rs) : Prop := ∀ b h, o = rtI b h → b = 0 ∨ b = 1
theorem Bo_none : Bo none := fun _ _ e => by cases e
theorem Bo_Z {v : Int32} {h : Hp} : Bo (rtZ v h) := fun b h' e => by
  unfold rtZ rtI at e
  split at e
  · rename_i c
    have : v = b := by
      have e1 := congrArg (fun o => match o with | some (.inl (some (.int v)), _) => v | _ => 0) e
      exact e1
    rw [← this]; exact c
  · cases e
theorem Bo_b {α : Type} {x : Option α} {f : α → Rs} (q : ∀ v, Bo (f v)) : Bo (x.bind f) := by
  cases x with
  | none => exact Bo_none
  | some v => exact q v
theorem Bo_c {o : Rs} {k : Int32 → Hp → Rs} (q : ∀ v h, Bo (k v h)) : Bo (cI o k) := by
  unfold cI
  split
  · exact q _ _
  · exact Bo_none
theorem Bo_i {c : Prop} {i : Decidable c} {A B : Rs} (k1 : Bo A) (k2 : Bo B) : Bo (@ite _ c i A B) := by
  by_cases h : c
  · rw [if_pos h]; exact k1
  · rw [if_neg h]; exact k2
theorem Bo_right {E : Ev} {a : Nat} {x1 x2 x3 x4 : Int32} {h : Hp} : Bo (F_X12_right E a x1 x2 x3 x4 h) := by
  unfold F_X12_right
  repeat first | exact Bo_Z | refine Bo_b (fun _ => ?_) | refine Bo_c (fun _ _ => ?_) | refine Bo_i ?_ ?_
theorem Bo_stands {E : Ev} {a : Nat} {x1 x2 x3 x4 x5 : Int32} {h : Hp} : Bo (F_X12_stands E a x1 x2 x3 x4 x5 h) := by
  unfold F_X12_stands
  repeat first | exact Bo_Z | refine Bo_b (fun _ => ?_) | refine Bo_c (fun _ _ => ?_) | refine Bo_i ?_ ?_
end
section
variable {E : Ev} {w : Wo} {I I2 : Nat → Nat → Int32} {L L2 : Nat → Nat → Int64} {Q Q2 : Nat → Nat → Option Nat} {Φ : Ou → Hp → Prop}
theorem tailI {k b : Int32} {K : Hp → Rs} (hK : ∀ I L Q, Inv w I L Q → OK (K (Hw E w I L Q)) Φ) (q : Inv w I2 L2 Q2) (ek : I2 163 3 = k) (eb : k = 0 → L2 164 0 = b.toInt64) : OK ((isO (Hw E w I2 L2 Q2) (rr w 163) 12).bind fun _ => cI (F_X12_thrown E (rr w 163) (Hw E w I2 L2 Q2)) fun t h3 => if t = k then if ¬ k = 0 then K h3 else (gaL E h3 (rr w 164) (0 : Int32)).bind fun z => if z = b.toInt64 then K h3 else rtZ (0 : Int32) h3 else rtZ (0 : Int32) h3) Φ := by
  refine ok_b o163 (ok_c f_thrown (ok_i (fun _ => ok_i (fun _ => hK _ _ _ q) (fun z => ?_)) (fun z => absurd ek z)))
  refine ok_b (v := L2 164 0) (by rw [ga164, ix01]; rfl) (ok_i (fun _ => hK _ _ _ q) (fun z2 => absurd (eb (Classical.not_not.mp z)) z2))
theorem tailL {k : Int32} {b : Int64} {K : Hp → Rs} (hK : ∀ I L Q, Inv w I L Q → OK (K (Hw E w I L Q)) Φ) (q : Inv w I2 L2 Q2) (ek : I2 163 3 = k) (eb : k = 0 → L2 164 0 = b) : OK ((isO (Hw E w I2 L2 Q2) (rr w 163) 12).bind fun _ => cI (F_X12_thrown E (rr w 163) (Hw E w I2 L2 Q2)) fun t h3 => if t = k then if ¬ k = 0 then K h3 else (gaL E h3 (rr w 164) (0 : Int32)).bind fun z => if z = b then K h3 else rtZ (0 : Int32) h3 else rtZ (0 : Int32) h3) Φ := by
  refine ok_b o163 (ok_c f_thrown (ok_i (fun _ => ok_i (fun _ => hK _ _ _ q) (fun z => ?_)) (fun z => absurd ek z)))
  refine ok_b (v := L2 164 0) (by rw [ga164, ix01]; rfl) (ok_i (fun _ => hK _ _ _ q) (fun z2 => absurd (eb (Classical.not_not.mp z)) z2))
theorem tailB {k b : Int32} {K : Hp → Rs} (hb : b = 0 ∨ b = 1) (hK : ∀ I L Q, Inv w I L Q → OK (K (Hw E w I L Q)) Φ) (q : Inv w I2 L2 Q2) (ek : I2 163 3 = k) (eb : k = 0 → L2 164 0 = b.toInt64) : OK ((isO (Hw E w I2 L2 Q2) (rr w 163) 12).bind fun _ => cI (F_X12_thrown E (rr w 163) (Hw E w I2 L2 Q2)) fun t h3 => if t = k then if ¬ k = 0 then K h3 else (gaL E h3 (rr w 164) (0 : Int32)).bind fun z => if b = 0 then (if z = (0 : Int64) then K h3 else rtZ (0 : Int32) h3) else (if z = (1 : Int64) then K h3 else rtZ (0 : Int32) h3) else rtZ (0 : Int32) h3) Φ := by
  refine ok_b o163 (ok_c f_thrown (ok_i (fun _ => ok_i (fun _ => hK _ _ _ q) (fun z => ?_)) (fun z => absurd ek z)))
  have eb' := eb (Classical.not_not.mp z)
  refine ok_b (v := L2 164 0) (by rw [ga164, ix01]; rfl) (ok_i (fun y => ok_i (fun _ => hK _ _ _ q) (fun z2 => ?_)) (fun y => ok_i (fun _ => hK _ _ _ q) (fun z2 => ?_)))
  · rw [y] at eb'; exact absurd eb' z2
  · rcases hb with e | e
    · exact absurd e y
    · rw [e] at eb'; exact absurd eb' z2
theorem tailV {k : Int32} {K : Hp → Rs} (hK : ∀ I L Q, Inv w I L Q → OK (K (Hw E w I L Q)) Φ) (q : Inv w I2 L2 Q2) (ek : I2 163 3 = k) : OK ((isO (Hw E w I2 L2 Q2) (rr w 163) 12).bind fun _ => cI (F_X12_thrown E (rr w 163) (Hw E w I2 L2 Q2)) fun t h3 => if t = k then K h3 else rtZ (0 : Int32) h3) Φ :=
  ok_b o163 (ok_c f_thrown (ok_i (fun _ => hK _ _ _ q) (fun z => absurd ek z)))
theorem law_lt {n i : Nat} (hn : n ≤ 4096) (hi : i ≤ 8192) : nI n - (8 : Int32) < nI i ↔ n < i + 8 := by
  by_cases c : 8 ≤ n
  · rw [m8, nI_sub' c, nI_ltI (by omega) (by omega)]; omega
  · have : ∀ n, n < 8 → nI n - (8 : Int32) < 0 := by decide
    have h1 := this n (by omega)
    refine ⟨fun _ => by omega, fun _ => ?_⟩
    have h2 : (0 : Int32) ≤ nI i := Int32.not_lt.mp (nI_pos (by omega))
    exact Int32.lt_of_lt_of_le h1 h2
theorem turn {b n i : Nat} {xs : Nat → Int32} {K23 K3255 : Nat → Nat → Nat → Nat → Int32 → Hp → Rs} (hG : 100000 ≤ E.2.2.1) (q : Inv w I L Q) (hro : E.2.2.2 b = some (n, xs)) (hn : n ≤ 4096) (hi : i ≤ 8192) (hend : ∀ h, OK (rtZ (1 : Int32) h) Φ) (hK : ∀ I L Q, i + 8 ≤ n → Inv w I L Q → OK (K23 b (rr w 136) (rr w 163) (rr w 164) (nI (i + 8)) (Hw E w I L Q)) Φ) (hI : i + 8 ≤ n → OK (K3255 b (rr w 136) (rr w 163) (rr w 164) (nI i) (Hw E w I L Q)) Φ) : OK (J_L_law_23 E K23 K3255 b (rr w 136) (rr w 163) (rr w 164) (nI i) (Hw E w I L Q)) Φ := by
  unfold J_L_law_23
  have al : alnS E b = some (nI n) := by unfold alnS; rw [hro]; rfl
  refine ok_b al (ok_i (fun _ => hend _) (fun z => ?_))
  have hin : i + 8 ≤ n := by
    rw [law_lt hn hi] at z; omega
  have hK' : ∀ I L Q, Inv w I L Q → OK (K23 b (rr w 136) (rr w 163) (rr w 164) (nI i + (8 : Int32)) (Hw E w I L Q)) Φ := fun I L Q q => by
    rw [m8, nI_add]; exact hK I L Q hin q
  have gs : ∀ j, i + j < n → gaS E b (nI (i + j)) = some (xs (i + j)) := fun j hj => by
    unfold gaS; rw [hro]
    show (ix (nI (i + j)) n).map xs = _
    rw [ix_n hj (by omega)]; rfl
  have g0 : gaS E b (nI i) = some (xs i) := gs 0 (by omega)
  have g1 : gaS E b (nI i + (1 : Int32)) = some (xs (i + 1)) := by rw [nI_1]; exact gs 1 (by omega)

  have g2 : gaS E b (nI i + (2 : Int32)) = some (xs (i + 2)) := by rw [m2, nI_add]; exact gs 2 (by omega)
  have g3 : gaS E b (nI i + (3 : Int32)) = some (xs (i + 3)) := by rw [m3, nI_add]; exact gs 3 (by omega)
  have g4 : gaS E b (nI i + (4 : Int32)) = some (xs (i + 4)) := by rw [m4, nI_add]; exact gs 4 (by omega)
  have g5 : gaS E b (nI i + (5 : Int32)) = some (xs (i + 5)) := by rw [m5, nI_add]; exact gs 5 (by omega)
  have g6 : gaS E b (nI i + (6 : Int32)) = some (xs (i + 6)) := by rw [m6, nI_add]; exact gs 6 (by omega)
  have g7 : gaS E b (nI i + (7 : Int32)) = some (xs (i + 7)) := by rw [m7, nI_add]; exact gs 7 (by omega)
  refine ok_b g0 ?_
  refine ok_i (fun z0 => ?_) (fun z0 => ?_)
  · obtain ⟨k, b', I1, I2, L1, L2, Q1, Q2, e1, e2, e3, e4, e5⟩ := op_place (E := E) hG q (xs (i + 1)) (xs (i + 2))
    exact ok_b g1 (ok_b g2 (ok_x e1 (ok_b g1 (ok_b g2 (ok_b o163 (ok_c e2 (tailI hK' e3 e4 e5)))))))
  refine ok_i (fun z1 => ?_) (fun z1 => ?_)
  · obtain ⟨k, b', I1, I2, L1, L2, Q1, Q2, e1, e2, e3, e4, e5⟩ := op_way (E := E) hG q (xs (i + 1)) (xs (i + 2)) (xs (i + 3)) (xs (i + 4)) (xs (i + 5)) (xs (i + 6))
    exact ok_b g1 (ok_b g2 (ok_b g3 (ok_b g4 (ok_b g5 (ok_b g6 (ok_x e1 (ok_b g1 (ok_b g2 (ok_b g3 (ok_b g4 (ok_b g5 (ok_b g6 (ok_b o163 (ok_c e2 (tailI hK' e3 e4 e5)))))))))))))))
  refine ok_i (fun z2 => ?_) (fun z2 => ?_)
  · refine ok_b g1 (ok_b g2 (ok_b g3 (ok_i (fun z => ?_) (fun z => ?_))))
    · obtain ⟨k, b', I1, I2, L1, L2, Q1, Q2, e1, e2, e3, e4, e5⟩ := op_mark (E := E) q (xs (i + 1)) (xs (i + 2)) 0 (xs (i + 4)) (xs (i + 5)) (Or.inl rfl)
      unfold J_L_law_417
      refine ok_b g4 (ok_b g5 (ok_x e1 (ok_b g1 (ok_b g2 (ok_b g3 (ok_i (fun _ => ?_) (fun z' => absurd z z')))))))
      unfold J_L_law_462
      exact ok_b g4 (ok_b g5 (ok_b o163 (ok_c e2 (tailI hK' e3 e4 e5))))
    · obtain ⟨k, b', I1, I2, L1, L2, Q1, Q2, e1, e2, e3, e4, e5⟩ := op_mark (E := E) q (xs (i + 1)) (xs (i + 2)) 1 (xs (i + 4)) (xs (i + 5)) (Or.inr rfl)
      unfold J_L_law_417
      refine ok_b g4 (ok_b g5 (ok_x e1 (ok_b g1 (ok_b g2 (ok_b g3 (ok_i (fun z' => absurd z' z) (fun _ => ?_)))))))
      unfold J_L_law_462
      exact ok_b g4 (ok_b g5 (ok_b o163 (ok_c e2 (tailI hK' e3 e4 e5))))
  refine ok_i (fun z3 => ?_) (fun z3 => ?_)
  · refine ok_b g1 (ok_i (fun z => ?_) (fun z => ?_))
    · obtain ⟨k, b', I1, I2, L1, L2, Q1, Q2, e1, e2, e3, e4, e5⟩ := op_ends (E := E) q 0 (xs (i + 2)) (xs (i + 3)) (Or.inl rfl)
      unfold J_L_law_525
      refine ok_b g2 (ok_b g3 (ok_x e1 (ok_b g1 (ok_i (fun _ => ?_) (fun z' => absurd z z')))))
      unfold J_L_law_558
      exact ok_b g2 (ok_b g3 (ok_b o163 (ok_c e2 (tailI hK' e3 e4 e5))))
    · obtain ⟨k, b', I1, I2, L1, L2, Q1, Q2, e1, e2, e3, e4, e5⟩ := op_ends (E := E) q 1 (xs (i + 2)) (xs (i + 3)) (Or.inr rfl)
      unfold J_L_law_525
      refine ok_b g2 (ok_b g3 (ok_x e1 (ok_b g1 (ok_i (fun z' => absurd z' z) (fun _ => ?_)))))
      unfold J_L_law_558
      exact ok_b g2 (ok_b g3 (ok_b o163 (ok_c e2 (tailI hK' e3 e4 e5))))
  refine ok_i (fun z4 => ?_) (fun z4 => ?_)
  · obtain ⟨k, b', I1, I2, L1, L2, Q1, Q2, e1, e2, e3, e4, e5⟩ := op_state (E := E) q (xs (i + 1)) (xs (i + 2))
    exact ok_b g1 (ok_b g2 (ok_x e1 (ok_b g1 (ok_b g2 (ok_b o163 (ok_c e2 (tailI hK' e3 e4 e5)))))))
  refine ok_i (fun z5 => ?_) (fun z5 => ?_)
  · obtain ⟨k, b', I1, I2, L1, L2, Q1, Q2, e1, e2, e3, e4, e5⟩ := op_out (E := E) hG q (xs (i + 1)) (xs (i + 2)) (xs (i + 3))
    exact ok_b g1 (ok_b g2 (ok_b g3 (ok_x e1 (ok_b g1 (ok_b g2 (ok_b g3 (ok_b o163 (ok_c e2 (tailI hK' e3 e4 e5)))))))))
  refine ok_i (fun z6 => ?_) (fun z6 => ?_)
  · obtain ⟨k, b', I1, I2, L1, L2, Q1, Q2, e1, e2, e3, e4, e5⟩ := op_on (E := E) hG q (xs (i + 1)) (xs (i + 2)) (xs (i + 3))
    exact ok_b g1 (ok_b g2 (ok_b g3 (ok_x e1 (ok_b g1 (ok_b g2 (ok_b g3 (ok_b o163 (ok_c e2 (tailI hK' e3 e4 e5)))))))))
  refine ok_i (fun z7 => ?_) (fun z7 => ?_)
  · obtain ⟨b', I1, I2, L1, L2, Q1, Q2, e1, e2, e3⟩ := op_tongue (E := E) hG q 
    exact ok_b o136 (ok_c e1 (ok_b o163 (ok_c e2 (ok_i (fun _ => hK' _ _ _ e3) (fun z => absurd rfl z)))))
  refine ok_i (fun z8 => ?_) (fun z8 => ?_)
  · obtain ⟨k, b', I1, I2, L1, L2, Q1, Q2, e1, e2, e3, e4, e5⟩ := op_means (E := E) q (xs (i + 1)) (xs (i + 2)) (xs (i + 3))
    exact ok_b g1 (ok_b g2 (ok_b g3 (ok_x e1 (ok_b g1 (ok_b g2 (ok_b g3 (ok_b o163 (ok_c e2 (tailI hK' e3 e4 e5)))))))))
  refine ok_i (fun z9 => ?_) (fun z9 => ?_)
  · refine ok_b g1 (ok_b g2 (ok_b g3 (ok_i (fun z => ?_) (fun z => ?_))))
    · unfold J_L_law_954
      refine ok_b g4 (ok_i (fun y => ?_) (fun y => ?_))
      · obtain ⟨k, b', I1, I2, L1, L2, Q1, Q2, e1, e2, e3, e4, e5⟩ := op_walker (E := E) q (xs (i + 1)) (xs (i + 2)) 0 0 (xs (i + 5)) (Or.inl rfl) (Or.inl rfl)
        unfold J_L_law_968
        refine ok_b g5 (ok_x e1 (ok_b g1 (ok_b g2 (ok_b g3 (ok_i (fun _ => ?_) (fun z' => absurd z z'))))))
        unfold J_L_law_1007
        refine ok_b g4 (ok_i (fun _ => ?_) (fun z' => absurd y z'))
        unfold J_L_law_1021
        exact ok_b g5 (ok_b o163 (ok_c e2 (tailI hK' e3 e4 e5)))
      · obtain ⟨k, b', I1, I2, L1, L2, Q1, Q2, e1, e2, e3, e4, e5⟩ := op_walker (E := E) q (xs (i + 1)) (xs (i + 2)) 0 1 (xs (i + 5)) (Or.inl rfl) (Or.inr rfl)
        unfold J_L_law_968
        refine ok_b g5 (ok_x e1 (ok_b g1 (ok_b g2 (ok_b g3 (ok_i (fun _ => ?_) (fun z' => absurd z z'))))))
        unfold J_L_law_1007
        refine ok_b g4 (ok_i (fun z' => absurd z' y) (fun _ => ?_))
        unfold J_L_law_1021
        exact ok_b g5 (ok_b o163 (ok_c e2 (tailI hK' e3 e4 e5)))
    · unfold J_L_law_954
      refine ok_b g4 (ok_i (fun y => ?_) (fun y => ?_))
      · obtain ⟨k, b', I1, I2, L1, L2, Q1, Q2, e1, e2, e3, e4, e5⟩ := op_walker (E := E) q (xs (i + 1)) (xs (i + 2)) 1 0 (xs (i + 5)) (Or.inr rfl) (Or.inl rfl)
        unfold J_L_law_968
        refine ok_b g5 (ok_x e1 (ok_b g1 (ok_b g2 (ok_b g3 (ok_i (fun z' => absurd z' z) (fun _ => ?_))))))
        unfold J_L_law_1007
        refine ok_b g4 (ok_i (fun _ => ?_) (fun z' => absurd y z'))
        unfold J_L_law_1021
        exact ok_b g5 (ok_b o163 (ok_c e2 (tailI hK' e3 e4 e5)))
      · obtain ⟨k, b', I1, I2, L1, L2, Q1, Q2, e1, e2, e3, e4, e5⟩ := op_walker (E := E) q (xs (i + 1)) (xs (i + 2)) 1 1 (xs (i + 5)) (Or.inr rfl) (Or.inr rfl)
        unfold J_L_law_968
        refine ok_b g5 (ok_x e1 (ok_b g1 (ok_b g2 (ok_b g3 (ok_i (fun z' => absurd z' z) (fun _ => ?_))))))
        unfold J_L_law_1007
        refine ok_b g4 (ok_i (fun z' => absurd z' y) (fun _ => ?_))
        unfold J_L_law_1021
        exact ok_b g5 (ok_b o163 (ok_c e2 (tailI hK' e3 e4 e5)))
  refine ok_i (fun z10 => ?_) (fun z10 => ?_)
  · refine ok_b g1 (ok_b g2 (ok_b g3 (ok_b g4 (ok_b g5 (ok_i (fun z => ?_) (fun z => ?_))))))
    · obtain ⟨k, b', I1, I2, L1, L2, Q1, Q2, e1, e2, e3, e4, e5⟩ := op_stands (E := E) hG q (xs (i + 1)) (xs (i + 2)) (xs (i + 3)) (xs (i + 4)) 0
      have hb := Bo_stands _ _ e2
      unfold J_L_law_1102
      refine ok_x e1 (ok_b g1 (ok_b g2 (ok_b g3 (ok_b g4 (ok_b g5 (ok_i (fun _ => ?_) (fun z' => absurd z z')))))))
      unfold J_L_law_1147 J_L_law_1181
      exact ok_b o163 (ok_c e2 (tailB hb hK' e3 e4 e5))
    · obtain ⟨k, b', I1, I2, L1, L2, Q1, Q2, e1, e2, e3, e4, e5⟩ := op_stands (E := E) hG q (xs (i + 1)) (xs (i + 2)) (xs (i + 3)) (xs (i + 4)) 1
      have hb := Bo_stands _ _ e2
      unfold J_L_law_1102
      refine ok_x e1 (ok_b g1 (ok_b g2 (ok_b g3 (ok_b g4 (ok_b g5 (ok_i (fun z' => absurd z' z) (fun _ => ?_)))))))
      unfold J_L_law_1147 J_L_law_1181
      exact ok_b o163 (ok_c e2 (tailB hb hK' e3 e4 e5))
  refine ok_i (fun z11 => ?_) (fun z11 => ?_)
  · obtain ⟨k, b', I1, I2, L1, L2, Q1, Q2, e1, e2, e3, e4, e5⟩ := op_worth (E := E) hG q (xs (i + 1)) (xs (i + 2)) (xs (i + 3)) (xs (i + 4))
    exact ok_b g1 (ok_b g2 (ok_b g3 (ok_b g4 (ok_x e1 (ok_b g1 (ok_b g2 (ok_b g3 (ok_b g4 (ok_b o163 (ok_c e2 (tailI hK' e3 e4 e5)))))))))))
  refine ok_i (fun z12 => ?_) (fun z12 => ?_)
  · obtain ⟨b', I1, I2, L1, L2, Q1, Q2, e1, e2, e3⟩ := op_feed (E := E) hG q (xs (i + 1)) (xs (i + 2)) (xs (i + 3)) (xs (i + 4)) (xs (i + 5))
    exact ok_b g1 (ok_b g2 (ok_b g3 (ok_b g4 (ok_b g5 (ok_b o136 (ok_c e1 (ok_b g1 (ok_b g2 (ok_b g3 (ok_b g4 (ok_b g5 (ok_b o163 (ok_c e2 (ok_i (fun _ => hK' _ _ _ e3) (fun z => absurd rfl z)))))))))))))))
  refine ok_i (fun z13 => ?_) (fun z13 => ?_)
  · obtain ⟨k, b', I1, I2, L1, L2, Q1, Q2, e1, e2, e3, e4, e5⟩ := op_telling (E := E) hG q (xs (i + 1)) (xs (i + 2)) (xs (i + 3))
    exact ok_b g1 (ok_b g2 (ok_b g3 (ok_x e1 (ok_b g1 (ok_b g2 (ok_b g3 (ok_b o163 (ok_c e2 (tailI hK' e3 e4 e5)))))))))
  refine ok_i (fun z14 => ?_) (fun z14 => ?_)
  · obtain ⟨b', I1, I2, L1, L2, Q1, Q2, e1, e2, e3⟩ := op_fault (E := E) q (xs (i + 1))
    exact ok_b g1 (ok_b o136 (ok_c e1 (ok_b g1 (ok_b o163 (ok_c e2 (ok_i (fun _ => hK' _ _ _ e3) (fun z => absurd rfl z)))))))
  refine ok_i (fun z15 => ?_) (fun z15 => ?_)
  · obtain ⟨k, b', I1, I2, L1, L2, Q1, Q2, e1, e2, e3, e4, e5⟩ := op_sayings (E := E) q (xs (i + 1))
    exact ok_b g1 (ok_x e1 (ok_b g1 (ok_b o163 (ok_c e2 (tailI hK' e3 e4 e5)))))
  refine ok_i (fun z16 => ?_) (fun z16 => ?_)
  · obtain ⟨k, b', I1, I2, L1, L2, Q1, Q2, e1, e2, e3, e4, e5⟩ := op_leads (E := E) hG q (xs (i + 1)) (xs (i + 2)) (xs (i + 3)) (xs (i + 4)) (xs (i + 5)) (xs (i + 6))
    exact ok_b g1 (ok_b g2 (ok_b g3 (ok_b g4 (ok_b g5 (ok_b g6 (ok_x e1 (ok_b g1 (ok_b g2 (ok_b g3 (ok_b g4 (ok_b g5 (ok_b g6 (ok_b o163 (ok_c e2 (tailI hK' e3 e4 e5)))))))))))))))
  refine ok_i (fun z17 => ?_) (fun z17 => ?_)
  · obtain ⟨k, b', I1, I2, L1, L2, Q1, Q2, e1, e2, e3, e4, e5⟩ := op_holds (E := E) hG q (xs (i + 1)) (xs (i + 2)) (xs (i + 3)) (xs (i + 4))
    exact ok_b g1 (ok_b g2 (ok_b g3 (ok_b g4 (ok_x e1 (ok_b g1 (ok_b g2 (ok_b g3 (ok_b g4 (ok_b o163 (ok_c e2 (tailI hK' e3 e4 e5)))))))))))
  refine ok_i (fun z18 => ?_) (fun z18 => ?_)
  · obtain ⟨k, b', I1, I2, L1, L2, Q1, Q2, e1, e2, e3, e4, e5⟩ := op_end (E := E) hG q (xs (i + 1)) (xs (i + 2)) (xs (i + 3)) (xs (i + 4)) (xs (i + 5))
    exact ok_b g1 (ok_b g2 (ok_b g3 (ok_b g4 (ok_b g5 (ok_x e1 (ok_b g1 (ok_b g2 (ok_b g3 (ok_b g4 (ok_b g5 (ok_b o163 (ok_c e2 (tailI hK' e3 e4 e5)))))))))))))
  refine ok_i (fun z19 => ?_) (fun z19 => ?_)
  · obtain ⟨k, b', I1, I2, L1, L2, Q1, Q2, e1, e2, e3, e4, e5⟩ := op_right (E := E) hG q (xs (i + 1)) (xs (i + 2)) (xs (i + 3)) (xs (i + 4))
    have hb := Bo_right _ _ e2
    unfold J_L_law_1920
    exact ok_b g1 (ok_b g2 (ok_b g3 (ok_b g4 (ok_x e1 (ok_b g1 (ok_b g2 (ok_b g3 (ok_b g4 (ok_b o163 (ok_c e2 (tailB hb hK' e3 e4 e5)))))))))))
  refine ok_i (fun z20 => ?_) (fun z20 => ?_)
  · obtain ⟨k, b', I1, I2, L1, L2, Q1, Q2, e1, e2, e3, e4, e5⟩ := op_odds (E := E) hG q (xs (i + 1)) (xs (i + 2)) (xs (i + 3)) (xs (i + 4)) (xs (i + 5))
    exact ok_b g1 (ok_b g2 (ok_b g3 (ok_b g4 (ok_b g5 (ok_x e1 (ok_b g1 (ok_b g2 (ok_b g3 (ok_b g4 (ok_b g5 (ok_b o163 (ok_c e2 (tailI hK' e3 e4 e5)))))))))))))
  refine ok_i (fun z21 => ?_) (fun z21 => ?_)
  · obtain ⟨k, b', I1, I2, L1, L2, Q1, Q2, e1, e2, e3, e4, e5⟩ := op_parts (E := E) hG q (xs (i + 1)) (xs (i + 2)) (xs (i + 3)) (xs (i + 4))
    exact ok_b g1 (ok_b g2 (ok_b g3 (ok_b g4 (ok_x e1 (ok_b g1 (ok_b g2 (ok_b g3 (ok_b g4 (ok_b o163 (ok_c e2 (tailI hK' e3 e4 e5)))))))))))
  refine ok_i (fun z22 => ?_) (fun z22 => ?_)
  · refine ok_b g1 (ok_b g2 (ok_b g3 (ok_b g4 (ok_b g5 (ok_i (fun z => ?_) (fun z => ?_))))))
    · obtain ⟨k, b', I1, I2, L1, L2, Q1, Q2, e1, e2, e3, e4, e5⟩ := op_hangs (E := E) hG q (xs (i + 1)) (xs (i + 2)) (xs (i + 3)) (xs (i + 4)) 0
      unfold J_L_law_2164
      refine ok_x e1 (ok_b g1 (ok_b g2 (ok_b g3 (ok_b g4 (ok_b g5 (ok_i (fun _ => ?_) (fun z' => absurd z z')))))))
      unfold J_L_law_2209
      exact ok_b o163 (ok_c e2 (tailI hK' e3 e4 e5))
    · obtain ⟨k, b', I1, I2, L1, L2, Q1, Q2, e1, e2, e3, e4, e5⟩ := op_hangs (E := E) hG q (xs (i + 1)) (xs (i + 2)) (xs (i + 3)) (xs (i + 4)) 1
      unfold J_L_law_2164
      refine ok_x e1 (ok_b g1 (ok_b g2 (ok_b g3 (ok_b g4 (ok_b g5 (ok_i (fun z' => absurd z' z) (fun _ => ?_)))))))
      unfold J_L_law_2209
      exact ok_b o163 (ok_c e2 (tailI hK' e3 e4 e5))
  refine ok_i (fun z23 => ?_) (fun z23 => ?_)
  · obtain ⟨k, b', I1, I2, L1, L2, Q1, Q2, e1, e2, e3, e4, e5⟩ := op_years (E := E) hG q (xs (i + 1)) (xs (i + 2)) (xs (i + 3)) (xs (i + 4))
    exact ok_b g1 (ok_b g2 (ok_b g3 (ok_b g4 (ok_x e1 (ok_b g1 (ok_b g2 (ok_b g3 (ok_b g4 (ok_b o163 (ok_c e2 (tailI hK' e3 e4 e5)))))))))))
  refine ok_i (fun z24 => ?_) (fun z24 => ?_)
  · obtain ⟨k, b', I1, I2, L1, L2, Q1, Q2, e1, e2, e3, e4, e5⟩ := op_two (E := E) hG q (xs (i + 1)) (xs (i + 2)) (xs (i + 3)) (xs (i + 4)) (xs (i + 5)) (xs (i + 6)) (xs (i + 7))
    exact ok_b g1 (ok_b g2 (ok_b g3 (ok_b g4 (ok_b g5 (ok_b g6 (ok_b g7 (ok_x e1 (ok_b g1 (ok_b g2 (ok_b g3 (ok_b g4 (ok_b g5 (ok_b g6 (ok_b g7 (ok_b o163 (ok_c e2 (tailI hK' e3 e4 e5)))))))))))))))))
  refine ok_i (fun z25 => ?_) (fun z25 => ?_)
  · refine ok_b g1 (ok_b g2 (ok_b g3 (ok_b g4 (ok_b g5 (ok_b g6 (ok_b g7 (ok_i (fun z => ?_) (fun z => ?_))))))))
    · obtain ⟨k, b', I1, I2, L1, L2, Q1, Q2, e1, e2, e3, e4, e5⟩ := op_ask (E := E) hG q (xs (i + 1)) (xs (i + 2)) (xs (i + 3)) (xs (i + 4)) (xs (i + 5)) (xs (i + 6)) 0
      unfold J_L_law_2522
      refine ok_x e1 (ok_b g1 (ok_b g2 (ok_b g3 (ok_b g4 (ok_b g5 (ok_b g6 (ok_b g7 (ok_i (fun _ => ?_) (fun z' => absurd z z')))))))))
      unfold J_L_law_2581
      exact ok_b o163 (ok_c e2 (tailI hK' e3 e4 e5))
    · obtain ⟨k, b', I1, I2, L1, L2, Q1, Q2, e1, e2, e3, e4, e5⟩ := op_ask (E := E) hG q (xs (i + 1)) (xs (i + 2)) (xs (i + 3)) (xs (i + 4)) (xs (i + 5)) (xs (i + 6)) 1
      unfold J_L_law_2522
      refine ok_x e1 (ok_b g1 (ok_b g2 (ok_b g3 (ok_b g4 (ok_b g5 (ok_b g6 (ok_b g7 (ok_i (fun z' => absurd z' z) (fun _ => ?_)))))))))
      unfold J_L_law_2581
      exact ok_b o163 (ok_c e2 (tailI hK' e3 e4 e5))
  refine ok_i (fun z26 => ?_) (fun z26 => ?_)
  · obtain ⟨k, b', I1, I2, L1, L2, Q1, Q2, e1, e2, e3, e4, e5⟩ := op_shortest (E := E) hG q (xs (i + 1)) (xs (i + 2)) (xs (i + 3)) (xs (i + 4)) (xs (i + 5)) (xs (i + 6))
    exact ok_b g1 (ok_b g2 (ok_b g3 (ok_b g4 (ok_b g5 (ok_b g6 (ok_x e1 (ok_b g1 (ok_b g2 (ok_b g3 (ok_b g4 (ok_b g5 (ok_b g6 (ok_b o163 (ok_c e2 (tailI hK' e3 e4 e5)))))))))))))))
  refine ok_i (fun z27 => ?_) (fun z27 => ?_)
  · obtain ⟨k, b', I1, I2, L1, L2, Q1, Q2, e1, e2, e3, e4, e5⟩ := op_went (E := E) q (xs (i + 1)) (xs (i + 2)) (xs (i + 3)) (xs (i + 4)) (xs (i + 5))
    exact ok_b g1 (ok_b g2 (ok_b g3 (ok_b g4 (ok_b g5 (ok_x e1 (ok_b g1 (ok_b g2 (ok_b g3 (ok_b g4 (ok_b g5 (ok_b o163 (ok_c e2 (tailI hK' e3 e4 e5)))))))))))))
  refine ok_i (fun z28 => ?_) (fun z28 => ?_)
  · obtain ⟨k, b', I1, I2, L1, L2, Q1, Q2, e1, e2, e3, e4, e5⟩ := op_learned (E := E) hG q (xs (i + 1)) (xs (i + 2))
    exact ok_b g1 (ok_b g2 (ok_x e1 (ok_b g1 (ok_b g2 (ok_b o163 (ok_c e2 (tailI hK' e3 e4 e5)))))))
  refine ok_i (fun z29 => ?_) (fun z29 => ?_)
  · obtain ⟨b', I1, I2, L1, L2, Q1, Q2, e1, e2, e3⟩ := op_teller (E := E) hG q 
    exact ok_b o136 (ok_c e1 (ok_b o163 (ok_c e2 (ok_i (fun _ => hK' _ _ _ e3) (fun z => absurd rfl z)))))
  refine ok_i (fun z30 => ?_) (fun z30 => ?_)
  · refine ok_b g1 (ok_b g2 (ok_i (fun z => ?_) (fun z => ?_)))
    · obtain ⟨k, b', I1, I2, L1, L2, Q1, Q2, e1, e2, e3, e4, e5⟩ := op_told (E := E) hG q (xs (i + 1)) 0 (Or.inl rfl)
      unfold J_L_law_2941
      refine ok_x e1 (ok_b g1 (ok_b g2 (ok_i (fun _ => ?_) (fun z' => absurd z z'))))
      unfold J_L_law_2968
      exact ok_b o163 (ok_c e2 (tailI hK' e3 e4 e5))
    · obtain ⟨k, b', I1, I2, L1, L2, Q1, Q2, e1, e2, e3, e4, e5⟩ := op_told (E := E) hG q (xs (i + 1)) 1 (Or.inr rfl)
      unfold J_L_law_2941
      refine ok_x e1 (ok_b g1 (ok_b g2 (ok_i (fun z' => absurd z' z) (fun _ => ?_))))
      unfold J_L_law_2968
      exact ok_b o163 (ok_c e2 (tailI hK' e3 e4 e5))
  refine ok_i (fun z31 => ?_) (fun z31 => ?_)
  · obtain ⟨k, I1, I2, L1, L2, Q1, Q2, e1, e2, e3, e4⟩ := op_tray (E := E) hG q (xs (i + 1)) (xs (i + 2)) (xs (i + 3))
    exact ok_b g1 (ok_b g2 (ok_b g3 (ok_x e1 (ok_b g1 (ok_b g2 (ok_b g3 (ok_b o163 (ok_v e2 (tailV hK' e3 e4)))))))))
  refine ok_i (fun z32 => ?_) (fun z32 => ?_)
  · obtain ⟨k, b', I1, I2, L1, L2, Q1, Q2, e1, e2, e3, e4, e5⟩ := op_write (E := E) hG q (xs (i + 1)) (xs (i + 2)) ((((xs (i + 3)).toInt64) <<< (((32 : Int32)).toInt64 &&& 63)) ||| (((xs (i + 4)).toInt64) &&& (4294967295 : Int64)))
    exact ok_b g1 (ok_b g2 (ok_b g3 (ok_b g4 (ok_x e1 (ok_b g1 (ok_b g2 (ok_b g3 (ok_b g4 (ok_b o163 (ok_l e2 (tailL hK' e3 e4 e5)))))))))))
  refine ok_i (fun z33 => ?_) (fun z33 => ?_)
  · obtain ⟨k, b', I1, I2, L1, L2, Q1, Q2, e1, e2, e3, e4, e5⟩ := op_say (E := E) hG q (xs (i + 1)) (xs (i + 2)) (xs (i + 3))
    exact ok_b g1 (ok_b g2 (ok_b g3 (ok_x e1 (ok_b g1 (ok_b g2 (ok_b g3 (ok_b o163 (ok_c e2 (tailI hK' e3 e4 e5)))))))))
  refine ok_i (fun z34 => ?_) (fun z34 => ?_)
  · exact hI hin
  refine ok_i (fun z35 => ?_) (fun z35 => ?_)
  · obtain ⟨k, I1, I2, L1, L2, Q1, Q2, e1, e2, e3, e4⟩ := op_restore (E := E) hG q (xs (i + 1))
    exact ok_b g1 (ok_x e1 (ok_b g1 (ok_b o163 (ok_v e2 (tailV hK' e3 e4)))))
  refine ok_i (fun z36 => ?_) (fun z36 => ?_)
  · obtain ⟨b', I1, I2, L1, L2, Q1, Q2, e1, e2, e3⟩ := op_count (E := E) q (xs (i + 1))
    exact ok_b g1 (ok_b o136 (ok_c e1 (ok_b g1 (ok_b o163 (ok_c e2 (ok_i (fun _ => hK' _ _ _ e3) (fun z => absurd rfl z)))))))
  exact hK' _ _ _ q
end
