/-! where a word leads: lead of the class -/
def sdW (T : Ro) (k n : Nat) : Nat := if T (724 + 5 * k) = 1 then 1 - n else n
def stS (T : Ro) (c : Nat → Nat) (y k a s : Nat) : Prop := ∃ p, p < 64 ∧ spl T s = nI p ∧ stdA T c y k a p
def seS (T : Ro) (c : Nat → Nat) (y k a s : Nat) : Prop := ∃ p, p < 64 ∧ spl T s = nI p ∧ senK T c y (knd T k a) p
def ptc (T : Ro) (k : Nat) : Nat := tn (T (726 + 5 * k))
def wd (T : Ro) (c : Nat → Nat) (y k kd n : Nat) (a : Int32) (X : Nat → Prop) (q : Nat) : Prop := match kd with
  | 0 => wOn T c y (ptc T k) n X q
  | 1 => ∃ i, i < ptc T k ∧ wUn T c y (stS T c y k (tn a)) False X i q
  | 2 => ∃ i, i < ptc T k ∧ wUn T c y (stS T c y k (tn a)) True X i q
  | 3 => wFar T c y (ptc T k) n X q
  | 4 => X q ∧ seS T c y k (tn a) q
  | 5 => X q ∧ ovr T c y (stS T c y k (tn a)) 3 q
  | 6 => X q
  | 7 => wBack T c y X q
  | 8 => wSide T c y (sdW T k n) X q
  | _ => wNth T c y (sdW T k (n % 2)) (T (725 + 5 * k) = 1) (fun s => ¬ a = -1 ∧ stS T c y k (tn a) s) (ptc T k) (n / 2) X q
section
variable {E : Ev} {w : Wo} {I : Nat → Nat → Int32} {L : Nat → Nat → Int64} {Q : Nat → Nat → Option Nat} {c : Nat → Nat} {T : Ro} {y : Nat}
theorem LdP_c {to : Nat} {W W' : Nat → Prop} {r : Rs} (h : ∀ q, q < 256 → (W q ↔ W' q)) (z : LdP E w T c y I L Q to W r) : LdP E w T c y I L Q to W' r := by
  obtain ⟨I', L', Q', z1, z2, z3, z4, z5⟩ := z
  exact ⟨I', L', Q', z1, z2, z3, fun q hq => by rw [z4 q hq, h q hq], z5⟩
theorem LdP_cv {to : Nat} {W : Nat → Prop} {r : Rs} (z : LdP E w T c y I L Q to W r) : LdP E w T c y I L Q to W (cV r fun h => rtV h) := by
  obtain ⟨I', L', Q', z1, z2, z3, z4, z5⟩ := z
  exact ⟨I', L', Q', z1, z2, z3, z4, by rw [z5]; rfl⟩
theorem LdP_pre {to : Nat} {W : Nat → Prop} {r : Rs} {I1 : Nat → Nat → Int32} {L1 : Nat → Nat → Int64} {Q1 : Nat → Nat → Option Nat} (f : LdF I I1 L L1 Q Q1 (to + 1)) (e : L1 (to + 1) = L (to + 1)) (z : LdP E w T c y I1 L1 Q1 to W r) : LdP E w T c y I L Q to W r := by
  obtain ⟨I', L', Q', z1, z2, z3, z4, z5⟩ := z
  exact ⟨I', L', Q', f.tr z1, z2, z3, fun q hq => by rw [z4 q hq, e], z5⟩
theorem c_sideOf {k n : Nat} {x l : Int32} (q1 : WfT T c) (hk : k < c 4) (h6 : I 40 6 = nI k) (h19 : I 19 k = T (724 + 5 * k)) (hn : n < 2) (hx : x = l ↔ n = 0) : F_X9_sideOf E (rr w 40) x l (Hw E w I L Q) = rtI (nI (sdW T k n)) (Hw E w I L Q) := by
  have k4 : c 4 ≤ 8 := (q1.1 4 (by decide)).2
  obtain ⟨t, et, ht⟩ := (q1.2.2.2.2.2.1 k hk).2.2.1
  have J : ∀ b : Int32, J_X9_sideOf_10 E (rr w 40) b (Hw E w I L Q) = if ¬ b = nI t then rtI 0 (Hw E w I L Q) else rtI 1 (Hw E w I L Q) := fun b => by
    unfold J_X9_sideOf_10
    simp (disch := omega) only [Option.bind_some, Option.map_some, Option.join, cI_r, cL_r, cV_r, xI_r, xL_r, xV_r, xI_t, xL_t, xV_t, lt_r, rtZ_0, rtZ_1, rtZ_zb, gf40_1, gf15_5, gf40_6, h6, ga19, ix_n, h19, et]
  unfold F_X9_sideOf sdW
  rw [J, J, et]
  have t01 : t = 0 ∨ t = 1 := by omega
  by_cases e : x = l
  · have n0 := hx.mp e
    rw [if_neg (not_not_intro e), n0]
    rcases t01 with rfl | rfl
    · rw [if_pos (by decide), if_neg (by decide)]; rfl
    · rw [if_neg (by decide), if_pos (by decide)]; rfl
  · have n1 : n = 1 := by have : ¬ n = 0 := fun z => e (hx.mpr z); omega
    rw [if_pos e, n1]
    rcases t01 with rfl | rfl
    · rw [if_neg (by decide), if_neg (by decide)]; rfl
    · rw [if_pos (by decide), if_pos (by decide)]; rfl
theorem enc_x {D N A : Nat} (hD : D < 16) (hN : N < 32) (hA : A < 16) : nI (D + 16 * N + 512 * A) &&& 15 = nI D ∧ (nI (D + 16 * N + 512 * A) >>> ((4 : Int32) &&& 31)) &&& 31 = nI N ∧ nI (D + 16 * N + 512 * A) >>> ((9 : Int32) &&& 31) = nI A := by
  refine ⟨?_, ?_, ?_⟩
  · rw [pk_andN (by omega) (m := 15) 4 (by decide)]; congr 1; omega
  · rw [pk_shrN (by omega) _ 4 (by decide), pk_andN (by omega) (m := 31) 5 (by decide)]; congr 1; omega
  · rw [pk_shrN (by omega) _ 9 (by decide)]; congr 1; omega
theorem f_plW {k a : Nat} (hk : k < 8) (ha : a < 12) (h6 : I 40 6 = nI k) : F_X9_placesWith E (rr w 40) (nI a) (Hw E w I L Q) = rtL (L 42 (12 * k + a)) (Hw E w I L Q) := by
  unfold F_X9_placesWith
  simp (disch := omega) only [Option.bind_some, Option.map_some, Option.join, cI_r, cL_r, cV_r, xI_r, xL_r, xV_r, xI_t, xL_t, xV_t, lt_r, rtZ_0, rtZ_1, rtZ_zb, gf40_5, gf40_6, h6, m12, pk_mul, nI_add, show k * 12 + a = 12 * k + a by omega, ga42, ix_n]
theorem inP_st {k a s : Nat} (hg : Gnd I L T c y k) (ha : a < 12) : inP T (L 42 (12 * k + a)) s ↔ stS T c y k a s := by
  unfold inP stS
  exact exists_congr fun p => and_congr_right fun hp => and_congr_right fun _ => (hg a ha).2 p hp
theorem Gnd_mv {k to : Nat} {I' : Nat → Nat → Int32} {L' : Nat → Nat → Int64} {Q' : Nat → Nat → Option Nat} (ht : to ≠ 42) (f : LdF I I' L L' Q Q' to) (h : Gnd I L T c y k) : Gnd I' L' T c y k := fun n hn => by
  rw [f.1 41 (by decide) (by decide) (by decide) (by decide), f.2.1 42 (by decide) (by decide) (by decide) (by decide) (fun e => ht e.symm)]; exact h n hn
theorem c_nthW {k to fr nf n N n2 : Nat} {v : Int64} {x l : Int32} {P : Nat → Prop} (hG : 100000 ≤ E.2.2.1) (h : WC I L Q T c y k) (so : SO w to) (ht : okTo to) (hf : Frm w I c fr nf n) (hn2 : n2 < 2) (hx : x = l ↔ n2 = 0) (hN : 1 ≤ N) (hN2 : N ≤ 20) (hP : ∀ s, inP T v s ↔ P s) : ∃ I1 L1 Q1, LdF I I1 L L1 Q Q1 (to + 1) ∧ (∀ k, k ≠ 48 → k ≠ 50 → k ≠ 52 → L1 k = L k) ∧ F_X7_begin E (rr w 48) (rr w fr) 0 (nI n) 0 (Hw E w I L Q) = rtV (Hw E w I1 L1 Q1) ∧ F_X9_sideOf E (rr w 40) x l (Hw E w I1 L1 Q1) = rtI (nI (sdW T k n2)) (Hw E w I1 L1 Q1) ∧ LdP E w T c y I L Q to (wNth T c y (sdW T k n2) (T (725 + 5 * k) = 1) P (ptc T k) N (frX I fr n)) (F_X9_turnAt E (rr w 40) (nI N) (nI (sdW T k n2)) v (rr w to) (Hw E w I1 L1 Q1)) := by
  have h0 := h
  obtain ⟨q1, q2, hm, hy, hs, hk, hw6, h19, h20, h21⟩ := h
  have k1 : c 1 ≤ 60 := (q1.1 1 (by decide)).2
  have k4 : c 4 ≤ 8 := (q1.1 4 (by decide)).2
  have ht0 := ht
  unfold okTo at ht
  obtain ⟨a, b, t, u, I1, L1, Q1, d1, d2, d3, d4⟩ := c_beginW (E := E) (w := w) (st := 0) (en := n) (lens := 0) hG k1 hm hs hf.1 hf.2.1 hf.2.2.1 (by omega) (fun i _ hi => hf.2.2.2.2 i hi) (to + 1)
  have d1' := Wk_c (Z' := Z0 (frX I fr n)) (fun s l => ⟨fun z => ⟨⟨z.1.1, by obtain ⟨i, _, g2, g3⟩ := z.1.2; exact ⟨i, g2, g3⟩⟩, z.2⟩, fun z => ⟨⟨z.1.1, by obtain ⟨i, g2, g3⟩ := z.1.2; exact ⟨i, by omega, g2, g3⟩⟩, z.2⟩⟩) d1
  have w6 : I1 40 6 = nI k := by rw [d2.1 40 (by decide) (by decide) (by decide) (by decide)]; exact hw6
  have i20 : I1 20 k = T (725 + 5 * k) := by rw [d2.1 20 (by decide) (by decide) (by decide) (by decide)]; exact h20
  obtain ⟨tp, ep, hp⟩ := (q1.2.2.2.2.2.1 k hk).2.2.2.1
  have sdl : sdW T k n2 < 2 := by unfold sdW; split <;> omega
  have ePP : inP T v = P := funext fun s => propext (hP s)
  have el : L1 (to + 1) = L (to + 1) := d3 _ (by omega) (by omega) (by omega)
  have mu := MapY_use hm hy
  have mt : ∀ hf, hf < 2 → ∀ j, j < 64 → (b64 (L1 33 hf) j ↔ thr0 T c y ((64 * hf + j) / 2) ∧ T (92 + 6 * ((64 * hf + j) / 2)) = 2) := fun hf h1 j hj => by
    rw [d3 33 (by decide) (by decide) (by decide)]; exact mu.2.1.2.1 hf h1 j hj
  refine ⟨I1, L1, Q1, d2, d3, d4, c_sideOf q1 hk w6 (by rw [d2.1 19 (by decide) (by decide) (by decide) (by decide)]; exact h19) hn2 hx, ?_⟩
  unfold F_X9_turnAt J_X9_turnAt_38
  simp (disch := omega) only [Option.bind_some, Option.map_some, Option.join, cI_r, cL_r, cV_r, xI_r, xL_r, xV_r, xI_t, xL_t, xV_t, lt_r, rtZ_0, rtZ_1, rtZ_zb, gf40_1, gf15_6, gf40_6, w6, ga20, ix_n, i20, ep, gf40_0, gf32_5, ga33, show ix 0 2 = some 0 from rfl, show ix 1 2 = some 1 from rfl]
  by_cases p0 : tp = 0
  · rw [p0, if_pos nI_0, if_pos nI_0]
    have := c_turnAt69 (E := E) (w := w) (N := N) (v := v) (ac := T (725 + 5 * k) = 1) hG h0 d2 so ht0 hf.1 hf.2.1 sdl hN hN2 (lo := L1 33 0 ^^^ (-1 : Int64)) (hh := L1 33 1 ^^^ (-1 : Int64)) (fun s hs x hx ho => by
      have ac0 : ¬ T (725 + 5 * k) = 1 := by rw [ep, p0]; decide
      have e : ba (L1 33 0 ^^^ (-1 : Int64)) (L1 33 1 ^^^ (-1 : Int64)) x ↔ ¬ b64 (L1 33 (x / 64)) (x % 64) := by
        unfold ba
        by_cases pz : x / 64 = 0
        · rw [if_pos pz, pz]; exact b64_not (by omega)
        · rw [if_neg pz, show x / 64 = 1 by omega]; exact b64_not (by omega)
      rw [e, mt (x / 64) (by omega) (x % 64) (by omega), show 64 * (x / 64) + x % 64 = x by omega]
      constructor
      · intro z; exact Or.inr (fun y => z ⟨ho.2.1, y⟩)
      · rintro (z | z)
        · exact absurd z ac0
        · exact fun y => z y.2) d1'
    rw [ePP, ep, p0] at this
    exact LdP_pre d2 el this
  · have p1 : tp = 1 := by omega
    rw [p1, if_neg (by decide), if_neg (by decide)]
    have := c_turnAt69 (E := E) (w := w) (N := N) (v := v) (ac := T (725 + 5 * k) = 1) hG h0 d2 so ht0 hf.1 hf.2.1 sdl hN hN2 (lo := (-1 : Int64)) (hh := (-1 : Int64)) (fun s hs x hx ho => by
      have ac1 : T (725 + 5 * k) = 1 := by rw [ep, p1]; rfl
      unfold ba
      refine ⟨fun _ => Or.inl ac1, fun _ => ?_⟩
      split <;> exact bm1 (by omega)) d1'
    rw [ePP, ep, p1] at this
    exact LdP_pre d2 el this
theorem c_lead {k to fr nf n : Nat} {kk nn aa : Int32} (hG : 100000 ≤ E.2.2.1) (h : WC I L Q T c y k) (hg : Gnd I L T c y k) (so : SO w to) (ht : okTo to) (ht2 : to + 1 ≠ 42) (hf : Frm w I c fr nf n) (hw : WfW kk nn aa) : LdP E w T c y I L Q to (wd T c y k (tn kk) (tn nn) aa (frX I fr n)) (F_X9_lead E (rr w 40) (enc kk nn aa) (rr w fr) (nI n) (rr w to) (Hw E w I L Q)) := by
  have h0 := h
  obtain ⟨q1, q2, hm, hy, hs, hk, hw6, h19, h20, h21⟩ := h
  have k1 : c 1 ≤ 60 := (q1.1 1 (by decide)).2
  have k4 : c 4 ≤ 8 := (q1.1 4 (by decide)).2
  have c0 : (0 : Int32) = nI 0 := rfl
  have b64l : ∀ v p, b64 v p → p < 64 := fun v p z => b64_lt z
  unfold F_X9_lead
  have sp : ∀ a, a < 12 → ∀ s, inP T (L 42 (12 * k + a)) s ↔ stS T c y k a s := fun a ha s => inP_st hg ha
  have e15 : encA (-1) = 15 := by unfold encA; rw [if_pos rfl]
  rcases hw with ⟨rfl, ⟨N, rfl, hN1, hN2⟩, rfl⟩ | ⟨hkk, rfl, ⟨a, rfl, ha⟩⟩ | ⟨rfl, ⟨N, rfl, hN1, hN2⟩, rfl⟩ | ⟨hkk, rfl, rfl⟩ | ⟨rfl, ⟨N, rfl, hN⟩, rfl⟩ | ⟨rfl, ⟨N, rfl, hN1, hN2⟩, haa⟩
  · -- on N
    have tN : tn (nI N) = N := nI_clamp (by omega)
    have ee : enc 0 (nI N) (-1) = nI (1 + 16 * N + 512 * 15) := by unfold enc; rw [tN, e15]; rfl
    obtain ⟨x1, x2, x3⟩ := enc_x (D := 1) (N := N) (A := 15) (by decide) (by omega) (by decide)
    rw [ee, x1, x2, x3, lt_r, lt_r, if_pos (by decide), o40, Option.bind_some, tN]
    exact LdP_cv (c_goTimes hG h0 so ht hf hN1 (by omega))
  · have tA : tn (nI a) = a := nI_clamp (by omega)
    have eA : encA (nI a) = a := by unfold encA; rw [if_neg (m1_ne (by omega)), tA]
    have pw : F_X9_placesWith E (rr w 40) (nI a) (Hw E w I L Q) = rtL (L 42 (12 * k + a)) (Hw E w I L Q) := f_plW (by omega) ha hw6
    have eS : inP T (L 42 (12 * k + a)) = stS T c y k a := funext fun s => propext (sp a ha s)
    rcases hkk with rfl | rfl | rfl | rfl
    · -- until
      have ee : enc 1 0 (nI a) = nI (2 + 16 * 0 + 512 * a) := by unfold enc; rw [eA]; rfl
      obtain ⟨x1, x2, x3⟩ := enc_x (D := 2) (N := 0) (A := a) (by decide) (by decide) (by omega)
      rw [ee, x1, x2, x3, lt_r, lt_r, if_neg (by decide), if_pos (by decide), o40, Option.bind_some, pw, cL_r, o40, Option.bind_some]
      have z := c_goUntil (E := E) (w := w) (to := to) (v := L 42 (12 * k + a)) (past := False) (x5 := 0) hG h0 so ht hf ⟨fun _ z => z, fun _ => rfl⟩ (b64l _)
      rw [eS] at z
      refine LdP_cv (LdP_c (fun q hq => ?_) z)
      show _ ↔ ∃ i, i < ptc T k ∧ wUn T c y (stS T c y k (tn (nI a))) False _ i q
      rw [tA]; exact Iff.rfl
    · -- past
      have ee : enc 2 0 (nI a) = nI (3 + 16 * 0 + 512 * a) := by unfold enc; rw [eA]; rfl
      obtain ⟨x1, x2, x3⟩ := enc_x (D := 3) (N := 0) (A := a) (by decide) (by decide) (by omega)
      rw [ee, x1, x2, x3, lt_r, lt_r, if_neg (by decide), if_neg (by decide), if_pos (by decide), o40, Option.bind_some, pw, cL_r, o40, Option.bind_some]
      have z := c_goUntil (E := E) (w := w) (to := to) (v := L 42 (12 * k + a)) (past := True) (x5 := 1) hG h0 so ht hf ⟨fun z => absurd z (by decide), fun z => absurd trivial z⟩ (b64l _)
      rw [eS] at z
      refine LdP_cv (LdP_c (fun q hq => ?_) z)
      show _ ↔ ∃ i, i < ptc T k ∧ wUn T c y (stS T c y k (tn (nI a))) True _ i q
      rw [tA]; exact Iff.rfl
    · -- see
      have ee : enc 4 0 (nI a) = nI (5 + 16 * 0 + 512 * a) := by unfold enc; rw [eA]; rfl
      obtain ⟨x1, x2, x3⟩ := enc_x (D := 5) (N := 0) (A := a) (by decide) (by decide) (by omega)
      obtain ⟨v, v1, v2⟩ := c_seen (E := E) (w := w) (Q := Q) (ks := knd T k a) hG q1 q2 hy hm
      have sn : F_X9_seenPlaces E (rr w 40) (nI a) (Hw E w I L Q) = rtL v (Hw E w I L Q) := by
        unfold F_X9_seenPlaces
        simp (disch := omega) only [Option.bind_some, Option.map_some, Option.join, cI_r, cL_r, cV_r, xI_r, xL_r, xV_r, xI_t, xL_t, xV_t, lt_r, rtZ_0, rtZ_1, rtZ_zb, gf40_0, gf40_4, gf40_6, hw6, m12, pk_mul, nI_add, show k * 12 + a = 12 * k + a by omega, ga41, ix_n, (hg a ha).1, o32, v2]
      rw [ee, x1, x2, x3, lt_r, lt_r, if_neg (by decide), if_neg (by decide), if_neg (by decide), if_neg (by decide), if_pos (by decide), o40, Option.bind_some, sn, cL_r, o40, Option.bind_some]
      refine LdP_cv (LdP_c (fun q hq => ?_) (c_stay hG h0 so ht hf))
      show _ ↔ frX I fr n q ∧ seS T c y k (tn (nI a)) q
      rw [tA]
      exact and_congr_right fun _ => exists_congr fun p => and_congr_right fun hp => and_congr_right fun _ => v1 p hp
    · -- over
      have ee : enc 5 0 (nI a) = nI (6 + 16 * 0 + 512 * a) := by unfold enc; rw [eA]; rfl
      obtain ⟨x1, x2, x3⟩ := enc_x (D := 6) (N := 0) (A := a) (by decide) (by decide) (by omega)
      rw [ee, x1, x2, x3, lt_r, lt_r, if_neg (by decide), if_neg (by decide), if_neg (by decide), if_neg (by decide), if_neg (by decide), if_pos (by decide), o40, Option.bind_some, pw, cL_r, o40, Option.bind_some]
      have z := c_over (E := E) (w := w) (to := to) (v := L 42 (12 * k + a)) hG h0 so ht hf
      rw [eS] at z
      refine LdP_cv (LdP_c (fun q hq => ?_) z)
      show _ ↔ frX I fr n q ∧ ovr T c y (stS T c y k (tn (nI a))) 3 q
      rw [tA]
  · -- far
    have tN : tn (nI N) = N := nI_clamp (by omega)
    have ee : enc 3 (nI N) (-1) = nI (4 + 16 * N + 512 * 15) := by unfold enc; rw [tN, e15]; rfl
    obtain ⟨x1, x2, x3⟩ := enc_x (D := 4) (N := N) (A := 15) (by decide) (by omega) (by decide)
    rw [ee, x1, x2, x3, lt_r, lt_r, if_neg (by decide), if_neg (by decide), if_neg (by decide), if_pos (by decide), o40, Option.bind_some, tN]
    exact LdP_cv (c_goFar hG h0 so ht hf hN1 hN2)
  · rcases hkk with rfl | rfl
    · -- loose
      have ee : enc 6 0 (-1) = nI (7 + 16 * 0 + 512 * 15) := by unfold enc; rw [e15]; rfl
      obtain ⟨x1, x2, x3⟩ := enc_x (D := 7) (N := 0) (A := 15) (by decide) (by decide) (by decide)
      rw [ee, x1, x2, x3, lt_r, lt_r, if_neg (by decide), if_neg (by decide), if_neg (by decide), if_neg (by decide), if_neg (by decide), if_neg (by decide), if_pos (by decide), o40, Option.bind_some]
      refine LdP_cv (LdP_c (fun q hq => ?_) (c_stay (v := -1) hG h0 so ht hf))
      show _ ↔ frX I fr n q
      refine ⟨fun z => z.1, fun z => ⟨z, ?_⟩⟩
      obtain ⟨p, ep, hp, _⟩ := spl_n (I := I) q1 q2 (hf.lt k1 z)
      have k0 : c 0 ≤ 40 := (q1.1 0 (by decide)).2
      exact ⟨p, by omega, ep, bm1 (by omega)⟩
    · -- back
      have ee : enc 7 0 (-1) = nI (8 + 16 * 0 + 512 * 15) := by unfold enc; rw [e15]; rfl
      obtain ⟨x1, x2, x3⟩ := enc_x (D := 8) (N := 0) (A := 15) (by decide) (by decide) (by decide)
      rw [ee, x1, x2, x3, lt_r, lt_r, if_neg (by decide), if_neg (by decide), if_neg (by decide), if_neg (by decide), if_neg (by decide), if_neg (by decide), if_neg (by decide), if_pos (by decide), o40, Option.bind_some]
      exact LdP_cv (c_goBack hG h0 so ht hf)
  · -- a side
    have tN : tn (nI N) = N := nI_clamp (by omega)
    have ee : enc 8 (nI N) (-1) = nI ((9 + N) + 16 * 0 + 512 * 15) := by unfold enc; rw [tN, e15]; rfl
    obtain ⟨x1, x2, x3⟩ := enc_x (D := 9 + N) (N := 0) (A := 15) (by omega) (by decide) (by decide)
    have sdl : sdW T k N < 3 := by unfold sdW; split <;> omega
    have z := LdP_cv (c_turn (E := E) (w := w) (to := to) (sd := sdW T k N) hG h0 so ht hf sdl)
    rw [ee, x1, x2, x3, lt_r, lt_r, tN]
    rcases (show N = 0 ∨ N = 1 by omega) with rfl | rfl
    · have so' := c_sideOf (E := E) (w := w) (L := L) (Q := Q) (x := nI (9 + 0)) (l := 9) q1 hk hw6 h19 (n := 0) (by decide) ⟨fun _ => rfl, fun _ => rfl⟩
      rw [if_neg (by decide), if_neg (by decide), if_neg (by decide), if_neg (by decide), if_neg (by decide), if_neg (by decide), if_neg (by decide), if_neg (by decide), if_pos (by decide), o40, Option.bind_some, so', cI_r, o40, Option.bind_some]
      exact z
    · have so' := c_sideOf (E := E) (w := w) (L := L) (Q := Q) (x := nI (9 + 1)) (l := 9) q1 hk hw6 h19 (n := 1) (by decide) ⟨fun z => absurd z (by decide), fun z => absurd z (by decide)⟩
      rw [if_neg (by decide), if_neg (by decide), if_neg (by decide), if_neg (by decide), if_neg (by decide), if_neg (by decide), if_neg (by decide), if_neg (by decide), if_neg (by decide), if_pos (by decide), o40, Option.bind_some, so', cI_r, o40, Option.bind_some]
      exact z
  · -- the N-th
    have tN : tn (nI N) = N := nI_clamp (by omega)
    have n15 : ∀ a, a < 12 → ¬ nI a = (15 : Int32) := fun a ha e => by
      have : a = 15 := (nI_eq (a := a) (b := 15) (by omega) (by decide)).mp e
      omega
    have main : ∀ (A : Nat) (v : Int64) (P : Nat → Prop) (x1 : Int32), A < 16 → encA aa = A → (∀ s, inP T v s ↔ P s) → x1 = nI (11 + N % 2) → (∀ I1 L1 Q1, LdF I I1 L L1 Q Q1 (to + 1) → (∀ k, k ≠ 48 → k ≠ 50 → k ≠ 52 → L1 k = L k) → (if ¬ nI A = (15 : Int32) then (isO (Hw E w I1 L1 Q1) (rr w 40) 9).bind fun _ => cL (F_X9_placesWith E (rr w 40) (nI A) (Hw E w I1 L1 Q1)) fun v260 h260 => (isO h260 (rr w 40) 9).bind fun _ => cV (F_X9_turnAt E (rr w 40) (nI (N / 2)) (nI (sdW T k (N % 2))) v260 (rr w to) h260) fun h265 => rtV h265 else (isO (Hw E w I1 L1 Q1) (rr w 40) 9).bind fun _ => cV (F_X9_turnAt E (rr w 40) (nI (N / 2)) (nI (sdW T k (N % 2))) 0 (rr w to) (Hw E w I1 L1 Q1)) fun h265 => rtV h265) = (cV (F_X9_turnAt E (rr w 40) (nI (N / 2)) (nI (sdW T k (N % 2))) v (rr w to) (Hw E w I1 L1 Q1)) fun h265 => rtV h265)) → LdP E w T c y I L Q to (wNth T c y (sdW T k (N % 2)) (T (725 + 5 * k) = 1) P (ptc T k) (N / 2) (frX I fr n)) ((gfR (Hw E w I L Q) (rr w 40) 9 3).bind fun v223 => (isO (Hw E w I L Q) v223 7).bind fun _ => cV (F_X7_begin E v223 (rr w fr) (0 : Int32) (nI n) (0 : Int64) (Hw E w I L Q)) fun h230 => (isO h230 (rr w 40) 9).bind fun _ => cI (F_X9_sideOf E (rr w 40) x1 (11 : Int32) h230) fun v243 h243 => if ¬ nI A = (15 : Int32) then (isO h243 (rr w 40) 9).bind fun _ => cL (F_X9_placesWith E (rr w 40) (nI A) h243) fun v260 h260 => (isO h260 (rr w 40) 9).bind fun _ => cV (F_X9_turnAt E (rr w 40) (nI (N / 2)) v243 v260 (rr w to) h260) fun h265 => rtV h265 else (isO h243 (rr w 40) 9).bind fun _ => cV (F_X9_turnAt E (rr w 40) (nI (N / 2)) v243 (0 : Int64) (rr w to) h243) fun h265 => rtV h265) := by
      intro A v P x1 hA eA hP ex hsame
      have hx : x1 = 11 ↔ N % 2 = 0 := by
        rw [ex]
        rcases (show N % 2 = 0 ∨ N % 2 = 1 by omega) with e | e <;> rw [e]
        · exact ⟨fun _ => rfl, fun _ => rfl⟩
        · exact ⟨fun z => absurd z (by decide), fun z => absurd z (by decide)⟩
      obtain ⟨I1, L1, Q1, d1, d2, d3, d4, d5⟩ := c_nthW (E := E) (w := w) (to := to) (N := N / 2) (n2 := N % 2) (v := v) (x := x1) (l := 11) hG h0 so ht hf (by omega) hx (by omega) (by omega) hP
      rw [gf40_3, Option.bind_some, o48, Option.bind_some, d3, cV_r, o40, Option.bind_some, d4, cI_r, hsame I1 L1 Q1 d1 d2]
      exact LdP_cv d5
    have fin : ∀ (A : Nat) (v : Int64) (P : Nat → Prop), A < 16 → encA aa = A → (∀ s, inP T v s ↔ P s) → (∀ s, (¬ aa = -1 ∧ stS T c y k (tn aa) s) ↔ P s) → (∀ I1 L1 Q1, LdF I I1 L L1 Q Q1 (to + 1) → (∀ k, k ≠ 48 → k ≠ 50 → k ≠ 52 → L1 k = L k) → (if ¬ nI A = (15 : Int32) then (isO (Hw E w I1 L1 Q1) (rr w 40) 9).bind fun _ => cL (F_X9_placesWith E (rr w 40) (nI A) (Hw E w I1 L1 Q1)) fun v260 h260 => (isO h260 (rr w 40) 9).bind fun _ => cV (F_X9_turnAt E (rr w 40) (nI (N / 2)) (nI (sdW T k (N % 2))) v260 (rr w to) h260) fun h265 => rtV h265 else (isO (Hw E w I1 L1 Q1) (rr w 40) 9).bind fun _ => cV (F_X9_turnAt E (rr w 40) (nI (N / 2)) (nI (sdW T k (N % 2))) 0 (rr w to) (Hw E w I1 L1 Q1)) fun h265 => rtV h265) = (cV (F_X9_turnAt E (rr w 40) (nI (N / 2)) (nI (sdW T k (N % 2))) v (rr w to) (Hw E w I1 L1 Q1)) fun h265 => rtV h265)) → LdP E w T c y I L Q to (wd T c y k (tn 9) (tn (nI N)) aa (frX I fr n)) (F_X9_lead E (rr w 40) (enc 9 (nI N) aa) (rr w fr) (nI n) (rr w to) (Hw E w I L Q)) := by
      intro A v P hA eA hP hP2 hsame
      have ee : enc 9 (nI N) aa = nI ((11 + N % 2) + 16 * (N / 2) + 512 * A) := by unfold enc; rw [tN, eA]; rfl
      obtain ⟨x1, x2, x3⟩ := enc_x (D := 11 + N % 2) (N := N / 2) (A := A) (by omega) (by omega) hA
      have eP : (fun s => ¬ aa = -1 ∧ stS T c y k (tn aa) s) = P := funext fun s => propext (hP2 s)
      have em := main A v P (nI (11 + N % 2)) hA eA hP rfl hsame
      have ew : wd T c y k (tn 9) (tn (nI N)) aa (frX I fr n) = wNth T c y (sdW T k (N % 2)) (T (725 + 5 * k) = 1) P (ptc T k) (N / 2) (frX I fr n) := by
        rw [tN, ← eP]; rfl
      rw [ew]
      unfold F_X9_lead
      rw [ee, x1, x2, x3, lt_r, lt_r]
      rcases (show N % 2 = 0 ∨ N % 2 = 1 by omega) with e | e
      · rw [e] at em ⊢
        rw [if_neg (by decide), if_neg (by decide), if_neg (by decide), if_neg (by decide), if_neg (by decide), if_neg (by decide), if_neg (by decide), if_neg (by decide), if_neg (by decide), if_neg (by decide), if_pos (by decide)]
        exact em
      · rw [e] at em ⊢
        rw [if_neg (by decide), if_neg (by decide), if_neg (by decide), if_neg (by decide), if_neg (by decide), if_neg (by decide), if_neg (by decide), if_neg (by decide), if_neg (by decide), if_neg (by decide), if_neg (by decide), if_pos (by decide)]
        exact em
    unfold F_X9_lead at fin
    rcases haa with rfl | ⟨a, rfl, ha⟩
    · refine fin 15 0 (fun _ => False) (by decide) e15 (fun s => ⟨fun ⟨p, _, _, z⟩ => b64_0 z, fun z => z.elim⟩) (fun s => ⟨fun z => z.1 rfl, fun z => z.elim⟩) (fun I1 L1 Q1 _ _ => ?_)
      rw [if_neg (by decide), o40, Option.bind_some]
    · have tA : tn (nI a) = a := nI_clamp (by omega)
      have eA : encA (nI a) = a := by unfold encA; rw [if_neg (m1_ne (by omega)), tA]
      refine fin a (L 42 (12 * k + a)) (stS T c y k a) (by omega) eA (sp a ha) (fun s => by rw [tA]; exact ⟨fun z => z.2, fun z => ⟨m1_ne (by omega), z⟩⟩) (fun I1 L1 Q1 f1 f2 => ?_)
      have w6 : I1 40 6 = nI k := by rw [f1.1 40 (by decide) (by decide) (by decide) (by decide)]; exact hw6
      rw [if_pos (n15 a ha), o40, Option.bind_some, f_plW (by omega) ha w6, cL_r, o40, Option.bind_some, f2 42 (by decide) (by decide) (by decide)]
end
