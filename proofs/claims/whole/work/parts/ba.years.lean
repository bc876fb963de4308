/-! years of one stretch are alike; years -/
section
variable {E : Ev} {w : Wo} {I I1 I2 : Nat → Nat → Int32} {L L1 L2 : Nat → Nat → Int64} {Q Q1 Q2 : Nat → Nat → Option Nat} {c : Nat → Nat} {T : Ro} {y y' k : Nat}
theorem ONs_y (h : thr0 T c y = thr0 T c y') : ONs T c y = ONs T c y' := by
  funext X q; unfold ONs; rw [h]
theorem onN_y (h : thr0 T c y = thr0 T c y') : onN T c y = onN T c y' := by
  funext X n
  induction n with
  | zero => rfl
  | succ n ih =>
    show ONs T c y (onN T c y X n) = ONs T c y' (onN T c y' X n)
    rw [ONs_y h, ih]
theorem nxZ_y (h : thr0 T c y = thr0 T c y') : nxZ T c y = nxZ T c y' := by
  funext l Z s m; unfold nxZ; rw [h]
theorem fU_y (h : thr0 T c y = thr0 T c y') : fU T c y = fU T c y' := by
  funext St X i
  induction i with
  | zero => rfl
  | succ n ih =>
    show (fun q => ONs T c y (fU T c y St X n) q ∧ ¬ St q) = fun q => ONs T c y' (fU T c y' St X n) q ∧ ¬ St q
    rw [ONs_y h, ih]
theorem wUn_y (h : thr0 T c y = thr0 T c y') : wUn T c y = wUn T c y' := by
  have e : stU T c y = stU T c y' := by
    funext St X i q; unfold stU; rw [ONs_y h, fU_y h]
  funext St pa X i q
  unfold wUn
  rw [e, ONs_y h]
theorem ZI_y (h : thr0 T c y = thr0 T c y') : ZI T c y = ZI T c y' := by
  funext l Z i
  induction i with
  | zero => rfl
  | succ n ih =>
    show nxZ T c y l (ZI T c y l Z n) = nxZ T c y' l (ZI T c y' l Z n)
    rw [nxZ_y h, ih]
theorem oN_y (h : thr0 T c y = thr0 T c y') : oN T c y = oN T c y' := by
  funext sd ac s a; unfold oN; rw [h]
theorem cnN_y (h : thr0 T c y = thr0 T c y') : cnN T c y = cnN T c y' := by
  funext sd ac P s; unfold cnN; rw [oN_y h]
theorem ZT_y (h : thr0 T c y = thr0 T c y') : ZT T c y = ZT T c y' := by
  funext cn N Z i
  induction i with
  | zero => rfl
  | succ n ih =>
    show nthZ cn N (nxZ T c y 0 (ZT T c y cn N Z n)) = nthZ cn N (nxZ T c y' 0 (ZT T c y' cn N Z n))
    rw [nxZ_y h, ih]
theorem adN_y (h : thr0 T c y = thr0 T c y') : adN T c y = adN T c y' := by
  funext sd ac P N Z q; unfold adN; rw [cnN_y h, oN_y h]
/-- two years in which the same ways and marks are there -/
def alk (T : Ro) (c : Nat → Nat) (y y' : Nat) : Prop := thr0 T c y = thr0 T c y' ∧ ∀ ks p, p < 64 → (stdK T c y ks p ↔ stdK T c y' ks p) ∧ (tlK T c y ks p ↔ tlK T c y' ks p)
theorem wd_y (h : alk T c y y') : wd T c y = wd T c y' := by
  have e1 : ∀ k a, stS T c y k a = stS T c y' k a := fun k a => funext fun s => propext (exists_congr fun p => and_congr_right fun hp => and_congr_right fun _ => (h.2 _ p hp).1)
  have e2 : ∀ k a, seS T c y k a = seS T c y' k a := fun k a => funext fun s => propext (exists_congr fun p => and_congr_right fun hp => and_congr_right fun _ => by
    unfold senK jnP
    rw [(h.2 _ p hp).1, h.1]
    exact or_congr_right (exists_congr fun q => and_congr_right fun hq => and_congr_right fun _ => (h.2 _ q hq).2))
  have h := h.1
  funext k kd n a X q
  unfold wd
  rw [e1, e2]
  unfold wOn wFar ovr wBack wSide wNth
  rw [onN_y h, wUn_y h, ZI_y h, adN_y h, cnN_y h, nxZ_y h, ZT_y h, h]
theorem seqW_y (h : alk T c y y') {k z s0 : Nat} : seqW T c y k z s0 = seqW T c y' k z s0 := by
  funext j
  induction j with
  | zero => rfl
  | succ j ih =>
    show sayW T c y k z j (seqW T c y k z s0 j) = sayW T c y' k z j (seqW T c y' k z s0 j)
    rw [ih]
    funext q
    unfold sayW
    rw [wd_y h]
theorem rgt_y (h : alk T c y y') {k z s0 m g : Nat} : rgt T c y k z s0 m g ↔ rgt T c y' k z s0 m g := by
  unfold rgt lsP endS
  rw [seqW_y h]
theorem MapY_alk (h : MapY I L T c y) (h' : MapY I L T c y') (hy : y ≤ 200) (hy' : y' ≤ 200) : alk T c y y' := by
  have mu := MapY_use h hy
  have mu' := MapY_use h' hy'
  refine ⟨?_, fun ks p hp => ⟨?_, ?_⟩⟩
  · obtain ⟨⟨-, S, -, -, q3⟩, h1, h2⟩ := h
    obtain ⟨-, h1', h2'⟩ := h'
    exact funext fun v => propext (((q3 y hy h1 h2).2.1 v).symm.trans ((q3 y' hy' h1' h2').2.1 v))
  · have a : ∀ kd, kd < 12 → ((∃ m, mkAt T c y kd p m) ↔ ∃ m, mkAt T c y' kd p m) := fun kd hk => ((mu.2.2.2 kd hk p hp).1).symm.trans (mu'.2.2.2 kd hk p hp).1
    constructor
    · rintro ⟨m, kd, h1, h2, h3⟩
      obtain ⟨m', hm'⟩ := (a kd h1).mp ⟨m, h2⟩
      exact ⟨m', kd, h1, hm', h3⟩
    · rintro ⟨m, kd, h1, h2, h3⟩
      obtain ⟨m', hm'⟩ := (a kd h1).mpr ⟨m, h2⟩
      exact ⟨m', kd, h1, hm', h3⟩
  · have a : ∀ kd, kd < 12 → ((∃ m, mkAt T c y kd p m ∧ T (452 + 5 * m) = 1) ↔ ∃ m, mkAt T c y' kd p m ∧ T (452 + 5 * m) = 1) := fun kd hk => ((mu.2.2.2 kd hk p hp).2).symm.trans (mu'.2.2.2 kd hk p hp).2
    constructor
    · rintro ⟨m, kd, h1, h2, h3⟩
      obtain ⟨m', hm'⟩ := (a kd h1).mp ⟨m, h2⟩
      exact ⟨m', kd, h1, hm', h3⟩
    · rintro ⟨m, kd, h1, h2, h3⟩
      obtain ⟨m', hm'⟩ := (a kd h1).mpr ⟨m, h2⟩
      exact ⟨m', kd, h1, hm', h3⟩
noncomputable def lstP (P : Nat → Prop) : Nat → Int32
  | 0 => -1
  | n + 1 => @ite _ (P n) (Classical.propDecidable _) (nI n) (lstP P n)
theorem lstP_t {P : Nat → Prop} {n : Nat} (h : P n) : lstP P (n + 1) = nI n := by rw [lstP, if_pos h]
theorem lstP_f {P : Nat → Prop} {n : Nat} (h : ¬ P n) : lstP P (n + 1) = lstP P n := by rw [lstP, if_neg h]
theorem fstP_f {P : Nat → Prop} {n : Nat} (h : ¬ P n) : fstP P (n + 1) = fstP P n := fstP_ext (by omega) (fun j h1 h2 => by rw [show j = n by omega]; exact h)
theorem fstP_ne {P : Nat → Prop} : ∀ n, n < 2 ^ 31 → (∃ j, j < n ∧ P j) → ¬ fstP P n = -1 := by
  intro n
  induction n with
  | zero => intro _ p; obtain ⟨j, h1, _⟩ := p; omega
  | succ n ih =>
    intro hn p
    rw [fstP]
    by_cases p2 : ∃ j, j < n ∧ P j
    · rw [if_pos p2]; exact ih (by omega) p2
    · rw [if_neg p2]
      obtain ⟨j, h1, h2⟩ := p
      have : j = n := by
        rcases Nat.lt_or_ge j n with g | g
        · exact absurd ⟨j, g, h2⟩ p2
        · omega
      subst this
      rw [if_pos h2]
      exact m1_ne (by omega)
theorem fstP_t {P : Nat → Prop} {n : Nat} (hn : n < 2 ^ 31) (h : P n) : (fstP P n = -1 → fstP P (n + 1) = nI n) ∧ (¬ fstP P n = -1 → fstP P (n + 1) = fstP P n) := by
  by_cases p : ∃ j, j < n ∧ P j
  · exact ⟨fun e => absurd e (fstP_ne n hn p), fun _ => by rw [fstP, if_pos p]⟩
  · exact ⟨fun _ => by rw [fstP, if_neg p, if_pos h], fun e => absurd (fstP_no (fun j hj z => p ⟨j, hj, z⟩)) e⟩
/-- one turn of the years, after its answer -/
theorem c_yr92 {K : Int32 → Int32 → Int32 → Int32 → Int32 → Hp → Rs} {x1 x2 x3 : Int32} {i : Nat} {P : Nat → Prop} {a0 : Nat} {h : Hp} (hi : i ≤ 200) : J_X11_years_92 E K a0 x1 x2 x3 (nI (cntP P i)) (fstP P i) (lstP P i) (zb (P i)) (nI i) h = K (nI (cntP P (i + 1))) (fstP P (i + 1)) (lstP P (i + 1)) (zb (P i)) (nI (i + 1)) h := by
  unfold J_X11_years_92
  rw [nI_1, nI_1]
  by_cases p : P i
  · rw [zi_t p, cntP_t p, lstP_t p]
    by_cases e : fstP P i = -1
    · rw [if_neg (not_not_intro e), (fstP_t (by omega) p).1 e]
    · rw [if_pos e, (fstP_t (by omega) p).2 e]
  · rw [zi_f p, cntP_f p, lstP_f p, fstP_f p]
theorem c_years49 {z t s0 g : Nat} (hG : 100000 ≤ E.2.2.1) (h : CW I L Q T c) (hk : k < c 4) (hz : z < c 5) (ht : T (764 + 173 * z) = nI t) (t10 : t ≤ 10) (eg : T (762 + 173 * z) = nI g) (g40 : g < 40) (hs : s0 < 4 * c 1) : ∃ I' L' Q', CF I I' L L' Q Q' ∧ CW I' L' Q' T c ∧ ∀ K, L_X11_years_49 E K (rr w 136) (nI z) (nI k) (nI s0) E.2.2.1 0 (-1) (-1) 0 0 (Hw E w I L Q) = K (nI (cntP (fun y => rgt T c y k z s0 t g) 201)) (fstP (fun y => rgt T c y k z s0 t g) 201) (lstP (fun y => rgt T c y k z s0 t g) 201) (Hw E w I' L' Q') := by
  generalize hP : (fun y => rgt T c y k z s0 t g) = P
  refine lpK2 (ρ := (Int32 → Int32 → Int32 → Hp → Rs) → Rs) (σ := ((Nat → Nat → Int32) × (Nat → Nat → Int64) × (Nat → Nat → Option Nat)) × Int32) (Lp := fun g' i s => fun K => L_X11_years_49 E K (rr w 136) (nI z) (nI k) (nI s0) g' (nI (cntP P i)) (fstP P i) (lstP P i) s.2 (nI i) (Hw E w s.1.1 s.1.2.1 s.1.2.2)) (K := fun s => fun K => K (nI (cntP P 201)) (fstP P 201) (lstP P 201) (Hw E w s.1.1 s.1.2.1 s.1.2.2)) (Iv := fun i s => CF I s.1.1 L s.1.2.1 Q s.1.2.2 ∧ CW s.1.1 s.1.2.1 s.1.2.2 T c ∧ (0 < i → MapY s.1.1 s.1.2.1 T c (i - 1) ∧ s.2 = zb (P (i - 1)))) (N := 201) (g := E.2.2.1) (i := 0) (s := ((I, L, Q), 0)) ?_ ?_ ?_ (by omega) (by omega) ⟨CF.rf, h, fun x => absurd x (by omega)⟩
  · rintro ⟨⟨I1, L1, Q1⟩, v⟩ ⟨z1, z2, z3⟩ ee
    exact ⟨I1, L1, Q1, z1, z2, fun K => congrFun ee K⟩
  · rintro g' i ⟨⟨I1, L1, Q1⟩, v⟩ hi ⟨z1, z2, z3⟩
    dsimp only at *
    have go : ∃ I2 L2 Q2, (CF I I2 L L2 Q Q2 ∧ CW I2 L2 Q2 T c ∧ MapY I2 L2 T c i) ∧ ∀ (K : Int32 → Int32 → Int32 → Int32 → Int32 → Hp → Rs), J_X11_years_74 E K (rr w 136) (nI z) (nI k) (nI s0) (nI (cntP P i)) (fstP P i) (lstP P i) (nI i) (Hw E w I1 L1 Q1) = K (nI (cntP P (i + 1))) (fstP P (i + 1)) (lstP P (i + 1)) (zb (P i)) (nI (i + 1)) (Hw E w I2 L2 Q2) := by
      obtain ⟨I2, L2, a1, a2, a3, a4, -, a6⟩ := c_set (E := E) (w := w) (y := i) hG z2 (by omega) hk
      obtain ⟨I3, L3, Q3, b1, b2, b3, -, b5⟩ := c_getsThere (E := E) (w := w) (z := z) (t := t) (s0 := s0) hG a2 a3 a4 hz ht t10 eg g40 hs
      have ei : rgt T c i k z s0 t g ↔ P i := by rw [← hP]
      rw [zb_c ei] at b5
      refine ⟨I3, L3, Q3, ⟨(z1.tr a1).tr b1, b2, b3.2.2.1⟩, fun K => ?_⟩
      unfold J_X11_years_74
      simp only [Option.bind_some, Option.map_some, Option.join, cI_r, cL_r, cV_r, xI_r, xL_r, xV_r, xI_t, xL_t, xV_t, lt_r, rtZ_0, rtZ_1, rtZ_zb, o136, a6, gf136_4, o40, b5, c_yr92 (show i ≤ 200 by omega)]
    by_cases c0 : i = 0
    · obtain ⟨I2, L2, Q2, ⟨g1, g2, g3⟩, g4⟩ := go
      refine ⟨((I2, L2, Q2), zb (P i)), ⟨g1, g2, fun _ => ⟨g3, rfl⟩⟩, ?_⟩
      funext K
      show L_X11_years_49 E K (rr w 136) (nI z) (nI k) (nI s0) (g' + 1) (nI (cntP P i)) (fstP P i) (lstP P i) v (nI i) (Hw E w I1 L1 Q1) = _
      rw [L_X11_years_49, m200, if_neg (nI_nlt (show i ≤ 200 by omega) (by decide)), if_pos (by rw [c0]; rfl), g4]
    · have z3' := z3 (by omega)
      have n0 : ¬ nI i = 0 := fun e => c0 ((nI_eq (by omega) (show 0 < 2 ^ 31 by decide)).mp e)
      by_cases p : I1 32 1 ≤ nI i ∧ nI i ≤ I1 32 2
      · have my : MapY I1 L1 T c i := ⟨z3'.1.1, p⟩
        have al := MapY_alk z3'.1 my (by omega) (by omega)
        have ev : v = zb (P i) := by
          rw [z3'.2]
          refine zb_c ?_
          rw [← hP]
          exact rgt_y al
        refine ⟨((I1, L1, Q1), zb (P i)), ⟨z1, z2, fun _ => ⟨my, rfl⟩⟩, ?_⟩
        funext K
        show L_X11_years_49 E K (rr w 136) (nI z) (nI k) (nI s0) (g' + 1) (nI (cntP P i)) (fstP P i) (lstP P i) v (nI i) (Hw E w I1 L1 Q1) = _
        rw [L_X11_years_49, m200, if_neg (nI_nlt (show i ≤ 200 by omega) (by decide)), if_neg n0]
        simp only [Option.bind_some, Option.map_some, Option.join, cI_r, cL_r, cV_r, xI_r, xL_r, xV_r, xI_t, xL_t, xV_t, lt_r, rtZ_0, rtZ_1, rtZ_zb, gf136_3, o32, f_prepd, zn_t p]
        rw [ev, c_yr92 (by omega)]
      · obtain ⟨I2, L2, Q2, ⟨g1, g2, g3⟩, g4⟩ := go
        refine ⟨((I2, L2, Q2), zb (P i)), ⟨g1, g2, fun _ => ⟨g3, rfl⟩⟩, ?_⟩
        funext K
        show L_X11_years_49 E K (rr w 136) (nI z) (nI k) (nI s0) (g' + 1) (nI (cntP P i)) (fstP P i) (lstP P i) v (nI i) (Hw E w I1 L1 Q1) = _
        rw [L_X11_years_49, m200, if_neg (nI_nlt (show i ≤ 200 by omega) (by decide)), if_neg n0]
        simp only [Option.bind_some, Option.map_some, Option.join, cI_r, cL_r, cV_r, xI_r, xL_r, xV_r, xI_t, xL_t, xV_t, lt_r, rtZ_0, rtZ_1, rtZ_zb, gf136_3, o32, f_prepd, zn_f p]
        rw [g4]
  · rintro g' ⟨⟨I1, L1, Q1⟩, v⟩ _
    funext K
    show L_X11_years_49 E K (rr w 136) (nI z) (nI k) (nI s0) (g' + 1) (nI (cntP P 201)) (fstP P 201) (lstP P 201) v (nI 201) (Hw E w I1 L1 Q1) = _
    rw [L_X11_years_49, if_pos (by decide)]
theorem m_years52 {z t s0 g : Nat} (hG : 100000 ≤ E.2.2.1) (h : MW I L T c) (hk : k < c 4) (hz : z < c 5) (ht : T (764 + 173 * z) = nI t) (t10 : t ≤ 10) (eg : T (762 + 173 * z) = nI g) (g40 : g < 40) (hs : s0 < 4 * c 1) : ∃ I' L', MF I I' L L' ∧ MW I' L' T c ∧ ∀ K, L_X12_years_52 E K (rr w 163) (nI z) (nI k) (nI s0) E.2.2.1 0 (-1) (-1) 0 (Hw E w I L Q) = K (nI (cntP (fun y => rgt T c y k z s0 t g) 201)) (fstP (fun y => rgt T c y k z s0 t g) 201) (lstP (fun y => rgt T c y k z s0 t g) 201) (Hw E w I' L' Q) := by
  generalize hP : (fun y => rgt T c y k z s0 t g) = P
  refine lpK2 (ρ := (Int32 → Int32 → Int32 → Hp → Rs) → Rs) (σ := (Nat → Nat → Int32) × (Nat → Nat → Int64)) (Lp := fun g' i s => fun K => L_X12_years_52 E K (rr w 163) (nI z) (nI k) (nI s0) g' (nI (cntP P i)) (fstP P i) (lstP P i) (nI i) (Hw E w s.1 s.2 Q)) (K := fun s => fun K => K (nI (cntP P 201)) (fstP P 201) (lstP P 201) (Hw E w s.1 s.2 Q)) (Iv := fun i s => MF I s.1 L s.2 ∧ MW s.1 s.2 T c) (N := 201) (g := E.2.2.1) (i := 0) (s := (I, L)) ?_ ?_ ?_ (by omega) (by omega) ⟨MF.rf, h⟩
  · rintro ⟨I1, L1⟩ ⟨z1, z2⟩ ee
    exact ⟨I1, L1, z1, z2, fun K => congrFun ee K⟩
  · rintro g' i ⟨I1, L1⟩ hi ⟨z1, z2⟩
    dsimp only at *
    obtain ⟨I2, L2, b1, b2, b3⟩ := m_isRight (E := E) (w := w) (Q := Q) (y := i) (k := k) (z := z) (t := t) (s0 := s0) hG z2 (by omega) hk hz ht t10 eg g40 hs
    have ei : rgt T c i k z s0 t g ↔ P i := by rw [← hP]
    rw [zb_c ei] at b3
    refine ⟨(I2, L2), ⟨z1.tr b1, b2⟩, ?_⟩
    funext K
    show L_X12_years_52 E K (rr w 163) (nI z) (nI k) (nI s0) (g' + 1) (nI (cntP P i)) (fstP P i) (lstP P i) (nI i) (Hw E w I1 L1 Q) = L_X12_years_52 E K (rr w 163) (nI z) (nI k) (nI s0) g' (nI (cntP P (i + 1))) (fstP P (i + 1)) (lstP P (i + 1)) (nI (i + 1)) (Hw E w I2 L2 Q)
    rw [L_X12_years_52, m200, if_neg (nI_nlt (show i ≤ 200 by omega) (by decide))]
    simp only [Option.bind_some, Option.map_some, Option.join, cI_r, cL_r, cV_r, xI_r, xL_r, xV_r, xI_t, xL_t, xV_t, lt_r, rtZ_0, rtZ_1, rtZ_zb, o163, b3, nI_1]
    by_cases p : P i
    · rw [zn_t p, cntP_t p, lstP_t p]
      by_cases e : fstP P i = -1
      · rw [if_neg (not_not_intro e), (fstP_t (by omega) p).1 e]
      · rw [if_pos e, (fstP_t (by omega) p).2 e]
    · rw [zn_f p, cntP_f p, lstP_f p, fstP_f p]
  · rintro g' ⟨I1, L1⟩ _
    funext K
    show L_X12_years_52 E K (rr w 163) (nI z) (nI k) (nI s0) (g' + 1) (nI (cntP P 201)) (fstP P 201) (lstP P 201) (nI 201) (Hw E w I1 L1 Q) = _
    rw [L_X12_years_52, if_pos (by decide)]
theorem op_years (hG : 100000 ≤ E.2.2.1) (q : Inv w I L Q) (x1 x2 x3 x4 : Int32) : OpI E w (fun h => F_L_years E (rr w 136) x1 x2 x3 x4 (rr w 164) h) (fun h => F_X12_years E (rr w 163) x1 x2 x3 x4 h) I L Q := by
  have q0 := q
  obtain ⟨c, qc⟩ := q
  have qc' : InvC w I L Q c := qc
  obtain ⟨q1, q2, q3, q4, q5, q6, q7, q8, q9, q10, q11, q12, q13⟩ := qc
  have hC := q1.1
  have hC' : Cts ((up2 I 163 3 0) 137) c := hC
  have k1 := hC 1 (by decide)
  have k4 := hC 4 (by decide)
  have k5 := hC 5 (by decide)
  simp only [mx] at k1 k4 k5
  have e1 : I 0 3 = nI (c 1) := q2.2.1.1.trans k1.1
  have e4 : I 15 2 = nI (c 4) := q3.2.1.1.trans k4.1
  have e5 : I 22 0 = nI (c 5) := q4.1.1.trans k5.1
  have c1' : c 1 < 2 ^ 28 := by omega
  have c4' : c 4 < 2 ^ 31 := by omega
  have c5' : c 5 < 2 ^ 31 := by omega
  by_cases p1 : bl x1 (c 5)
  · by_cases p2 : bl x2 (c 4)
    · by_cases p3 : bl x3 (4 * c 1)
      · have pp : bl x1 (c 5) ∧ bl x2 (c 4) ∧ bl x3 (4 * c 1) := ⟨p1, p2, p3⟩
        by_cases p4 : bd x4 0 2
        · have z2 := (bd_iff (by decide)).mp p4
          have z22 : x4 ≤ 2 := Int32.not_lt.mp z2.2
          have p1' := p1
          have p2' := p2
          have p3' := p3
          obtain ⟨z, rfl, hz⟩ := p1'
          obtain ⟨k, rfl, hk⟩ := p2'
          obtain ⟨s, rfl, hs⟩ := p3'
          obtain ⟨t, et, ht⟩ := say_n q1 hz
          obtain ⟨g, eg, hg⟩ := goal_n q1 hz
          obtain ⟨I2, L2, Q2, b1, b2, b3⟩ := c_years49 (E := E) (w := w) (z := z) (t := t) (s0 := s) hG qc'.cw hk hz et ht eg hg hs
          generalize hP : (fun y => rgt (I 137) c y k z s t g) = P at b3
          generalize ev : (if ¬ x4 = 0 then (if ¬ x4 = 1 then lstP P 201 else fstP P 201) else nI (cntP P 201)) = r
          have hc : F_X11_years E (rr w 136) (nI z) (nI k) (nI s) x4 (Hw E w I L Q) = rtI r (Hw E w I2 L2 Q2) := by
            unfold F_X11_years
            simp (disch := omega) only [Option.bind_some, Option.map_some, Option.join, cI_r, cL_r, cV_r, xI_r, xL_r, xV_r, xI_t, xL_t, xV_t, lt_r, rtZ_0, rtZ_1, rtZ_zb, o136, f_needTelling e5 c5', nd_t p1, f_needWalker e4 c4', nd_t p2, f_needState e1 c1', nd_t p3, if_neg z2.1, if_pos z22, b3]
            rw [← ev]
            split
            · split <;> rfl
            · rfl
          have mw := MW.of qc' (v := r.toInt64) b1
          obtain ⟨I3, L3, d1, d2, d3⟩ := m_years52 (E := E) (w := w) (Q := Q2) (k := k) (z := z) (t := t) (s0 := s) hG mw hk hz et ht eg hg hs
          rw [hP] at d3
          refine OpI_ok qc' b1 b2 d1 d2 ?_ ?_
          · show F_L_years E (rr w 136) (nI z) (nI k) (nI s) x4 (rr w 164) (Hw E w I L Q) = _
            unfold F_L_years
            simp only [Option.bind_some, Option.map_some, Option.join, cI_r, cL_r, cV_r, xI_r, xL_r, xV_r, xI_t, xL_t, xV_t, lt_r, rtZ_0, rtZ_1, rtZ_zb, o136, hc, pa164, ix01]
          · show F_X12_years E (rr w 163) (nI z) (nI k) (nI s) x4 _ = _
            unfold F_X12_years
            have hC2 : Cts ((up2 I2 163 3 0) 137) c := by rw [mw.1]; exact hC
            simp (disch := omega) only [Option.bind_some, Option.map_some, Option.join, cI_r, cL_r, cV_r, xI_r, xL_r, xV_r, xI_t, xL_t, xV_t, lt_r, rtZ_0, rtZ_1, rtZ_zb, pf163_3, o163, f_areThere hC2, zn_t pp, f_wi 2 (by decide) (show (nI 2).toInt64 = 2 by rfl), zn_t p4, d3]
            rw [← ev]
            split
            · split <;> rfl
            · rfl
        · refine OpI_no (k := 2) (b := 0) q0 (by decide) ?_ ?_
          · show F_L_years E (rr w 136) x1 x2 x3 x4 (rr w 164) (Hw E w I L Q) = _
            unfold F_L_years F_X11_years
            by_cases c1 : x4 < 0
            · simp only [Option.bind_some, Option.map_some, Option.join, cI_r, cL_r, cV_r, xI_r, xL_r, xV_r, xI_t, xL_t, xV_t, lt_r, rtZ_0, rtZ_1, rtZ_zb, o136, f_needTelling e5 c5', nd_t p1, f_needWalker e4 c4', nd_t p2, f_needState e1 c1', nd_t p3, if_pos c1, if_true]
            · have c2 : ¬ x4 ≤ 2 := fun z => p4 ((bd_iff (by decide)).mpr ⟨c1, Int32.not_lt.mpr z⟩)
              simp only [Option.bind_some, Option.map_some, Option.join, cI_r, cL_r, cV_r, xI_r, xL_r, xV_r, xI_t, xL_t, xV_t, lt_r, rtZ_0, rtZ_1, rtZ_zb, o136, f_needTelling e5 c5', nd_t p1, f_needWalker e4 c4', nd_t p2, f_needState e1 c1', nd_t p3, if_neg c1, if_neg c2, if_true]
          · show F_X12_years E (rr w 163) x1 x2 x3 x4 _ = _
            unfold F_X12_years
            simp only [Option.bind_some, Option.map_some, Option.join, cI_r, cL_r, cV_r, xI_r, xL_r, xV_r, xI_t, xL_t, xV_t, lt_r, rtZ_0, rtZ_1, rtZ_zb, pf163_3, o163, f_areThere hC', zn_t pp, f_wi 2 (by decide) (show (nI 2).toInt64 = 2 by rfl), zn_f p4, f_fails]
      · refine OpI_no (k := 1) (b := 0) q0 (by decide) ?_ ?_
        · show F_L_years E (rr w 136) x1 x2 x3 x4 (rr w 164) (Hw E w I L Q) = _
          unfold F_L_years F_X11_years
          simp only [Option.bind_some, Option.map_some, Option.join, cI_r, cL_r, cV_r, xI_r, xL_r, xV_r, xI_t, xL_t, xV_t, lt_r, rtZ_0, rtZ_1, rtZ_zb, o136, f_needTelling e5 c5', nd_t p1, f_needWalker e4 c4', nd_t p2, f_needState e1 c1', nd_f p3, String.reduceEq, if_false, if_true]
        · show F_X12_years E (rr w 163) x1 x2 x3 x4 _ = _
          unfold F_X12_years
          simp only [Option.bind_some, Option.map_some, Option.join, cI_r, cL_r, cV_r, xI_r, xL_r, xV_r, xI_t, xL_t, xV_t, lt_r, rtZ_0, rtZ_1, rtZ_zb, pf163_3, o163, f_areThere hC', zn_f (fun z : bl x1 (c 5) ∧ bl x2 (c 4) ∧ bl x3 (4 * c 1) => p3 z.2.2), f_fails]
    · refine OpI_no (k := 1) (b := 0) q0 (by decide) ?_ ?_
      · show F_L_years E (rr w 136) x1 x2 x3 x4 (rr w 164) (Hw E w I L Q) = _
        unfold F_L_years F_X11_years
        simp only [Option.bind_some, Option.map_some, Option.join, cI_r, cL_r, cV_r, xI_r, xL_r, xV_r, xI_t, xL_t, xV_t, lt_r, rtZ_0, rtZ_1, rtZ_zb, o136, f_needTelling e5 c5', nd_t p1, f_needWalker e4 c4', nd_f p2, String.reduceEq, if_false, if_true]
      · show F_X12_years E (rr w 163) x1 x2 x3 x4 _ = _
        unfold F_X12_years
        simp only [Option.bind_some, Option.map_some, Option.join, cI_r, cL_r, cV_r, xI_r, xL_r, xV_r, xI_t, xL_t, xV_t, lt_r, rtZ_0, rtZ_1, rtZ_zb, pf163_3, o163, f_areThere hC', zn_f (fun z : bl x1 (c 5) ∧ bl x2 (c 4) ∧ bl x3 (4 * c 1) => p2 z.2.1), f_fails]
  · refine OpI_no (k := 1) (b := 0) q0 (by decide) ?_ ?_
    · show F_L_years E (rr w 136) x1 x2 x3 x4 (rr w 164) (Hw E w I L Q) = _
      unfold F_L_years F_X11_years
      simp only [Option.bind_some, Option.map_some, Option.join, cI_r, cL_r, cV_r, xI_r, xL_r, xV_r, xI_t, xL_t, xV_t, lt_r, rtZ_0, rtZ_1, rtZ_zb, o136, f_needTelling e5 c5', nd_f p1, String.reduceEq, if_false, if_true]
    · show F_X12_years E (rr w 163) x1 x2 x3 x4 _ = _
      unfold F_X12_years
      simp only [Option.bind_some, Option.map_some, Option.join, cI_r, cL_r, cV_r, xI_r, xL_r, xV_r, xI_t, xL_t, xV_t, lt_r, rtZ_0, rtZ_1, rtZ_zb, pf163_3, o163, f_areThere hC', zn_f (fun z : bl x1 (c 5) ∧ bl x2 (c 4) ∧ bl x3 (4 * c 1) => p1 z.1), f_fails]
end
