/-! the reference's word: every kind -/
section
variable {E : Ev} {w : Wo} {I : Nat → Nat → Int32} {L : Nat → Nat → Int64} {Q : Nat → Nat → Option Nat} {c : Nat → Nat} {y : Nat}
theorem MdP_cv {kt at0 : Nat} {W : Nat → Prop} {r : Rs} (z : MdP E w c y I L Q kt at0 W r) : MdP E w c y I L Q kt at0 W (cV r fun h => rtV h) := by
  obtain ⟨I', L', z1, z2, z3, z4⟩ := z
  exact ⟨I', L', z1, z2, z3, by rw [z4]; rfl⟩
theorem MdP_c {kt at0 : Nat} {W W' : Nat → Prop} {r : Rs} (h : ∀ q, q < 256 → (W q ↔ W' q)) (z : MdP E w c y I L Q kt at0 W r) : MdP E w c y I L Q kt at0 W' r := by
  obtain ⟨I', L', z1, z2, z3, z4⟩ := z
  exact ⟨I', L', z1, z2, fun q hq => by rw [z3 q hq, h q hq], z4⟩
theorem m_nth {k kf nf af kt nt at0 N sd : Nat} {aa : Int32} (hG : 100000 ≤ E.2.2.1) (q1 : WfT (I 137) c) (hl : Laid I L (I 137) c y) (hk : k < c 4) (hm : MT w kf nf af kt nt at0) (hX : ∀ q, mX L kf af q → q < 4 * c 1) (hsd : sd < 2) (hN : 1 ≤ N) (hN2 : N ≤ 20) (haa : aa = -1 ∨ bl aa 12) : MdP E w c y I L Q kt at0 (wNth (I 137) c y sd (I 137 (725 + 5 * k) = 1) (fun s => ¬ aa = -1 ∧ stS (I 137) c y k (tn aa) s) (ptc (I 137) k) N (mX L kf af)) (F_X12_nth E (rr w 163) (nI N) (nI sd) aa (nI k) (rr w kf) (nI af) (rr w kt) (nI at0) (Hw E w I L Q)) := by
  have k4 : c 4 ≤ 8 := (q1.1 4 (by decide)).2
  unfold F_X12_nth
  rcases haa with rfl | ⟨a, rfl, ha⟩
  · rw [if_neg (not_not_intro rfl)]
    exact m_nth60 hG q1 hl hk hm rfl hX hsd hN hN2 (Or.inl ⟨rfl, fun s z => z.1 rfl⟩)
  · have tA : tn (nI a) = a := nI_clamp (by omega)
    obtain ⟨I1, L1, s1, s2, s3, s4, s5⟩ := m_standing (E := E) (w := w) (Q := Q) hG q1 hl hk ha
    have i137 : I1 137 = I 137 := s1 137 (by decide)
    have hm0 := hm
    obtain ⟨g1, g2, g3, g4, g5, g6, g7⟩ := hm
    have eX : mX L1 kf af = mX L kf af := by unfold mX; rw [s2 kf (fun z => g5.1 (Or.inl z))]
    rw [if_pos (m1_ne (by omega)), o163, Option.bind_some, s5, cI_r]
    have z := m_nth60 (E := E) (w := w) (I := I1) (L := L1) (Q := Q) (c := c) (y := y) (k := k) (sd := sd) (N := N) (y9 := nI (4 * (12 * k + a))) (P := fun s => ¬ nI a = -1 ∧ stS (I 137) c y k (tn (nI a)) s) hG (by rw [i137]; exact q1) (by rw [i137]; exact s3) hk hm0 eX hX hsd hN hN2 (Or.inr ⟨4 * (12 * k + a), rfl, by omega, fun s hs => by
      rw [s4 s hs, tA]
      exact and_congr_right fun _ => ⟨fun z => ⟨m1_ne (by omega), z⟩, fun z => z.2⟩⟩)
    obtain ⟨I2, L2, v1, v2, v3, v4⟩ := z
    rw [i137] at v2 v3
    have f0 : MdF I I1 L L1 kt at0 := MdF.tmp g6.1 s1 (fun k' hk' => s2 k' (fun z => hk' (Or.inl z)))
    exact ⟨I2, L2, f0.tr v1, v2, fun q hq => by rw [v3 q hq, s2 kt (fun z => g6.1 (Or.inl z))], v4⟩
theorem m_word {k kf nf af kt nt at0 : Nat} {kk nn aa : Int32} (hG : 100000 ≤ E.2.2.1) (q1 : WfT (I 137) c) (hl : Laid I L (I 137) c y) (hk : k < c 4) (hm : MT w kf nf af kt nt at0) (hX : ∀ q, mX L kf af q → q < 4 * c 1) (hw : WfW kk nn aa) : MdP E w c y I L Q kt at0 (wd (I 137) c y k (tn kk) (tn nn) aa (mX L kf af)) (F_X12_word E (rr w 163) kk nn aa (nI k) (rr w kf) (nI af) (rr w kt) (nI at0) (Hw E w I L Q)) := by
  have hm0 := hm
  obtain ⟨g1, g2, g3, g4, g5, g6, g7⟩ := hm
  unfold F_X12_word
  rcases hw with ⟨rfl, ⟨N, rfl, hN1, hN2⟩, rfl⟩ | ⟨hkk, rfl, ⟨a, rfl, ha⟩⟩ | ⟨rfl, ⟨N, rfl, hN1, hN2⟩, rfl⟩ | ⟨hkk, rfl, rfl⟩ | ⟨rfl, ⟨N, rfl, hN⟩, rfl⟩ | ⟨rfl, ⟨N, rfl, hN1, hN2⟩, haa⟩
  · have tN : tn (nI N) = N := nI_clamp (by omega)
    rw [if_pos rfl, o163, Option.bind_some, tN]
    exact MdP_cv (m_onTimes hG q1 hl hk hm0 (by omega))
  · have tA : tn (nI a) = a := nI_clamp (by omega)
    rcases hkk with rfl | rfl | rfl | rfl
    · rw [if_neg (by decide), if_pos rfl, o163, Option.bind_some]
      refine MdP_cv (MdP_c (fun q hq => ?_) (m_until (past := False) hG q1 hl hk ha hm0 ⟨fun _ z => z, fun _ => rfl⟩))
      show _ ↔ ∃ i, i < ptc (I 137) k ∧ wUn (I 137) c y (stS (I 137) c y k (tn (nI a))) False _ i q
      rw [tA]
    · rw [if_neg (by decide), if_neg (by decide), if_pos rfl, o163, Option.bind_some]
      refine MdP_cv (MdP_c (fun q hq => ?_) (m_until (past := True) hG q1 hl hk ha hm0 ⟨fun z => absurd z (by decide), fun z => absurd trivial z⟩))
      show _ ↔ ∃ i, i < ptc (I 137) k ∧ wUn (I 137) c y (stS (I 137) c y k (tn (nI a))) True _ i q
      rw [tA]
    · rw [if_neg (by decide), if_neg (by decide), if_neg (by decide), if_neg (by decide), if_pos rfl]
      refine MdP_c (fun q hq => ?_) (m_129 hG q1 hl hk ha hm0 hX (Or.inl ⟨rfl, rfl⟩))
      show _ ↔ mX L kf af q ∧ seS (I 137) c y k (tn (nI a)) q
      rw [tA]
    · rw [if_neg (by decide), if_neg (by decide), if_neg (by decide), if_neg (by decide), if_neg (by decide), if_pos rfl]
      refine MdP_c (fun q hq => ?_) (m_129 hG q1 hl hk ha hm0 hX (Or.inr ⟨rfl, rfl⟩))
      show _ ↔ mX L kf af q ∧ ovr (I 137) c y (stS (I 137) c y k (tn (nI a))) 3 q
      rw [tA]
  · have tN : tn (nI N) = N := nI_clamp (by omega)
    rw [if_neg (by decide), if_neg (by decide), if_neg (by decide), if_pos rfl, o163, Option.bind_some, tN]
    exact MdP_cv (m_far hG q1 hl hk hm0 hX hN1 hN2)
  · rcases hkk with rfl | rfl
    · rw [if_neg (by decide), if_neg (by decide), if_neg (by decide), if_neg (by decide), if_neg (by decide), if_neg (by decide), if_pos rfl]
      exact MdP_cv (m_jn (W := mX L kf af) hG g3 g4 g6 g1 g2 g7 (MdF.tmp g6.1 (fun _ _ => rfl) (fun _ _ => rfl)) (fun _ _ => Iff.rfl) hl (fun q hq => ⟨fun z => ⟨hq, z⟩, fun z => z.2⟩))
    · rw [if_neg (by decide), if_neg (by decide), if_neg (by decide), if_neg (by decide), if_neg (by decide), if_neg (by decide), if_neg (by decide), if_pos rfl]
      exact m_224 hG q1 hl hm0 hX
  · have tN : tn (nI N) = N := nI_clamp (by omega)
    rw [if_neg (by decide), if_neg (by decide), if_neg (by decide), if_neg (by decide), if_neg (by decide), if_neg (by decide), if_neg (by decide), if_neg (by decide), if_pos rfl, tN]
    exact m_286 hG q1 hl hk hN hm0
  · have tN : tn (nI N) = N := nI_clamp (by omega)
    have sdl : sdW (I 137) k (N % 2) < 2 := by unfold sdW; split <;> omega
    rw [if_neg (by decide), if_neg (by decide), if_neg (by decide), if_neg (by decide), if_neg (by decide), if_neg (by decide), if_neg (by decide), if_neg (by decide), if_neg (by decide), m2, dv2 (by omega), Option.bind_some, rm2 (by omega), Option.bind_some, o163, Option.bind_some, m_sideOf q1 hk (by omega), cI_r, o163, Option.bind_some, tN]
    exact MdP_cv (m_nth hG q1 hl hk hm0 hX sdl (by omega) (by omega) haa)
end
