/-! the class' follow, whole; both answers are one number -/
section
variable {E : Ev} {w : Wo} {I : Nat → Nat → Int32} {L : Nat → Nat → Int64} {Q : Nat → Nat → Option Nat} {c : Nat → Nat} {T : Ro} {y : Nat}
/-- how far a saying leads is one number -/
theorem gone_uq {F : Nat → Nat → Prop} {m r r' : Nat} (h1 : r ≤ m) (h2 : ∀ j, j < r → ∃ q, F (j + 1) q) (h3 : r < m → ∀ q, ¬ F (r + 1) q) (g1 : r' ≤ m) (g2 : ∀ j, j < r' → ∃ q, F (j + 1) q) (g3 : r' < m → ∀ q, ¬ F (r' + 1) q) : r = r' := by
  rcases Nat.lt_trichotomy r r' with e | e | e
  · obtain ⟨q, hq⟩ := g2 r e
    exact absurd hq (h3 (by omega) q)
  · exact e
  · obtain ⟨q, hq⟩ := h2 r' e
    exact absurd hq (g3 (by omega) q)
theorem c_follow {z k m t s0 : Nat} (hG : 100000 ≤ E.2.2.1) (h : WC I L Q T c y k) (hg : Gnd I L T c y k) (hb : BookZ (fun j => I (22 + j)) T z) (hq : WalkR Q) (hz : z < c 5) (ht : T (764 + 173 * z) = nI t) (ht2 : t ≤ 10) (hm : m ≤ t) (hs : s0 < 4 * c 1) : ∃ I' L' Q' a' r, Fol w T c y k z s0 m I I' L L' Q Q' a' r ∧ F_X9_follow E (rr w 40) (nI z) (nI s0) (nI m) (Hw E w I L Q) = rtI (nI r) (Hw E w I' L' Q') := by
  have k1 : c 1 ≤ 60 := (h.1.1 1 (by decide)).2
  have hab : ∃ a b, ((a = 43 ∧ b = 45) ∨ (a = 45 ∧ b = 43)) ∧ Q 40 7 = some a ∧ Q 40 8 = some b := by
    rcases hq with ⟨e1, e2⟩ | ⟨e1, e2⟩
    · exact ⟨43, 45, Or.inl ⟨rfl, rfl⟩, e1, e2⟩
    · exact ⟨45, 43, Or.inr ⟨rfl, rfl⟩, e1, e2⟩
  obtain ⟨a, b, hab, hq7, hq8⟩ := hab
  have sa : SO w a := by
    rcases hab with e | e
    · rw [e.1]; exact so43
    · rw [e.1]; exact so45
  have cl := c_clear (E := E) (w := w) (I := I) (L := L) (Q := Q) hG sa
  have ad := c_add (E := E) (w := w) (I := I) (L := rs L (a + 1) 0 4 (fun _ => 0)) (Q := Q) (s := s0) sa (by omega)
  have o1 : ∀ q, q < 256 → (bq (adS (rs L (a + 1) 0 4 (fun _ => 0)) (a + 1) s0 (a + 1)) q ↔ q = s0) := fun q hq => by
    rw [adS_b (by omega) hq]
    exact ⟨fun x => x.elim (fun x => absurd x (clr_b hq)) id, Or.inr⟩
  have o2 : ∀ k, k ≠ a + 1 → adS (rs L (a + 1) 0 4 (fun _ => 0)) (a + 1) s0 k = L k := fun k hk => (adS_row hk).trans (rs_row _ _ hk)
  generalize adS (rs L (a + 1) 0 4 (fun _ => 0)) (a + 1) s0 = L0 at *
  have f0 : FoF I I L L0 Q Q := ⟨fun _ _ _ _ _ _ => rfl, fun k _ a2 a3 _ _ _ => o2 k (by omega), fun _ _ _ => rfl, fun _ _ _ => rfl⟩
  have mp0 : MapY I L0 T c y := ⟨MapR_c rfl rfl (fun k g1 g2 => o2 k (by omega)) h.2.2.1.1, h.2.2.1.2⟩
  have st0 : StepsR I L0 Q := StepsR_c rfl rfl rfl (o2 50 (by omega)) (o2 52 (by omega)) h.2.2.2.2.1
  obtain ⟨I', L', Q', a', r, v1, v2⟩ := c_fol18 (E := E) (w := w) (I := I) (L := L0) (Q := Q) (T := T) (c := c) (y := y) (z := z) (k := k) (m := m) (t := t) (s0 := s0) hG (f0.wc h mp0 st0) (f0.gnd hg) hb hab hq7 hq8 hz ht ht2 hm hs o1
  refine ⟨I', L', Q', a', r, ⟨f0.tr v1.1, v1.2⟩, ?_⟩
  unfold F_X9_follow
  rw [gf40_7, hq7, Option.map_some, Option.bind_some, sa.o, Option.bind_some, cl, cV_r, gf40_7, hq7, Option.map_some, Option.bind_some, sa.o, Option.bind_some, ad, cV_r, v2]
end
