/-! odds are parts of one whole -/
def sumN (f : Nat → Nat) : Nat → Nat
  | 0 => 0
  | n + 1 => sumN f n + f n
theorem sumN_mono {f : Nat → Nat} {a b : Nat} (h : a ≤ b) : sumN f a ≤ sumN f b := by
  induction b with
  | zero => rw [show a = 0 by omega]; exact Nat.le_refl _
  | succ b ih =>
    by_cases e : a = b + 1
    · rw [e]; exact Nat.le_refl _
    · have := ih (by omega)
      show sumN f a ≤ sumN f b + f b
      omega
theorem sumN_at {f : Nat → Nat} {a b : Nat} (h : a < b) : f a ≤ sumN f b := by
  have := sumN_mono (f := f) (show a + 1 ≤ b by omega)
  have e : sumN f (a + 1) = sumN f a + f a := rfl
  omega
def BR (R : Nat → Int32) (B : Nat) : Prop := ∃ r : Nat → Nat, (∀ s, s < 240 → R s = nI (r s)) ∧ sumN r 240 ≤ B
/-- what one share gives to each -/
noncomputable def pcN (a : Nat) (X : Nat → Prop) (s : Nat) : Nat := @ite _ (X s) (Classical.propDecidable _) (a / cntP X 240 + if a % cntP X 240 ≤ cntP X s then 0 else 1) 0
theorem pcN_sum {a : Nat} {X : Nat → Prop} (N : Nat) : sumN (pcN a X) N = cntP X N * (a / cntP X 240) + min (a % cntP X 240) (cntP X N) := by
  induction N with
  | zero => show 0 = cntP X 0 * _ + _; rw [show cntP X 0 = 0 from rfl]; omega
  | succ N ih =>
    show sumN (pcN a X) N + pcN a X N = _
    rw [ih]
    unfold pcN
    by_cases p : X N
    · rw [if_pos p, cntP_t p, Nat.add_mul, Nat.one_mul]
      generalize cntP X N * (a / cntP X 240) = u
      generalize a / cntP X 240 = v
      split <;> omega
    · rw [if_neg p, cntP_f p]; omega
theorem sumN_add {f g h : Nat → Nat} {N : Nat} (e : ∀ s, s < N → h s = f s + g s) : sumN h N = sumN f N + sumN g N := by
  induction N with
  | zero => rfl
  | succ N ih =>
    show sumN h N + h N = sumN f N + f N + (sumN g N + g N)
    rw [ih (fun s hs => e s (by omega)), e N (by omega)]; omega
theorem nI_sub {a b : Nat} (h : b ≤ a) (ha : a < 2 ^ 31) : nI a - nI b = nI (a - b) := by
  have e : nI a = nI (a - b) + nI b := by rw [nI_add]; congr 1; omega
  rw [e, Int32.add_sub_cancel]
theorem pcs_n {a n j : Nat} (h0 : 0 < n) (hn : n ≤ 240) (ha : a < 2 ^ 31) (hj : j < 2 ^ 31) : pcs (nI a) n j = nI (a / n + if a % n ≤ j then 0 else 1) := by
  have e1 : nI a / nI n = nI (a / n) := pk_div ha h0 (by omega)
  have q := Nat.div_add_mod a n
  have q2 : a / n * n = n * (a / n) := Nat.mul_comm ..
  have lt : a % n < n := Nat.mod_lt _ h0
  have e2 : nI a - nI (a / n) * nI n = nI (a % n) := by
    rw [pk_mul, nI_sub (by omega) ha]
    congr 1; omega
  unfold pcs
  rw [e1, e2]
  by_cases p : a % n ≤ j
  · rw [if_pos (nI_le p (by omega)), if_pos p, Nat.add_zero]
  · rw [if_neg (nI_ge (show j < a % n by omega) (by omega)), if_neg p, nI_1]
theorem BR_shr {m : Int32} {X : Nat → Prop} {G : Nat → Int32} {A a : Nat} (hm : m = nI a) (h : BR G A) (hb : A + a ≤ 1000000) : BR (shr m X G) (A + a) := by
  obtain ⟨g, h1, h2⟩ := h
  have le : cntP X 240 ≤ 240 := cntP_le 240
  subst hm
  by_cases p : cntP X 240 = 0
  · refine ⟨g, fun s hs => ?_, by omega⟩
    rw [shr_f (cnt_0.mp p s hs)]; exact h1 s hs
  · have hs := pcN_sum (a := a) (X := X) 240
    have q := Nat.div_add_mod a (cntP X 240)
    have lt : a % cntP X 240 < cntP X 240 := Nat.mod_lt _ (by omega)
    refine ⟨fun s => g s + pcN a X s, fun s hs' => ?_, ?_⟩
    · show _ = nI (g s + pcN a X s)
      by_cases px : X s
      · rw [shr_t px, h1 s hs', pcs_n (by omega) le (by omega) (by have := cntP_le (P := X) s; omega), nI_add]
        unfold pcN
        rw [if_pos px]
      · rw [shr_f px, h1 s hs']
        unfold pcN
        rw [if_neg px, Nat.add_zero]
    · rw [sumN_add (f := g) (g := pcN a X) (fun _ _ => rfl), hs]
      generalize cntP X 240 * (a / cntP X 240) = u at *
      omega
theorem BR_fold {W : Nat → Nat → Prop} {R : Nat → Int32} {r : Nat → Nat} (h1 : ∀ s, s < 240 → R s = nI (r s)) (h2 : sumN r 240 ≤ 1000000) : ∀ i, i ≤ 240 → BR (oFold W R i) (sumN r i) := by
  intro i
  induction i with
  | zero =>
    intro _
    refine ⟨fun _ => 0, fun s _ => rfl, ?_⟩
    have z : ∀ n, sumN (fun _ => 0) n = 0 := by
      intro n
      induction n with
      | zero => rfl
      | succ n ih => show sumN (fun _ => 0) n + 0 = 0; rw [ih]
    rw [z]; exact Nat.zero_le _
  | succ i ih =>
    intro hi
    have ii := ih (by omega)
    have mono := sumN_mono (f := r) (show i + 1 ≤ 240 by omega)
    have ei : sumN r (i + 1) = sumN r i + r i := rfl
    by_cases p : R i = 0
    · rw [oFold_0 p]
      obtain ⟨g, g1, g2⟩ := ii
      exact ⟨g, g1, by omega⟩
    · rw [oFold_s p, ei]
      exact BR_shr (h1 i (by omega)) ii (by omega)
theorem BR_seq {T : Ro} {c : Nat → Nat} {y k z j0 : Nat} {R : Nat → Int32} (h : BR R 1000000) : ∀ i, BR (oSeq T c y k z j0 R i) 1000000 := by
  intro i
  induction i with
  | zero => exact h
  | succ i ih =>
    obtain ⟨r, h1, h2⟩ := ih
    obtain ⟨g, g1, g2⟩ := BR_fold (W := fun s => sayW T c y k z (j0 + i) (fun q => q = s)) h1 h2 240 (Nat.le_refl 240)
    exact ⟨g, g1, by omega⟩
theorem BR_0 : BR (fun _ => 0) 0 := by
  refine ⟨fun _ => 0, fun s _ => rfl, ?_⟩
  have z : ∀ n, sumN (fun _ => 0) n = 0 := by
    intro n
    induction n with
    | zero => rfl
    | succ n ih => show sumN (fun _ => 0) n + 0 = 0; rw [ih]
  rw [z]; exact Nat.zero_le _
theorem BR_sm {R : Nat → Int32} {P : Nat → Prop} {N : Nat} (h : BR R 1000000) (hN : N ≤ 240) : ∃ v, smP R P N = nI v ∧ v ≤ 1000000 := by
  obtain ⟨r, h1, h2⟩ := h
  have key : ∀ n, n ≤ 240 → ∃ v, smP R P n = nI v ∧ v ≤ sumN r n := by
    intro n
    induction n with
    | zero => intro _; exact ⟨0, rfl, Nat.zero_le _⟩
    | succ n ih =>
      intro hn
      obtain ⟨v, e, hv⟩ := ih (by omega)
      have ei : sumN r (n + 1) = sumN r n + r n := rfl
      by_cases p : P n
      · exact ⟨v + r n, by rw [smP_t p, e, h1 n (by omega), nI_add], by omega⟩
      · exact ⟨v, by rw [smP_f p, e], by omega⟩
  obtain ⟨v, e, hv⟩ := key N hN
  have := sumN_mono (f := r) hN
  exact ⟨v, e, by omega⟩
