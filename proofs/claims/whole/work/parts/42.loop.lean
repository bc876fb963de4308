/-! loops: search, and by an invariant -/
theorem srch {Lp : Nat → Int32 → Rs} {c : Nat → Prop} {R : Nat → Rs} {Z X : Rs} {N : Nat} (h1 : ∀ g i, i < N → (∀ j, j < i → ¬ c j) → c i → Lp (g + 1) (nI i) = R i) (h2 : ∀ g i, i < N → (∀ j, j < i → ¬ c j) → ¬ c i → Lp (g + 1) (nI i) = Lp g (nI i + 1)) (h3 : ∀ g, (∀ j, j < N → ¬ c j) → Lp (g + 1) (nI N) = Z) (hr : ∀ i, i < N → (∀ j, j < i → ¬ c j) → c i → R i = X) (hz : (∀ j, j < N → ¬ c j) → Z = X) : ∀ g, N < g → Lp g 0 = X := by
  have loop : ∀ g i, N - i < g → i ≤ N → (∀ j, j < i → ¬ c j) → Lp g (nI i) = X := by
    intro g
    induction g with
    | zero => intro i hg; omega
    | succ g ih =>
      intro i hg hi hn
      by_cases e : i = N
      · subst e; rw [h3 g hn, hz hn]
      · have hlt : i < N := by omega
        by_cases hc : c i
        · rw [h1 g i hlt hn hc, hr i hlt hn hc]
        · rw [h2 g i hlt hn hc, nI_1]
          refine ih (i + 1) (by omega) (by omega) (fun j hj => ?_)
          by_cases ej : j = i
          · subst ej; exact hc
          · exact hn j (by omega)
  intro g hg
  exact loop g 0 (by omega) (by omega) (fun j hj => absurd hj (by omega))
/-- a counted loop by an invariant: the state may be anything -/
theorem lpI {σ : Type} {Lp : Nat → Nat → σ → Rs} {Inv : Nat → σ → Prop} {X : Rs} {N : Nat} (h2 : ∀ g i s, i < N → Inv i s → ∃ s', Inv (i + 1) s' ∧ Lp (g + 1) i s = Lp g (i + 1) s') (h3 : ∀ g s, Inv N s → Lp (g + 1) N s = X) : ∀ g i s, N - i < g → i ≤ N → Inv i s → Lp g i s = X := by
  intro g
  induction g with
  | zero => intro i s hg; omega
  | succ g ih =>
    intro i s hg hi hv
    by_cases e : i = N
    · subst e; exact h3 g s hv
    · obtain ⟨s', hs, e'⟩ := h2 g i s (by omega) hv
      rw [e']; exact ih (i + 1) s' (by omega) (by omega) hs
