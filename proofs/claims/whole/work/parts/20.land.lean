/-! BurntOak$Land: what its cells hold; isTaken, addPlace -/
def fsLand (n w k : Int32) (r : Nat → Nat) : List Value := [.int n, .ref (r 0), .ref (r 1), .int w, .ref (r 2), .ref (r 3), .ref (r 4), .ref (r 5), .ref (r 6), .ref (r 7), .ref (r 8), .int k, .ref (r 9), .ref (r 10), .ref (r 11), .ref (r 12), .ref (r 13)]
section LAND
variable {ar : Nat → ClassId} {ro : Nat → Option (Nat × (Nat → Int32))} {sa : Nat → Nat} {d : Nat} {h : Hp} {mc ms : Nat}
theorem c_isTaken {n w k : Int32} {r : Nat → Nat} {fx fy : Nat → Int32} {a N : Nat} (hL : h a = some (.inr (3, fsLand n w k r))) (hx : h (r 0) = some (.inl (ar 0, 40, .inl fx))) (hy : h (r 1) = some (.inl (ar 0, 40, .inl fy))) (hn : n = nI N) (hN : N ≤ 40) (x y : Int32) :
    CT ar ro sa mX3_isTaken d [.ref a, .int x, .int y] h mc ms (Ex (fun v h' => h' = h ∧ ((v = some (.int 1) ∧ ∃ p, p < N ∧ fx p = x ∧ fy p = y) ∨ (v = some (.int 0) ∧ ∀ p, p < N → ¬ (fx p = x ∧ fy p = y)))) No) := by
  have loop : ∀ (g i : Nat), N - i = g → i ≤ N → (∀ p, p < i → ¬ (fx p = x ∧ fy p = y)) → WP ar ro sa mX3_isTaken d 2 [some (.ref a), some (.int x), some (.int y), some (.int (nI i))] [] h mc ms (Ex (fun v h' => h' = h ∧ ((v = some (.int 1) ∧ ∃ p, p < N ∧ fx p = x ∧ fy p = y) ∨ (v = some (.int 0) ∧ ∀ p, p < N → ¬ (fx p = x ∧ fy p = y)))) No) := by
    intro g
    induction g with
    | zero =>
      intro i hg hi hinv
      have e : i = N := by omega
      subst e
      refine r_iload_n eX3_isTaken_2 rfl ?_
      refine r_aload_n eX3_isTaken_3 rfl ?_
      refine r_getf eX3_isTaken_4 f_3_55 (by assumption) rfl ?_
      refine r_icmp_ge (t := 38) eX3_isTaken_7 (by decide) (fun c7 => ?_) (fun c7 => ?_)
      · refine r_iconst (v := 0) eX3_isTaken_38 (by decide) ?_
        exact r_zret eX3_isTaken_39 rfl (by first | rfl | assumption | decide) (⟨rfl, Or.inr ⟨rfl, hinv⟩⟩)
      · exact absurd (by rw [hn]; exact nI_le (Nat.le_refl _) (by omega)) c7
    | succ g ih =>
      intro i hg hi hinv
      have hlt : i < N := by omega
      have hcl : (nI i).toNatClampNeg = i := nI_clamp (by omega)
      have hin : vp_in (nI i) 40 := vp_in_nI (by omega) (by omega)
      refine r_iload_n eX3_isTaken_2 rfl ?_
      refine r_aload_n eX3_isTaken_3 rfl ?_
      refine r_getf eX3_isTaken_4 f_3_55 (by assumption) rfl ?_
      refine r_icmp_ge (t := 38) eX3_isTaken_7 (by decide) (fun c7 => ?_) (fun c7 => ?_)
      · exact absurd c7 (by rw [hn]; exact nI_ge hlt (by omega))
      · refine r_aload_n eX3_isTaken_10 rfl ?_
        refine r_getf eX3_isTaken_11 f_3_9 hL rfl ?_
        refine r_iload_n eX3_isTaken_14 rfl ?_
        refine r_iald eX3_isTaken_15 hx hin ?_
        refine r_iload_n eX3_isTaken_16 rfl ?_
        refine r_icmp_ne (t := 32) eX3_isTaken_17 (by decide) (fun c17 => ?_) (fun c17 => ?_)
        · refine r_iinc (v := 1) (lv' := [_, _, _, _]) eX3_isTaken_32 rfl (by decide) rfl ?_
          refine r_goto (t := 2) eX3_isTaken_35 (by decide) ?_
          rw [nI_1]; exact ih (i + 1) (by omega) (by omega) (lt_s hinv (fun q => c17 (by rw [hcl]; exact q.1)))
        · refine r_aload_n eX3_isTaken_20 rfl ?_
          refine r_getf eX3_isTaken_21 f_3_15 hL rfl ?_
          refine r_iload_n eX3_isTaken_24 rfl ?_
          refine r_iald eX3_isTaken_25 hy hin ?_
          refine r_iload_n eX3_isTaken_26 rfl ?_
          refine r_icmp_ne (t := 32) eX3_isTaken_27 (by decide) (fun c27 => ?_) (fun c27 => ?_)
          · refine r_iinc (v := 1) (lv' := [_, _, _, _]) eX3_isTaken_32 rfl (by decide) rfl ?_
            refine r_goto (t := 2) eX3_isTaken_35 (by decide) ?_
            rw [nI_1]; exact ih (i + 1) (by omega) (by omega) (lt_s hinv (fun q => c27 (by rw [hcl]; exact q.2)))
          · refine r_iconst (v := 1) eX3_isTaken_30 (by decide) ?_
            exact r_zret eX3_isTaken_31 rfl (by first | rfl | assumption | decide) (⟨rfl, Or.inl ⟨rfl, i, hlt, by rw [← hcl]; exact Classical.not_not.mp c17, by rw [← hcl]; exact Classical.not_not.mp c27⟩⟩)
  show WP ar ro sa mX3_isTaken d 0 [some (.ref a), some (.int x), some (.int y), none] [] h mc ms _
  refine r_iconst (v := 0) eX3_isTaken_0 (by decide) ?_
  refine r_istore_n (lv' := [_, _, _, _]) eX3_isTaken_1 (Nat.le_of_ble_eq_true rfl) rfl ?_
  exact loop N 0 (by omega) (by omega) lt_0
theorem c_needPlace {fs : List Value} {n w k : Int32} {r : Nat → Nat} {a b N : Nat} (hO : h a = some (.inr (11, .ref b :: fs))) (hL : h b = some (.inr (3, fsLand n w k r))) (hn : n = nI N) (hN : N ≤ 40) (x : Int32) (h1 : 1 ≤ mc) (h2 : 6 ≤ ms) :
    CT ar ro sa mX11_needPlace d [.ref a, .int x] h mc ms (Ex (fun v h' => h' = h ∧ v = none ∧ ¬ x < 0 ∧ x < n) (fun E h' => h' = h ∧ E = "java/util/NoSuchElementException" ∧ (x < 0 ∨ n ≤ x))) := by
  show WP ar ro sa mX11_needPlace d 0 [some (.ref a), some (.int x)] [] h mc ms _
  refine r_iload_n eX11_needPlace_0 rfl ?_
  refine r_if_lt (t := 15) eX11_needPlace_1 (by decide) (fun c => ?_) (fun c => ?_)
  · exact r_throw th_X11_needPlace_15 (by first | decide | simp) (by omega) (by omega) (⟨rfl, rfl, Or.inl c⟩)
  · refine r_iload_n eX11_needPlace_4 rfl ?_
    refine r_aload_n eX11_needPlace_5 rfl ?_
    refine r_getf eX11_needPlace_6 f_11_12 hO rfl ?_
    refine r_getf eX11_needPlace_9 f_11_426 hL rfl ?_
    refine r_icmp_lt (t := 23) eX11_needPlace_12 (by decide) (fun c2 => ?_) (fun c2 => ?_)
    · exact r_vret eX11_needPlace_23 rfl (⟨rfl, rfl, c, c2⟩)
    · exact r_throw th_X11_needPlace_15 (by first | decide | simp) (by omega) (by omega) (⟨rfl, rfl, Or.inr (Int32.not_lt.mp c2)⟩)
end LAND

