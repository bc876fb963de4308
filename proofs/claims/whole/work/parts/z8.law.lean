/-! the law -/
/-- THE LAW, over the abstract machine -/
theorem law_WP {ar : Nat → ClassId} {sa : Nat → Nat} {b L : Nat} {xs : Nat → Int32} (hL : L ≤ 4096) : WP ar (roB b L xs) sa mL_law 1000 0 [some (.ref b), none, none, none, none, none, none, none] [] (fun _ => none) room_1.cells room_1.slots lawQ := by
  refine law_first (G := 100000) (by decide) (by decide) (fun w q kc' ks' h1 h2 => ?_)
  have rc : 100000 ≤ room_1.cells := by decide
  have rs : 2000000 ≤ room_1.slots := by decide
  exact law_loop (E := (ar, sa, 100000, roB b L xs)) (d := 987) (Nat.le_refl _) (show roB b L xs b = some (L, xs) from if_pos rfl) hL 513 0 w I0 L0 Q0 none none none kc' ks' q (by omega) (by omega) (by omega) (by omega)
