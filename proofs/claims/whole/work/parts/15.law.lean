/-! the law: from its WP to the claim's W (follows the skeleton of the kit, with two things more: no traces, no table) -/
def R_law : String := "BurntOakLaw"
def lw_P (b : Addr) (xs : List Int32) (args : Array Value) (s : State) : Prop := args = #[.ref b] ∧ s.IntsAt b xs ∧ xs.length ≤ 4096 ∧ (Jvm.Cond.and given_1 narrow_1).before args s = true
def lw_Q (_ : Array Value) (s : State) (o : Outcome) (t : State) : Prop := o = .returned (some (.int 1)) ∧ Framed s o t [] room_1.cells room_1.slots
def lw_Z (below : List Frame) (a : Array Value) (s : State) : State → Prop := fun t => ∃ o, t.status = .running ∧ Ended t below o ∧ lw_Q a s o t
def lw_At (p : Program) (l : Launch) (s : State) (m : MethodId) (meth : Method) (c : Code) (b L : Nat) (xs : Nat → Int32) : Prop :=
  p.tables.exec = Jvm.exec ∧ c.code = code ∧ meth.sig.returnType = ret ∧ c.maxLocals = 8 ∧ s.vm.findClass R_law = some m.cls ∧ (∀ w ∈ lw_tbl, w.before #[Value.ref b] s = true) ∧ va_X b L xs s s.heap ∧ b < s.heap.size ∧ meth.locks = false ∧ (Jvm.Cond.and given_1 narrow_1).before #[Value.ref b] s = true ∧ c.exceptionTable.toList = [] ∧ meth.name = "law" ∧ l.stackTraces = false
def mL_law : Mth := (yL_law, cL_law, 8, some .boolean, 13, [])
abbrev lawQ : Ou → Hp → Prop := Ex (fun v _ => v = some (.int 1)) No
set_option maxHeartbeats 4000000 in
theorem law_W {p : Program} {e : Env} {s : State} {m : MethodId} {below : List Frame} {meth : Method} {c : Code} {l : Launch} {b L : Nat} {xs : Nat → Int32} (C0 : lw_At p l s m meth c b L xs)
    (hWP : ∀ (ar : Nat → ClassId) (sa : Nat → Nat), WP ar (roB b L xs) sa mL_law 1000 0 [some (.ref b), none, none, none, none, none, none, none] [] (fun _ => none) room_1.cells room_1.slots lawQ) :
    W p l e room_1 s m #[Value.ref b] below meth c s.heap [] 0 0 (lw_Z below #[Value.ref b] s) (entryFrame m ([Value.ref b] : List Value).toArray 8) := by
  obtain ⟨hx, hb, hr, hml, hown, hts, hX, hbl, hlocks, hgv, htab, hnm, htr⟩ := C0
  obtain ⟨D, ar, sa, sv, hG⟩ := start_G hts hgv hX hbl
  have hsd : Sd D ar (roB b L xs) sa sv l _ := WPc.sound (hWP ar sa)
  have hw := hsd p e room_1 s m #[Value.ref b] below meth c (fun q => s.heap.size ≤ q) ⟨hx, hb, hml, hown, fun w h => hts w (tblG_lw h), hG, fun _ z => z, hr, hlocks, htab, hnm, by decide, by decide, htr⟩ s.heap [] 0 0 _ [] (entL_lr (av := [.ref b]) (n := 8) (Nat.le_of_ble_eq_true rfl)) rfl (fun _ => rfl) (fun k q h => by simp at h) ⟨fun i j p q h => by simp at h, fun k q h => by simp at h⟩ va_S.rf (by decide) (by decide)
  rw [lg_entry_eq]
  intro T hT X
  obtain ⟨t, a1, o, b1, b2, b3⟩ := hw T hT X
  refine ⟨t, a1, o, b1, b2, ?_⟩
  rcases b3 with ⟨⟨v, h, ws, ho, hv, -⟩, Lc, hF, hLc⟩ | ⟨q, -, E, ce, Lc, ⟨h, ws, hv, -⟩, -⟩
  · have hv : v = some (.int 1) := hv
    subst hv
    refine ⟨ho, hF.1, hF.2.1, ?_⟩
    exact hF.2.2.weaken (fun y hy hlt => absurd (hLc y hy) (Nat.not_le.mpr hlt)) (Nat.le_refl _) (Nat.le_refl _)
  · exact hv.elim
