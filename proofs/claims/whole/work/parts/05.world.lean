/-! the worlds: a pure heap h beside the machine's heap H -/
def lkp (ws : va_W) (a : Nat) : Option va_E := (ws.find? (fun q => q.1 == a)).map (fun q => q.2)
theorem lkp_nil (a : Nat) : lkp [] a = none := rfl
theorem lkp_cons (q : Nat × va_E) (ws : va_W) (a : Nat) : lkp (q :: ws) a = if q.1 = a then some q.2 else lkp ws a := by
  by_cases e : q.1 = a
  · simp [lkp, List.find?_cons, e]
  · simp [lkp, List.find?_cons, e]
theorem lkp_at {ws : va_W} {a : Nat} {e : va_E} (h : lkp ws a = some e) : ∃ k : Nat, ws[k]? = some (a, e) := by
  induction ws with
  | nil => cases h
  | cons q ws ih =>
    rw [lkp_cons] at h
    split at h
    · rename_i c; cases h; exact ⟨0, by rw [← c]; rfl⟩
    · obtain ⟨k, hk⟩ := ih h; exact ⟨k + 1, hk⟩
theorem lkp_none {ws : va_W} {a : Nat} (h : ∀ (k : Nat) (e : va_E), ws[k]? = some (a, e) → False) : lkp ws a = none := by
  cases e : lkp ws a with
  | none => rfl
  | some x => obtain ⟨k, hk⟩ := lkp_at e; exact (h k x hk).elim
theorem lkp_of {A : Nat → Prop} {ws : va_W} (hD : va_D A ws) {k a : Nat} {e : va_E} (h : ws[k]? = some (a, e)) : lkp ws a = some e := by
  cases q : lkp ws a with
  | none =>
    exfalso
    induction ws generalizing k with
    | nil => simp at h
    | cons x ws ih =>
      rw [lkp_cons] at q
      split at q
      · cases q
      · rename_i n
        cases k with
        | zero => simp at h; exact n (by rw [h])
        | succ k => exact ih ⟨fun i j p q' a1 a2 a3 => by have := hD.1 (i + 1) (j + 1) p q' (by simpa using a1) (by simpa using a2) a3; omega, fun k q' a1 => hD.2 (k + 1) q' (by simpa using a1)⟩ (by simpa using h) q
  | some x =>
    obtain ⟨j, hj⟩ := lkp_at q
    have := hD.1 j k _ _ hj h rfl
    subst this
    rw [hj] at h
    cases h; rfl
theorem lkp_set {A : Nat → Prop} {ws : va_W} {k a : Nat} {e e' : va_E} (hD : va_D A ws) (h : ws[k]? = some (a, e)) (hD' : va_D A (ws.set k (a, e'))) (b : Nat) : lkp (ws.set k (a, e')) b = if b = a then some e' else lkp ws b := by
  have hk : k < ws.length := (List.getElem?_eq_some_iff.mp h).1
  by_cases c : b = a
  · subst c
    rw [if_pos rfl]
    exact lkp_of hD' (k := k) (by simp [hk])
  · rw [if_neg c]
    cases q : lkp ws b with
    | none =>
      refine lkp_none (fun j x hj => ?_)
      by_cases ej : k = j
      · subst ej; simp [hk] at hj; exact c hj.1.symm
      · rw [List.getElem?_set_ne ej] at hj
        rw [lkp_of hD hj] at q; cases q
    | some x =>
      obtain ⟨j, hj⟩ := lkp_at q
      have ej : k ≠ j := by rintro rfl; rw [hj] at h; cases h; exact c rfl
      exact lkp_of hD' (k := j) (by rw [List.getElem?_set_ne ej]; exact hj)
theorem lkp_push {A : Nat → Prop} {ws : va_W} {q : Nat} {e : va_E} (hD : va_D A ws) (hD' : va_D A (ws ++ [(q, e)])) : lkp ws q = none ∧ ∀ b : Nat, lkp (ws ++ [(q, e)]) b = if b = q then some e else lkp ws b := by
  have h0 : lkp ws q = none := lkp_none (fun k x hk => by
    have hl : k < ws.length := (List.getElem?_eq_some_iff.mp hk).1
    have := hD'.1 k ws.length (q, x) (q, e) (by rw [List.getElem?_append_left hl]; exact hk) (by simp) rfl
    omega)
  refine ⟨h0, fun b => ?_⟩
  by_cases c : b = q
  · subst c; rw [if_pos rfl]; exact lkp_of hD' (k := ws.length) (by simp)
  · rw [if_neg c]
    cases z : lkp ws b with
    | none =>
      refine lkp_none (fun j x hj => ?_)
      rcases Nat.lt_or_ge j ws.length with hl | hl
      · rw [List.getElem?_append_left hl] at hj; rw [lkp_of hD hj] at z; cases z
      · rw [List.getElem?_append_right hl] at hj
        cases hj2 : j - ws.length with
        | zero => rw [hj2] at hj; simp at hj; exact c hj.1.symm
        | succ n => rw [hj2] at hj; simp at hj
    | some x =>
      obtain ⟨j, hj⟩ := lkp_at z
      have hl : j < ws.length := (List.getElem?_eq_some_iff.mp hj).1
      exact lkp_of hD' (k := j) (by rw [List.getElem?_append_left hl]; exact hj)
def tysA (ar : Nat → ClassId) : List (ClassId × FieldType) := (List.range 9).map (fun k => (ar k, tyN k))
theorem tysA_at (ar : Nat → ClassId) {t : Nat} (h : t ≤ 8) : (tysA ar)[t]? = some (ar t, tyN t) := by
  simp [tysA, show t < 9 by omega]
def strN : List Nat := strB.map List.length
def strI : List (List Int32) := strB.map (fun l => l.map Int32.ofNat)
theorem exL_kind {w : Cond} (h : w ∈ exL) : (∃ a b c d, w = .methodLinkNest a b c d) ∨ (∃ a b, w = .castable a b) ∨ (∃ C, w = .arrayOver (.object C)) ∨ (∃ x, w = .declares x) ∨ ∃ x b n r, w = .codeSync x b n r := by
  have h2 := (List.mem_filter.mp h).2
  unfold exP at h2
  split at h2
  · exact Or.inl ⟨_, _, _, _, rfl⟩
  · exact Or.inr (Or.inl ⟨_, _, rfl⟩)
  · exact Or.inr (Or.inr (Or.inl ⟨_, rfl⟩))
  · exact Or.inr (Or.inr (Or.inr (Or.inl ⟨_, rfl⟩)))
  · exact Or.inr (Or.inr (Or.inr (Or.inr ⟨_, _, _, _, rfl⟩)))
  · cases h2
theorem codeSync_warm {x : MethodName} {b : ByteArray} {n : Nat} {r : Option FieldType} {A A' : Array Value} {s U : State} (hW : s.WarmedH U.vm) (h : (Cond.codeSync x b n r).before A s = true) : (Cond.codeSync x b n r).before A' U = true :=
  va_tabs rfl (rfl : (s.setVm U.vm).vm = U.vm) (A := A) (by
    have e := Cond.value_setVm₂ (args := A) (o := none) hW.alike hW.alike (Cond.codeSync x b n r) [] rfl
    simp only [Cond.before, Cond.holds] at h ⊢
    rw [e]; exact h)
/-- what String.charAt asks besides: its formatter's place, the sizes of the texts' cells -/
def Gx (sa : Nat → Nat) (A : Nat → Prop) (U : State) (H : Heap) : Prop := vx_Zq "jdk/internal/util/Preconditions" "SIOOBE_FORMATTER" "Ljava/util/function/BiFunction;" A U H ∧ ∀ j : Nat, j < 25 → ∃ cell : Cell, H[sa j]? = some cell ∧ cell.slots.size = 4 ∧ ¬ A (sa j)
theorem Gx.to {sa : Nat → Nat} {s U : State} {H0 H : Heap} {A B : Nat → Prop} (h : Gx sa A s H0) (hv : s.vm.Alike U.vm) (hk : ∀ q : Nat, q < H0.size → ¬ A q → H[q]? = H0[q]?) (hAB : ∀ q, B q → A q) : Gx sa B U H :=
  ⟨((h.1.kept hk).narrow hAB).moved hv, fun j hj => by
    obtain ⟨cell, h1, h2, h3⟩ := h.2 j hj
    exact ⟨cell, by rw [hk _ (Array.getElem?_eq_some_iff.mp h1).1 h3]; exact h1, h2, fun z => h3 (hAB _ z)⟩⟩
/-- what stays true of the tables and of cells outside A, all the way -/
def Gw (D : va_G) (ar : Nat → ClassId) (ro : Nat → Option (Nat × (Nat → Int32))) (sa sv : Nat → Nat) (U : State) (H : Heap) (A : Nat → Prop) : Prop :=
  (∀ w ∈ exL, va_Nw w U) ∧ va_K D clsL (tysA ar) U ∧ (∀ q ∈ ncsL, va_Nc q.1 q.2 U) ∧ vx_Zq Bundle.tN "UNASSIGNED_STACK" Bundle.steD A U H ∧ vx_Zq Bundle.tN "SUPPRESSED_SENTINEL" Bundle.listD A U H ∧ (∀ j : Nat, j < 25 → vk_S 1 [sln j] [strI.getD j []] (fun _ => sa j) (fun _ => sv j) A U H) ∧ (∀ (j o i : Nat) (tx : String), strT[j]? = some (o, i, tx) → vk_R (cn o) i tx (sa j) U) ∧ (va_Z "java/lang/String" "COMPACT_STRINGS" "Z" (.int 1) A U H ∧ Gx sa A U H) ∧ (∀ (a n : Nat) (f : Nat → Int32), ro a = some (n, f) → va_X a n f U H ∧ a < H.size ∧ ¬ A a)
theorem Gw.to {D : va_G} {ar : Nat → ClassId} {ro : Nat → Option (Nat × (Nat → Int32))} {sa sv : Nat → Nat} {s U : State} {H0 H : Heap} {A B : Nat → Prop} (hG : Gw D ar ro sa sv s H0 A) (hW : s.WarmedH U.vm) (hz : H0.size ≤ H.size) (hk : ∀ q : Nat, q < H0.size → ¬ A q → H[q]? = H0[q]?) (hAB : ∀ q, B q → A q) : Gw D ar ro sa sv U H B := by
  obtain ⟨h1, h2, h3, h4, h5, h6, h7, h8, h9⟩ := hG
  refine ⟨fun w hw => ?_, va_K.moved hW.alike h2, fun q hq => (h3 q hq).moved hW.alike, ((h4.kept hk).narrow hAB).moved hW.alike, ((h5.kept hk).narrow hAB).moved hW.alike, fun j hj => vk_S.moved hW.alike (((h6 j hj).kept hk).narrow hAB), fun j o i tx h => (h7 j o i tx h).warm hW, ⟨((h8.1.kept hk).narrow hAB).moved hW.alike, h8.2.to hW.alike hk hAB⟩, fun a n f h => ?_⟩
  · have hn := h1 w hw
    rcases exL_kind hw with ⟨a, b, c, d, rfl⟩ | ⟨a, b, rfl⟩ | ⟨C, rfl⟩ | ⟨x, rfl⟩ | ⟨x, b, n, r, rfl⟩
    · exact hn.warmM hW
    · exact hn.warmC hW
    · exact va_AO.moved hW.alike hn
    · exact hn.warmD hW
    · exact codeSync_warm hW hn
  · obtain ⟨x1, x2, x3⟩ := h9 a n f h
    exact ⟨(x1.kept (hk a x2 x3)).moved hW.alike, Nat.lt_of_lt_of_le x2 hz, fun q => x3 (hAB a q)⟩
/-- what a method's context gives -/
def Cx (D : va_G) (ar : Nat → ClassId) (ro : Nat → Option (Nat × (Nat → Int32))) (sa sv : Nat → Nat) (p : Program) (l : Launch) (R : Room) (s : State) (m : MethodId) (args : Array Value) (meth : Method) (c : Code) (A : Nat → Prop) (M : Mth) (d : Nat) : Prop :=
  p.tables.exec = Jvm.exec ∧ c.code = mb M ∧ c.maxLocals = ml M ∧ s.vm.findClass (cn (mo M)) = some m.cls ∧ (∀ w ∈ tblG, w.before args s = true) ∧ Gw D ar ro sa sv s s.heap A ∧ (∀ q, s.heap.size ≤ q → A q) ∧ meth.sig.returnType = mr M ∧ meth.locks = false ∧ c.exceptionTable.toList = tableOf (mh M) ∧ meth.name = (my M).name ∧ d + 8 ≤ R.frames ∧ 80 * d + 160 ≤ R.locals ∧ l.stackTraces = false
def Ww (D : va_G) (A : Nat → Prop) (h : Hp) (ws : va_W) (st t : State) : Prop := (∀ b, h b = lkp ws b) ∧ va_P D clsL ws t.heap ∧ va_D A ws ∧ va_F A st t
def QcO (D : va_G) (A : Nat → Prop) (Φ : Ou → Hp → Prop) : Array Value → State → Outcome → State → Prop := fun _ st oc t => ∃ (v : Option Value) (h : Hp) (ws : va_W), oc = .returned v ∧ Φ (.inl v) h ∧ Ww D A h ws st t
def XcO (D : va_G) (A : Nat → Prop) (Φ : Ou → Hp → Prop) : String → State → State → Prop := fun E st t => ∃ (h : Hp) (ws : va_W), Φ (.inr E) h ∧ Ww D A h ws st t
/-- what WP stands for -/
def Sd (D : va_G) (ar : Nat → ClassId) (ro : Nat → Option (Nat × (Nat → Int32))) (sa sv : Nat → Nat) (l : Launch) (q : Cd) : Prop := match q with
  | (M, d, (pc, lv, st, h, kc, ks), Φ) => ∀ (p : Program) (e : Env) (R : Room) (s : State) (m : MethodId) (args : Array Value) (below : List Frame) (meth : Method) (c : Code) (A : Nat → Prop), Cx D ar ro sa sv p l R s m args meth c A M d →
    ∀ (H : Heap) (locs : List Loc) (cells slots : Nat) (ls : Array Slot) (ws : va_W), lr ls lv → lv.length = ml M → (∀ b, h b = lkp ws b) → va_P D clsL ws H → va_D A ws → va_S A s.heap H locs → cells + kc ≤ R.cells → slots + ks ≤ R.slots →
      W p l e R s m args below meth c H locs cells slots (vx_MQ below (QcO D A Φ) (XcO D A Φ) args s R.cells R.slots A) (F0 m pc ls st)
theorem sx_len {ig : Instr} {len pc : Nat} {lv : Lv} {st : List Value} {r : Nat × Lv × List Value} (hs : sx ig len pc lv st = some r) : r.2.1.length = lv.length := by
  unfold sx at hs
  split at hs
  all_goals first | (cases hs; done) | (injection hs with hs; subst hs; simp [stl_len]; done) | (split at hs <;> first | (cases hs; done) | (injection hs with hs; subst hs; simp [stl_len]; done))
