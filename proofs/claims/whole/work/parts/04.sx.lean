/-! the frame's own instructions: sx is what the machine does -/
def lr (ls : Array Slot) (lv : Lv) : Prop := ls.size = lv.length ∧ lv_wf ls ∧ ∀ (i : Nat) (v : Value), ldl lv i = some v → ls[i]? = some (.val v)
def al (lv : Lv) : List (Nat × Value) := (List.range lv.length).filterMap (fun i => (ldl lv i).map (fun v => (i, v)))
theorem ldl_lt {lv : Lv} {i : Nat} {v : Value} (h : ldl lv i = some v) : i < lv.length := by
  rcases Nat.lt_or_ge i lv.length with q | q
  · exact q
  · simp [ldl, List.getElem?_eq_none q] at h
theorem al_mem {lv : Lv} {i : Nat} {v : Value} : (i, v) ∈ al lv ↔ ldl lv i = some v := by
  constructor
  · intro h
    obtain ⟨j, -, hj⟩ := List.mem_filterMap.mp h
    cases e : ldl lv j with
    | none => rw [e] at hj; cases hj
    | some w => rw [e] at hj; cases hj; exact e
  · intro h
    exact List.mem_filterMap.mpr ⟨i, List.mem_range.mpr (ldl_lt h), by rw [h]; rfl⟩
theorem lr.has {ls : Array Slot} {lv : Lv} (h : lr ls lv) : lv_has ls lv.length (al lv) := ⟨h.1, h.2.1, fun q hq => h.2.2 q.1 q.2 (al_mem.mp hq)⟩
theorem stl_len (lv : Lv) (i : Nat) (v : Value) : (stl lv i v).length = lv.length := by
  cases i with
  | zero => simp only [stl]; split <;> simp
  | succ j =>
    simp only [stl]
    split <;> split <;> (try split) <;> simp
theorem ldl_set {lv : Lv} {i j : Nat} {o : Option Value} {w : Value} (h : ldl (lv.set i o) j = some w) : (j = i ∧ o = some w) ∨ (j ≠ i ∧ ldl lv j = some w) := by
  rcases Nat.decEq j i with n | rfl
  · right; refine ⟨n, ?_⟩
    simp only [ldl, List.getElem?_set_ne (Ne.symm n)] at h ⊢
    exact h
  · left; refine ⟨rfl, ?_⟩
    have hl := ldl_lt h
    simp only [List.length_set] at hl
    simpa [ldl, hl] using h
theorem stl_get {lv : Lv} {i j : Nat} {v w : Value} (h : ldl (stl lv i v) j = some w) : (j = i ∧ v = w) ∨ (j ≠ i ∧ ldl lv j = some w ∧ ¬ (j + 1 = i ∧ w.category = 2) ∧ (v.category = 2 → j ≠ i + 1)) := by
  have key : ∀ l1 : Lv, (ldl (l1.set i (some v)) j = some w ∨ (v.category = 2 ∧ j ≠ i + 1 ∧ ldl (l1.set i (some v)) j = some w)) → (v.category = 2 → j ≠ i + 1) → (∀ w', ldl l1 j = some w' → ldl lv j = some w' ∧ ¬ (j + 1 = i ∧ w'.category = 2)) → (j = i ∧ v = w) ∨ (j ≠ i ∧ ldl lv j = some w ∧ ¬ (j + 1 = i ∧ w.category = 2) ∧ (v.category = 2 → j ≠ i + 1)) := by
    intro l1 h1 hc hl
    have h1 : ldl (l1.set i (some v)) j = some w := h1.elim id (fun q => q.2.2)
    rcases ldl_set h1 with ⟨e, q⟩ | ⟨n, q⟩
    · exact Or.inl ⟨e, Option.some.inj q⟩
    · exact Or.inr ⟨n, (hl w q).1, (hl w q).2, hc⟩
  have fin : ∀ l1 : Lv, ldl (if v.category = 2 then (l1.set i (some v)).set (i + 1) none else l1.set i (some v)) j = some w → (∀ w', ldl l1 j = some w' → ldl lv j = some w' ∧ ¬ (j + 1 = i ∧ w'.category = 2)) → (j = i ∧ v = w) ∨ (j ≠ i ∧ ldl lv j = some w ∧ ¬ (j + 1 = i ∧ w.category = 2) ∧ (v.category = 2 → j ≠ i + 1)) := by
    intro l1 h1 hl
    by_cases c : v.category = 2
    · rw [if_pos c] at h1
      rcases ldl_set h1 with ⟨-, q⟩ | ⟨n, q⟩
      · cases q
      · exact key l1 (Or.inl q) (fun _ => n) hl
    · rw [if_neg c] at h1
      exact key l1 (Or.inl h1) (fun q => absurd q c) hl
  cases i with
  | zero => exact fin lv h (fun w' q => ⟨q, fun z => by omega⟩)
  | succ k =>
    refine fin (match lv[k]? with
      | some (some w) => if w.category = 2 then lv.set k none else lv
      | _ => lv) h (fun w' q => ?_)
    split at q
    · rename_i w0 e0
      by_cases c0 : w0.category = 2
      · rw [if_pos c0] at q
        rcases ldl_set q with ⟨-, z⟩ | ⟨n, z⟩
        · cases z
        · exact ⟨z, fun y => n (by omega)⟩
      · rw [if_neg c0] at q
        refine ⟨q, fun y => ?_⟩
        have : j = k := by omega
        subst this
        rw [ldl, e0] at q
        cases q
        exact c0 y.2
    · rename_i e0
      refine ⟨q, fun y => ?_⟩
      have : j = k := by omega
      subst this
      cases e1 : lv[j]? with
      | none => rw [ldl, e1] at q; cases q
      | some o =>
        cases o with
        | none => rw [ldl, e1] at q; cases q
        | some w1 => exact e0 w1 e1
theorem lr.store1 {ls : Array Slot} {lv : Lv} {i : Nat} {v : Value} (hc : v.category = 1) (h : lv_has ls lv.length ((i, v) :: (al lv).filter (fun q => !(q.1 == i) && !(q.1 + 1 == i && q.2.category == 2)))) : lr ls (stl lv i v) := by
  refine ⟨by rw [stl_len]; exact h.1, h.2.1, fun j w hj => ?_⟩
  rcases stl_get hj with ⟨rfl, rfl⟩ | ⟨n, q, z, -⟩
  · exact h.2.2 (j, v) List.mem_cons_self
  · refine h.2.2 (j, w) (List.mem_cons_of_mem _ (List.mem_filter.mpr ⟨al_mem.mpr q, ?_⟩))
    simp only [Bool.and_eq_true, Bool.not_eq_true', beq_eq_false_iff_ne, Bool.and_eq_false_iff]
    refine ⟨n, ?_⟩
    by_cases e : j + 1 = i
    · exact Or.inr (fun y => z ⟨e, y⟩)
    · exact Or.inl e
theorem lr.store2 {ls : Array Slot} {lv : Lv} {i : Nat} {v : Value} (hc : v.category = 2) (h : lv_has ls lv.length ((i, v) :: (al lv).filter (fun q => !(q.1 == i) && (!(q.1 == i + 1) && !(q.1 + 1 == i && q.2.category == 2))))) : lr ls (stl lv i v) := by
  refine ⟨by rw [stl_len]; exact h.1, h.2.1, fun j w hj => ?_⟩
  rcases stl_get hj with ⟨rfl, rfl⟩ | ⟨n, q, z, y⟩
  · exact h.2.2 (j, v) List.mem_cons_self
  · refine h.2.2 (j, w) (List.mem_cons_of_mem _ (List.mem_filter.mpr ⟨al_mem.mpr q, ?_⟩))
    simp only [Bool.and_eq_true, Bool.not_eq_true', beq_eq_false_iff_ne, Bool.and_eq_false_iff]
    refine ⟨n, y hc, ?_⟩
    by_cases e : j + 1 = i
    · exact Or.inr (fun x => z ⟨e, x⟩)
    · exact Or.inl e
theorem tgt_ok {pc : Nat} {off : Int} (h : 0 ≤ (pc : Int) + off) : (pc : Int) + off = ((tgt pc off : Nat) : Int) := by
  unfold tgt; omega
section SX
variable {p : Program} {l : Launch} {e : Env} {R : Room} {s : State} {m : MethodId} {args : Array Value} {below : List Frame} {meth : Method} {c : Code} {H : Heap} {locs : List Loc} {cells slots : Nat} {Q : State → Prop}
theorem br_W {cd : ClassFile.Cond} {x y : Int32} {a b : Nat} {ls : Array Slot} {st : List Value} (k : W p l e R s m args below meth c H locs cells slots Q (F0 m (if cdI cd x y then a else b) ls st)) : (cdI cd x y = true → W p l e R s m args below meth c H locs cells slots Q (F0 m a ls st)) ∧ (cdI cd x y = false → W p l e R s m args below meth c H locs cells slots Q (F0 m b ls st)) := by
  constructor <;> intro h <;> simpa [h] using k
set_option maxHeartbeats 4000000 in
theorem sx_sound (hx : p.tables.exec = Jvm.exec) {cc : ByteArray} (hb : c.code = cc) {ig : Instr} {len pc : Nat} {lv : Lv} {st : List Value} {ls : Array Slot} {r : Nat × Lv × List Value} (hd : decode cc pc = .ok (ig, len)) (hs : sx ig len pc lv st = some r) (hl : lr ls lv)
    (k : ∀ ls', lr ls' r.2.1 → W p l e R s m args below meth c H locs cells slots Q (F0 m r.1 ls' r.2.2)) : W p l e R s m args below meth c H locs cells slots Q (F0 m pc ls st) := by
  unfold sx at hs
  split at hs
  · cases hs; exact lv_iconst hx hb hd rfl (k ls hl)
  · cases hs; exact lv_bipush hx hb hd rfl (k ls hl)
  · cases hs; exact lv_sipush hx hb hd rfl (k ls hl)
  · cases hs; exact lv_lconst hx hb hd rfl (k ls hl)
  · split at hs
    · rename_i q; cases hs; exact lv_iload_n hx hb hd rfl (hl.2.2 _ _ q) (k ls hl)
    · cases hs
  · split at hs
    · rename_i q; cases hs; exact lv_iload hx hb hd (hl.2.2 _ _ q) (k ls hl)
    · cases hs
  · split at hs
    · rename_i q; cases hs; exact lv_lload_n hx hb hd rfl (hl.2.2 _ _ q) (k ls hl)
    · cases hs
  · split at hs
    · rename_i q; cases hs; exact lv_lload hx hb hd (hl.2.2 _ _ q) (k ls hl)
    · cases hs
  · split at hs
    · rename_i q; cases hs; exact lv_aload_n hx hb hd rfl (hl.2.2 _ _ q) (k ls hl)
    · cases hs
  · split at hs
    · rename_i q; cases hs; exact lv_aload hx hb hd (hl.2.2 _ _ q) (k ls hl)
    · cases hs
  · split at hs
    · rename_i q; cases hs; exact lv_istore_n hx hb hd rfl hl.has q rfl (fun ls' h' => k ls' (lr.store1 rfl h'))
    · cases hs
  · split at hs
    · rename_i q; cases hs; exact lv_istore hx hb hd hl.has q rfl (fun ls' h' => k ls' (lr.store1 rfl h'))
    · cases hs
  · split at hs
    · rename_i q; cases hs; exact lv_lstore_n hx hb hd rfl hl.has q rfl (fun ls' h' => k ls' (lr.store2 rfl h'))
    · cases hs
  · split at hs
    · rename_i q; cases hs; exact lv_lstore hx hb hd hl.has q rfl (fun ls' h' => k ls' (lr.store2 rfl h'))
    · cases hs
  · split at hs
    · rename_i q; cases hs; exact lv_astore_n hx hb hd rfl hl.has q rfl (fun ls' h' => k ls' (lr.store1 rfl h'))
    · cases hs
  · split at hs
    · rename_i q; cases hs; exact lv_astore hx hb hd hl.has q rfl (fun ls' h' => k ls' (lr.store1 rfl h'))
    · cases hs
  · split at hs
    · rename_i q; cases hs
      obtain ⟨j, hj⟩ := List.getElem?_of_mem (al_mem.mpr q)
      exact lv_iinc hx hb hd hl.has hj rfl (ldl_lt q) rfl (fun ls' h' => k ls' (lr.store1 rfl h'))
    · cases hs
  · cases hs; exact lv_iadd hx hb hd (k ls hl)
  · cases hs; exact lv_isub hx hb hd (k ls hl)
  · cases hs; exact lv_imul hx hb hd (k ls hl)
  · cases hs; exact lv_iand hx hb hd (k ls hl)
  · cases hs; exact lv_ior hx hb hd (k ls hl)
  · cases hs; exact lv_ixor hx hb hd (k ls hl)
  · cases hs; exact lv_ineg hx hb hd (k ls hl)
  · cases hs; exact lv_ladd hx hb hd (k ls hl)
  · cases hs; exact lv_lsub hx hb hd (k ls hl)
  · cases hs; exact lv_lmul hx hb hd (k ls hl)
  · cases hs; exact lv_land hx hb hd (k ls hl)
  · cases hs; exact lv_lor hx hb hd (k ls hl)
  · cases hs; exact lv_lxor hx hb hd (k ls hl)
  · cases hs; exact lv_lneg hx hb hd (k ls hl)
  · cases hs; exact lv_ishl hx hb hd (k ls hl)
  · cases hs; exact lv_ishr hx hb hd (k ls hl)
  · cases hs; exact lv_iushr hx hb hd rfl (k ls hl)
  · cases hs; exact lv_lshl hx hb hd rfl (k ls hl)
  · cases hs; exact lv_lshr hx hb hd rfl (k ls hl)
  · cases hs; exact lv_lushr hx hb hd rfl (k ls hl)
  · cases hs; exact lv_i2l hx hb hd rfl (k ls hl)
  · cases hs; exact lv_l2i hx hb hd rfl (k ls hl)
  · cases hs; exact lv_i2b hx hb hd rfl (k ls hl)
  · cases hs; exact lv_i2s hx hb hd rfl (k ls hl)
  · cases hs; exact W.lcmp hx hb hd (k ls hl)
  · split at hs
    · rename_i q; cases hs; exact lv_dup hx hb hd q (k ls hl)
    · cases hs
  · split at hs
    · rename_i q; cases hs; exact lv_pop hx hb hd q (k ls hl)
    · cases hs
  · split at hs
    · rename_i q; cases hs; exact lv_dup_x1 hx hb hd q.1 q.2 (k ls hl)
    · cases hs
  · split at hs
    · rename_i q; cases hs; exact lv_dup2_11 hx hb hd q.1 q.2 (k ls hl)
    · cases hs
  · split at hs
    · rename_i q; cases hs; exact lv_goto hx hb hd (tgt_ok q) (k ls hl)
    · cases hs
  · split at hs
    · rename_i cd off x st1 q; cases hs
      obtain ⟨k1, k2⟩ := br_W (k ls hl)
      cases cd
      · exact lv_if_eq hx hb hd (tgt_ok q) (fun h => k1 (decide_eq_true h)) (fun h => k2 (decide_eq_false h))
      · exact lv_if_ne hx hb hd (tgt_ok q) (fun h => k1 (decide_eq_true h)) (fun h => k2 (decide_eq_false (fun z => z h)))
      · exact lv_if_lt hx hb hd (tgt_ok q) (fun h => k1 (decide_eq_true h)) (fun h => k2 (decide_eq_false h))
      · exact lv_if_ge hx hb hd (tgt_ok q) (fun h => k1 (decide_eq_true h)) (fun h => k2 (decide_eq_false h))
      · exact lv_if_gt hx hb hd (tgt_ok q) (fun h => k1 (decide_eq_true h)) (fun h => k2 (decide_eq_false h))
      · exact lv_if_le hx hb hd (tgt_ok q) (fun h => k1 (decide_eq_true h)) (fun h => k2 (decide_eq_false h))
    · cases hs
  · split at hs
    · rename_i cd off y x st1 q; cases hs
      obtain ⟨k1, k2⟩ := br_W (k ls hl)
      cases cd
      · exact lv_icmp_eq hx hb hd (tgt_ok q) (fun h => k1 (decide_eq_true h)) (fun h => k2 (decide_eq_false h))
      · exact lv_icmp_ne hx hb hd (tgt_ok q) (fun h => k1 (decide_eq_true h)) (fun h => k2 (decide_eq_false (fun z => z h)))
      · exact lv_icmp_lt hx hb hd (tgt_ok q) (fun h => k1 (decide_eq_true h)) (fun h => k2 (decide_eq_false h))
      · exact lv_icmp_ge hx hb hd (tgt_ok q) (fun h => k1 (decide_eq_true h)) (fun h => k2 (decide_eq_false h))
      · exact lv_icmp_gt hx hb hd (tgt_ok q) (fun h => k1 (decide_eq_true h)) (fun h => k2 (decide_eq_false h))
      · exact lv_icmp_le hx hb hd (tgt_ok q) (fun h => k1 (decide_eq_true h)) (fun h => k2 (decide_eq_false h))
    · cases hs
  · cases hs; exact lv_ifnull hx hb hd (k ls hl)
  · split at hs
    · rename_i q; cases hs; exact lv_ifnullN hx hb hd (tgt_ok q) (k ls hl)
    · cases hs
  · split at hs
    · rename_i q; cases hs; exact lv_ifnonnull hx hb hd (tgt_ok q) (k ls hl)
    · cases hs
  · cases hs; exact lv_ifnonnullN hx hb hd (k ls hl)
  · cases hs
end SX
