/-! am_d, am_e, am_j -/
theorem str_small : ∀ j : Fin 25, sln j.1 < 1000 ∧ ∀ k : Fin (sln j.1), (((strI.getD j.1 []).getD k.1 0 &&& 255).toUInt32.toUInt16.toUInt32.toInt32) = Int32.ofNat (sch j.1 k.1) := by decide +kernel
theorem str_byte {j k : Nat} (hj : j < 25) (hk : k < sln j) : (((strI.getD j []).getD k 0 &&& 255).toUInt32.toUInt16.toUInt32.toInt32) = Int32.ofNat (sch j k) := (str_small ⟨j, hj⟩).2 ⟨k, hk⟩
theorem str_lt {j : Nat} {k : Int32} (hj : j < 25) (h0 : ¬ k < 0) (h1 : k.toNatClampNeg < sln j) : k < Int32.ofNat (sln j) := by
  have h2 := (str_small ⟨j, hj⟩).1
  have h2' : sln j < 1000 := h2
  rw [Int32.lt_iff_toInt_lt, Int32.toInt_ofNat_of_lt (by omega)]
  have hz0 : (0 : Int) ≤ k.toInt := by
    have := Int32.not_lt.mp h0
    simpa using Int32.le_iff_toInt_le.mp this
  have : k.toInt.toNat < sln j := h1
  omega
theorem decl_of {U : State} {a' : Array Value} {y : MethodName} {bytes : ByteArray} {n : Nat} {r : Option FieldType} (h1 : (Cond.code y bytes n r).before a' U = true) (h2 : (Cond.instanceMethod y).before a' U = true) : (Cond.declares y).before a' U = true := by
  obtain ⟨mk, mt, hn, hm, hst, -⟩ := Cond.instanceMethod_spec h2
  obtain ⟨mt', c, hm', -, -, -, -, -, -, hsig⟩ := Cond.code_spec hn h1
  cases hm.symm.trans hm'
  simp [Cond.before, Cond.holds, Cond.value, hn, hm, hst, hsig]
theorem sig_of {U : State} {a' : Array Value} {y : MethodName} {bytes : ByteArray} {n : Nat} {r : Option FieldType} (h1 : (Cond.code y bytes n r).before a' U = true) : Lib.Cold.Sig U y := by
  obtain ⟨mk, hn⟩ := Cond.code_named h1
  obtain ⟨mt', c, hm', -, -, -, -, -, -, hsig⟩ := Cond.code_spec hn h1
  exact ⟨mk, mt', hn, hm', hsig⟩
theorem stat_of {U : State} {H : Heap} {A : Nat → Prop} {C n d : String} {v : Value} (hU : U.heap = H) (h : va_Z C n d v A U H) : Lib.Cold.StaticIs U C n d v := by
  obtain ⟨cf, kf, fi, f, a, cell, h1, h2, h3, h4, h5, h6, h7, -⟩ := h
  exact ⟨cf, fi, kf, f, a, cell, h1, h2, h3, h4, by rw [hU]; exact h5, (fun e => by rw [e] at h6; cases h6), h7⟩
theorem str_at {sa sv : Nat → Nat} {U : State} {H : Heap} {A : Nat → Prop} {j : Nat} (tb : ∀ w ∈ tblG, ∀ a' : Array Value, w.before a' U = true) (hS : vk_S 1 [sln j] [strI.getD j []] (fun _ => sa j) (fun _ => sv j) A U H) (hx : Gx sa A U H) (hj : j < 25) (hU : U.heap = H) {a' : Array Value} (ha : a'[0]? = some (.ref (sa j))) :
    (Cond.exactly (.arg 0) Lib.str).before a' U = true ∧ (Term.field (.arg 0) Lib.str "value" "[B").eval a' U none [] U = some (.ref (sv j)) ∧ (Term.field (.arg 0) Lib.str "coder" "B").eval a' U none [] U = some (.int 0) := by
  obtain ⟨⟨c0, o1, o2, o3, -⟩, ⟨cf, k, i, f, c1, f1, f2, f3, f4, f5, -⟩, ⟨cf', k', i', f', c2, g1, g2, g3, g4, g5, -⟩, -⟩ := hS.1 0 (by omega)
  obtain ⟨c3, s1, s2, -⟩ := hx.2 j hj
  obtain rfl := Option.some.inj (o1.symm.trans f3)
  obtain rfl := Option.some.inj (o1.symm.trans g3)
  obtain rfl := Option.some.inj (o1.symm.trans s1)
  obtain ⟨c, kc, n1, n2, n3, -, -, n6⟩ := Cond.instantiable_spec (tb (.instantiable "java/lang/String" 4) (tblG_in (i := 992) (by decide +kernel) (by decide +kernel)) a')
  obtain ⟨lc, lk, lc', lk', li, lf, l1, l2, l3, l4, -, l6, -⟩ := Cond.laysFinal_spec (tb (.laysFinal "java/lang/String" "java/lang/String" "value" "[B") (tblG_in (i := 1051) (by decide +kernel) (by decide +kernel)) a')
  obtain ⟨mc, mk, mc', mk', mi, mf, m1, m2, m3, m4, -, m6, -⟩ := Cond.laysFinal_spec (tb (.laysFinal "java/lang/String" "java/lang/String" "coder" "B") (tblG_in (i := 1053) (by decide +kernel) (by decide +kernel)) a')
  have ht : (Term.arg 0).eval a' U none [] U = some (.ref (sa j)) := by simpa [Term.eval] using ha
  have hc : U.heap[sa j]? = some c0 := by rw [hU]; exact o1
  have ec : c = c0.cls := Option.some.inj (n1.symm.trans o3)
  have el : lc = c0.cls := Option.some.inj (l1.symm.trans o3)
  have em : mc = c0.cls := Option.some.inj (m1.symm.trans o3)
  have ev : cf' = lc' := congrArg Prod.fst (Option.some.inj (g1.symm.trans l3))
  have eo : cf = mc' := congrArg Prod.fst (Option.some.inj (f1.symm.trans m3))
  refine ⟨?_, Term.field_eval g1 ht g2 hc g4 o2 (by rw [← el, ev]; exact l6) g5, Term.field_eval f1 ht f2 hc f4 o2 (by rw [← em, eo]; exact m6) f5⟩
  subst ec
  simp [Cond.before, Cond.holds, Cond.value, ht, Lib.str, n1, hc, n2, o2, n3, s2, n6]
section STRC
variable {D : va_G} {ar : Nat → ClassId} {ro : Nat → Option (Nat × (Nat → Int32))} {sa sv : Nat → Nat} {l : Launch}
variable {p : Program} {e : Env} {R : Room} {s : State} {m : MethodId} {args : Array Value} {below : List Frame} {meth : Method} {c : Code} {A : Nat → Prop} {M : Mth} {d : Nat}
variable {H : Heap} {locs : List Loc} {cells slots : Nat} {ls : Array Slot} {pc : Nat} {Q : State → Prop} {rest : List Value}
theorem str_call {y : MethodName} {S : Spec} {P : Array Value → State → Prop} {Qf : Array Value → State → Outcome → State → Prop} {bytes : ByteArray} {maxL : Nat} {ret : Option FieldType} {As : List Value} {v : Value} {own : String} {index b : Nat} (hx : p.tables.exec = Jvm.exec) (hown : s.vm.findClass own = some m.cls) (hml : c.maxLocals = ls.size) (hlink : (Cond.methodLink own index y).before args s = true) (hinst : (Cond.instanceMethod y).before args s = true) (hsel : (Cond.selects "java/lang/String" y y).before args s = true) (hcode : (Cond.code y bytes maxL ret).before args s = true) (hy : y.cls ≠ "java/lang/invoke/MethodHandle" ∧ y.cls ≠ "java/lang/invoke/VarHandle")
    (hM : MetFree l y S P (fun _ _ _ _ _ => True) Qf) (hfr : S.room.frames + 1 ≤ R.frames) (hlo : 8 + (maxL + 11) + S.room.locals ≤ R.locals) (hc0 : cells + S.room.cells ≤ R.cells) (hs0 : slots + S.room.slots ≤ R.slots)
    (hpre : ∀ U : State, U.heap = H → s.WarmedH U.vm → S.pre.before (Value.ref b :: As).toArray U = true ∧ (Cond.code y bytes maxL ret).before (Value.ref b :: As).toArray U = true ∧ (Cond.initialized y.cls).before (Value.ref b :: As).toArray U = true ∧ P (Value.ref b :: As).toArray U)
    (hQ : ∀ a first o t, Qf a first o t → PureEnd first o t ∧ o = .returned (some v)) (hobj : ∃ cell : Cell, H[b]? = some cell ∧ cell.vm.isStatics = false ∧ s.vm.findClass "java/lang/String" = some cell.cls) (hlen : ∀ sig, parseMethodDescriptor y.desc = some sig → As.length = sig.parameters.length) (h8 : (rest.map fun v => v.category).sum ≤ 8) (hdg : decode c.code pc = .ok (.invokevirtual index, 3))
    (kk : W p l e R s m args below meth c H locs cells slots Q (F0 m (pc + 3) ls (v :: rest))) : W p l e R s m args below meth c H locs cells slots Q (F0 m pc ls (As.reverse ++ .ref b :: rest)) := by
  obtain ⟨cellB, hcB, hoB, hclB⟩ := hobj
  have hK : Back l R p e below s args y 3 8 (fun A a => A.U.heap = H ∧ A.locs = locs ∧ A.cells = cells ∧ A.slots = slots ∧ a = (Value.ref b :: As).toArray) (fun A a v' B => v' = some v ∧ B.U.heap = H ∧ B.locs = locs ∧ B.cells = cells ∧ B.slots = slots) := by
    refine Back.of_free (S := S) (P := P) (K := fun _ _ _ _ _ => True) (Q := Qf) (bytes := bytes) (maxL := maxL) (ret := ret) (E := fun a st o t L k n => L = [] ∧ k = 0 ∧ n = 0) hM hfr hlo ?_ ?_ (fun _ _ _ _ _ _ _ _ _ => trivial) ?_ ?_
    · rintro m' meth' c' A1 a X ⟨e1, -, e3, e4, rfl⟩
      obtain ⟨z1, z2, z3, -⟩ := hpre A1.U e1 X.warmed
      exact ⟨z1, z2, z3, by rw [e3]; exact hc0, by rw [e4]; exact hs0⟩
    · rintro m' meth' c' A1 a g mk X ⟨e1, -, -, -, rfl⟩
      exact (hpre (A1.U.calling g mk (Value.ref b :: As).toArray) e1 X.warmed).2.2.2
    · intro a first o t hq
      obtain ⟨⟨h1, h2, h3⟩, -⟩ := hQ _ _ _ _ hq
      exact ⟨[], 0, 0, ⟨h1, h2, h3.sameButNew 0 0⟩, rfl, rfl, rfl⟩
    · rintro m' meth' c' A1 a g mk v' t L k n X ⟨e1, e2, e3, e4, rfl⟩ hq - ⟨rfl, rfl, rfl⟩
      obtain ⟨⟨-, -, h3⟩, h4⟩ := hQ _ _ _ _ hq
      have e5 := State.sameBut_nil.mp h3
      have e6' := congrArg (fun z : State => z.heap) e5
      have e6 : t.heap = A1.U.heap := e6'
      cases h4
      refine ⟨rfl, ?_, ?_, ?_, ?_⟩
      · show t.heap = H; rw [e6, e1]
      · show A1.locs ++ [] = locs; rw [List.append_nil, e2]
      · show A1.cells + 0 = cells; exact e3
      · show A1.slots + 0 = slots; exact e4
  intro T hT X
  obtain ⟨v', vm₁, ⟨U', l2, c2, s2⟩, hW₁, X', ⟨z1, z2, z3, z4, z5⟩, st⟩ := callV X hx (C := "java/lang/String") (bytes := bytes) (maxL := maxL) (ret := ret) hown hlink hinst hsel hcode hy hK (by rw [hT]; exact hcB) hoB hclB (g := F0 m pc ls (As.reverse ++ .ref b :: rest)) rfl (by rw [hml]) (argsL := As) (rest := rest) hlen rfl (lv_room h8) hdg (fun vm₁ hW₁ => ⟨hT, rfl, rfl, rfl, rfl⟩)
  dsimp only [Pt.U, Pt.locs, Pt.cells, Pt.slots] at X' z2 z3 z4 z5 st
  subst z1 z3 z4 z5
  obtain ⟨t, a1, b1⟩ := kk U' z2 X'
  exact ⟨t, st t a1, b1⟩
theorem tb_at (hts : ∀ w ∈ tblG, w.before args s = true) {U : State} (hW : s.WarmedH U.vm) : ∀ w ∈ tblG, ∀ a' : Array Value, w.before a' U = true := fun w hw a' => pay_in hts (fun w hw => ⟨hw, good_of_word (List.mem_filter.mp hw).2⟩) w hw a' U hW
theorem str_len {j i : Nat} (hc : Cx D ar ro sa sv p l R s m args meth c A M d) (hGx : Gx sa A s s.heap) (hs : va_S A s.heap H locs) (hsz : ls.size = ml M) (hj : j < 25) (hl : Cond.methodLink (cn (mo M)) i yLen ∈ tblG) (h8 : (rest.map fun v => v.category).sum ≤ 8) (h1 : cells ≤ R.cells) (h2 : slots ≤ R.slots) (hd : decode (mb M) pc = .ok (.invokevirtual i, 3))
    (kk : W p l e R s m args below meth c H locs cells slots Q (F0 m (pc + 3) ls (.int (Int32.ofNat (sln j)) :: rest))) : W p l e R s m args below meth c H locs cells slots Q (F0 m pc ls (.ref (sa j) :: rest)) := by
  obtain ⟨hx, hb, hml, hown, hts, hG, hA, hr, hlk, htab, hnm, hRf, hRl, htr⟩ := hc
  obtain ⟨-, -, -, hT⟩ := (hG.2.2.2.2.2.1 j hj).1 0 (by omega)
  obtain ⟨arr, t1, t2, t3, t4, t5, t6, -⟩ := hT.kept hs.2.1
  have t5' : arr.slots.size.toInt32 = Int32.ofNat (sln j) := t5
  refine str_call (S := Lib.Cold.length.spec) (P := Lib.Cold.length.P (sa j) (sv j) 1 arr) (Qf := Lib.Cold.length.Q arr) (bytes := Lib.String.length.code) (maxL := 1) (ret := some .int) (As := []) hx hown (hml.trans hsz.symm) (hts _ hl) (hts _ (tblG_in (i := 918) (by decide +kernel) (by decide +kernel))) (hts _ (tblG_in (i := 919) (by decide +kernel) (by decide +kernel))) (hts _ (tblG_in (i := 920) (by decide +kernel) (by decide +kernel))) (by decide) (Lib.Cold.length.met l (sa j) (sv j) 1 arr) (show 1 + 1 ≤ R.frames by omega) (show 8 + (1 + 11) + 24 ≤ R.locals by omega) (show cells + 0 ≤ R.cells by omega) (show slots + 0 ≤ R.slots by omega) (fun U hU hW => ?_) (fun a first o t hq => ⟨hq.1, by rw [hq.2, t5']⟩) (vk_recv (N := 1) (adK := fun _ => sa j) (i := 0) (hG.2.2.2.2.2.1 j hj) (by omega) hs) (fun sig hsig => ?_) h8 (by rw [hb]; exact hd) kk
  · have tb := tb_at hts hW
    have hGU := hG.to hW hs.1 hs.2.1 (fun _ z => z)
    obtain ⟨a1, a2, a3⟩ := str_at (a' := #[.ref (sa j)]) tb (hGU.2.2.2.2.2.1 j hj) (hGx.to hW.alike hs.2.1 (fun _ z => z)) hj hU rfl
    have cd := tb (.code Lib.String.coder.name Lib.String.coder.code 1 (some .byte)) (tblG_in (i := 924) (by decide +kernel) (by decide +kernel)) #[.ref (sa j)]
    have ci := tb (.instanceMethod Lib.String.coder.name) (tblG_in (i := 922) (by decide +kernel) (by decide +kernel)) #[.ref (sa j)]
    refine ⟨?_, tb _ (tblG_in (i := 920) (by decide +kernel) (by decide +kernel)) _, tb _ (tblG_in (i := 23) (by decide +kernel) (by decide +kernel)) _, rfl, a2, by rw [hU]; exact t1, State.isArrayOf_alike hW.alike t2, ?_, rfl, stat_of hU hGU.2.2.2.2.2.2.2.1.1, by decide, a3⟩
    · simp only [Lib.Cold.length.spec, Cond.before_and, Bool.and_eq_true]
      exact ⟨tb _ (tblG_in (i := 920) (by decide +kernel) (by decide +kernel)) _, rfl, a1, tb _ (tblG_in (i := 1049) (by decide +kernel) (by decide +kernel)) _, tb _ (tblG_in (i := 921) (by decide +kernel) (by decide +kernel)) _, decl_of cd ci, tb _ (tblG_in (i := 923) (by decide +kernel) (by decide +kernel)) _, ci, tb _ (tblG_in (i := 23) (by decide +kernel) (by decide +kernel)) _⟩
    · simp only [Lib.Cold.coder.spec, Cond.before_and, Bool.and_eq_true]
      exact ⟨cd, rfl, tb _ (tblG_in (i := 925) (by decide +kernel) (by decide +kernel)) _, tb _ (tblG_in (i := 1050) (by decide +kernel) (by decide +kernel)) _⟩
  · have h : parseMethodDescriptor "()I" = some { parameters := [], returnType := some .int } := by decide +kernel
    rw [show yLen.desc = "()I" from rfl, h] at hsig
    rw [← Option.some.inj hsig]; rfl
theorem str_chr {j i : Nat} {k : Int32} (hc : Cx D ar ro sa sv p l R s m args meth c A M d) (hGx : Gx sa A s s.heap) (hs : va_S A s.heap H locs) (hsz : ls.size = ml M) (hj : j < 25) (hl : Cond.methodLink (cn (mo M)) i yChr ∈ tblG) (hk : vp_in k (sln j)) (h8 : (rest.map fun v => v.category).sum ≤ 8) (h1 : cells ≤ R.cells) (h2 : slots ≤ R.slots) (hd : decode (mb M) pc = .ok (.invokevirtual i, 3))
    (kk : W p l e R s m args below meth c H locs cells slots Q (F0 m (pc + 3) ls (.int (Int32.ofNat (sch j k.toNatClampNeg)) :: rest))) : W p l e R s m args below meth c H locs cells slots Q (F0 m pc ls (.int k :: .ref (sa j) :: rest)) := by
  obtain ⟨hx, hb, hml, hown, hts, hG, hA, hr, hlk, htab, hnm, hRf, hRl, htr⟩ := hc
  obtain ⟨-, -, -, hT⟩ := (hG.2.2.2.2.2.1 j hj).1 0 (by omega)
  obtain ⟨arr, t1, t2, t3, t4, t5, t6, -⟩ := hT.kept hs.2.1
  have t5' : arr.slots.size.toInt32 = Int32.ofNat (sln j) := t5
  have hk0 : ¬ k < 0 := fun z => hk (Or.inl z)
  have hk1 : k.toNatClampNeg < sln j := Nat.lt_of_not_le (fun z => hk (Or.inr z))
  have t4' : sln j ≤ arr.slots.size := t4
  have t6' := t6 k.toNatClampNeg hk1
  have hby : (((strI.getD j []).getD k.toNatClampNeg 0 &&& 255).toUInt32.toUInt16.toUInt32.toInt32) = Int32.ofNat (sch j k.toNatClampNeg) := str_byte hj hk1
  have hlt : k < Int32.ofNat (sln j) := str_lt hj hk0 hk1
  refine str_call (S := Lib.Cold.charAt.spec) (P := fun a U => ∃ fmt, Lib.Cold.charAt.P (sa j) (sv j) k ((strI.getD j []).getD k.toNatClampNeg 0) 1 fmt arr a U) (Qf := fun a st o t => ∃ fmt, Lib.Cold.charAt.P (sa j) (sv j) k ((strI.getD j []).getD k.toNatClampNeg 0) 1 fmt arr a st ∧ Lib.Cold.charAt.Q ((strI.getD j []).getD k.toNatClampNeg 0) a st o t) (bytes := Lib.Str.charAt.code) (maxL := 2) (ret := some .char) (As := [.int k]) hx hown (hml.trans hsz.symm) (hts _ hl) (hts _ (tblG_in (i := 1254) (by decide +kernel) (by decide +kernel))) (hts _ (tblG_in (i := 1255) (by decide +kernel) (by decide +kernel))) (hts _ (tblG_in (i := 1256) (by decide +kernel) (by decide +kernel))) (by decide) (MetFree.ex (G := Value) fun fmt => Lib.Cold.charAt.met l (sa j) (sv j) k _ 1 fmt arr) (show 3 + 1 ≤ R.frames by omega) (show 8 + (2 + 11) + 72 ≤ R.locals by omega) (show cells + 0 ≤ R.cells by omega) (show slots + 0 ≤ R.slots by omega) (fun U hU hW => ?_) (fun a first o t hq => by obtain ⟨_, -, hq⟩ := hq; exact ⟨hq.1, by rw [hq.2, hby]⟩) (vk_recv (N := 1) (adK := fun _ => sa j) (i := 0) (hG.2.2.2.2.2.1 j hj) (by omega) hs) (fun sig hsig => ?_) h8 (by rw [hb]; exact hd) kk
  · have tb := tb_at hts hW
    have hGU := hG.to hW hs.1 hs.2.1 (fun _ z => z)
    have hGxU := hGx.to hW.alike hs.2.1 (fun _ z => z)
    obtain ⟨a1, a2, -⟩ := str_at (a' := #[.ref (sa j), .int k]) tb (hGU.2.2.2.2.2.1 j hj) hGxU hj hU rfl
    obtain ⟨-, -, a3⟩ := str_at (a' := #[.ref (sa j)]) tb (hGU.2.2.2.2.2.1 j hj) hGxU hj hU rfl
    obtain ⟨fmt, hfmt, hfz⟩ : ∃ fmt : Value, (fmt = .null ∨ ∃ t, fmt = .ref t) ∧ va_Z "jdk/internal/util/Preconditions" "SIOOBE_FORMATTER" "Ljava/util/function/BiFunction;" fmt A U H := by
      rcases hGxU.1.1 with z | ⟨t, z⟩
      · exact ⟨.null, Or.inl rfl, z⟩
      · exact ⟨.ref t, Or.inr ⟨t, rfl⟩, z⟩
    have ci : ∀ a', (Cond.instanceMethod Lib.Str.isLatin1.name).before a' U = true := tb (.instanceMethod Lib.Str.isLatin1.name) (tblG_in (i := 1258) (by decide +kernel) (by decide +kernel))
    have cd : ∀ a', (Cond.code Lib.Str.isLatin1.name Lib.String.isLatin1.code 1 (some .boolean)).before a' U = true := tb (.code Lib.Str.isLatin1.name Lib.String.isLatin1.code 1 (some .boolean)) (tblG_in (i := 1260) (by decide +kernel) (by decide +kernel))
    have cs : ∀ a', (Cond.code Lib.SL1.charAt.name Lib.SL1.charAt.code 2 (some .char)).before a' U = true := tb (.code Lib.SL1.charAt.name Lib.SL1.charAt.code 2 (some .char)) (tblG_in (i := 1263) (by decide +kernel) (by decide +kernel))
    have cc : ∀ a', (Cond.code Lib.Str.checkIndex.name Lib.Str.checkIndex.code 2 none).before a' U = true := tb (.code Lib.Str.checkIndex.name Lib.Str.checkIndex.code 2 none) (tblG_in (i := 1266) (by decide +kernel) (by decide +kernel))
    have cp : ∀ a', (Cond.code Lib.Preconditions.checkIndex.name Lib.Preconditions.checkIndex.code 3 (some .int)).before a' U = true := tb (.code Lib.Preconditions.checkIndex.name Lib.Preconditions.checkIndex.code 3 (some .int)) (tblG_in (i := 1269) (by decide +kernel) (by decide +kernel))
    have c0 : ∀ a', (Cond.code Lib.Str.charAt.name Lib.Str.charAt.code 2 (some .char)).before a' U = true := tb (.code Lib.Str.charAt.name Lib.Str.charAt.code 2 (some .char)) (tblG_in (i := 1256) (by decide +kernel) (by decide +kernel))
    have is : ∀ a', (Cond.initialized Lib.str).before a' U = true := tb (.initialized Lib.str) (tblG_in (i := 23) (by decide +kernel) (by decide +kernel))
    refine ⟨?_, c0 _, is _, fmt, rfl, a2, sig_of (cs #[]), ?_, ⟨rfl, stat_of hU hGU.2.2.2.2.2.2.2.1.1, by decide, a3⟩, ?_, rfl, by rw [hU]; exact t1, State.isArrayOf_alike hW.alike t2, t3, (fun z => z.elim hk0 (fun z => by omega)), t6', sig_of (cc #[]), ?_, rfl, stat_of hU hfz, sig_of (cp #[]), ?_⟩
    · simp only [Lib.Cold.charAt.spec, Cond.before_and, Bool.and_eq_true]
      exact ⟨c0 _, rfl, a1, tb _ (tblG_in (i := 1257) (by decide +kernel) (by decide +kernel)) _, decl_of (cd _) (ci _), tb _ (tblG_in (i := 1259) (by decide +kernel) (by decide +kernel)) _, ci _, tb _ (tblG_in (i := 1049) (by decide +kernel) (by decide +kernel)) _, tb _ (tblG_in (i := 1261) (by decide +kernel) (by decide +kernel)) _, tb _ (tblG_in (i := 1262) (by decide +kernel) (by decide +kernel)) _, tb _ (tblG_in (i := 28) (by decide +kernel) (by decide +kernel)) _, is _⟩
    · simp only [Lib.Cold.isLatin1.spec, Cond.before_and, Bool.and_eq_true]
      exact ⟨cd _, rfl, tb _ (tblG_in (i := 925) (by decide +kernel) (by decide +kernel)) _, tb _ (tblG_in (i := 1050) (by decide +kernel) (by decide +kernel)) _⟩
    · simp only [Lib.Cold.latin1.spec, Cond.before_and, Bool.and_eq_true]
      exact ⟨cs _, rfl, tb _ (tblG_in (i := 1264) (by decide +kernel) (by decide +kernel)) _, tb _ (tblG_in (i := 1265) (by decide +kernel) (by decide +kernel)) _, is _⟩
    · simp only [Lib.Cold.checkIndex.spec, Cond.before_and, Bool.and_eq_true]
      exact ⟨cc _, rfl, tb _ (tblG_in (i := 903) (by decide +kernel) (by decide +kernel)) _, tb _ (tblG_in (i := 1267) (by decide +kernel) (by decide +kernel)) _, tb _ (tblG_in (i := 1268) (by decide +kernel) (by decide +kernel)) _, tb _ (tblG_in (i := 27) (by decide +kernel) (by decide +kernel)) _⟩
    · simp only [Lib.Preconditions.checkIndex.spec, Cond.before_and, Bool.and_eq_true]
      refine ⟨cp _, rfl, rfl, rfl, ?_, ?_, ?_⟩
      · rcases hfmt with rfl | ⟨t, rfl⟩ <;> rfl
      · simpa [Cond.before, Cond.holds, Cond.value, Term.eval] using Int32.not_lt.mp hk0
      · rw [t5']
        simpa [Cond.before, Cond.holds, Cond.value, Term.eval] using hlt
  · have h : parseMethodDescriptor "(I)C" = some { parameters := [.int], returnType := some .char } := by decide +kernel
    rw [show yChr.desc = "(I)C" from rfl, h] at hsig
    rw [← Option.some.inj hsig]; rfl
end STRC
section DS
variable {D : va_G} {ar : Nat → ClassId} {ro : Nat → Option (Nat × (Nat → Int32))} {sa sv : Nat → Nat} {l : Launch}
variable {p : Program} {e : Env} {R : Room} {s : State} {m : MethodId} {args : Array Value} {below : List Frame} {meth : Method} {c : Code} {A : Nat → Prop} {M : Mth} {d : Nat}
variable {H : Heap} {locs : List Loc} {cells slots : Nat} {ls : Array Slot} {ws : va_W} {pc : Nat} {lv : Lv} {st : List Value} {h : Hp} {kc ks : Nat} {Φ : Ou → Hp → Prop} {S : Cd → Prop} {ig : Instr} {len : Nat}
theorem ldcw_str {cc : ByteArray} {Q : State → Prop} {rest : List Value} (hexec : p.tables.exec = Jvm.exec) (hb : c.code = cc) {own tx : String} {index q : Nat} (hown : s.vm.findClass own = some m.cls) (hZ : vk_R own index tx q s) (hdg : decode cc pc = .ok (.ldc_w index, 3))
    (k : W p l e R s m args below meth c H locs cells slots Q (F0 m (pc + 3) ls (.ref q :: rest))) : W p l e R s m args below meth c H locs cells slots Q (F0 m pc ls rest) := by
  intro T hT X
  obtain ⟨t, a1, b1⟩ := k T hT X
  refine ⟨t, ?_, b1⟩
  have hdg : decode c.code pc = .ok (.ldc_w index, 3) := by rw [hb]; exact hdg
  obtain ⟨k, cf, i, a', hk, hcf, hcp, -, hr, hev'⟩ := Cond.stringRef_spec hown hZ.1
  cases hZ.2.symm.trans hev'
  obtain ⟨k', hk', he⟩ := X.warmed.alike.2.2 _ _ hk
  have hr' : k'.resolved[index]? = some (some (.string q)) := by
    rcases X.warmed.entry hk hk' index with h | ⟨h, -⟩
    · rw [h]; exact hr
    · rw [hr] at h; cases h
  jvm_step X.here [hexec, hdg, ldc_w.wp_string (e := e) (s := T) (f := F0 m pc ls rest) X.here.top hk' (by rw [he]; exact hcf) hcp hr']
  exact a1
set_option maxHeartbeats 4000000 in
theorem ad_sound (hc : Cx D ar ro sa sv p l R s m args meth c A M d) (hd : decode (mb M) pc = .ok (ig, len)) (hF : am_d sa S M d ig len pc lv st h kc ks Φ) (hS : ∀ q, S q → Sd D ar ro sa sv l q)
    (hl : lr ls lv) (hn : lv.length = ml M) (hh : ∀ b, h b = lkp ws b) (hP : va_P D clsL ws H) (hD : va_D A ws) (hs : va_S A s.heap H locs) (h1 : cells + kc ≤ R.cells) (h2 : slots + ks ≤ R.slots) :
    W p l e R s m args below meth c H locs cells slots (vx_MQ below (QcO D A Φ) (XcO D A Φ) args s R.cells R.slots A) (F0 m pc ls st) := by
  have hc0 := hc
  obtain ⟨hx, hb, hml, hown, hts, hG, hA, hr, hlk, htab, hnm, hRf, hRl, htr⟩ := hc0
  have go : ∀ {pc' : Nat} {st' : List Value}, S (M, d, (pc', lv, st', h, kc, ks), Φ) → W p l e R s m args below meth c H locs cells slots (vx_MQ below (QcO D A Φ) (XcO D A Φ) args s R.cells R.slots A) (F0 m pc' ls st') :=
    fun hq => hS _ hq p e R s m args below meth c A hc _ _ _ _ _ _ hl hn hh hP hD hs h1 h2
  unfold am_d at hF
  split at hF
  · exact lv_idiv hx hb hd hF.1 (go hF.2)
  · exact lv_irem hx hb hd hF.1 (go hF.2)
  · exact lv_ldiv hx hb hd hF.1 (go hF.2)
  · rcases hF with ⟨v, g1, hq⟩ | ⟨j, tx, g1, hq⟩
    · exact lv_ldc hx hb hown (hts _ g1) hd (go hq)
    · exact va_ldcS hx hb hown (hG.2.2.2.2.2.2.1 j _ _ _ g1) hd (go hq)
  · rcases hF with ⟨v, g1, hq⟩ | ⟨j, tx, g1, hq⟩
    · exact lv_ldcw hx hb hown (hts _ g1) hd (go hq)
    · exact ldcw_str hx hb hown (hG.2.2.2.2.2.2.1 j _ _ _ g1) hd (go hq)
  · obtain ⟨v, g1, hq⟩ := hF
    exact lv_ldc2 hx hb hown (hts _ g1) hd (go hq)
  · obtain ⟨g1, g2, hq⟩ := hF
    exact lv_lookup hx hb hd g1 rfl (tgt_ok g2) (go hq)
  · obtain ⟨g1, g2⟩ := hF
    rename_i df lo hi offs x st0
    by_cases c1 : x.toInt < lo
    · exact lv_tableOut hx hb hd (Or.inl c1) (tgt_ok (g1 (Or.inl c1)).1) (go (g1 (Or.inl c1)).2)
    · by_cases c2 : hi < x.toInt
      · exact lv_tableOut hx hb hd (Or.inr c2) (tgt_ok (g1 (Or.inr c2)).1) (go (g1 (Or.inr c2)).2)
      · obtain ⟨off, f1, f2, hq⟩ := g2 c1 c2
        exact lv_tableIn hx hb hd c1 c2 f1 (tgt_ok f2) (go hq)
  · exact hF.elim
theorem ww_ret {t : State} (hh : ∀ b, h b = lkp ws b) (hP : va_P D clsL ws H) (hD : va_D A ws) (hs : va_S A s.heap H locs) (ht : t.heap = H) : Ww D A h ws s t := ⟨hh, by rw [ht]; exact hP, hD, hs.F ht⟩
theorem ww_thr {t : State} (hh : ∀ b, h b = lkp ws b) (hP : va_P D clsL ws H) (hD : va_D A ws) (hs : va_S A s.heap H locs) (hz : H.size ≤ t.heap.size) (hk : ∀ q : Nat, q < H.size → t.heap[q]? = H[q]?) : Ww D A h ws s t := by
  refine ⟨hh, fun k q hq => (hP k q hq).kept (hk q.1 ((hP k q hq).lt)), hD, Nat.le_trans hs.1 hz, fun q a1 a2 => ?_⟩
  rw [hk q (Nat.lt_of_lt_of_le a1 hs.1)]
  exact hs.2.1 q a1 a2
theorem exL_use {w : Cond} (hw : w ∈ exL) (h : va_Nw w s) : w.before args s = true := by
  rcases exL_kind hw with ⟨a, b, c, d, rfl⟩ | ⟨a, b, rfl⟩ | ⟨C, rfl⟩ | ⟨x, rfl⟩ | ⟨x, b, n, r, rfl⟩
  · exact h.use rfl
  · exact h.use rfl
  · exact va_AO.use h
  · exact h.use rfl
  · exact codeSync_warm (State.WarmedH.refl s) h
set_option maxHeartbeats 4000000 in
theorem ae_sound (hc : Cx D ar ro sa sv p l R s m args meth c A M d) (hd : decode (mb M) pc = .ok (ig, len)) (hF : am_e M ig len pc st h kc ks Φ)
    (hl : lr ls lv) (hn : lv.length = ml M) (hh : ∀ b, h b = lkp ws b) (hP : va_P D clsL ws H) (hD : va_D A ws) (hs : va_S A s.heap H locs) (h1 : cells + kc ≤ R.cells) (h2 : slots + ks ≤ R.slots) :
    W p l e R s m args below meth c H locs cells slots (vx_MQ below (QcO D A Φ) (XcO D A Φ) args s R.cells R.slots A) (F0 m pc ls st) := by
  obtain ⟨hx, hb, hml, hown, hts, hG, hA, hr, hlk, htab, hnm, hRf, hRl, htr⟩ := hc
  unfold am_e at hF
  split at hF
  · obtain ⟨g1, hq⟩ := hF
    refine W.widen (k := R.cells) (n := R.slots) (by omega) (by omega) (vx_ret ?_)
    rcases g1 with g1 | ⟨g1, g2⟩
    · exact W.iret hx hb (hr.trans g1) (fun t ht _ => ⟨_, h, ws, rfl, hq, ww_ret hh hP hD hs ht⟩) hs.2.2 hd
    · exact W.zret hx hb (hr.trans g1) g2 (fun t ht _ => ⟨_, h, ws, rfl, hq, ww_ret hh hP hD hs ht⟩) hs.2.2 hd
  · obtain ⟨g1, hq⟩ := hF
    refine W.widen (k := R.cells) (n := R.slots) (by omega) (by omega) (vx_ret ?_)
    exact W.lret hx hb (hr.trans g1) (fun t ht _ => ⟨_, h, ws, rfl, hq, ww_ret hh hP hD hs ht⟩) hs.2.2 hd
  · obtain ⟨g1, hq⟩ := hF
    refine W.widen (k := R.cells) (n := R.slots) (by omega) (by omega) (vx_ret ?_)
    exact W.vret hx hb (hr.trans g1) (fun t ht _ => ⟨_, h, ws, rfl, hq, ww_ret hh hP hD hs ht⟩) hs.2.2 hd
  · obtain ⟨ic, E, names, g0, g1, g2, g3, g4, g5, e3, e4, e7, g6, g7, g8, g9, hq⟩ := hF
    refine vx_throw0 (A := A) (names := names) hx hb htr hown g1 g2 (hts _ g3) (hts _ g4) (fun w hw => ?_) (fun w hw => ?_) hG.2.2.2.1 hG.2.2.2.2.1 hs (by rw [hl.1, hn, hml]) hd e3 e4 e7 (fun x hx => ?_) (by omega) (by omega) (by omega) (by omega) hlk (fun t _ hz hk => ⟨h, ws, hq, ww_thr hh hP hD hs hz hk⟩) hs.2.2 (by omega) (by omega)
    · rcases (g5 w hw).1 with z | z
      · exact hts _ z
      · exact exL_use z (hG.1 w z)
    · rcases List.mem_cons.mp hw with rfl | hw
      · rfl
      · rcases List.mem_cons.mp hw with rfl | hw
        · rfl
        · exact (g5 w hw).2
    · rw [htab, g0] at hx; cases hx
  · exact hF.elim
set_option maxHeartbeats 4000000 in
theorem aj_sound (hc : Cx D ar ro sa sv p l R s m args meth c A M d) (hd : decode (mb M) pc = .ok (ig, len)) (hF : am_j ar sa S M d ig len pc lv st h kc ks Φ) (hS : ∀ q, S q → Sd D ar ro sa sv l q)
    (hl : lr ls lv) (hn : lv.length = ml M) (hh : ∀ b, h b = lkp ws b) (hP : va_P D clsL ws H) (hD : va_D A ws) (hs : va_S A s.heap H locs) (h1 : cells + kc ≤ R.cells) (h2 : slots + ks ≤ R.slots) :
    W p l e R s m args below meth c H locs cells slots (vx_MQ below (QcO D A Φ) (XcO D A Φ) args s R.cells R.slots A) (F0 m pc ls st) := by
  have hc0 := hc
  obtain ⟨hx, hb, hml, hown, hts, hG, hA, hr, hlk, htab, hnm, hRf, hRl, htr⟩ := hc0
  have hK := hG.2.1
  have go : ∀ {pc' : Nat} {st' : List Value} {h' : Hp} {H' : Heap} {locs' : List Loc} {ws' : va_W}, S (M, d, (pc', lv, st', h', kc, ks), Φ) → (∀ b, h' b = lkp ws' b) → va_P D clsL ws' H' → va_D A ws' → va_S A s.heap H' locs' → W p l e R s m args below meth c H' locs' cells slots (vx_MQ below (QcO D A Φ) (XcO D A Φ) args s R.cells R.slots A) (F0 m pc' ls st') :=
    fun hq a3 a4 a5 a6 => hS _ hq p e R s m args below meth c A hc _ _ _ _ _ _ hl hn a3 a4 a5 a6 h1 h2
  have find : ∀ {a : Nat} {x : va_E}, h a = some x → ∃ k : Nat, ws[k]? = some (a, x) := fun q => lkp_at (by rw [← hh]; exact q)
  unfold am_j at hF
  split at hF
  · rename_i i0 a0 st0
    obtain ⟨g1, g2, g3, g4, hq⟩ := hF
    refine W.objInit hx hb hown (hts _ g1) (hts _ g2) (hts _ g3) rfl (by rw [hml]; exact hl.1.trans hn) rfl hd (by omega) ?_ (W.eq rfl (go hq hh hP hD hs))
    have := lv_room (m := m) (pc := pc) (ls := ls) (rest := .ref a0 :: st0) g4
    omega
  · obtain ⟨g1, g2, g3, g4, g5, z1, z2, z3, t, n0, n1, f, g, ht, ha, hb2, i1, i2, hft, hq⟩ := hF
    obtain ⟨q0, he⟩ := find ha
    obtain ⟨q1, he1⟩ := find hb2
    have ht8 : t ≤ 8 := by omega
    refine va_copyi hx hb (by rw [hml]; exact (hl.1.trans hn).symm) hown (hts _ g1) (hts _ g2) (hts _ g3) (hts _ g4) hK hP hD hs q0 q1 t t he he1 (tysA_at ar ht8) (tysA_at ar ht8) (by rcases ht with rfl | rfl <;> rfl) z1 z2 z3 i1 i2 hft (by omega) ?_ hd (fun H1 locs1 hP1 hD1 hS1 => go hq (rel_set hh hD he1 hD1) hP1 hD1 hS1)
    have : nativeFrameWords "java/lang/System" "arraycopy" 5 ≤ 100 := by decide +kernel
    omega
  · rcases hF with ⟨g1, g2, g3, g4, g5, hq⟩ | ⟨g1, g2, g3, g4, g5, hq⟩
    · exact va_mmax hx hb (by rw [hml]; exact (hl.1.trans hn).symm) hown (hts _ g1) (hts _ g2) (hts _ g3) (hts _ g4) (by omega) (by omega) (by omega) (by omega) hd (go hq hh hP hD hs)
    · exact va_mmin hx hb (by rw [hml]; exact (hl.1.trans hn).symm) hown (hts _ g1) (hts _ g2) (hts _ g3) (hts _ g4) (by omega) (by omega) (by omega) (by omega) hd (go hq hh hP hD hs)
  · obtain ⟨j, hj, rfl, g1, g2, hq⟩ := hF
    exact str_len hc hG.2.2.2.2.2.2.2.1.2 hs (hl.1.trans hn) hj g1 g2 (by omega) (by omega) hd (go hq hh hP hD hs)
  · obtain ⟨j, hj, rfl, g1, g2, g3, hq⟩ := hF
    exact str_chr hc hG.2.2.2.2.2.2.2.1.2 hs (hl.1.trans hn) hj g1 g2 g3 (by omega) (by omega) hd (go hq hh hP hD hs)
  · obtain ⟨g1, g2, g3, g4, g5, hq⟩ := hF
    exact va_mabs_long hx hb (by rw [hml]; exact (hl.1.trans hn).symm) hown (hts _ g1) (hts _ g2) (hts _ g3) (hts _ g4) (by omega) (by omega) (by omega) (by omega) hd (go hq hh hP hD hs)
  · exact hF.elim
end DS
