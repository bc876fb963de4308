/-! calls are sound; WP is sound -/
section CS
variable {D : va_G} {ar : Nat → ClassId} {ro : Nat → Option (Nat × (Nat → Int32))} {sa sv : Nat → Nat} {l : Launch}
abbrev rmD (d mc ms : Nat) : Room := { frames := d + 8, cells := mc, slots := ms, locals := 80 * d + 160 }
def entL (av : List Value) (n : Nat) : Lv := (lg_sl av ++ List.replicate (n - (lg_sl av).length) Slot.unset).map (fun z => match z with | .val v => some v | _ => none)
def PcM (D : va_G) (ar : Nat → ClassId) (ro : Nat → Option (Nat × (Nat → Int32))) (sa sv : Nat → Nat) (av : List Value) (ws : va_W) (sz : Nat) : Array Value → State → Prop := fun a U => a = av.toArray ∧ U.heap.size = sz ∧ va_P D clsL ws U.heap ∧ va_D (fun _ => True) ws ∧ Gw D ar ro sa sv U U.heap (va_A ws sz)
theorem entL_lr {av : List Value} {n : Nat} (h : (lg_sl av).length ≤ n) : lr ((lg_sl av ++ List.replicate (n - (lg_sl av).length) Slot.unset).toArray) (entL av n) := by
  have h0 := lv_entry av h
  refine ⟨by simp [entL], h0.2.1, fun i v hv => ?_⟩
  simp only [entL, ldl, List.getElem?_map] at hv
  rw [List.getElem?_toArray]
  cases e : (lg_sl av ++ List.replicate (n - (lg_sl av).length) Slot.unset)[i]? with
  | none => rw [e] at hv; cases hv
  | some z =>
    rw [e] at hv
    cases z with
    | val w => cases hv; rfl
    | second => cases hv
    | unset => cases hv
theorem entL_len {av : List Value} {n : Nat} (h : (lg_sl av).length ≤ n) : (entL av n).length = n := by simp [entL]; omega
theorem good_tbl : GoodIn tblG tblG := fun w hw => ⟨hw, good_of_word (List.mem_filter.mp hw).2⟩
theorem good_cons {w : Cond} (hw : w ∈ tblG) : GoodIn tblG (w :: tblG) := fun x hx => (List.mem_cons.mp hx).elim (fun q => by rw [q]; exact good_tbl w hw) (good_tbl x)
set_option maxHeartbeats 4000000 in
theorem met_of (htr : l.stackTraces = false) {M : Mth} {d n mc ms : Nat} {av : List Value} {h : Hp} {Ψ : Ou → Hp → Prop} (hM : MOk M n) (hal : (lg_sl av).length ≤ ml M) (hq : Sd D ar ro sa sv l (M, d, (0, entL av (ml M), [], h, mc, ms), Ψ)) (ws : va_W) (sz : Nat) (hh : ∀ b, h b = lkp ws b) :
    vx_Met l (my M) (mw M :: tblG) (rmD d mc ms) (PcM D ar ro sa sv av ws sz) (QcO D (va_A ws sz) Ψ) (XcO D (va_A ws sz) Ψ) mc ms (va_A ws sz) := by
  obtain ⟨m1, m2, m3, m4, m5, m6, m7⟩ := hM
  have main : ∀ (p : Program) (e : Env) (s : State) (m : MethodId) (args : Array Value) (below : List Frame) (meth : Method) (c : Code), p.tables.exec = Jvm.exec → c.code = mb M → c.maxLocals = ml M → s.vm.findClass (my M).cls = some m.cls → (∀ w ∈ tblG, w.before args s = true) → meth.sig.returnType = mr M → meth.locks = false → c.exceptionTable.toList = tableOf (mh M) → meth.name = (my M).name → PcM D ar ro sa sv av ws sz args s →
      W p l e (rmD d mc ms) s m args below meth c s.heap [] 0 0 (vx_MQ below (QcO D (va_A ws sz) Ψ) (XcO D (va_A ws sz) Ψ) args s mc ms (va_A ws sz)) (entryFrame m args (ml M)) := by
    intro p e s m args below meth c a1 a2 a3 a4 a5 a6 a7 a8 a9 hp
    obtain ⟨rfl, hsz, hP, hD, hG⟩ := hp
    subst hsz
    rw [lg_entry_eq]
    exact hq p e (rmD d mc ms) s m _ below meth c (va_A ws s.heap.size) ⟨a1, a2, a3, by rw [← m1]; exact a4, a5, hG, fun q z => Or.inr z, a6, a7, a8, a9, Nat.le_refl _, Nat.le_refl _, htr⟩ s.heap [] 0 0 _ ws (entL_lr hal) (entL_len hal) hh hP hD.self va_S.rf (by simp) (by simp)
  cases hmh : mh M with
  | nil =>
    have hw : mw M = Cond.code (my M) (mb M) (ml M) (mr M) := by simp only [mw, hmh]
    rw [hw]
    refine vx_ofW (cc := mb M) (maxL := ml M) (ret := mr M) m2 rfl ?_
    intro p e s m args below meth c s₁ B hml ht hPc
    have hts := atoms_spec (ws := Cond.code (my M) (mb M) (ml M) (mr M) :: tblG) B.pre
    refine main p e s m args below meth c B.exec B.bytes hml (findClass_of_methodNamed B.named) (fun w hw => hts w (List.mem_cons_of_mem _ hw)) B.returns B.notSynchronized ?_ (name_of_methodNamed B.named B.method).1 hPc
    rw [hmh]
    exact List.eq_nil_iff_forall_not_mem.mpr (fun x hx => ht x hx)
  | cons x t =>
    have hw : mw M = Cond.codeWith (my M) (mb M) (ml M) (mr M) (x :: t) := by simp only [mw, hmh]
    rw [hw]
    refine vx_ofWH (cc := mb M) (maxL := ml M) (ret := mr M) (hh := x :: t) m2 rfl ?_
    intro p e s m args below meth c s₁ B hml hPc
    have hts := atoms_spec (ws := Cond.codeWith (my M) (mb M) (ml M) (mr M) (x :: t) :: tblG) B.pre
    refine main p e s m args below meth c B.exec B.bytes hml (findClass_of_methodNamed B.named) (fun w hw => hts w (List.mem_cons_of_mem _ hw)) B.returns B.notSynchronized ?_ (name_of_methodNamed B.named B.method).1 hPc
    rw [hmh]
    exact vx_table (x := my M) B (hts _ List.mem_cons_self)
theorem met_plain {y : MethodName} {ws : List Cond} {rm : Room} {Pc : Array Value → State → Prop} {Qc : Array Value → State → Outcome → State → Prop} {XC : String → State → State → Prop} {mc ms : Nat} {free : Addr → Prop} (hM : vx_Met l y ws rm Pc Qc XC mc ms free) (hX : ∀ E st t, ¬ XC E st t) : Met l y ws rm Pc Qc mc ms free := by
  intro p e a1 a2 a3 s m args below a4 a5 a6 a7
  obtain ⟨n, o, b1, b2, b3, b4⟩ := hM p e a1 a2 a3 s m args below a4 a5 a6 a7
  refine ⟨n, o, b1, b2, b3, ?_⟩
  rcases b4 with b4 | ⟨q, -, E, ce, L, hx, -⟩
  · exact b4
  · exact (hX _ _ _ hx).elim
variable {p : Program} {e : Env} {R : Room} {s : State} {m : MethodId} {args : Array Value} {below : List Frame} {meth : Method} {c : Code} {A : Nat → Prop} {M : Mth} {d : Nat}
variable {H : Heap} {locs : List Loc} {cells slots : Nat} {ls : Array Slot} {ws : va_W} {pc : Nat} {lv : Lv} {st : List Value} {h : Hp} {kc ks : Nat} {Φ : Ou → Hp → Prop} {S : Cd → Prop} {ig : Instr} {len : Nat}
theorem run_vx {mc ms : Nat} {g : JFrame} {rest : List Value} {Qa : State → Outcome → State → Prop} {XC : String → State → State → Prop} {free : Addr → Prop} (h : va_Run p l e R s m args below meth c H locs cells slots mc ms g rest Qa free) : vx_Run p l e R s m args below meth c H locs cells slots mc ms g rest Qa XC free := fun T hT X => Or.inl (h T hT X)
theorem call_W {mc ms : Nat} {st0 rest : List Value} {a : Array Value} {A1 : Nat → Prop} {Ψ : Ou → Hp → Prop} {Q : State → Prop} (hr : vx_Run p l e R s m args below meth c H locs cells slots mc ms (F0 m pc ls st0) rest (QcO D A1 Ψ a) (XcO D A1 Ψ) A1) (hS : va_S A s.heap H locs) (hA1 : ∀ q, A1 q → A q)
    (kk : ∀ (v : Option Value) (h' : Hp) (H1 : Heap) (locs1 : List Loc) (ws' : va_W), Ψ (.inl v) h' → (∀ b, h' b = lkp ws' b) → va_P D clsL ws' H1 → va_D A ws' → va_S A s.heap H1 locs1 → W p l e R s m args below meth c H1 locs1 (cells + mc) (slots + ms) Q (F0 m (pc + 3) ls (v.toList ++ rest)))
    (kx : ∀ (E : String) (h' : Hp) (H1 : Heap) (locs1 : List Loc) (ws' : va_W) (q : Addr) (ce : Cell), Ψ (.inr E) h' → (∀ b, h' b = lkp ws' b) → va_P D clsL ws' H1 → va_D A ws' → va_S A s.heap H1 locs1 → H1[q]? = some ce → ce.vm = .none → s.vm.findClass E = some ce.cls → vx_W p l e R s m args below meth c H1 locs1 (cells + mc) (slots + ms) Q (F0 m pc ls rest) q) :
    W p l e R s m args below meth c H locs cells slots Q (F0 m pc ls st0) := by
  intro T hT X
  rcases hr T hT X with ⟨v, st₀, t, T', L, h0, X', hL, e1, e2, ⟨v', h', ws', hv, hp, hb, hP1, hD1, hF⟩, st⟩ | ⟨q, st₀, t, T', L, E, ce, h0, X', hL, e1, e2, ⟨h', ws', hp, hb, hP1, hD1, hF⟩, hce, hcv, hcl, st⟩
  · cases hv
    obtain ⟨-, -, k3⟩ := vx_keep h0 e1 hS (fun q _ z => hA1 q z) hA1 hL hF
    obtain ⟨t2, a1, b1⟩ := kk v h' T'.heap (locs ++ L) ws' hp hb (by rw [e1]; exact hP1) (hD1.weaken (fun k q _ z => hA1 q.1 z)) k3 T' rfl X'
    exact ⟨t2, st t2 a1, b1⟩
  · obtain ⟨-, -, k3⟩ := vx_keep h0 e1 hS (fun q _ z => hA1 q z) hA1 hL hF
    obtain ⟨t2, a1, b1⟩ := kx E h' T'.heap (locs ++ L) ws' q ce hp hb (by rw [e1]; exact hP1) (hD1.weaken (fun k q _ z => hA1 q.1 z)) k3 (by rw [e1]; exact hce) hcv hcl T' rfl X'
    exact ⟨t2, st.trans a1, b1⟩
theorem pc_blind {av : List Value} {sz : Nat} : FrameBlind (PcM D ar ro sa sv av ws sz) := by
  intro a U g mk hp
  obtain ⟨h1, h2, h3, h4, h5⟩ := hp
  exact ⟨h1, h2, h3, h4, h5.to (U := U.calling g mk a) (H := U.heap) (State.WarmedH.refl U) (Nat.le_refl _) (fun _ _ _ => rfl) (fun _ z => z)⟩
set_option maxHeartbeats 4000000 in
theorem ac_sound (hc : Cx D ar ro sa sv p l R s m args meth c A M d) (hd : decode (mb M) pc = .ok (ig, len)) (hF : am_c S M d ig len pc lv st h kc ks Φ) (hS : ∀ q, S q → Sd D ar ro sa sv l q)
    (hl : lr ls lv) (hn : lv.length = ml M) (hh : ∀ b, h b = lkp ws b) (hP : va_P D clsL ws H) (hD : va_D A ws) (hs : va_S A s.heap H locs) (h1 : cells + kc ≤ R.cells) (h2 : slots + ks ≤ R.slots) :
    W p l e R s m args below meth c H locs cells slots (vx_MQ below (QcO D A Φ) (XcO D A Φ) args s R.cells R.slots A) (F0 m pc ls st) := by
  obtain ⟨idx, kind, d', mc, ms, M', As, rest, av, Ψ, hdd, hlen, ⟨hM, hlnk, hkind⟩, hst, hw8, hal, hmc, hms, hq, hk, hkx⟩ := hF
  subst hlen
  have hc0 := hc
  obtain ⟨hx, hb, hml, hown, hts, hG, hA, hr, hlk, htab, hnm, hRf, hRl, htr⟩ := hc0
  obtain ⟨m1, m2, m3, m4, m5, m6, m7⟩ := id hM
  have hA1 : ∀ q, va_A ws H.size q → A q := va_free (wc := ws) hD hs hA (List.range ws.length) (by
    apply List.ext_getElem? ; intro i
    simp only [List.getElem?_map, List.getElem?_range]
    rcases Nat.lt_or_ge i ws.length with q | q
    · simp [q]
    · simp [q, Nat.not_lt.mpr q])
  have hMet := met_of htr hM hal (hS _ hq) ws H.size hh
  have hGH : ∀ U : State, U.heap = H → s.WarmedH U.vm → PcM D ar ro sa sv av ws H.size av.toArray U := fun U hU hW => ⟨rfl, by rw [hU], by rw [hU]; exact hP, hD.weaken (fun _ _ _ _ => trivial), by rw [hU]; exact hG.to hW hs.1 hs.2.1 hA1⟩
  have hCF : CallFix p m c (mb M) (ml M) s args tblG (cn (mo M)) := ⟨hx, hb, hml, hown, hts⟩
  have hsz : (F0 m pc ls st).locals.size = ml M := hl.1.trans hn
  have hRoom : (rmD d' mc ms).frames + 1 ≤ R.frames ∧ 8 + (ml M' + 11) + (rmD d' mc ms).locals ≤ R.locals := ⟨by show d' + 8 + 1 ≤ _; omega, by show 8 + (ml M' + 11) + (80 * d' + 160) ≤ _; omega⟩
  have hwt : 2 * (F0 m pc ls st).monitorRoom + (rest.map fun v => v.category).sum ≤ 8 := lv_room hw8
  have hf : cells + mc ≤ R.cells ∧ slots + ms ≤ R.slots := ⟨by omega, by omega⟩
  have hdd2 : (my M').cls ≠ "java/lang/invoke/MethodHandle" ∧ (my M').cls ≠ "java/lang/invoke/VarHandle" ∧ (parseMethodDescriptor (my M').desc).map (fun d => d.parameters.length) = some As.length := ⟨m3.1, m3.2, m4⟩
  have hnone : (¬ Cond.methodLink (cn (mo M)) idx (my M') ∈ tblG ∨ kind = 2) → ∀ E st t, ¬ XcO D (va_A ws H.size) Ψ E st t := by
    rintro hz E st t ⟨h', ws', hp, -⟩
    obtain ⟨⟨y1, y2⟩, -⟩ := hkx E h' hp
    rcases hz with z | z
    · exact z y1
    · exact y2 z
  have hrun : vx_Run p l e R s m args below meth c H locs cells slots mc ms (F0 m pc ls st) rest (QcO D (va_A ws H.size) Ψ av.toArray) (XcO D (va_A ws H.size) Ψ) (va_A ws H.size) := by
    by_cases hln : Cond.methodLink (cn (mo M)) idx (my M') ∈ tblG
    · rcases hkind with ⟨k0, w1⟩ | ⟨k0, w1, w2, w3⟩ | ⟨k0, w1, w2, w3, w4⟩
      · rcases hst with ⟨-, rfl, rfl, rfl⟩ | ⟨_, _, _, _, k1, _⟩ | ⟨_, k1, _⟩
        · cases hmh : mh M' with
          | nil =>
            have hw : mw M' = Cond.code (my M') (mb M') (ml M') (mr M') := by simp only [mw, hmh]
            rw [hw] at hMet m5
            exact vx_runS hCF hMet ⟨callB_of _ hts (good_cons m5) rfl rfl rfl (hts _ m6) (hts _ hln) hdd2 hRoom, hts _ w1⟩ ⟨pc_blind, hGH⟩ rfl rfl hsz rfl hwt hd hf
          | cons x t =>
            have hw : mw M' = Cond.codeWith (my M') (mb M') (ml M') (mr M') (x :: t) := by simp only [mw, hmh]
            rw [hw] at hMet m5
            refine vx_runSX (hh := x :: t) hCF hMet ⟨⟨rfl, rfl, hRoom.1, hRoom.2, pay_in hts (good_cons m5), List.mem_cons_self⟩, hts _ m5, hts _ m6, m3, fun sig hsig => ?_, hts _ hln, hts _ w1⟩ ⟨pc_blind, hGH⟩ rfl rfl hsz rfl hwt hd hf
            rw [hsig] at m4; exact (Option.some.inj m4).symm
        · omega
        · omega
      · rcases hst with ⟨k1, _⟩ | ⟨b, ci, fs, r, -, rfl, rfl, rfl, hb2, hcl, hr1⟩ | ⟨_, k1, _⟩
        · omega
        · have hw : mw M' = Cond.code (my M') (mb M') (ml M') (mr M') := by simp only [mw, w3]
          rw [hw] at hMet m5
          obtain ⟨q0, he⟩ := lkp_at (by rw [← hh]; exact hb2)
          refine vx_runV (C := (my M').cls) hCF hMet ⟨callB_of _ hts (good_cons m5) rfl rfl rfl (hts _ m6) (hts _ hln) hdd2 hRoom, hts _ w1, hts _ w2⟩ ⟨pc_blind, ?_, hGH⟩ rfl rfl hsz rfl hwt hd hf
          rw [← hr1]
          exact va_recv hG.2.1 hP hcl he
        · omega
      · rcases hst with ⟨k1, _⟩ | ⟨_, _, _, _, k1, _⟩ | ⟨b, -, rfl, rfl, rfl⟩
        · omega
        · omega
        · have hw : mw M' = Cond.code (my M') (mb M') (ml M') (mr M') := by simp only [mw, w3]
          rw [hw] at hMet m5
          rw [w4] at hMet m5
          exact run_vx (va_runI hCF (met_plain hMet (hnone (Or.inr k0))) ⟨callB_of _ hts (good_cons m5) rfl rfl rfl (hts _ m6) (hts _ hln) hdd2 hRoom, w1, hts _ w2⟩ ⟨pc_blind, hGH⟩ rfl rfl hsz rfl hwt hd hf)
    · have hM2 := met_plain hMet (hnone (Or.inl hln))
      rcases hlnk with z | ⟨hne, hmh⟩
      · exact (hln z).elim
      · have hw : mw M' = Cond.code (my M') (mb M') (ml M') (mr M') := by simp only [mw, hmh]
        rw [hw] at hM2 m5
        rcases hkind with ⟨k0, w1⟩ | ⟨k0, w1, w2, w3⟩ | ⟨k0, w1, w2, w3, w4⟩
        · rcases hst with ⟨-, rfl, rfl, rfl⟩ | ⟨_, _, _, _, k1, _⟩ | ⟨_, k1, _⟩
          · exact run_vx (va_runSN hCF hM2 ⟨va_cnB _ hts (good_cons m5) rfl rfl rfl (hG.1 _ hne) (hts _ m6) hdd2 hRoom, hts _ w1, trivial⟩ ⟨pc_blind, hGH⟩ rfl rfl hsz rfl hwt hd hf)
          · omega
          · omega
        · rcases hst with ⟨k1, _⟩ | ⟨b, ci, fs, r, -, rfl, rfl, rfl, hb2, hcl, hr1⟩ | ⟨_, k1, _⟩
          · omega
          · obtain ⟨q0, he⟩ := lkp_at (by rw [← hh]; exact hb2)
            refine run_vx (va_runVN (C := (my M').cls) hCF hM2 ⟨va_cnB _ hts (good_cons m5) rfl rfl rfl (hG.1 _ hne) (hts _ m6) hdd2 hRoom, hts _ w1, hts _ w2⟩ ⟨pc_blind, ?_, hGH⟩ rfl rfl hsz rfl hwt hd hf)
            rw [← hr1]
            exact va_recv hG.2.1 hP hcl he
          · omega
        · rcases hst with ⟨k1, _⟩ | ⟨_, _, _, _, k1, _⟩ | ⟨b, -, rfl, rfl, rfl⟩
          · omega
          · omega
          · rw [w4] at hM2 m5
            exact run_vx (va_runIN hCF hM2 ⟨va_cnB _ hts (good_cons m5) rfl rfl rfl (hG.1 _ hne) (hts _ m6) hdd2 hRoom, w1, hts _ w2⟩ ⟨pc_blind, hGH⟩ rfl rfl hsz rfl hwt hd hf)
  refine call_W hrun hs hA1 (fun v h' H1 locs1 ws' hΨ a3 a4 a5 a6 => ?_) (fun E h' H1 locs1 ws' q ce hΨ a3 a4 a5 a6 hce hcv hcl => ?_)
  · exact hS _ (hk v h' hΨ) p e R s m args below meth c A hc _ _ _ _ _ _ hl hn a3 a4 a5 a6 (by omega) (by omega)
  · rcases (hkx E h' hΨ).2 with ⟨y1, y2⟩ | ⟨hpc, ⟨pre, x, suf, name, x1, x2, x3, x4, x5, x6, x7⟩, y2⟩
    · exact vx_out (fun x hx => by rw [htab, y1] at hx; cases hx) hlk hce hcv hcl (fun t ht _ => ⟨h', ws', y2, ww_ret a3 a4 a5 a6 ht⟩) a6.2.2 (by omega) (by omega)
    · subst x7
      refine vx_catch hown pre x suf (htab.trans x1) (fun z hz => ?_) x3 x4 (hts _ x5) (exL_use x6 (hG.1 _ x6)) hce hcv hcl (hS _ (y2 q) p e R s m args below meth c A hc _ _ _ _ _ _ hl hn a3 a4 a5 a6 (by omega) (by omega))
      rcases x2 z hz with w | ⟨w1, nm, w2, w3⟩
      · exact Or.inl w
      · exact Or.inr ⟨w1, nm, hts _ w2, hG.2.2.1 _ w3⟩
/-- THE ABSTRACT MACHINE IS SOUND -/
theorem WPc.sound {q : Cd} (hq : WPc ar ro sa q) : Sd D ar ro sa sv l q := by
  refine hq _ (fun S q hF hS => ?_)
  obtain ⟨M, d, ⟨pc, lv, st, h, kc, ks⟩, Φ⟩ := q
  obtain ⟨ig, len, hd, hF⟩ := hF
  intro p e R s m args below meth c A hc H locs cells slots ls ws hl hn hh hP hD hs h1 h2
  rcases hF with ⟨r, hr, hq⟩ | hF | hF | hF | hF | hF
  · exact sx_sound hc.1 hc.2.1 hd hr hl (fun ls' hl' => hS _ hq p e R s m args below meth c A hc _ _ _ _ _ _ hl' ((sx_len hr).trans hn) hh hP hD hs h1 h2)
  · exact ah_sound hc hd hF hS hl hn hh hP hD hs h1 h2
  · exact ad_sound hc hd hF hS hl hn hh hP hD hs h1 h2
  · exact ae_sound hc hd hF hl hn hh hP hD hs h1 h2
  · exact ac_sound hc hd hF hS hl hn hh hP hD hs h1 h2
  · exact aj_sound hc hd hF hS hl hn hh hP hD hs h1 h2
end CS
