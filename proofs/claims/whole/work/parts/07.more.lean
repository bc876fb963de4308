/-! am_d, am_e, am_j -/
section DS
variable {D : va_G} {ar : Nat → ClassId} {ro : Nat → Option (Nat × (Nat → Int32))} {sa sv : Nat → Nat} {l : Launch}
variable {p : Program} {e : Env} {R : Room} {s : State} {m : MethodId} {args : Array Value} {below : List Frame} {meth : Method} {c : Code} {A : Nat → Prop} {M : Mth} {d : Nat}
variable {H : Heap} {locs : List Loc} {cells slots : Nat} {ls : Array Slot} {ws : va_W} {pc : Nat} {lv : Lv} {st : List Value} {h : Hp} {kc ks : Nat} {Φ : Ou → Hp → Prop} {S : Cd → Prop} {ig : Instr} {len : Nat}
theorem ldcw_str {cc : ByteArray} {Q : State → Prop} {rest : List Value} (hexec : p.tables.exec = Jvm.exec) (hb : c.code = cc) {own tx : String} {index q : Nat} (hown : s.vm.findClass own = some m.cls) (hZ : vk_R own index tx q s) (hdg : decode cc pc = .ok (.ldc_w index, 3))
    (k : W p l e R s m args below meth c H locs cells slots Q (F0 m (pc + 3) ls (.ref q :: rest))) : W p l e R s m args below meth c H locs cells slots Q (F0 m pc ls rest) := by
  intro T hT X
  obtain ⟨t, a1, b1⟩ := k T hT X
  refine ⟨t, ?_, b1⟩
  have hdg : decode c.code pc = .ok (.ldc_w index, 3) := by rw [hb]; exact hdg
  obtain ⟨k, cf, i, a', hk, hcf, hcp, -, hr, hev'⟩ := Cond.stringRef_spec hown hZ.1
  cases hZ.2.symm.trans hev'
  obtain ⟨k', hk', he⟩ := X.warmed.alike.2.2 _ _ hk
  have hr' : k'.resolved[index]? = some (some (.string q)) := by
    rcases X.warmed.entry hk hk' index with h | ⟨h, -⟩
    · rw [h]; exact hr
    · rw [hr] at h; cases h
  jvm_step X.here [hexec, hdg, ldc_w.wp_string (e := e) (s := T) (f := F0 m pc ls rest) X.here.top hk' (by rw [he]; exact hcf) hcp hr']
  exact a1
set_option maxHeartbeats 4000000 in
theorem ad_sound (hc : Cx D ar ro sa sv p l R s m args meth c A M d) (hd : decode (mb M) pc = .ok (ig, len)) (hF : am_d sa S M d ig len pc lv st h kc ks Φ) (hS : ∀ q, S q → Sd D ar ro sa sv l q)
    (hl : lr ls lv) (hn : lv.length = ml M) (hh : ∀ b, h b = lkp ws b) (hP : va_P D clsL ws H) (hD : va_D A ws) (hs : va_S A s.heap H locs) (h1 : cells + kc ≤ R.cells) (h2 : slots + ks ≤ R.slots) :
    W p l e R s m args below meth c H locs cells slots (vx_MQ below (QcO D A Φ) (XcO D A Φ) args s R.cells R.slots A) (F0 m pc ls st) := by
  have hc0 := hc
  obtain ⟨hx, hb, hml, hown, hts, hG, hA, hr, hlk, htab, hnm, hRf, hRl, htr⟩ := hc0
  have go : ∀ {pc' : Nat} {st' : List Value}, S (M, d, (pc', lv, st', h, kc, ks), Φ) → W p l e R s m args below meth c H locs cells slots (vx_MQ below (QcO D A Φ) (XcO D A Φ) args s R.cells R.slots A) (F0 m pc' ls st') :=
    fun hq => hS _ hq p e R s m args below meth c A hc _ _ _ _ _ _ hl hn hh hP hD hs h1 h2
  unfold am_d at hF
  split at hF
  · exact lv_idiv hx hb hd hF.1 (go hF.2)
  · exact lv_irem hx hb hd hF.1 (go hF.2)
  · exact lv_ldiv hx hb hd hF.1 (go hF.2)
  · rcases hF with ⟨v, g1, hq⟩ | ⟨j, tx, g1, hq⟩
    · exact lv_ldc hx hb hown (hts _ g1) hd (go hq)
    · exact va_ldcS hx hb hown (hG.2.2.2.2.2.2.1 j _ _ _ g1) hd (go hq)
  · rcases hF with ⟨v, g1, hq⟩ | ⟨j, tx, g1, hq⟩
    · exact lv_ldcw hx hb hown (hts _ g1) hd (go hq)
    · exact ldcw_str hx hb hown (hG.2.2.2.2.2.2.1 j _ _ _ g1) hd (go hq)
  · obtain ⟨v, g1, hq⟩ := hF
    exact lv_ldc2 hx hb hown (hts _ g1) hd (go hq)
  · obtain ⟨g1, g2, hq⟩ := hF
    exact lv_lookup hx hb hd g1 rfl (tgt_ok g2) (go hq)
  · obtain ⟨g1, g2⟩ := hF
    rename_i df lo hi offs x st0
    by_cases c1 : x.toInt < lo
    · exact lv_tableOut hx hb hd (Or.inl c1) (tgt_ok (g1 (Or.inl c1)).1) (go (g1 (Or.inl c1)).2)
    · by_cases c2 : hi < x.toInt
      · exact lv_tableOut hx hb hd (Or.inr c2) (tgt_ok (g1 (Or.inr c2)).1) (go (g1 (Or.inr c2)).2)
      · obtain ⟨off, f1, f2, hq⟩ := g2 c1 c2
        exact lv_tableIn hx hb hd c1 c2 f1 (tgt_ok f2) (go hq)
  · exact hF.elim
theorem ww_ret {t : State} (hh : ∀ b, h b = lkp ws b) (hP : va_P D clsL ws H) (hD : va_D A ws) (hs : va_S A s.heap H locs) (ht : t.heap = H) : Ww D A h ws s t := ⟨hh, by rw [ht]; exact hP, hD, hs.F ht⟩
theorem ww_thr {t : State} (hh : ∀ b, h b = lkp ws b) (hP : va_P D clsL ws H) (hD : va_D A ws) (hs : va_S A s.heap H locs) (hz : H.size ≤ t.heap.size) (hk : ∀ q : Nat, q < H.size → t.heap[q]? = H[q]?) : Ww D A h ws s t := by
  refine ⟨hh, fun k q hq => (hP k q hq).kept (hk q.1 ((hP k q hq).lt)), hD, Nat.le_trans hs.1 hz, fun q a1 a2 => ?_⟩
  rw [hk q (Nat.lt_of_lt_of_le a1 hs.1)]
  exact hs.2.1 q a1 a2
theorem exL_use {w : Cond} (hw : w ∈ exL) (h : va_Nw w s) : w.before args s = true := by
  rcases exL_kind hw with ⟨a, b, c, d, rfl⟩ | ⟨a, b, rfl⟩ | ⟨C, rfl⟩ | ⟨x, rfl⟩ | ⟨x, b, n, r, rfl⟩
  · exact h.use rfl
  · exact h.use rfl
  · exact va_AO.use h
  · exact h.use rfl
  · exact codeSync_warm (State.WarmedH.refl s) h
set_option maxHeartbeats 4000000 in
theorem ae_sound (hc : Cx D ar ro sa sv p l R s m args meth c A M d) (hd : decode (mb M) pc = .ok (ig, len)) (hF : am_e M ig len pc st h kc ks Φ)
    (hl : lr ls lv) (hn : lv.length = ml M) (hh : ∀ b, h b = lkp ws b) (hP : va_P D clsL ws H) (hD : va_D A ws) (hs : va_S A s.heap H locs) (h1 : cells + kc ≤ R.cells) (h2 : slots + ks ≤ R.slots) :
    W p l e R s m args below meth c H locs cells slots (vx_MQ below (QcO D A Φ) (XcO D A Φ) args s R.cells R.slots A) (F0 m pc ls st) := by
  obtain ⟨hx, hb, hml, hown, hts, hG, hA, hr, hlk, htab, hnm, hRf, hRl, htr⟩ := hc
  unfold am_e at hF
  split at hF
  · obtain ⟨g1, hq⟩ := hF
    refine W.widen (k := R.cells) (n := R.slots) (by omega) (by omega) (vx_ret ?_)
    rcases g1 with g1 | ⟨g1, g2⟩
    · exact W.iret hx hb (hr.trans g1) (fun t ht _ => ⟨_, h, ws, rfl, hq, ww_ret hh hP hD hs ht⟩) hs.2.2 hd
    · exact W.zret hx hb (hr.trans g1) g2 (fun t ht _ => ⟨_, h, ws, rfl, hq, ww_ret hh hP hD hs ht⟩) hs.2.2 hd
  · obtain ⟨g1, hq⟩ := hF
    refine W.widen (k := R.cells) (n := R.slots) (by omega) (by omega) (vx_ret ?_)
    exact W.lret hx hb (hr.trans g1) (fun t ht _ => ⟨_, h, ws, rfl, hq, ww_ret hh hP hD hs ht⟩) hs.2.2 hd
  · obtain ⟨g1, hq⟩ := hF
    refine W.widen (k := R.cells) (n := R.slots) (by omega) (by omega) (vx_ret ?_)
    exact W.vret hx hb (hr.trans g1) (fun t ht _ => ⟨_, h, ws, rfl, hq, ww_ret hh hP hD hs ht⟩) hs.2.2 hd
  · obtain ⟨ic, E, names, g0, g1, g2, g3, g4, g5, e3, e4, e7, g6, g7, g8, g9, hq⟩ := hF
    refine vx_throw0 (A := A) (names := names) hx hb htr hown g1 g2 (hts _ g3) (hts _ g4) (fun w hw => ?_) (fun w hw => ?_) hG.2.2.2.1 hG.2.2.2.2.1 hs (by rw [hl.1, hn, hml]) hd e3 e4 e7 (fun x hx => ?_) (by omega) (by omega) (by omega) (by omega) hlk (fun t _ hz hk => ⟨h, ws, hq, ww_thr hh hP hD hs hz hk⟩) hs.2.2 (by omega) (by omega)
    · rcases (g5 w hw).1 with z | z
      · exact hts _ z
      · exact exL_use z (hG.1 w z)
    · rcases List.mem_cons.mp hw with rfl | hw
      · rfl
      · rcases List.mem_cons.mp hw with rfl | hw
        · rfl
        · exact (g5 w hw).2
    · rw [htab, g0] at hx; cases hx
  · exact hF.elim
set_option maxHeartbeats 4000000 in
theorem aj_sound (hc : Cx D ar ro sa sv p l R s m args meth c A M d) (hd : decode (mb M) pc = .ok (ig, len)) (hF : am_j ar sa S M d ig len pc lv st h kc ks Φ) (hS : ∀ q, S q → Sd D ar ro sa sv l q)
    (hl : lr ls lv) (hn : lv.length = ml M) (hh : ∀ b, h b = lkp ws b) (hP : va_P D clsL ws H) (hD : va_D A ws) (hs : va_S A s.heap H locs) (h1 : cells + kc ≤ R.cells) (h2 : slots + ks ≤ R.slots) :
    W p l e R s m args below meth c H locs cells slots (vx_MQ below (QcO D A Φ) (XcO D A Φ) args s R.cells R.slots A) (F0 m pc ls st) := by
  have hc0 := hc
  obtain ⟨hx, hb, hml, hown, hts, hG, hA, hr, hlk, htab, hnm, hRf, hRl, htr⟩ := hc0
  have hK := hG.2.1
  have go : ∀ {pc' : Nat} {st' : List Value} {h' : Hp} {H' : Heap} {locs' : List Loc} {ws' : va_W}, S (M, d, (pc', lv, st', h', kc, ks), Φ) → (∀ b, h' b = lkp ws' b) → va_P D clsL ws' H' → va_D A ws' → va_S A s.heap H' locs' → W p l e R s m args below meth c H' locs' cells slots (vx_MQ below (QcO D A Φ) (XcO D A Φ) args s R.cells R.slots A) (F0 m pc' ls st') :=
    fun hq a3 a4 a5 a6 => hS _ hq p e R s m args below meth c A hc _ _ _ _ _ _ hl hn a3 a4 a5 a6 h1 h2
  have find : ∀ {a : Nat} {x : va_E}, h a = some x → ∃ k : Nat, ws[k]? = some (a, x) := fun q => lkp_at (by rw [← hh]; exact q)
  unfold am_j at hF
  split at hF
  · rename_i i0 a0 st0
    obtain ⟨g1, g2, g3, g4, hq⟩ := hF
    refine W.objInit hx hb hown (hts _ g1) (hts _ g2) (hts _ g3) rfl (by rw [hml]; exact hl.1.trans hn) rfl hd (by omega) ?_ (W.eq rfl (go hq hh hP hD hs))
    have := lv_room (m := m) (pc := pc) (ls := ls) (rest := .ref a0 :: st0) g4
    omega
  · obtain ⟨g1, g2, g3, g4, g5, z1, z2, z3, t, n0, n1, f, g, ht, ha, hb2, i1, i2, hft, hq⟩ := hF
    obtain ⟨q0, he⟩ := find ha
    obtain ⟨q1, he1⟩ := find hb2
    have ht8 : t ≤ 8 := by omega
    refine va_copyi hx hb (by rw [hml]; exact (hl.1.trans hn).symm) hown (hts _ g1) (hts _ g2) (hts _ g3) (hts _ g4) hK hP hD hs q0 q1 t t he he1 (tysA_at ar ht8) (tysA_at ar ht8) (by rcases ht with rfl | rfl <;> rfl) z1 z2 z3 i1 i2 hft (by omega) ?_ hd (fun H1 locs1 hP1 hD1 hS1 => go hq (rel_set hh hD he1 hD1) hP1 hD1 hS1)
    have : nativeFrameWords "java/lang/System" "arraycopy" 5 ≤ 100 := by decide +kernel
    omega
  · rcases hF with ⟨g1, g2, g3, g4, g5, hq⟩ | ⟨g1, g2, g3, g4, g5, hq⟩
    · exact va_mmax hx hb (by rw [hml]; exact (hl.1.trans hn).symm) hown (hts _ g1) (hts _ g2) (hts _ g3) (hts _ g4) (by omega) (by omega) (by omega) (by omega) hd (go hq hh hP hD hs)
    · exact va_mmin hx hb (by rw [hml]; exact (hl.1.trans hn).symm) hown (hts _ g1) (hts _ g2) (hts _ g3) (hts _ g4) (by omega) (by omega) (by omega) (by omega) hd (go hq hh hP hD hs)
  · sorry
  · sorry
  · obtain ⟨g1, g2, g3, g4, g5, hq⟩ := hF
    exact va_mabs_long hx hb (by rw [hml]; exact (hl.1.trans hn).symm) hown (hts _ g1) (hts _ g2) (hts _ g3) (hts _ g4) (by omega) (by omega) (by omega) (by omega) hd (go hq hh hP hD hs)
  · exact hF.elim
end DS
