/-! the cases of am_h, am_d, am_e are sound -/
theorem tblG_in {i : Nat} {w : Cond} (h : tables_1[i]? = some w) (hg : goodWord w = true) : w ∈ tblG := List.mem_filter.mpr ⟨List.mem_append_right _ (List.mem_of_getElem? h), hg⟩
theorem arC0 : Cond.arrayClass .int ∈ tblG := tblG_in (i := 128) (by decide +kernel) (by decide +kernel)
theorem arC2 : Cond.arrayClass .boolean ∈ tblG := tblG_in (i := 129) (by decide +kernel) (by decide +kernel)
theorem arC1 : Cond.arrayClass .long ∈ tblG := tblG_in (i := 275) (by decide +kernel) (by decide +kernel)
theorem arC3 : Cond.arrayClass .byte ∈ tblG := tblG_in (i := 502) (by decide +kernel) (by decide +kernel)
section HS
variable {D : va_G} {ar : Nat → ClassId} {ro : Nat → Option (Nat × (Nat → Int32))} {sa sv : Nat → Nat} {l : Launch}
variable {p : Program} {e : Env} {R : Room} {s : State} {m : MethodId} {args : Array Value} {below : List Frame} {meth : Method} {c : Code} {A : Nat → Prop} {M : Mth} {d : Nat}
variable {H : Heap} {locs : List Loc} {cells slots : Nat} {ls : Array Slot} {ws : va_W} {pc : Nat} {lv : Lv} {st : List Value} {h : Hp} {kc ks : Nat} {Φ : Ou → Hp → Prop} {S : Cd → Prop} {ig : Instr} {len : Nat}
theorem rel_set {q0 a : Nat} {e0 e' : va_E} (hh : ∀ b, h b = lkp ws b) (hD : va_D A ws) (he : ws[q0]? = some (a, e0)) (hD' : va_D A (ws.set q0 (a, e'))) : ∀ b, hset h a e' b = lkp (ws.set q0 (a, e')) b := by
  intro b
  rw [lkp_set hD he hD', hset, hh b]
theorem rel_push {q : Nat} {e' : va_E} (hh : ∀ b, h b = lkp ws b) (hD : va_D A ws) (hD' : va_D A (ws ++ [(q, e')])) : h q = none ∧ ∀ b, hset h q e' b = lkp (ws ++ [(q, e')]) b := by
  obtain ⟨h1, h2⟩ := lkp_push hD hD'
  exact ⟨by rw [hh]; exact h1, fun b => by rw [h2, hset, hh b]⟩
theorem arr_same {cA : ClassId} {t : Nat} (ht : t ≤ 8) (hK : va_K D clsL (tysA ar ++ [(cA, tyN t)]) s) : cA = ar t := by
  have e1 := (hK.2 t (ar t, tyN t) (by rw [List.getElem?_append_left (by simp [tysA]; omega)]; exact tysA_at ar ht)).2
  have e2 := (hK.2 9 (cA, tyN t) (by simp [tysA])).2
  have key : ∀ ty : FieldType, va_RA s (ar t) ty → va_RA s cA ty → cA = ar t := by
    intro ty a1 a2
    cases ty with
    | object C =>
      obtain ⟨_, _, _, _, _, z1⟩ := a1
      obtain ⟨_, _, _, _, _, z2⟩ := a2
      rw [z1] at z2; cases z2; rfl
    | _ =>
      have z1 : s.vm.findClass _ = some (ar t) := a1
      have z2 : s.vm.findClass _ = some cA := a2
      rw [z1] at z2; cases z2; rfl
  exact key _ e1 e2
set_option maxHeartbeats 4000000 in
theorem ah_sound (hc : Cx D ar ro sa sv p l R s m args meth c A M d) (hd : decode (mb M) pc = .ok (ig, len)) (hF : am_h ar ro S M d ig len pc lv st h kc ks Φ) (hS : ∀ q, S q → Sd D ar ro sa sv l q)
    (hl : lr ls lv) (hn : lv.length = ml M) (hh : ∀ b, h b = lkp ws b) (hP : va_P D clsL ws H) (hD : va_D A ws) (hs : va_S A s.heap H locs) (h1 : cells + kc ≤ R.cells) (h2 : slots + ks ≤ R.slots) :
    W p l e R s m args below meth c H locs cells slots (vx_MQ below (QcO D A Φ) (XcO D A Φ) args s R.cells R.slots A) (F0 m pc ls st) := by
  have hc0 := hc
  obtain ⟨hx, hb, hml, hown, hts, hG, hA, hr, hlk, htab, hnm, hRf, hRl, htr⟩ := hc0
  have hK := hG.2.1
  have go : ∀ {pc' : Nat} {lv' : Lv} {st' : List Value} {h' : Hp} {kc' ks' : Nat} {H' : Heap} {locs' : List Loc} {cells' slots' : Nat} {ls' : Array Slot} {ws' : va_W}, S (M, d, (pc', lv', st', h', kc', ks'), Φ) → lr ls' lv' → lv'.length = ml M → (∀ b, h' b = lkp ws' b) → va_P D clsL ws' H' → va_D A ws' → va_S A s.heap H' locs' → cells' + kc' ≤ R.cells → slots' + ks' ≤ R.slots → W p l e R s m args below meth c H' locs' cells' slots' (vx_MQ below (QcO D A Φ) (XcO D A Φ) args s R.cells R.slots A) (F0 m pc' ls' st') :=
    fun hq a1 a2 a3 a4 a5 a6 a7 a8 => hS _ hq p e R s m args below meth c A hc _ _ _ _ _ _ a1 a2 a3 a4 a5 a6 a7 a8
  have find : ∀ {a : Nat} {x : va_E}, h a = some x → ∃ k : Nat, ws[k]? = some (a, x) := fun q => lkp_at (by rw [← hh]; exact q)
  unfold am_h at hF
  split at hF
  · obtain ⟨ci, k, fs, v, ⟨C, T, N, g1, g2, g3, g4⟩, ha, hv, hq⟩ := hF
    obtain ⟨q0, he⟩ := find ha
    exact va_get hx hb hts g3 hown hK hP q0 he g1 k g2 (hts _ g4) (fun _ z => z) hv hd (go hq hl hn hh hP hD hs h1 h2)
  · obtain ⟨ci, k, fs, fin, ty, ⟨C, T, N, ty0, g1, g2, g3, g4, g5, g6, g7, g8, g9⟩, ha, hkl, hnr, hft, hfi, hq⟩ := hF
    obtain ⟨q0, he⟩ := find ha
    cases fin with
    | false => exact va_put hx hb hts g3 ty0 g5 g6 hown hK hP hD hs q0 he g1 k g2 (hts _ g4) (fun _ z => z) g7 g8 hnr hft hkl hd (fun H1 locs1 hP1 hD1 hS1 => go hq hl hn (rel_set hh hD he hD1) hP1 hD1 hS1 h1 h2)
    | true => exact va_putF hx hb hts g3 ty0 g5 g6 hown hK hP hD hs q0 he g1 k g2 (hts _ g4) (fun _ z => z) g7 (by rw [hnm]; exact hfi rfl) (g9 rfl) g8 hnr hft hkl hd (fun H1 locs1 hP1 hD1 hS1 => go hq hl hn (rel_set hh hD he hD1) hP1 hD1 hS1 h1 h2)
  · rcases hF with ⟨n, f, ha, hi, hq⟩ | ⟨n, f, ha, hi, hq⟩
    · obtain ⟨q0, he⟩ := find ha
      exact va_iald hx hb hK hP q0 0 he (tysA_at ar (by omega)) hi hd (go hq hl hn hh hP hD hs h1 h2)
    · obtain ⟨x1, x2, x3⟩ := hG.2.2.2.2.2.2.2.2 _ n f ha
      exact va_sld hx hb x1 x2 x3 hs hi hd (go hq hl hn hh hP hD hs h1 h2)
  · obtain ⟨n, f, ha, hi, hq⟩ := hF
    obtain ⟨q0, he⟩ := find ha
    exact va_lald hx hb hK hP q0 1 he (tysA_at ar (by omega)) hi hd (go hq hl hn hh hP hD hs h1 h2)
  · obtain ⟨t, n, f, ht, ha, hi, hq⟩ := hF
    obtain ⟨q0, he⟩ := find ha
    rcases ht with rfl | rfl
    · exact va_zald hx hb hK hP q0 2 he (tysA_at ar (by omega)) hi hd (go hq hl hn hh hP hD hs h1 h2)
    · exact va_bald hx hb hK hP q0 3 he (tysA_at ar (by omega)) hi hd (go hq hl hn hh hP hD hs h1 h2)
  · obtain ⟨t, n, f, t1, t2, ha, hi, hq⟩ := hF
    obtain ⟨q0, he⟩ := find ha
    have hto : ∃ C, tyN t = .object C := by
      rcases (show t = 4 ∨ t = 5 ∨ t = 6 ∨ t = 7 ∨ t = 8 by omega) with rfl | rfl | rfl | rfl | rfl <;> exact ⟨_, rfl⟩
    obtain ⟨C, hC⟩ := hto
    exact va_aldq hx hb hK hP q0 t he (by rw [tysA_at ar t2, hC]) hi hd (go hq hl hn hh hP hD hs h1 h2)
  · obtain ⟨n, f, ha, hi, hq⟩ := hF
    obtain ⟨q0, he⟩ := find ha
    exact va_iast hx hb hK hP hD hs q0 0 he (tysA_at ar (by omega)) hi hd (fun H1 locs1 hP1 hD1 hS1 => go hq hl hn (rel_set hh hD he hD1) hP1 hD1 hS1 h1 h2)
  · obtain ⟨n, f, ha, hi, hq⟩ := hF
    obtain ⟨q0, he⟩ := find ha
    exact va_last hx hb hK hP hD hs q0 1 he (tysA_at ar (by omega)) hi hd (fun H1 locs1 hP1 hD1 hS1 => go hq hl hn (rel_set hh hD he hD1) hP1 hD1 hS1 h1 h2)
  · obtain ⟨t, n, f, ht, ha, hi, hq⟩ := hF
    obtain ⟨q0, he⟩ := find ha
    rcases ht with rfl | rfl
    · exact va_zast hx hb hK hP hD hs q0 2 he (tysA_at ar (by omega)) hi hd (fun H1 locs1 hP1 hD1 hS1 => go hq hl hn (rel_set hh hD he hD1) hP1 hD1 hS1 h1 h2)
    · exact va_bast hx hb hK hP hD hs q0 3 he (tysA_at ar (by omega)) hi hd (fun H1 locs1 hP1 hD1 hS1 => go hq hl hn (rel_set hh hD he hD1) hP1 hD1 hS1 h1 h2)
  · obtain ⟨t, n, ci, f, vs, r, t1, t2, ha, hv, hcl, hty, hi, hq⟩ := hF
    obtain ⟨q0, he⟩ := find ha
    obtain ⟨qk, hek⟩ := find hv
    exact va_astq hx hb hK hP hD hs q0 t qk ci he (by rw [tysA_at ar t2, hty]) hek hcl hi hd (fun H1 locs1 hP1 hD1 hS1 => go hq hl hn (rel_set hh hD he hD1) hP1 hD1 hS1 h1 h2)
  · rcases hF with ⟨t, x, t2, ha, hq⟩ | ⟨n, f, ha, hq⟩
    · obtain ⟨q0, he⟩ := find ha
      exact va_alen hx hb hK hP q0 t he (tysA_at ar t2) rfl hd (go hq hl hn hh hP hD hs h1 h2)
    · obtain ⟨x1, x2, x3⟩ := hG.2.2.2.2.2.2.2.2 _ n f ha
      exact va_slen hx hb x1 x2 x3 hs hd (go hq hl hn hh hP hD hs h1 h2)
  · obtain ⟨ci, fs, ⟨C, T, N, ty, g1, g3, g5, g6, g7, g8, g9, g10⟩, hk1, hk2, hq⟩ := hF
    subst g10
    exact va_new hx hb hts g3 ty g5 hown (hts _ g6) (hts _ g7) (hts _ g8) hK hP hD hs hA g1 g9 (by omega) (by omega) hd (fun q H1 hP1 hD1 hS1 => go (hq q (rel_push hh hD hD1).1) hl hn (rel_push hh hD hD1).2 hP1 hD1 hS1 (by omega) (by omega))
  · rename_i n st0
    obtain ⟨hn0, hn1, hk1, hk2, hq⟩ := hF
    refine va_newa (atype := .int) (N' := n.toNatClampNeg) hx hb (hts _ arC0) (ty := .int) rfl hK hP hD hs hA (a0 := (n.toNatClampNeg, .inl (fun _ => 0))) (fun _ => rfl) hn0 rfl (by show _ * 4 ≤ _; omega) (by omega) (by omega) hd (fun q cA H1 hK1 hP1 hD1 hS1 => ?_)
    obtain rfl : cA = ar 0 := arr_same (t := 0) (by omega) hK1
    exact go (hq q (rel_push hh hD hD1).1) hl hn (rel_push hh hD hD1).2 hP1 hD1 hS1 (by omega) (by omega)
  · rename_i n st0
    obtain ⟨hn0, hn1, hk1, hk2, hq⟩ := hF
    refine va_newa (atype := .long) (N' := n.toNatClampNeg) hx hb (hts _ arC1) (ty := .long) rfl hK hP hD hs hA (a0 := (n.toNatClampNeg, .inr (.inl (fun _ => 0)))) (fun _ => rfl) hn0 rfl (by show _ * 8 ≤ _; omega) (by omega) (by omega) hd (fun q cA H1 hK1 hP1 hD1 hS1 => ?_)
    obtain rfl : cA = ar 1 := arr_same (t := 1) (by omega) hK1
    exact go (hq q (rel_push hh hD hD1).1) hl hn (rel_push hh hD hD1).2 hP1 hD1 hS1 (by omega) (by omega)
  · rename_i n st0
    obtain ⟨hn0, hn1, hk1, hk2, hq⟩ := hF
    refine va_newa (atype := .boolean) (N' := n.toNatClampNeg) hx hb (hts _ arC2) (ty := .boolean) rfl hK hP hD hs hA (a0 := (n.toNatClampNeg, .inl (fun _ => 0))) (fun _ => rfl) hn0 rfl (by show _ * 1 ≤ _; omega) (by omega) (by omega) hd (fun q cA H1 hK1 hP1 hD1 hS1 => ?_)
    obtain rfl : cA = ar 2 := arr_same (t := 2) (by omega) hK1
    exact go (hq q (rel_push hh hD hD1).1) hl hn (rel_push hh hD hD1).2 hP1 hD1 hS1 (by omega) (by omega)
  · rename_i n st0
    obtain ⟨hn0, hn1, hk1, hk2, hq⟩ := hF
    refine va_newa (atype := .byte) (N' := n.toNatClampNeg) hx hb (hts _ arC3) (ty := .byte) rfl hK hP hD hs hA (a0 := (n.toNatClampNeg, .inl (fun _ => 0))) (fun _ => rfl) hn0 rfl (by show _ * 1 ≤ _; omega) (by omega) (by omega) hd (fun q cA H1 hK1 hP1 hD1 hS1 => ?_)
    obtain rfl : cA = ar 3 := arr_same (t := 3) (by omega) hK1
    exact go (hq q (rel_push hh hD hD1).1) hl hn (rel_push hh hD hD1).2 hP1 hD1 hS1 (by omega) (by omega)
  · obtain ⟨t, C, t1, t2, hC, hcl, hov, hn0, hn1, hk1, hk2, hq⟩ := hF
    refine va_newq hx hb hown (hts _ hcl) (hG.1 _ hov) hK hP hD hs hA hn0 rfl (by omega) (by omega) (by omega) hd (fun q cA H1 hK1 hP1 hD1 hS1 => ?_)
    rw [← hC] at hK1
    obtain rfl : cA = ar t := arr_same t2 hK1
    exact go (hq q (rel_push hh hD hD1).1) hl hn (rel_push hh hD hD1).2 hP1 hD1 hS1 (by omega) (by omega)
  · exact hF.elim
end HS
