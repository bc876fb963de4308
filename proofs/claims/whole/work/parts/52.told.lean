/-! what was told grows: the parts that stay -/
section
variable {r : Nat → Ro} {T T' : Ro} {c c' : Nat → Nat} {I : Nat → Nat → Int32} {L : Nat → Nat → Int64}
theorem bl_m {v : Int32} {a b : Nat} (h : a ≤ b) (q : bl v a) : bl v b := by obtain ⟨j, e, hj⟩ := q; exact ⟨j, e, by omega⟩
theorem bl_tn {v : Int32} {a : Nat} (h : a < 2 ^ 31) (q : bl v a) : tn v < a ∧ v = nI (tn v) := by
  obtain ⟨j, rfl, hj⟩ := q
  have e : tn (nI j) = j := nI_clamp (by omega)
  rw [e]; exact ⟨hj, rfl⟩
theorem bd_tn {v : Int32} {a b : Nat} (h : b < 2 ^ 31) (q : bd v a b) : a ≤ tn v ∧ tn v ≤ b ∧ v = nI (tn v) := by
  obtain ⟨j, rfl, h1, h2⟩ := q
  have e : tn (nI j) = j := nI_clamp (by omega)
  rw [e]; exact ⟨h1, h2, rfl⟩
theorem WfV_T {v : Nat} (h : ∀ i, 90 ≤ i → i < 450 → T' i = T i) (hv : v < 60) (hc : c 0 ≤ c' 0) (q : WfV T c v) : WfV T' c' v := by
  unfold WfV at *
  rw [h (90 + 6 * v) (by omega) (by omega), h (91 + 6 * v) (by omega) (by omega), h (92 + 6 * v) (by omega) (by omega), h (93 + 6 * v) (by omega) (by omega), h (94 + 6 * v) (by omega) (by omega), h (95 + 6 * v) (by omega) (by omega)]
  exact ⟨bl_m hc q.1, bl_m hc q.2.1, q.2.2⟩
theorem WfM_T {m : Nat} (h : ∀ i, 450 ≤ i → i < 650 → T' i = T i) (hm : m < 40) (hc : c 0 ≤ c' 0) (q : WfM T c m) : WfM T' c' m := by
  unfold WfM at *
  rw [h (450 + 5 * m) (by omega) (by omega), h (451 + 5 * m) (by omega) (by omega), h (452 + 5 * m) (by omega) (by omega), h (453 + 5 * m) (by omega) (by omega), h (454 + 5 * m) (by omega) (by omega)]
  exact ⟨bl_m hc q.1, q.2⟩
theorem WfU_T {t : Nat} (h : ∀ i, 650 ≤ i → i < 722 → T' i = T i) (ht : t < 6) (q : WfU T t) : WfU T' t := by
  intro n hn; rw [h _ (by omega) (by omega)]; exact q n hn
theorem WfK_T {k : Nat} (h : ∀ i, 722 ≤ i → i < 762 → T' i = T i) (hk : k < 8) (hc : c 3 ≤ c' 3) (q : WfK T c k) : WfK T' c' k := by
  unfold WfK at *
  rw [h (722 + 5 * k) (by omega) (by omega), h (723 + 5 * k) (by omega) (by omega), h (724 + 5 * k) (by omega) (by omega), h (725 + 5 * k) (by omega) (by omega), h (726 + 5 * k) (by omega) (by omega)]
  exact ⟨bl_m hc q.1, q.2⟩
theorem WfZ_T {z : Nat} (h : ∀ i, 762 ≤ i → i < 2838 → T' i = T i) (hz : z < 12) (hc : c 0 ≤ c' 0) (q : WfZ T c z) : WfZ T' c' z := by
  obtain ⟨q1, q2, q3, q4⟩ := q
  unfold WfZ
  rw [h (762 + 173 * z) (by omega) (by omega), h (763 + 173 * z) (by omega) (by omega), h (764 + 173 * z) (by omega) (by omega)]
  refine ⟨bl_m hc q1, q2, q3, fun j hj hj9 => ?_⟩
  rw [h (765 + 173 * z + j) (by omega) (by omega)]
  refine ⟨(q4 j hj hj9).1, fun i hi hl => ?_⟩
  rw [h (775 + 173 * z + 16 * j + 4 * i) (by omega) (by omega), h (776 + 173 * z + 16 * j + 4 * i) (by omega) (by omega), h (777 + 173 * z + 16 * j + 4 * i) (by omega) (by omega)]
  exact (q4 j hj hj9).2 i hi hl
theorem WfR_T {k : Nat} (h : ∀ i, 2838 ≤ i → i < 2988 → T' i = T i) (hk : k < 30) (h0 : c 0 ≤ c' 0) (h1 : c 1 ≤ c' 1) (h4 : c 4 ≤ c' 4) (h5 : c 5 ≤ c' 5) (q : WfR T c k) : WfR T' c' k := by
  unfold WfR at *
  rw [h (2838 + 5 * k) (by omega) (by omega), h (2839 + 5 * k) (by omega) (by omega), h (2840 + 5 * k) (by omega) (by omega), h (2841 + 5 * k) (by omega) (by omega), h (2842 + 5 * k) (by omega) (by omega)]
  exact ⟨bl_m h4 q.1, bl_m h5 q.2.1, bl_m (by omega) q.2.2.1, q.2.2.2.1, bl_m h0 q.2.2.2.2⟩
theorem LandV_T {v : Nat} (h : ∀ i, 90 ≤ i → i < 450 → T' i = T i) (hx : ∀ p, p < c 0 → T' (10 + 2 * p) = T (10 + 2 * p) ∧ T' (11 + 2 * p) = T (11 + 2 * p)) (hv : v < 60) (h0 : c 0 ≤ 40) (hw : WfV T c v) (q : LandV r T v) : LandV r T' v := by
  have a1 := bl_tn (by omega) hw.1
  have a2 := bl_tn (by omega) hw.2.1
  unfold LandV at *
  rw [h (90 + 6 * v) (by omega) (by omega), h (91 + 6 * v) (by omega) (by omega), h (92 + 6 * v) (by omega) (by omega), h (93 + 6 * v) (by omega) (by omega), h (94 + 6 * v) (by omega) (by omega), h (95 + 6 * v) (by omega) (by omega), (hx _ a1.1).1, (hx _ a1.1).2, (hx _ a2.1).1, (hx _ a2.1).2]
  exact q
theorem LandM_T {m : Nat} (h : ∀ i, 450 ≤ i → i < 650 → T' i = T i) (hm : m < 40) (q : LandM r T m) : LandM r T' m := by
  unfold LandM at *
  rw [h (450 + 5 * m) (by omega) (by omega), h (451 + 5 * m) (by omega) (by omega), h (452 + 5 * m) (by omega) (by omega), h (453 + 5 * m) (by omega) (by omega), h (454 + 5 * m) (by omega) (by omega)]
  exact q
theorem FolkK_T {k : Nat} (h : ∀ i, 722 ≤ i → i < 762 → T' i = T i) (hk : k < 8) (q : FolkK r T k) : FolkK r T' k := by
  unfold FolkK at *
  rw [h (722 + 5 * k) (by omega) (by omega), h (723 + 5 * k) (by omega) (by omega), h (724 + 5 * k) (by omega) (by omega), h (725 + 5 * k) (by omega) (by omega), h (726 + 5 * k) (by omega) (by omega)]
  exact q
theorem BookZ_T {z : Nat} (h : ∀ i, 762 ≤ i → i < 2838 → T' i = T i) (hz : z < 12) (q : BookZ r T z) : BookZ r T' z := by
  obtain ⟨q1, q2, q3, q4⟩ := q
  unfold BookZ
  rw [h (762 + 173 * z) (by omega) (by omega), h (763 + 173 * z) (by omega) (by omega), h (764 + 173 * z) (by omega) (by omega)]
  refine ⟨q1, q2, q3, fun j hj9 hj i hi => ?_⟩
  rw [h (765 + 173 * z + j) (by omega) (by omega), h (775 + 173 * z + 16 * j + 4 * i) (by omega) (by omega), h (776 + 173 * z + 16 * j + 4 * i) (by omega) (by omega), h (777 + 173 * z + 16 * j + 4 * i) (by omega) (by omega)]
  exact q4 j hj9 hj i hi
theorem BookK_T {k : Nat} (h : ∀ i, 2838 ≤ i → i < 2988 → T' i = T i) (hk : k < 30) (q : BookK r T k) : BookK r T' k := by
  unfold BookK at *
  rw [h (2838 + 5 * k) (by omega) (by omega), h (2839 + 5 * k) (by omega) (by omega), h (2840 + 5 * k) (by omega) (by omega), h (2841 + 5 * k) (by omega) (by omega), h (2842 + 5 * k) (by omega) (by omega)]
  exact q
/-- the map: ways, marks and the ends' spots as before -/
theorem ast_T {a : Nat} (h : ∀ i, 90 ≤ i → i < 650 → T' i = T i) (ha : a < 128) : ast T' a = ast T a := by
  unfold ast; rw [h _ (by omega) (by omega), h _ (by omega) (by omega)]
theorem aen_T {a : Nat} (h : ∀ i, 90 ≤ i → i < 650 → T' i = T i) (ha : a < 128) : aen T' a = aen T a := by
  unfold aen; rw [h _ (by omega) (by omega), h _ (by omega) (by omega)]
theorem spl_T {s : Nat} (h : ∀ i, 90 ≤ i → i < 650 → T' i = T i) (hs : s < 240) : spl T' s = spl T s := by
  unfold spl; rw [ast_T h (by omega), aen_T h (by omega)]
theorem ast_b {a : Nat} (hW : ∀ v, v < c 1 → WfV T c v) (ha : a / 2 < c 1) : bl (ast T a) (c 0) ∧ bl (aen T a) (c 0) := by
  have := hW _ ha
  unfold ast aen
  split
  · exact ⟨this.1, this.2.1⟩
  · exact ⟨this.2.1, this.1⟩
def Xs (T T' : Ro) (c : Nat → Nat) : Prop := ∀ p, p < c 0 → T' (10 + 2 * p) = T (10 + 2 * p) ∧ T' (11 + 2 * p) = T (11 + 2 * p)
theorem aX_T {a : Nat} (h : ∀ i, 90 ≤ i → i < 650 → T' i = T i) (hx : Xs T T' c) (h0 : c 0 ≤ 40) (h1 : c 1 ≤ 60) (hW : ∀ v, v < c 1 → WfV T c v) (ha : a / 2 < c 1) : aX T' a = aX T a ∧ aY T' a = aY T a := by
  have b := ast_b hW ha
  have b1 := bl_tn (by omega) b.1
  have b2 := bl_tn (by omega) b.2
  unfold aX aY
  rw [ast_T h (by omega), aen_T h (by omega), (hx _ b1.1).1, (hx _ b1.1).2, (hx _ b2.1).1, (hx _ b2.1).2]
  exact ⟨rfl, rfl⟩
theorem isOt_T {S : Nat → Prop} {s a : Nat} (h : ∀ i, 90 ≤ i → i < 650 → T' i = T i) (e1 : c' 1 = c 1) (h1 : c 1 ≤ 60) (hs : s < 4 * c 1) : isOt T' c' S s a ↔ isOt T c S s a := by
  unfold isOt
  rw [e1]
  constructor
  · rintro ⟨q1, q2, q3, q4⟩; rw [ast_T h (by omega), spl_T h (by omega)] at q3; exact ⟨q1, q2, q3, q4⟩
  · rintro ⟨q1, q2, q3, q4⟩; exact ⟨q1, q2, by rw [ast_T h (by omega), spl_T h (by omega)]; exact q3, q4⟩
theorem crs_T {s a : Nat} (h : ∀ i, 90 ≤ i → i < 650 → T' i = T i) (hx : Xs T T' c) (h0 : c 0 ≤ 40) (h1 : c 1 ≤ 60) (hW : ∀ v, v < c 1 → WfV T c v) (hs : s < 4 * c 1) (ha : a < 2 * c 1) : crs T' s a = crs T s a ∧ dts T' s a = dts T s a ∧ szs T' a = szs T a ∧ sid T' s a = sid T s a := by
  have e1 := aX_T h hx h0 h1 hW (show a / 2 < c 1 by omega)
  have e2 := aX_T h hx h0 h1 hW (show s / 2 / 2 < c 1 by omega)
  unfold dts dt szs sid crs
  rw [e1.1, e1.2, e2.1, e2.2]
  exact ⟨rfl, rfl, rfl, rfl⟩
theorem isOn_T {S : Nat → Prop} {s a : Nat} (h : ∀ i, 90 ≤ i → i < 650 → T' i = T i) (hx : Xs T T' c) (h0 : c 0 ≤ 40) (e1 : c' 1 = c 1) (h1 : c 1 ≤ 60) (hW : ∀ v, v < c 1 → WfV T c v) (hs : s < 4 * c 1) : isOn T' c' S s a ↔ isOn T c S s a := by
  unfold isOn
  rw [isOt_T h e1 h1 hs]
  constructor
  · rintro ⟨q1, q2⟩
    refine ⟨q1, fun o ho => ?_⟩
    have z := q2 o ((isOt_T h e1 h1 hs).mpr ho)
    have f1 := crs_T h hx h0 h1 hW hs q1.1
    have f2 := crs_T h hx h0 h1 hW hs ho.1
    rw [f1.2.1, f1.2.2.1, f2.2.1, f2.2.2.1] at z; exact z
  · rintro ⟨q1, q2⟩
    refine ⟨q1, fun o ho => ?_⟩
    have ho := (isOt_T h e1 h1 hs).mp ho
    have f1 := crs_T h hx h0 h1 hW hs q1.1
    have f2 := crs_T h hx h0 h1 hW hs ho.1
    rw [f1.2.1, f1.2.2.1, f2.2.1, f2.2.2.1]; exact q2 o ho
theorem MapR_T (h : ∀ i, 90 ≤ i → i < 650 → T' i = T i) (hx : Xs T T' c) (h0 : c 0 ≤ 40) (e1 : c' 1 = c 1) (h1 : c 1 ≤ 60) (e2 : c' 2 = c 2) (h2 : c 2 ≤ 40) (hW : ∀ v, v < c 1 → WfV T c v) (q : MapR I L T c) : MapR I L T' c' := by
  obtain ⟨q0, S, q1, q2, q3⟩ := q
  refine ⟨q0, S, fun v hv => by rw [e1]; exact q1 v hv, fun hs => ?_, fun y hy ha hb => ?_⟩
  · obtain ⟨⟨w1, w2, w3, w4⟩, k⟩ := q2 hs
    refine ⟨⟨w1, fun hf hh j hj => ?_, fun p hp hf hh j hj => ?_, fun p hp z hz => ?_⟩, fun s hs2 => ?_⟩
    · rw [w2 hf hh j hj, h _ (by omega) (by omega)]
    · rw [w3 p hp hf hh j hj, ast_T h (by omega)]
    · rw [w4 p hp z hz]
      constructor
      · rintro ⟨a, z1, z2, z3⟩; have := q1 _ z1; exact ⟨a, z1, by rw [ast_T h (by omega)]; exact z2, by rw [aen_T h (by omega)]; exact z3⟩
      · rintro ⟨a, z1, z2, z3⟩; have := q1 _ z1; rw [ast_T h (by omega)] at z2; rw [aen_T h (by omega)] at z3; exact ⟨a, z1, z2, z3⟩
    · rcases k s hs2 with k | ⟨k1, k2, k3⟩
      · exact Or.inl k
      · refine Or.inr ⟨k1, by rw [e1]; exact k2, fun hf hh j hj => ⟨fun sd hsd => ?_, ?_⟩⟩
        · rw [(k3 hf hh j hj).1 sd hsd, isOt_T h e1 h1 k2]
          constructor
          · rintro ⟨a1, a2⟩; exact ⟨a1, by rw [(crs_T h hx h0 h1 hW k2 a1.1).2.2.2]; exact a2⟩
          · rintro ⟨a1, a2⟩; rw [(crs_T h hx h0 h1 hW k2 a1.1).2.2.2] at a2; exact ⟨a1, a2⟩
        · rw [(k3 hf hh j hj).2, isOn_T h hx h0 e1 h1 hW k2]
  · obtain ⟨z1, z2, z3⟩ := q3 y hy ha hb
    refine ⟨z1, fun v => ?_, fun k hk p hp => ?_⟩
    · rw [z2 v]; unfold thr0; rw [e1]
      constructor
      · rintro ⟨b1, b2⟩; rw [h _ (by omega) (by omega), h _ (by omega) (by omega)]; exact ⟨b1, b2⟩
      · rintro ⟨b1, b2⟩; rw [h _ (by omega) (by omega), h _ (by omega) (by omega)] at b2; exact ⟨b1, b2⟩
    · have mk : ∀ m, mkAt T' c' y k p m ↔ mkAt T c y k p m := by
        intro m; unfold mkAt; rw [e2]
        constructor
        · rintro ⟨b1, b2⟩; rw [h _ (by omega) (by omega), h _ (by omega) (by omega), h _ (by omega) (by omega), h _ (by omega) (by omega)] at b2; exact ⟨b1, b2⟩
        · rintro ⟨b1, b2⟩; rw [h _ (by omega) (by omega), h _ (by omega) (by omega), h _ (by omega) (by omega), h _ (by omega) (by omega)]; exact ⟨b1, b2⟩
      refine ⟨?_, ?_⟩
      · rw [(z3 k hk p hp).1]; exact exists_congr fun m => (mk m).symm
      · rw [(z3 k hk p hp).2]
        refine exists_congr fun m => ?_
        constructor
        · rintro ⟨b1, b2⟩; exact ⟨(mk m).mpr b1, by rw [h _ (by omega) (by have := b1.1; omega)]; exact b2⟩
        · rintro ⟨b1, b2⟩; have b3 := (mk m).mp b1; rw [h _ (by omega) (by have := b3.1; omega)] at b2; exact ⟨b3, b2⟩
end
