/-! what the invariant doesn't look at may change -/
section
variable {r r' : Nat → Ro} {T : Ro} {c : Nat → Nat} {w : Wo} {I I' : Nat → Nat → Int32} {L L' : Nat → Nat → Int64} {Q : Nat → Nat → Option Nat}
theorem LandP_c (h : ∀ j, j < 15 → r' j = r j) (q : LandP r T c) : LandP r' T c := by
  unfold LandP at *; rw [h 0 (by decide), h 1 (by decide), h 2 (by decide)]; exact q
theorem LandV_c {v : Nat} (h : ∀ j, j < 15 → r' j = r j) (q : LandV r T v) : LandV r' T v := by
  unfold LandV at *; rw [h 3 (by decide), h 4 (by decide), h 5 (by decide), h 6 (by decide), h 7 (by decide), h 8 (by decide), h 9 (by decide)]; exact q
theorem LandM_c {m : Nat} (h : ∀ j, j < 15 → r' j = r j) (q : LandM r T m) : LandM r' T m := by
  unfold LandM at *; rw [h 10 (by decide), h 11 (by decide), h 12 (by decide), h 13 (by decide), h 14 (by decide)]; exact q
theorem LandR_c (h : ∀ j, j < 15 → r' j = r j) (q : LandR r T c) : LandR r' T c := by
  obtain ⟨q1, ⟨q2, q3⟩, ⟨q4, q5⟩, q6⟩ := q
  exact ⟨LandP_c h q1, ⟨by rw [h 0 (by decide)]; exact q2, fun v hv => LandV_c h (q3 v hv)⟩, ⟨by rw [h 0 (by decide)]; exact q4, fun m hm => LandM_c h (q5 m hm)⟩, fun m hm => by rw [h 12 (by decide)]; exact q6 m hm⟩
theorem FolkR_c (h : ∀ j, j < 7 → r' j = r j) (q : FolkR r T c) : FolkR r' T c := by
  unfold FolkR FolkK at *; rw [h 0 (by decide), h 1 (by decide), h 2 (by decide), h 3 (by decide), h 4 (by decide), h 5 (by decide), h 6 (by decide)]; exact q
theorem BookR_c (h : ∀ j, j < 10 → r' j = r j) (q : BookR r T c) : BookR r' T c := by
  unfold BookR BookZ BookK at *; rw [h 0 (by decide), h 1 (by decide), h 2 (by decide), h 3 (by decide), h 4 (by decide), h 5 (by decide), h 6 (by decide), h 7 (by decide), h 8 (by decide), h 9 (by decide)]; exact q
theorem MapR_c (h1 : I' 32 = I 32) (h2 : I' 38 = I 38) (h3 : ∀ k, 32 ≤ k → k < 40 → L' k = L k) (q : MapR I L T c) : MapR I' L' T c := by
  unfold MapR WaysOk MarksOk at *; rw [h1, h2, h3 32 (by decide) (by decide), h3 33 (by decide) (by decide), h3 34 (by decide) (by decide), h3 35 (by decide) (by decide), h3 36 (by decide) (by decide), h3 37 (by decide) (by decide), h3 39 (by decide) (by decide)]; exact q
theorem RefR_c (h1 : I' 163 4 = I 163 4) (h2 : I' 142 = I 142) (h3 : L' 140 = L 140) (h4 : L' 141 = L 141) (q : RefR I L T c) : RefR I' L' T c := by
  unfold RefR StdOk at *; rw [h1, h2, h3, h4]; exact q
theorem StepsR_c (h1 : I' 48 = I 48) (h2 : I' 49 = I 49) (h3 : I' 51 = I 51) (h4 : L' 50 = L 50) (h5 : L' 52 = L 52) (q : StepsR I L Q) : StepsR I' L' Q := by
  obtain ⟨a, t, n, q1, q2, q3⟩ := q
  have ea : I' a = I a := by rcases q1 with ⟨_, _, rfl⟩ | ⟨_, _, rfl⟩ <;> assumption
  have et : L' t = L t ∧ L' (102 - t) = L (102 - t) := by rcases q2 with ⟨_, _, rfl⟩ | ⟨_, _, rfl⟩ <;> exact ⟨by assumption, by assumption⟩
  refine ⟨a, t, n, q1, q2, ?_⟩
  rw [h1, ea, et.1, et.2]; exact q3
theorem ReadR_c (h1 : ∀ f, 1 ≤ f → f ≤ 3 → I' 121 f = I 121 f) (h2 : I' 122 = I 122) (h3 : I' 144 = I 144) (h4 : I' 163 10 = I 163 10) (h5 : I' 163 18 = I 163 18) (h6 : I' 163 19 = I 163 19) (q : ReadR I) : ReadR I' := by
  unfold ReadR at *; rw [h1 1 (by decide) (by decide), h1 2 (by decide) (by decide), h1 3 (by decide) (by decide), h2, h3, h4, h5, h6]; exact q
theorem TrayR_c {t : Nat} (h1 : I' (128 + 2 * t) = I (128 + 2 * t)) (h2 : I' 160 = I 160) (h3 : I' 161 = I 161) (h4 : L' (129 + 2 * t) = L (129 + 2 * t)) (h5 : L' 162 = L 162) (q : TrayR I L t) : TrayR I' L' t := by
  unfold TrayR at *; rw [h1, h2, h3, h4, h5]; exact q
theorem ImgR_c {i : Nat} (h1 : I' 138 = I 138) (h2 : I' 139 = I 139) (h3 : ∀ j, j < 32 → I' (165 + 32 * i + j) = I (165 + 32 * i + j)) (q : ImgR w I Q i) : ImgR w I' Q i := by
  unfold ImgR at *
  rw [h1, h2]
  rcases q with q | ⟨q1, q2, q3, q4, q5, c, q6, q7, q8, q9⟩
  · exact Or.inl q
  · refine Or.inr ⟨q1, q2, q3, q4, q5, c, q6, LandR_c (fun j hj => ?_) q7, FolkR_c (fun j hj => ?_) q8, BookR_c (fun j hj => ?_) q9⟩
    · exact h3 j (by omega)
    · show I' (180 + 32 * i + j) = I (180 + 32 * i + j)
      rw [show 180 + 32 * i + j = 165 + 32 * i + (15 + j) by omega]; exact h3 (15 + j) (by omega)
    · show I' (187 + 32 * i + j) = I (187 + 32 * i + j)
      rw [show 187 + 32 * i + j = 165 + 32 * i + (22 + j) by omega]; exact h3 (22 + j) (by omega)
/-- the rows and places that the invariant looks at -/
def relI (k i : Nat) : Prop := k < 40 ∨ k = 48 ∨ k = 49 ∨ k = 51 ∨ (k = 121 ∧ 1 ≤ i ∧ i ≤ 3) ∨ k = 122 ∨ (128 ≤ k ∧ k < 136) ∨ k = 137 ∨ k = 138 ∨ k = 139 ∨ k = 142 ∨ k = 144 ∨ k = 160 ∨ k = 161 ∨ (k = 163 ∧ (i = 4 ∨ i = 10 ∨ i = 18 ∨ i = 19)) ∨ 165 ≤ k
def relL (k : Nat) : Prop := (32 ≤ k ∧ k < 40) ∨ k = 50 ∨ k = 52 ∨ (128 ≤ k ∧ k < 136) ∨ k = 140 ∨ k = 141 ∨ k = 162
theorem Inv_c (hI : ∀ k i, relI k i → I' k i = I k i) (hL : ∀ k i, relL k → L' k i = L k i) (q : Inv w I L Q) : Inv w I' L' Q := by
  have hR : ∀ k, (k < 40 ∨ k = 48 ∨ k = 49 ∨ k = 51 ∨ k = 122 ∨ (128 ≤ k ∧ k < 136) ∨ k = 137 ∨ k = 138 ∨ k = 139 ∨ k = 142 ∨ k = 144 ∨ k = 160 ∨ k = 161 ∨ 165 ≤ k) → I' k = I k := fun k hk => funext fun i => hI k i (by unfold relI; omega)
  have hG : ∀ k, relL k → L' k = L k := fun k hk => funext fun i => hL k i hk
  obtain ⟨c, q1, q2, q3, q4, q5, q6, q7, q8, q9, q10, q11, q12, q13⟩ := q
  have hT : I' 137 = I 137 := hR 137 (by omega)
  refine ⟨c, by rw [hT]; exact q1, by rw [hT]; exact LandR_c (fun j hj => hR j (by omega)) q2, by rw [hT]; exact FolkR_c (fun j hj => hR (15 + j) (by omega)) q3, by rw [hT]; exact BookR_c (fun j hj => hR (22 + j) (by omega)) q4, ?_, ?_, ?_, q8, q9, q10, ?_, fun t ht => ?_, fun i hi => ?_⟩
  · rw [hT]; exact MapR_c (hR 32 (by omega)) (hR 38 (by omega)) (fun k h1 h2 => hG k (by unfold relL; omega)) q5
  · rw [hT]; exact RefR_c (hI 163 4 (by unfold relI; omega)) (hR 142 (by omega)) (hG 140 (by unfold relL; omega)) (hG 141 (by unfold relL; omega)) q6
  · exact StepsR_c (hR 48 (by omega)) (hR 49 (by omega)) (hR 51 (by omega)) (hG 50 (by unfold relL; omega)) (hG 52 (by unfold relL; omega)) q7
  · exact ReadR_c (fun f h1 h2 => hI 121 f (by unfold relI; omega)) (hR 122 (by omega)) (hR 144 (by omega)) (hI 163 10 (by unfold relI; omega)) (hI 163 18 (by unfold relI; omega)) (hI 163 19 (by unfold relI; omega)) q11
  · exact TrayR_c (hR _ (by omega)) (hR 160 (by omega)) (hR 161 (by omega)) (hG _ (by unfold relL; omega)) (hG 162 (by unfold relL; omega)) (q12 t ht)
  · exact ImgR_c (hR 138 (by omega)) (hR 139 (by omega)) (fun j hj => hR _ (by omega)) (q13 i hi)
theorem Inv_I {k i : Nat} {v : Int32} (h : ¬ relI k i) (q : Inv w I L Q) : Inv w (up2 I k i v) L Q :=
  Inv_c (fun k' i' hr => up2_ne I v k' i' (fun e => h (by obtain ⟨rfl, rfl⟩ := Prod.mk.inj e; exact hr))) (fun _ _ _ => rfl) q
theorem Inv_L {k i : Nat} {v : Int64} (h : ¬ relL k) (q : Inv w I L Q) : Inv w I (up2 L k i v) Q :=
  Inv_c (fun _ _ _ => rfl) (fun k' i' hr => up2_ne L v k' i' (fun e => h (by obtain ⟨rfl, rfl⟩ := Prod.mk.inj e; exact hr))) q
theorem relI_3 : ¬ relI 163 3 := by unfold relI; omega
theorem relL_164 : ¬ relL 164 := by unfold relL; omega
theorem Inv_t {v : Int32} (q : Inv w I L Q) : Inv w (up2 I 163 3 v) L Q := Inv_I relI_3 q
theorem Inv_o {v : Int64} (q : Inv w I L Q) : Inv w I (up2 L 164 0 v) Q := Inv_L relL_164 q
end
/-- one call of the law: the class answers k (what it threw), the reference b -/
def OpI (E : Ev) (w : Wo) (fc fm : Hp → Rs) (I : Nat → Nat → Int32) (L : Nat → Nat → Int64) (Q : Nat → Nat → Option Nat) : Prop := ∃ (k b : Int32) (I1 I2 : Nat → Nat → Int32) (L1 L2 : Nat → Nat → Int64) (Q1 Q2 : Nat → Nat → Option Nat), fc (Hw E w I L Q) = rtI k (Hw E w I1 L1 Q1) ∧ fm (Hw E w I1 L1 Q1) = rtI b (Hw E w I2 L2 Q2) ∧ Inv w I2 L2 Q2 ∧ I2 163 3 = k ∧ (k = 0 → L2 164 0 = b.toInt64)
