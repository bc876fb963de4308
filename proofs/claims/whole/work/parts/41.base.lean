/-! numbers, truth values, answers: what the pure programs are read with -/
noncomputable def zb (p : Prop) : Int32 := @ite _ p (Classical.propDecidable p) 1 0
theorem zb_t {p : Prop} (h : p) : zb p = 1 := by unfold zb; rw [if_pos h]
theorem zb_f {p : Prop} (h : ¬ p) : zb p = 0 := by unfold zb; rw [if_neg h]
theorem zb_0 {p : Prop} : zb p = 0 ↔ ¬ p := by
  by_cases c : p
  · rw [zb_t c]; exact ⟨fun e => absurd e (by decide), fun e => absurd c e⟩
  · rw [zb_f c]; exact ⟨fun _ => c, fun _ => rfl⟩
theorem zb_c {p q : Prop} (h : p ↔ q) : zb p = zb q := by
  by_cases c : p
  · rw [zb_t c, zb_t (h.mp c)]
  · rw [zb_f c, zb_f (fun e => c (h.mpr e))]
theorem zb_01 (p : Prop) : zb p = 0 ∨ zb p = 1 := by
  by_cases c : p
  · exact Or.inr (zb_t c)
  · exact Or.inl (zb_f c)
theorem zb_1 {p : Prop} : zb p = 1 ↔ p := by
  by_cases c : p
  · rw [zb_t c]; exact ⟨fun _ => c, fun _ => rfl⟩
  · rw [zb_f c]; exact ⟨fun e => absurd e (by decide), fun e => absurd e c⟩
theorem rtZ_0 {h : Hp} : rtZ 0 h = rtI 0 h := rfl
theorem rtZ_1 {h : Hp} : rtZ 1 h = rtI 1 h := rfl
theorem rtZ_v {v : Int32} {h : Hp} (hv : v = 0 ∨ v = 1) : rtZ v h = rtI v h := by rcases hv with rfl | rfl <;> rfl
theorem rtZ_zb {p : Prop} {h : Hp} : rtZ (zb p) h = rtI (zb p) h := rtZ_v (zb_01 p)
theorem cI_r {v : Int32} {h : Hp} {k : Int32 → Hp → Rs} : cI (rtI v h) k = k v h := rfl
theorem cL_r {v : Int64} {h : Hp} {k : Int64 → Hp → Rs} : cL (rtL v h) k = k v h := rfl
theorem cV_r {h : Hp} {k : Hp → Rs} : cV (rtV h) k = k h := rfl
theorem xI_r {v : Int32} {h : Hp} {x : String → Hp → Rs} {k : Int32 → Hp → Rs} : xI (rtI v h) x k = k v h := rfl
theorem xL_r {v : Int64} {h : Hp} {x : String → Hp → Rs} {k : Int64 → Hp → Rs} : xL (rtL v h) x k = k v h := rfl
theorem xV_r {h : Hp} {x : String → Hp → Rs} {k : Hp → Rs} : xV (rtV h) x k = k h := rfl
theorem xI_t {e : String} {h : Hp} {x : String → Hp → Rs} {k : Int32 → Hp → Rs} : xI (thr e h) x k = x e h := rfl
theorem xL_t {e : String} {h : Hp} {x : String → Hp → Rs} {k : Int64 → Hp → Rs} : xL (thr e h) x k = x e h := rfl
theorem xV_t {e : String} {h : Hp} {x : String → Hp → Rs} {k : Hp → Rs} : xV (thr e h) x k = x e h := rfl
theorem lt_r {α β : Type} {x : α} {f : α → β} : lt x f = f x := rfl
theorem ix_n {p n : Nat} (h : p < n) (hn : n < 2 ^ 31) : ix (nI p) n = some p := by
  unfold ix; rw [if_neg (nI_in h hn), nI_clamp (by omega)]
theorem ix_o {i : Int32} {n : Nat} (h : i < 0 ∨ n ≤ i.toNatClampNeg) : ix i n = none := by unfold ix; rw [if_pos h]
/-- literals as numbers -/
theorem n0 : (0 : Int32) = nI 0 := rfl
theorem n1 : (1 : Int32) = nI 1 := rfl
theorem n2 : (2 : Int32) = nI 2 := rfl
theorem n3 : (3 : Int32) = nI 3 := rfl
theorem n4 : (4 : Int32) = nI 4 := rfl
theorem n5 : (5 : Int32) = nI 5 := rfl
theorem n6 : (6 : Int32) = nI 6 := rfl
theorem n7 : (7 : Int32) = nI 7 := rfl
theorem n8 : (8 : Int32) = nI 8 := rfl
theorem n9 : (9 : Int32) = nI 9 := rfl
theorem n10 : (10 : Int32) = nI 10 := rfl
theorem n11 : (11 : Int32) = nI 11 := rfl
theorem n12 : (12 : Int32) = nI 12 := rfl
theorem n13 : (13 : Int32) = nI 13 := rfl
theorem n14 : (14 : Int32) = nI 14 := rfl
theorem n15 : (15 : Int32) = nI 15 := rfl
theorem n16 : (16 : Int32) = nI 16 := rfl
theorem n17 : (17 : Int32) = nI 17 := rfl
theorem n18 : (18 : Int32) = nI 18 := rfl
theorem n19 : (19 : Int32) = nI 19 := rfl
theorem n20 : (20 : Int32) = nI 20 := rfl
theorem n21 : (21 : Int32) = nI 21 := rfl
theorem n22 : (22 : Int32) = nI 22 := rfl
theorem n23 : (23 : Int32) = nI 23 := rfl
theorem n24 : (24 : Int32) = nI 24 := rfl
theorem n25 : (25 : Int32) = nI 25 := rfl
theorem n26 : (26 : Int32) = nI 26 := rfl
theorem n27 : (27 : Int32) = nI 27 := rfl
theorem n28 : (28 : Int32) = nI 28 := rfl
theorem n29 : (29 : Int32) = nI 29 := rfl
theorem n30 : (30 : Int32) = nI 30 := rfl
theorem n31 : (31 : Int32) = nI 31 := rfl
theorem n32 : (32 : Int32) = nI 32 := rfl
theorem n40 : (40 : Int32) = nI 40 := rfl
theorem n60 : (60 : Int32) = nI 60 := rfl
theorem n63 : (63 : Int32) = nI 63 := rfl
theorem n64 : (64 : Int32) = nI 64 := rfl
theorem n90 : (90 : Int32) = nI 90 := rfl
theorem n99 : (99 : Int32) = nI 99 := rfl
theorem n100 : (100 : Int32) = nI 100 := rfl
theorem n120 : (120 : Int32) = nI 120 := rfl
theorem n127 : (127 : Int32) = nI 127 := rfl
theorem n173 : (173 : Int32) = nI 173 := rfl
theorem n200 : (200 : Int32) = nI 200 := rfl
theorem n240 : (240 : Int32) = nI 240 := rfl
theorem n255 : (255 : Int32) = nI 255 := rfl
theorem n450 : (450 : Int32) = nI 450 := rfl
theorem n480 : (480 : Int32) = nI 480 := rfl
theorem n650 : (650 : Int32) = nI 650 := rfl
theorem n722 : (722 : Int32) = nI 722 := rfl
theorem n762 : (762 : Int32) = nI 762 := rfl
theorem n960 : (960 : Int32) = nI 960 := rfl
theorem n2838 : (2838 : Int32) = nI 2838 := rfl
theorem n2988 : (2988 : Int32) = nI 2988 := rfl
theorem n4095 : (4095 : Int32) = nI 4095 := rfl
theorem n1000000 : (1000000 : Int32) = nI 1000000 := rfl
theorem m1_ne {n : Nat} (h : n < 2 ^ 31) : ¬ nI n = -1 := fun e => nI_pos h (by rw [e]; decide)
theorem up2_lit {α : Type} (f : Nat → Nat → α) (k i : Nat) (x : α) (k' i' : Nat) : up2 f k i x k' i' = if k' = k ∧ i' = i then x else f k' i' := rfl
theorem wi_t {x : Int64} {a b : Int64} {E : Ev} {h : Hp} : F_X12_within E x a b h = rtI (zb (a ≤ x ∧ x ≤ b)) h := by
  unfold F_X12_within
  by_cases c : x < a
  · rw [if_pos c, zb_f (fun e => Int64.not_le.mpr c e.1)]; rfl
  · rw [if_neg c]
    by_cases c2 : b < x
    · rw [if_pos c2, zb_f (fun e => Int64.not_le.mpr c2 e.2)]; rfl
    · rw [if_neg c2, zb_t ⟨Int64.not_lt.mp c, Int64.not_lt.mp c2⟩]; rfl
theorem i64_le {x y : Int32} : x.toInt64 ≤ y.toInt64 ↔ x ≤ y := by
  rw [Int64.le_iff_toInt_le, Int32.le_iff_toInt_le, Int32.toInt_toInt64, Int32.toInt_toInt64]
