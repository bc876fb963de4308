/-! THE INVARIANT: what the reference was told (its row 137) is well formed, and the other holds the same -/
/-- within bounds; below a bound -/
def bd (v : Int32) (lo hi : Nat) : Prop := ∃ n : Nat, v = nI n ∧ lo ≤ n ∧ n ≤ hi
def bl (v : Int32) (n : Nat) : Prop := ∃ j : Nat, v = nI j ∧ j < n
def yrs (a b : Int32) : Prop := ∃ f t : Nat, a = nI f ∧ b = nI t ∧ f ≤ t ∧ t ≤ 200
def mx (i : Nat) : Nat := match i with | 0 => 40 | 1 => 60 | 2 => 40 | 3 => 6 | 4 => 8 | 5 => 12 | _ => 30
abbrev Ro : Type := Nat → Int32
def Cts (T : Ro) (c : Nat → Nat) : Prop := ∀ i, i < 7 → T i = nI (c i) ∧ c i ≤ mx i
def WfP (T : Ro) (c : Nat → Nat) : Prop := (∀ p, p < c 0 → bd (T (10 + 2 * p)) 0 99 ∧ bd (T (11 + 2 * p)) 0 99) ∧ ∀ p q, p < c 0 → q < c 0 → T (10 + 2 * p) = T (10 + 2 * q) → T (11 + 2 * p) = T (11 + 2 * q) → p = q
def WfV (T : Ro) (c : Nat → Nat) (v : Nat) : Prop := bl (T (90 + 6 * v)) (c 0) ∧ bl (T (91 + 6 * v)) (c 0) ∧ T (90 + 6 * v) ≠ T (91 + 6 * v) ∧ bd (T (92 + 6 * v)) 0 2 ∧ bd (T (93 + 6 * v)) 1 99 ∧ yrs (T (94 + 6 * v)) (T (95 + 6 * v))
def WfM (T : Ro) (c : Nat → Nat) (m : Nat) : Prop := bl (T (450 + 5 * m)) (c 0) ∧ bl (T (451 + 5 * m)) 12 ∧ bl (T (452 + 5 * m)) 2 ∧ yrs (T (453 + 5 * m)) (T (454 + 5 * m))
def WfU (T : Ro) (t : Nat) : Prop := ∀ n, n < 12 → bd (T (650 + 12 * t + n)) 0 4095
def WfK (T : Ro) (c : Nat → Nat) (k : Nat) : Prop := bl (T (722 + 5 * k)) (c 3) ∧ bd (T (723 + 5 * k)) 0 4095 ∧ bl (T (724 + 5 * k)) 2 ∧ bl (T (725 + 5 * k)) 2 ∧ bd (T (726 + 5 * k)) 1 20
/-- a word: its kind, number, name -/
def WfW (k n a : Int32) : Prop := (k = 0 ∧ bd n 1 20 ∧ a = -1) ∨ ((k = 1 ∨ k = 2 ∨ k = 4 ∨ k = 5) ∧ n = 0 ∧ bl a 12) ∨ (k = 3 ∧ bd n 1 20 ∧ a = -1) ∨ ((k = 6 ∨ k = 7) ∧ n = 0 ∧ a = -1) ∨ (k = 8 ∧ bl n 2 ∧ a = -1) ∨ (k = 9 ∧ bd n 2 41 ∧ (a = -1 ∨ bl a 12))
def WfZ (T : Ro) (c : Nat → Nat) (z : Nat) : Prop := bl (T (762 + 173 * z)) (c 0) ∧ bl (T (763 + 173 * z)) 10 ∧ bd (T (764 + 173 * z)) 0 10 ∧ ∀ j, nI j < T (764 + 173 * z) → j < 10 → bd (T (765 + 173 * z + j)) 1 4 ∧ ∀ i, i < 4 → nI i < T (765 + 173 * z + j) → WfW (T (775 + 173 * z + 16 * j + 4 * i)) (T (776 + 173 * z + 16 * j + 4 * i)) (T (777 + 173 * z + 16 * j + 4 * i))
def WfR (T : Ro) (c : Nat → Nat) (r : Nat) : Prop := bl (T (2838 + 5 * r)) (c 4) ∧ bl (T (2839 + 5 * r)) (c 5) ∧ bl (T (2840 + 5 * r)) (4 * c 1) ∧ bd (T (2841 + 5 * r)) 0 200 ∧ bl (T (2842 + 5 * r)) (c 0)
def WfT (T : Ro) (c : Nat → Nat) : Prop := Cts T c ∧ WfP T c ∧ (∀ v, v < c 1 → WfV T c v) ∧ (∀ m, m < c 2 → WfM T c m) ∧ (∀ t, t < c 3 → WfU T t) ∧ (∀ k, k < c 4 → WfK T c k) ∧ (∀ z, z < c 5 → WfZ T c z) ∧ (∀ r, r < c 6 → WfR T c r)
/-- the class' Land, Folk, Book against what was told: r j is the row of their j-th cell -/
def tn (x : Int32) : Nat := x.toNatClampNeg
def LandP (r : Nat → Ro) (T : Ro) (c : Nat → Nat) : Prop := r 0 0 = T 0 ∧ ∀ p, p < c 0 → r 1 p = T (10 + 2 * p) ∧ r 2 p = T (11 + 2 * p)
def LandV (r : Nat → Ro) (T : Ro) (v : Nat) : Prop := r 3 v = T (92 + 6 * v) ∧ r 4 v = T (93 + 6 * v) ∧ r 5 v = T (94 + 6 * v) ∧ r 6 v = T (95 + 6 * v) ∧ r 7 (4 * v) = T (91 + 6 * v) ∧ r 7 (4 * v + 1) = T (90 + 6 * v) ∧ r 7 (4 * v + 2) = T (90 + 6 * v) ∧ r 7 (4 * v + 3) = T (91 + 6 * v) ∧
  r 8 (2 * v) = T (10 + 2 * tn (T (91 + 6 * v))) - T (10 + 2 * tn (T (90 + 6 * v))) ∧ r 8 (2 * v + 1) = T (10 + 2 * tn (T (90 + 6 * v))) - T (10 + 2 * tn (T (91 + 6 * v))) ∧ r 9 (2 * v) = T (11 + 2 * tn (T (91 + 6 * v))) - T (11 + 2 * tn (T (90 + 6 * v))) ∧ r 9 (2 * v + 1) = T (11 + 2 * tn (T (90 + 6 * v))) - T (11 + 2 * tn (T (91 + 6 * v)))
def LandM (r : Nat → Ro) (T : Ro) (m : Nat) : Prop := r 10 m = T (450 + 5 * m) ∧ r 11 m = T (451 + 5 * m) ∧ r 12 m = T (452 + 5 * m) ∧ r 13 m = T (453 + 5 * m) ∧ r 14 m = T (454 + 5 * m)
def LandR (r : Nat → Ro) (T : Ro) (c : Nat → Nat) : Prop := LandP r T c ∧ (r 0 3 = T 1 ∧ ∀ v, v < c 1 → LandV r T v) ∧ (r 0 11 = T 2 ∧ ∀ m, m < c 2 → LandM r T m) ∧ ∀ m, m < 40 → r 12 m = 0 ∨ r 12 m = 1
def FolkK (r : Nat → Ro) (T : Ro) (k : Nat) : Prop := r 2 k = T (722 + 5 * k) ∧ r 3 k = T (723 + 5 * k) ∧ r 4 k = T (724 + 5 * k) ∧ r 5 k = T (725 + 5 * k) ∧ r 6 k = T (726 + 5 * k)
def FolkR (r : Nat → Ro) (T : Ro) (c : Nat → Nat) : Prop := (r 0 0 = T 3 ∧ ∀ t, t < c 3 → ∀ n, n < 12 → r 1 (12 * t + n) = T (650 + 12 * t + n)) ∧ (r 0 2 = T 4 ∧ ∀ k, k < c 4 → FolkK r T k) ∧ ∀ k, k < 8 → (r 4 k = 0 ∨ r 4 k = 1) ∧ (r 5 k = 0 ∨ r 5 k = 1)
/-- a word as one number -/
def encD (k n : Nat) : Nat := match k with | 0 => 1 | 1 => 2 | 2 => 3 | 3 => 4 | 4 => 5 | 5 => 6 | 6 => 7 | 7 => 8 | 8 => 9 + n | _ => 11 + n % 2
def encN (k n : Nat) : Nat := match k with | 0 => n | 3 => n | 9 => n / 2 | _ => 0
def encA (a : Int32) : Nat := if a = -1 then 15 else tn a
def enc (k n a : Int32) : Int32 := nI (encD (tn k) (tn n) + 16 * encN (tn k) (tn n) + 512 * encA a)
def BookZ (r : Nat → Ro) (T : Ro) (z : Nat) : Prop := r 1 z = T (762 + 173 * z) ∧ r 2 z = T (763 + 173 * z) ∧ r 3 z = T (764 + 173 * z) ∧ ∀ j, j < 10 → nI j < T (764 + 173 * z) → ∀ i, i < 4 → (nI i < T (765 + 173 * z + j) → r 4 (40 * z + 4 * j + i) = enc (T (775 + 173 * z + 16 * j + 4 * i)) (T (776 + 173 * z + 16 * j + 4 * i)) (T (777 + 173 * z + 16 * j + 4 * i))) ∧ (¬ nI i < T (765 + 173 * z + j) → r 4 (40 * z + 4 * j + i) = 0)
def BookK (r : Nat → Ro) (T : Ro) (k : Nat) : Prop := r 5 k = T (2838 + 5 * k) ∧ r 6 k = T (2839 + 5 * k) ∧ r 7 k = T (2840 + 5 * k) ∧ r 8 k = T (2841 + 5 * k) ∧ r 9 k = T (2842 + 5 * k)
def BookR (r : Nat → Ro) (T : Ro) (c : Nat → Nat) : Prop := (r 0 0 = T 5 ∧ ∀ z, z < c 5 → BookZ r T z) ∧ (r 0 5 = T 6 ∧ ∀ k, k < c 6 → BookK r T k)
/-- sets of ways, arrows, places -/
def b64 (x : Int64) (i : Nat) : Prop := x.toBitVec.getLsbD i = true
def thr0 (T : Ro) (c : Nat → Nat) (y v : Nat) : Prop := v < c 1 ∧ T (94 + 6 * v) ≤ nI y ∧ nI y ≤ T (95 + 6 * v)
/-- the place at which an arrow begins, ends; of a state -/
def ast (T : Ro) (a : Nat) : Int32 := if a % 2 = 0 then T (90 + 6 * (a / 2)) else T (91 + 6 * (a / 2))
def aen (T : Ro) (a : Nat) : Int32 := if a % 2 = 0 then T (91 + 6 * (a / 2)) else T (90 + 6 * (a / 2))
def spl (T : Ro) (s : Nat) : Int32 := if s % 2 = 0 then aen T (s / 2) else ast T (s / 2)
def aX (T : Ro) (a : Nat) : Int32 := T (10 + 2 * tn (aen T a)) - T (10 + 2 * tn (ast T a))
def aY (T : Ro) (a : Nat) : Int32 := T (11 + 2 * tn (aen T a)) - T (11 + 2 * tn (ast T a))
def isOt (T : Ro) (c : Nat → Nat) (S : Nat → Prop) (s a : Nat) : Prop := a < 2 * c 1 ∧ S (a / 2) ∧ ast T a = spl T s ∧ (s % 2 = 1 ∨ a ≠ (s / 2) ^^^ 1)
def crs (T : Ro) (s a : Nat) : Int := (aX T (s / 2)).toInt * (aY T a).toInt - (aY T (s / 2)).toInt * (aX T a).toInt
def dt (T : Ro) (s a : Nat) : Int := (aX T (s / 2)).toInt * (aX T a).toInt + (aY T (s / 2)).toInt * (aY T a).toInt
def dts (T : Ro) (s a : Nat) : Int := if dt T s a < 0 then - (dt T s a * dt T s a) else dt T s a * dt T s a
def szs (T : Ro) (a : Nat) : Int := (aX T a).toInt * (aX T a).toInt + (aY T a).toInt * (aY T a).toInt
def isOn (T : Ro) (c : Nat → Nat) (S : Nat → Prop) (s a : Nat) : Prop := isOt T c S s a ∧ ∀ o, isOt T c S s o → dts T s o * szs T a ≤ dts T s a * szs T o
def sid (T : Ro) (s a : Nat) : Nat := if 0 < crs T s a then 0 else if crs T s a < 0 then 1 else 2
/-- the class' map -/
def RowOk (G : Nat → Int64) (T : Ro) (c : Nat → Nat) (S : Nat → Prop) (s : Nat) : Prop := ∀ hf, hf < 2 → ∀ j, j < 64 → (∀ sd, sd < 3 → (b64 (G (8 * s + 2 * sd + hf)) j ↔ isOt T c S s (64 * hf + j) ∧ sid T s (64 * hf + j) = sd)) ∧ (b64 (G (8 * s + 6 + hf)) j ↔ isOn T c S s (64 * hf + j))
def WaysOk (L : Nat → Nat → Int64) (T : Ro) (c : Nat → Nat) (S : Nat → Prop) : Prop := (∀ v, v < 64 → (b64 (L 32 4) v ↔ S v)) ∧ (∀ hf, hf < 2 → ∀ j, j < 64 → (b64 (L 33 hf) j ↔ S ((64 * hf + j) / 2) ∧ T (92 + 6 * ((64 * hf + j) / 2)) = 2)) ∧ (∀ p, p < 40 → ∀ hf, hf < 2 → ∀ j, j < 64 → (b64 (L 34 (2 * p + hf)) j ↔ S ((64 * hf + j) / 2) ∧ ast T (64 * hf + j) = nI p)) ∧ (∀ p, p < 40 → ∀ q, q < 64 → (b64 (L 35 p) q ↔ ∃ a, S (a / 2) ∧ ast T a = nI p ∧ aen T a = nI q))
def mkAt (T : Ro) (c : Nat → Nat) (y k : Nat) (p : Nat) (m : Nat) : Prop := m < c 2 ∧ T (450 + 5 * m) = nI p ∧ T (451 + 5 * m) = nI k ∧ T (453 + 5 * m) ≤ nI y ∧ nI y ≤ T (454 + 5 * m)
def MarksOk (L : Nat → Nat → Int64) (T : Ro) (c : Nat → Nat) (y : Nat) : Prop := ∀ k, k < 12 → ∀ p, p < 64 → (b64 (L 36 k) p ↔ ∃ m, mkAt T c y k p m) ∧ (b64 (L 37 k) p ↔ ∃ m, mkAt T c y k p m ∧ T (452 + 5 * m) = 1)
def MapR (I : Nat → Ro) (L : Nat → Nat → Int64) (T : Ro) (c : Nat → Nat) : Prop := (I 32 3 = 0 ∨ I 32 3 = 1) ∧ ∃ S : Nat → Prop, (∀ v, S v → v < c 1) ∧ (I 32 3 = 0 → WaysOk L T c S ∧ ∀ s, s < 240 → I 38 s = 0 ∨ (I 38 s = 1 ∧ s < 4 * c 1 ∧ RowOk (L 39) T c S s)) ∧ ∀ y, y ≤ 200 → I 32 1 ≤ nI y → nI y ≤ I 32 2 → I 32 3 = 0 ∧ (∀ v, S v ↔ thr0 T c y v) ∧ MarksOk L T c y
/-- steps, walk, odds, finder: which rows they hold, and that the tags lie clean -/
def StepsR (I : Nat → Ro) (L : Nat → Nat → Int64) (Q : Nat → Nat → Option Nat) : Prop := ∃ a t n : Nat, ((Q 48 2 = some 49 ∧ Q 48 5 = some 51 ∧ a = 49) ∨ (Q 48 2 = some 51 ∧ Q 48 5 = some 49 ∧ a = 51)) ∧ ((Q 48 3 = some 50 ∧ Q 48 6 = some 52 ∧ t = 50) ∨ (Q 48 3 = some 52 ∧ Q 48 6 = some 50 ∧ t = 52)) ∧ (∃ z, Q 48 7 = some z) ∧ I 48 1 = nI n ∧ n ≤ 120 ∧ I 48 4 = 0 ∧ (∀ i, i < n → bl (I a i) 120) ∧ (∀ j, j < 120 → (∀ i, i < n → I a i ≠ nI j) → L t j = 0) ∧ ∀ j, j < 120 → L (102 - t) j = 0
def WalkR (Q : Nat → Nat → Option Nat) : Prop := (Q 40 7 = some 43 ∧ Q 40 8 = some 45) ∨ (Q 40 7 = some 45 ∧ Q 40 8 = some 43)
def OddsR (Q : Nat → Nat → Option Nat) : Prop := (Q 54 1 = some 55 ∧ Q 54 2 = some 56) ∨ (Q 54 1 = some 56 ∧ Q 54 2 = some 55)
def RefsR (Q : Nat → Nat → Option Nat) : Prop := (∀ n, n < 24 → Q 65 n = some (73 + 2 * n)) ∧ (∀ n, n < 4 → Q 124 n = some (128 + 2 * n))
/-- reader: tape and fault -/
def ReadR (I : Nat → Ro) : Prop := (∃ n, I 121 1 = nI n ∧ I 163 10 = nI n ∧ n ≤ 200 ∧ ∀ i, i < n → bd (I 144 i) 0 255 ∧ I 122 i = (I 144 i).toInt8.toInt32) ∧ I 121 2 = I 163 18 ∧ I 121 3 = I 163 19
def TrayR (I : Nat → Ro) (L : Nat → Nat → Int64) (t : Nat) : Prop := (I (128 + 2 * t) 0 = 1 ∧ I 160 t = -1) ∨ (I (128 + 2 * t) 0 = 0 ∧ bl (I 160 t) 4 ∧ I (128 + 2 * t) 1 = I 160 t ∧ bd (I 161 t) 0 12 ∧ I (128 + 2 * t) 2 = I 161 t ∧ ∀ k, k < 12 → L (129 + 2 * t) k = L 162 (12 * t + k))
/-- images -/
def ImgR (w : Wo) (I : Nat → Ro) (Q : Nat → Nat → Option Nat) (i : Nat) : Prop := (Q 125 i = none ∧ Q 126 i = none ∧ Q 127 i = none ∧ I 139 i = 0 ∧ ∀ j, j < 32 → ¬ lvk w (165 + 32 * i + j)) ∨ (Q 125 i = some (165 + 32 * i) ∧ Q 126 i = some (180 + 32 * i) ∧ Q 127 i = some (187 + 32 * i) ∧ I 139 i = 1 ∧ (∀ j, j < 32 → lvk w (165 + 32 * i + j)) ∧ ∃ c, WfT (fun k => I 138 (2988 * i + k)) c ∧ LandR (fun j => I (165 + 32 * i + j)) (fun k => I 138 (2988 * i + k)) c ∧ FolkR (fun j => I (180 + 32 * i + j)) (fun k => I 138 (2988 * i + k)) c ∧ BookR (fun j => I (187 + 32 * i + j)) (fun k => I 138 (2988 * i + k)) c)
/-- the reference's own map -/
def b256 (G : Nat → Int64) (at0 s : Nat) : Prop := b64 (G (at0 + s / 64)) (s % 64)
def LaidOk (G : Nat → Int64) (T : Ro) (c : Nat → Nat) (y : Nat) : Prop := ∀ s, s < 240 → ∀ q, q < 256 → (b256 G (4 * s) q ↔ q % 2 = 0 ∧ s < 4 * c 1 ∧ isOn T c (thr0 T c y) s (q / 2)) ∧ ∀ sd, sd < 2 → (b256 G (960 * (1 + sd) + 4 * s) q ↔ q % 2 = 0 ∧ s < 4 * c 1 ∧ isOt T c (thr0 T c y) s (q / 2) ∧ sid T s (q / 2) = sd) ∧ (b256 G (960 * (3 + sd) + 4 * s) q ↔ q % 2 = 0 ∧ s < 4 * c 1 ∧ isOt T c (thr0 T c y) s (q / 2) ∧ sid T s (q / 2) = sd ∧ ¬ T (92 + 6 * (q / 4)) = 2)
/-- the kinds that a name means to a walker; where it stands -/
def knd (T : Ro) (k n : Nat) : Int32 := T (650 + 12 * tn (T (722 + 5 * k)) + n) &&& T (723 + 5 * k)
def b32 (x : Int32) (i : Nat) : Prop := x.toBitVec.getLsbD i = true
def stdA (T : Ro) (c : Nat → Nat) (y k n p : Nat) : Prop := ∃ m kd, kd < 12 ∧ mkAt T c y kd p m ∧ b32 (knd T k n) kd
def StdOk (I : Nat → Ro) (L : Nat → Nat → Int64) (T : Ro) (c : Nat → Nat) (y : Nat) : Prop := ∀ k, k < 8 → ∀ n, n < 12 → I 142 (12 * k + n) = 0 ∨ (I 142 (12 * k + n) = 1 ∧ ∀ q, q < 256 → (b256 (L 141) (4 * (12 * k + n)) q ↔ q < 4 * c 1 ∧ ∃ p, p < c 0 ∧ spl T q = nI p ∧ stdA T c y k n p))
def RefR (I : Nat → Ro) (L : Nat → Nat → Int64) (T : Ro) (c : Nat → Nat) : Prop := I 163 4 = -1 ∨ ∃ y, y ≤ 200 ∧ I 163 4 = nI y ∧ LaidOk (L 140) T c y ∧ StdOk I L T c y
def Inv (w : Wo) (I : Nat → Ro) (L : Nat → Nat → Int64) (Q : Nat → Nat → Option Nat) : Prop := ∃ c, WfT (I 137) c ∧ LandR I (I 137) c ∧ FolkR (fun j => I (15 + j)) (I 137) c ∧ BookR (fun j => I (22 + j)) (I 137) c ∧ MapR I L (I 137) c ∧ RefR I L (I 137) c ∧ StepsR I L Q ∧ WalkR Q ∧ OddsR Q ∧ RefsR Q ∧ ReadR I ∧ (∀ t, t < 4 → TrayR I L t) ∧ ∀ i, i < 3 → ImgR w I Q i
