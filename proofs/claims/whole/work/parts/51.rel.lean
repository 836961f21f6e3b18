/-! ===== the abstract parish: a k i, keys as in the class's parish (0 numbers, 1 graves, 2 kinds .. 7 since, 8 papers, 9 years .. 12 short, 13 reaches, 14 weights, 15 .. 17 what may be undone), 18 the set of short news ===== -/
/-- what a grave had heard, t readings ago (of those that may be undone) -/
def hdT (a : Nat → Nat → Nat) : Nat → Nat → Nat
  | 0, i => a 5 i
  | t + 1, i => if (a 16 (a 0 9 - 1 - t)).testBit i then andn (hdT a t i) (2 ^ a 15 (a 0 9 - 1 - t)) else hdT a t i
/-- how often it had been wronged then -/
def wgT (a : Nat → Nat → Nat) : Nat → Nat → Nat
  | 0, i => a 6 i
  | t + 1, i => if (a 17 (a 0 9 - 1 - t)).testBit i then wgT a t i - 1 else wgT a t i
/-- a set is within another -/
def subN (x y : Nat) : Bool := andn x y == 0
/-- sums -/
def smN (f : Nat → Nat) : Nat → Nat
  | 0 => 0
  | n + 1 => smN f n + f n
/-- in how many ways sets below k can be read ahead of all others -/
def ordT (p : Nat) (ah : Nat → Nat) : Nat → Nat → Nat
  | 0, _ => 0
  | k + 1, s => if s = k then (if k = 0 then 1 else smN (fun n => if k.testBit n && subN (ah n) k then ordT p ah k (andn k (2 ^ n)) else 0) p) else ordT p ah k s
def ordN (p : Nat) (ah : Nat → Nat) : Nat := ordT p ah (2 ^ p) (2 ^ p - 1)
def Inv (a : Nat → Nat → Nat) : Prop :=
  (a 1 0 ≤ 10) ∧
  (a 8 0 ≤ 12) ∧
  (a 0 2 ≤ 4) ∧
  (a 0 4 ≤ 4) ∧
  (a 0 6 ≤ 99) ∧
  (a 0 7 < 2 ^ 31) ∧
  (a 0 8 ≤ 9999) ∧
  (a 0 9 ≤ 10) ∧
  (a 0 9 ≤ a 0 8) ∧
  (∀ i, i < a 1 0 → a 2 i ≤ 5 ∧ a 3 i < 36 ∧ a 4 i ≤ 89) ∧
  (∀ i, i < 10 → a 5 i < 4096 ∧ a 6 i ≤ 99) ∧
  (∀ i, i < 10 → a 1 0 ≤ i → a 5 i = 0 ∧ a 6 i = 0) ∧
  (∀ i, i < 120 → a 7 i ≤ 9999) ∧
  (∀ n, n < a 8 0 → a 9 n ≤ 99 ∧ a 10 n < 2 ^ n ∧ a 11 n < 1024 ∧ a 12 n ≤ 1) ∧
  (∀ i, i < a 0 2 → a 13 i ≤ 9) ∧
  (∀ i, i < 5 → a 14 i ≤ 9) ∧
  (∀ j, j < a 0 9 → a 15 j < 12 ∧ a 16 j < 1024 ∧ a 17 j < 1024) ∧
  (∀ t, t < a 0 9 → ∀ i, i < 10 → (a 17 (a 0 9 - 1 - t)).testBit i = true → 1 ≤ wgT a t i) ∧
  (a 18 0 < 4096) ∧
  (∀ n, n < a 8 0 → (a 18 0).testBit n = decide (a 12 n = 1))
theorem Inv.gs {a : Nat → Nat → Nat} (h : Inv a) : a 1 0 ≤ 10 := h.1
theorem Inv.ps {a : Nat → Nat → Nat} (h : Inv a) : a 8 0 ≤ 12 := h.2.1
theorem Inv.rd {a : Nat → Nat → Nat} (h : Inv a) : a 0 2 ≤ 4 := h.2.2.1
theorem Inv.wi {a : Nat → Nat → Nat} (h : Inv a) : a 0 4 ≤ 4 := h.2.2.2.1
theorem Inv.no {a : Nat → Nat → Nat} (h : Inv a) : a 0 6 ≤ 99 := h.2.2.2.2.1
theorem Inv.dr {a : Nat → Nat → Nat} (h : Inv a) : a 0 7 < 2 ^ 31 := h.2.2.2.2.2.1
theorem Inv.rg {a : Nat → Nat → Nat} (h : Inv a) : a 0 8 ≤ 9999 := h.2.2.2.2.2.2.1
theorem Inv.un {a : Nat → Nat → Nat} (h : Inv a) : a 0 9 ≤ 10 := h.2.2.2.2.2.2.2.1
theorem Inv.ur {a : Nat → Nat → Nat} (h : Inv a) : a 0 9 ≤ a 0 8 := h.2.2.2.2.2.2.2.2.1
theorem Inv.gr {a : Nat → Nat → Nat} (h : Inv a) : ∀ i, i < a 1 0 → a 2 i ≤ 5 ∧ a 3 i < 36 ∧ a 4 i ≤ 89 := h.2.2.2.2.2.2.2.2.2.1
theorem Inv.hw {a : Nat → Nat → Nat} (h : Inv a) : ∀ i, i < 10 → a 5 i < 4096 ∧ a 6 i ≤ 99 := h.2.2.2.2.2.2.2.2.2.2.1
theorem Inv.hz {a : Nat → Nat → Nat} (h : Inv a) : ∀ i, i < 10 → a 1 0 ≤ i → a 5 i = 0 ∧ a 6 i = 0 := h.2.2.2.2.2.2.2.2.2.2.2.1
theorem Inv.si {a : Nat → Nat → Nat} (h : Inv a) : ∀ i, i < 120 → a 7 i ≤ 9999 := h.2.2.2.2.2.2.2.2.2.2.2.2.1
theorem Inv.nw {a : Nat → Nat → Nat} (h : Inv a) : ∀ n, n < a 8 0 → a 9 n ≤ 99 ∧ a 10 n < 2 ^ n ∧ a 11 n < 1024 ∧ a 12 n ≤ 1 := h.2.2.2.2.2.2.2.2.2.2.2.2.2.1
theorem Inv.rc {a : Nat → Nat → Nat} (h : Inv a) : ∀ i, i < a 0 2 → a 13 i ≤ 9 := h.2.2.2.2.2.2.2.2.2.2.2.2.2.2.1
theorem Inv.wt {a : Nat → Nat → Nat} (h : Inv a) : ∀ i, i < 5 → a 14 i ≤ 9 := h.2.2.2.2.2.2.2.2.2.2.2.2.2.2.2.1
theorem Inv.ud {a : Nat → Nat → Nat} (h : Inv a) : ∀ j, j < a 0 9 → a 15 j < 12 ∧ a 16 j < 1024 ∧ a 17 j < 1024 := h.2.2.2.2.2.2.2.2.2.2.2.2.2.2.2.2.1
theorem Inv.uw {a : Nat → Nat → Nat} (h : Inv a) : ∀ t, t < a 0 9 → ∀ i, i < 10 → (a 17 (a 0 9 - 1 - t)).testBit i = true → 1 ≤ wgT a t i := h.2.2.2.2.2.2.2.2.2.2.2.2.2.2.2.2.2.1
theorem Inv.sh {a : Nat → Nat → Nat} (h : Inv a) : a 18 0 < 4096 := h.2.2.2.2.2.2.2.2.2.2.2.2.2.2.2.2.2.2.1
theorem Inv.sb {a : Nat → Nat → Nat} (h : Inv a) : ∀ n, n < a 8 0 → (a 18 0).testBit n = decide (a 12 n = 1) := h.2.2.2.2.2.2.2.2.2.2.2.2.2.2.2.2.2.2.2
def CA (a : Nat → Nat → Nat) (V : Nat → Nat → Int32) : Prop :=
  (V 0 2 = nI (a 0 2)) ∧
  (V 0 4 = nI (a 0 4)) ∧
  (V 0 6 = nI (a 0 6)) ∧
  (V 0 7 = nI (a 0 7)) ∧
  (V 0 8 = nI (a 0 8)) ∧
  (V 0 9 = nI (a 0 9)) ∧
  (V 1 0 = nI (a 1 0)) ∧
  (V 8 0 = nI (a 8 0)) ∧
  (V 8 1 = 0 ∨ V 8 1 = nI (ordN (a 8 0) (a 10))) ∧
  (∀ i, i < a 1 0 → V 2 i = nI (a 2 i)) ∧
  (∀ i, i < a 1 0 → V 3 i = nI (a 3 i)) ∧
  (∀ i, i < a 1 0 → V 4 i = nI (a 4 i)) ∧
  (∀ i, i < a 1 0 → V 5 i = nI (a 5 i)) ∧
  (∀ i, i < a 1 0 → V 6 i = nI (a 6 i)) ∧
  (∀ i n, i < a 1 0 → n < 12 → (a 5 i).testBit n = true → V 7 (12 * i + n) = nI (a 7 (12 * i + n))) ∧
  (∀ n, n < a 8 0 → V 9 n = nI (a 9 n)) ∧
  (∀ n, n < a 8 0 → V 10 n = nI (a 10 n)) ∧
  (∀ n, n < a 8 0 → V 11 n = nI (a 11 n)) ∧
  (∀ n, n < a 8 0 → V 12 n = nI (a 12 n)) ∧
  (∀ i, i < a 0 2 → V 13 i = nI (a 13 i)) ∧
  (∀ i, i < 5 → V 14 i = nI (a 14 i)) ∧
  (∀ j, j < a 0 9 → V 15 j = nI (a 15 j)) ∧
  (∀ j, j < a 0 9 → V 16 j = nI (a 16 j)) ∧
  (∀ j, j < a 0 9 → V 17 j = nI (a 17 j))
theorem CA.rd {a : Nat → Nat → Nat} {V : Nat → Nat → Int32} (h : CA a V) : V 0 2 = nI (a 0 2) := h.1
theorem CA.wi {a : Nat → Nat → Nat} {V : Nat → Nat → Int32} (h : CA a V) : V 0 4 = nI (a 0 4) := h.2.1
theorem CA.no {a : Nat → Nat → Nat} {V : Nat → Nat → Int32} (h : CA a V) : V 0 6 = nI (a 0 6) := h.2.2.1
theorem CA.dr {a : Nat → Nat → Nat} {V : Nat → Nat → Int32} (h : CA a V) : V 0 7 = nI (a 0 7) := h.2.2.2.1
theorem CA.rg {a : Nat → Nat → Nat} {V : Nat → Nat → Int32} (h : CA a V) : V 0 8 = nI (a 0 8) := h.2.2.2.2.1
theorem CA.un {a : Nat → Nat → Nat} {V : Nat → Nat → Int32} (h : CA a V) : V 0 9 = nI (a 0 9) := h.2.2.2.2.2.1
theorem CA.gs {a : Nat → Nat → Nat} {V : Nat → Nat → Int32} (h : CA a V) : V 1 0 = nI (a 1 0) := h.2.2.2.2.2.2.1
theorem CA.ps {a : Nat → Nat → Nat} {V : Nat → Nat → Int32} (h : CA a V) : V 8 0 = nI (a 8 0) := h.2.2.2.2.2.2.2.1
theorem CA.od {a : Nat → Nat → Nat} {V : Nat → Nat → Int32} (h : CA a V) : V 8 1 = 0 ∨ V 8 1 = nI (ordN (a 8 0) (a 10)) := h.2.2.2.2.2.2.2.2.1
theorem CA.ki {a : Nat → Nat → Nat} {V : Nat → Nat → Int32} (h : CA a V) : ∀ i, i < a 1 0 → V 2 i = nI (a 2 i) := h.2.2.2.2.2.2.2.2.2.1
theorem CA.pl {a : Nat → Nat → Nat} {V : Nat → Nat → Int32} (h : CA a V) : ∀ i, i < a 1 0 → V 3 i = nI (a 3 i) := h.2.2.2.2.2.2.2.2.2.2.1
theorem CA.ye {a : Nat → Nat → Nat} {V : Nat → Nat → Int32} (h : CA a V) : ∀ i, i < a 1 0 → V 4 i = nI (a 4 i) := h.2.2.2.2.2.2.2.2.2.2.2.1
theorem CA.he {a : Nat → Nat → Nat} {V : Nat → Nat → Int32} (h : CA a V) : ∀ i, i < a 1 0 → V 5 i = nI (a 5 i) := h.2.2.2.2.2.2.2.2.2.2.2.2.1
theorem CA.wg {a : Nat → Nat → Nat} {V : Nat → Nat → Int32} (h : CA a V) : ∀ i, i < a 1 0 → V 6 i = nI (a 6 i) := h.2.2.2.2.2.2.2.2.2.2.2.2.2.1
theorem CA.si {a : Nat → Nat → Nat} {V : Nat → Nat → Int32} (h : CA a V) : ∀ i n, i < a 1 0 → n < 12 → (a 5 i).testBit n = true → V 7 (12 * i + n) = nI (a 7 (12 * i + n)) := h.2.2.2.2.2.2.2.2.2.2.2.2.2.2.1
theorem CA.ny {a : Nat → Nat → Nat} {V : Nat → Nat → Int32} (h : CA a V) : ∀ n, n < a 8 0 → V 9 n = nI (a 9 n) := h.2.2.2.2.2.2.2.2.2.2.2.2.2.2.2.1
theorem CA.na {a : Nat → Nat → Nat} {V : Nat → Nat → Int32} (h : CA a V) : ∀ n, n < a 8 0 → V 10 n = nI (a 10 n) := h.2.2.2.2.2.2.2.2.2.2.2.2.2.2.2.2.1
theorem CA.nb {a : Nat → Nat → Nat} {V : Nat → Nat → Int32} (h : CA a V) : ∀ n, n < a 8 0 → V 11 n = nI (a 11 n) := h.2.2.2.2.2.2.2.2.2.2.2.2.2.2.2.2.2.1
theorem CA.ns {a : Nat → Nat → Nat} {V : Nat → Nat → Int32} (h : CA a V) : ∀ n, n < a 8 0 → V 12 n = nI (a 12 n) := h.2.2.2.2.2.2.2.2.2.2.2.2.2.2.2.2.2.2.1
theorem CA.rc {a : Nat → Nat → Nat} {V : Nat → Nat → Int32} (h : CA a V) : ∀ i, i < a 0 2 → V 13 i = nI (a 13 i) := h.2.2.2.2.2.2.2.2.2.2.2.2.2.2.2.2.2.2.2.1
theorem CA.wt {a : Nat → Nat → Nat} {V : Nat → Nat → Int32} (h : CA a V) : ∀ i, i < 5 → V 14 i = nI (a 14 i) := h.2.2.2.2.2.2.2.2.2.2.2.2.2.2.2.2.2.2.2.2.1
theorem CA.u1 {a : Nat → Nat → Nat} {V : Nat → Nat → Int32} (h : CA a V) : ∀ j, j < a 0 9 → V 15 j = nI (a 15 j) := h.2.2.2.2.2.2.2.2.2.2.2.2.2.2.2.2.2.2.2.2.2.1
theorem CA.u2 {a : Nat → Nat → Nat} {V : Nat → Nat → Int32} (h : CA a V) : ∀ j, j < a 0 9 → V 16 j = nI (a 16 j) := h.2.2.2.2.2.2.2.2.2.2.2.2.2.2.2.2.2.2.2.2.2.2.1
theorem CA.u3 {a : Nat → Nat → Nat} {V : Nat → Nat → Int32} (h : CA a V) : ∀ j, j < a 0 9 → V 17 j = nI (a 17 j) := h.2.2.2.2.2.2.2.2.2.2.2.2.2.2.2.2.2.2.2.2.2.2.2
def MA (a : Nat → Nat → Nat) (U : Nat → Nat → Int32) : Prop :=
  (U 0 0 = nI (a 1 0)) ∧
  (U 0 1 = nI (a 8 0)) ∧
  (U 0 2 = nI (a 0 2)) ∧
  (U 0 3 = nI (a 18 0)) ∧
  (U 0 4 = nI (a 0 4)) ∧
  (U 0 5 = nI (a 0 6)) ∧
  (U 0 6 = nI (a 0 7)) ∧
  (U 0 7 = nI (a 0 9)) ∧
  (U 9 140 = nI (a 0 8)) ∧
  (∀ i, i < a 1 0 → U 1 i = nI (a 2 i)) ∧
  (∀ i, i < a 1 0 → U 2 i = nI (a 3 i)) ∧
  (∀ i, i < a 1 0 → U 3 i = nI (a 4 i)) ∧
  (∀ i, i < 10 → U 9 i = nI (a 5 i)) ∧
  (∀ i, i < 10 → U 9 (10 + i) = nI (a 6 i)) ∧
  (∀ i n, i < a 1 0 → n < 12 → (a 5 i).testBit n = true → U 9 (20 + (12 * i + n)) = nI (a 7 (12 * i + n))) ∧
  (∀ n, n < a 8 0 → U 4 n = nI (a 9 n)) ∧
  (∀ n, n < a 8 0 → U 5 n = nI (a 10 n)) ∧
  (∀ n, n < a 8 0 → U 6 n = nI (a 11 n)) ∧
  (∀ i, i < a 0 2 → U 7 i = nI (a 13 i)) ∧
  (∀ i, i < 5 → U 8 i = nI (a 14 i)) ∧
  (∀ t, 1 ≤ t → t ≤ a 0 9 → ∀ i, i < 10 → U 10 (141 * (a 0 9 - t) + i) = nI (hdT a t i)) ∧
  (∀ t, 1 ≤ t → t ≤ a 0 9 → ∀ i, i < 10 → U 10 (141 * (a 0 9 - t) + (10 + i)) = nI (wgT a t i)) ∧
  (∀ t, 1 ≤ t → t ≤ a 0 9 → U 10 (141 * (a 0 9 - t) + 140) = nI (a 0 8 - t)) ∧
  (∀ t, 1 ≤ t → t ≤ a 0 9 → ∀ i n, i < a 1 0 → n < 12 → (hdT a t i).testBit n = true → U 10 (141 * (a 0 9 - t) + (20 + (12 * i + n))) = nI (a 7 (12 * i + n)))
theorem MA.gs {a : Nat → Nat → Nat} {U : Nat → Nat → Int32} (h : MA a U) : U 0 0 = nI (a 1 0) := h.1
theorem MA.ps {a : Nat → Nat → Nat} {U : Nat → Nat → Int32} (h : MA a U) : U 0 1 = nI (a 8 0) := h.2.1
theorem MA.rd {a : Nat → Nat → Nat} {U : Nat → Nat → Int32} (h : MA a U) : U 0 2 = nI (a 0 2) := h.2.2.1
theorem MA.sh {a : Nat → Nat → Nat} {U : Nat → Nat → Int32} (h : MA a U) : U 0 3 = nI (a 18 0) := h.2.2.2.1
theorem MA.wi {a : Nat → Nat → Nat} {U : Nat → Nat → Int32} (h : MA a U) : U 0 4 = nI (a 0 4) := h.2.2.2.2.1
theorem MA.no {a : Nat → Nat → Nat} {U : Nat → Nat → Int32} (h : MA a U) : U 0 5 = nI (a 0 6) := h.2.2.2.2.2.1
theorem MA.dr {a : Nat → Nat → Nat} {U : Nat → Nat → Int32} (h : MA a U) : U 0 6 = nI (a 0 7) := h.2.2.2.2.2.2.1
theorem MA.un {a : Nat → Nat → Nat} {U : Nat → Nat → Int32} (h : MA a U) : U 0 7 = nI (a 0 9) := h.2.2.2.2.2.2.2.1
theorem MA.rg {a : Nat → Nat → Nat} {U : Nat → Nat → Int32} (h : MA a U) : U 9 140 = nI (a 0 8) := h.2.2.2.2.2.2.2.2.1
theorem MA.ki {a : Nat → Nat → Nat} {U : Nat → Nat → Int32} (h : MA a U) : ∀ i, i < a 1 0 → U 1 i = nI (a 2 i) := h.2.2.2.2.2.2.2.2.2.1
theorem MA.pl {a : Nat → Nat → Nat} {U : Nat → Nat → Int32} (h : MA a U) : ∀ i, i < a 1 0 → U 2 i = nI (a 3 i) := h.2.2.2.2.2.2.2.2.2.2.1
theorem MA.ye {a : Nat → Nat → Nat} {U : Nat → Nat → Int32} (h : MA a U) : ∀ i, i < a 1 0 → U 3 i = nI (a 4 i) := h.2.2.2.2.2.2.2.2.2.2.2.1
theorem MA.he {a : Nat → Nat → Nat} {U : Nat → Nat → Int32} (h : MA a U) : ∀ i, i < 10 → U 9 i = nI (a 5 i) := h.2.2.2.2.2.2.2.2.2.2.2.2.1
theorem MA.wg {a : Nat → Nat → Nat} {U : Nat → Nat → Int32} (h : MA a U) : ∀ i, i < 10 → U 9 (10 + i) = nI (a 6 i) := h.2.2.2.2.2.2.2.2.2.2.2.2.2.1
theorem MA.si {a : Nat → Nat → Nat} {U : Nat → Nat → Int32} (h : MA a U) : ∀ i n, i < a 1 0 → n < 12 → (a 5 i).testBit n = true → U 9 (20 + (12 * i + n)) = nI (a 7 (12 * i + n)) := h.2.2.2.2.2.2.2.2.2.2.2.2.2.2.1
theorem MA.ny {a : Nat → Nat → Nat} {U : Nat → Nat → Int32} (h : MA a U) : ∀ n, n < a 8 0 → U 4 n = nI (a 9 n) := h.2.2.2.2.2.2.2.2.2.2.2.2.2.2.2.1
theorem MA.na {a : Nat → Nat → Nat} {U : Nat → Nat → Int32} (h : MA a U) : ∀ n, n < a 8 0 → U 5 n = nI (a 10 n) := h.2.2.2.2.2.2.2.2.2.2.2.2.2.2.2.2.1
theorem MA.nb {a : Nat → Nat → Nat} {U : Nat → Nat → Int32} (h : MA a U) : ∀ n, n < a 8 0 → U 6 n = nI (a 11 n) := h.2.2.2.2.2.2.2.2.2.2.2.2.2.2.2.2.2.1
theorem MA.rc {a : Nat → Nat → Nat} {U : Nat → Nat → Int32} (h : MA a U) : ∀ i, i < a 0 2 → U 7 i = nI (a 13 i) := h.2.2.2.2.2.2.2.2.2.2.2.2.2.2.2.2.2.2.1
theorem MA.wt {a : Nat → Nat → Nat} {U : Nat → Nat → Int32} (h : MA a U) : ∀ i, i < 5 → U 8 i = nI (a 14 i) := h.2.2.2.2.2.2.2.2.2.2.2.2.2.2.2.2.2.2.2.1
theorem MA.u1 {a : Nat → Nat → Nat} {U : Nat → Nat → Int32} (h : MA a U) : ∀ t, 1 ≤ t → t ≤ a 0 9 → ∀ i, i < 10 → U 10 (141 * (a 0 9 - t) + i) = nI (hdT a t i) := h.2.2.2.2.2.2.2.2.2.2.2.2.2.2.2.2.2.2.2.2.1
theorem MA.u2 {a : Nat → Nat → Nat} {U : Nat → Nat → Int32} (h : MA a U) : ∀ t, 1 ≤ t → t ≤ a 0 9 → ∀ i, i < 10 → U 10 (141 * (a 0 9 - t) + (10 + i)) = nI (wgT a t i) := h.2.2.2.2.2.2.2.2.2.2.2.2.2.2.2.2.2.2.2.2.2.1
theorem MA.u3 {a : Nat → Nat → Nat} {U : Nat → Nat → Int32} (h : MA a U) : ∀ t, 1 ≤ t → t ≤ a 0 9 → U 10 (141 * (a 0 9 - t) + 140) = nI (a 0 8 - t) := h.2.2.2.2.2.2.2.2.2.2.2.2.2.2.2.2.2.2.2.2.2.2.1
theorem MA.u4 {a : Nat → Nat → Nat} {U : Nat → Nat → Int32} (h : MA a U) : ∀ t, 1 ≤ t → t ≤ a 0 9 → ∀ i n, i < a 1 0 → n < 12 → (hdT a t i).testBit n = true → U 10 (141 * (a 0 9 - t) + (20 + (12 * i + n))) = nI (a 7 (12 * i + n)) := h.2.2.2.2.2.2.2.2.2.2.2.2.2.2.2.2.2.2.2.2.2.2.2
def vw (σ : St) (b : Nat) : Nat → Nat → Int32 := fun k => σ.1 (b + k)
def ul (μ : St) : Nat → Nat → Int32 := fun k => if k = 0 then (fun i => if i = 0 then μ.1 0 3 else if i = 1 then μ.1 0 8 else if i = 2 then μ.1 0 10 else if i = 3 then μ.1 0 7 else if i = 4 then μ.1 0 11 else if i = 5 then μ.1 0 13 else if i = 6 then μ.1 0 14 else μ.1 0 17) else μ.1 k
def ukO (k : Nat) : Nat := if k = 0 then 1626 else if k = 1 then 0 else if k = 2 then 10 else if k = 3 then 20 else if k = 4 then 30 else if k = 5 then 42 else if k = 6 then 54 else if k = 7 then 66 else if k = 8 then 70 else if k = 9 then 75 else 216
def uk (μ : St) : Nat → Nat → Int32 := fun k i => μ.1 16 (ukO k + i)
def Rpar (V U : Nat → Nat → Int32) : Prop := ∃ a, Inv a ∧ CA a V ∧ MA a U
def Rkept (σ μ : St) : Prop := (σ.1 0 2 = 0 ∧ μ.1 0 26 = 0) ∨ (σ.1 0 2 = 1 ∧ μ.1 0 26 = 1 ∧ Rpar (vw σ 19) (uk μ))
def Rtape (σ μ : St) : Prop := ∃ t, t ≤ 160 ∧ σ.1 37 0 = nI t ∧ μ.1 0 19 = nI t ∧ ∀ i, i < t → ∃ c, 32 ≤ c ∧ c ≤ 126 ∧ σ.1 38 i = nI c ∧ μ.1 11 i = nI c
def Rsh1 (σ μ : St) (j : Nat) : Prop := (σ.1 (53 + 2 * j) 0 = 0 ∧ μ.1 17 j = -1) ∨ (σ.1 (53 + 2 * j) 0 = 1 ∧ ∃ l n, l < 4 ∧ n ≤ 36 ∧ σ.1 (53 + 2 * j) 1 = nI l ∧ μ.1 17 j = nI l ∧ σ.1 (53 + 2 * j) 2 = nI n ∧ μ.1 18 j = nI n ∧ ∀ i, i < 36 → σ.2 (54 + 2 * j) i = μ.2 19 (36 * j + i))
def Rsh (σ μ : St) : Prop := ∀ j, j < 4 → Rsh1 σ μ j
def RR (σ : St) (nw : Nat) (μ : St) : Prop := Rpar (vw σ 1) (ul μ) ∧ Rkept σ μ ∧ Rtape σ μ ∧ Rsh σ μ ∧ nw ≤ 4096
theorem cL_rd {a : Nat → Nat → Nat} {σ : St} (h : CA a (vw σ 1)) : σ.1 1 2 = nI (a 0 2) := h.rd
theorem cL_wi {a : Nat → Nat → Nat} {σ : St} (h : CA a (vw σ 1)) : σ.1 1 4 = nI (a 0 4) := h.wi
theorem cL_no {a : Nat → Nat → Nat} {σ : St} (h : CA a (vw σ 1)) : σ.1 1 6 = nI (a 0 6) := h.no
theorem cL_dr {a : Nat → Nat → Nat} {σ : St} (h : CA a (vw σ 1)) : σ.1 1 7 = nI (a 0 7) := h.dr
theorem cL_rg {a : Nat → Nat → Nat} {σ : St} (h : CA a (vw σ 1)) : σ.1 1 8 = nI (a 0 8) := h.rg
theorem cL_un {a : Nat → Nat → Nat} {σ : St} (h : CA a (vw σ 1)) : σ.1 1 9 = nI (a 0 9) := h.un
theorem cL_gs {a : Nat → Nat → Nat} {σ : St} (h : CA a (vw σ 1)) : σ.1 2 0 = nI (a 1 0) := h.gs
theorem cL_ps {a : Nat → Nat → Nat} {σ : St} (h : CA a (vw σ 1)) : σ.1 9 0 = nI (a 8 0) := h.ps
theorem cL_od {a : Nat → Nat → Nat} {σ : St} (h : CA a (vw σ 1)) : σ.1 9 1 = 0 ∨ σ.1 9 1 = nI (ordN (a 8 0) (a 10)) := h.od
theorem cL_ki {a : Nat → Nat → Nat} {σ : St} (h : CA a (vw σ 1)) : ∀ i, i < a 1 0 → σ.1 3 i = nI (a 2 i) := h.ki
theorem cL_pl {a : Nat → Nat → Nat} {σ : St} (h : CA a (vw σ 1)) : ∀ i, i < a 1 0 → σ.1 4 i = nI (a 3 i) := h.pl
theorem cL_ye {a : Nat → Nat → Nat} {σ : St} (h : CA a (vw σ 1)) : ∀ i, i < a 1 0 → σ.1 5 i = nI (a 4 i) := h.ye
theorem cL_he {a : Nat → Nat → Nat} {σ : St} (h : CA a (vw σ 1)) : ∀ i, i < a 1 0 → σ.1 6 i = nI (a 5 i) := h.he
theorem cL_wg {a : Nat → Nat → Nat} {σ : St} (h : CA a (vw σ 1)) : ∀ i, i < a 1 0 → σ.1 7 i = nI (a 6 i) := h.wg
theorem cL_si {a : Nat → Nat → Nat} {σ : St} (h : CA a (vw σ 1)) : ∀ i n, i < a 1 0 → n < 12 → (a 5 i).testBit n = true → σ.1 8 (12 * i + n) = nI (a 7 (12 * i + n)) := h.si
theorem cL_ny {a : Nat → Nat → Nat} {σ : St} (h : CA a (vw σ 1)) : ∀ n, n < a 8 0 → σ.1 10 n = nI (a 9 n) := h.ny
theorem cL_na {a : Nat → Nat → Nat} {σ : St} (h : CA a (vw σ 1)) : ∀ n, n < a 8 0 → σ.1 11 n = nI (a 10 n) := h.na
theorem cL_nb {a : Nat → Nat → Nat} {σ : St} (h : CA a (vw σ 1)) : ∀ n, n < a 8 0 → σ.1 12 n = nI (a 11 n) := h.nb
theorem cL_ns {a : Nat → Nat → Nat} {σ : St} (h : CA a (vw σ 1)) : ∀ n, n < a 8 0 → σ.1 13 n = nI (a 12 n) := h.ns
theorem cL_rc {a : Nat → Nat → Nat} {σ : St} (h : CA a (vw σ 1)) : ∀ i, i < a 0 2 → σ.1 14 i = nI (a 13 i) := h.rc
theorem cL_wt {a : Nat → Nat → Nat} {σ : St} (h : CA a (vw σ 1)) : ∀ i, i < 5 → σ.1 15 i = nI (a 14 i) := h.wt
theorem cL_u1 {a : Nat → Nat → Nat} {σ : St} (h : CA a (vw σ 1)) : ∀ j, j < a 0 9 → σ.1 16 j = nI (a 15 j) := h.u1
theorem cL_u2 {a : Nat → Nat → Nat} {σ : St} (h : CA a (vw σ 1)) : ∀ j, j < a 0 9 → σ.1 17 j = nI (a 16 j) := h.u2
theorem cL_u3 {a : Nat → Nat → Nat} {σ : St} (h : CA a (vw σ 1)) : ∀ j, j < a 0 9 → σ.1 18 j = nI (a 17 j) := h.u3
theorem mL_gs {a : Nat → Nat → Nat} {μ : St} (h : MA a (ul μ)) : μ.1 0 3 = nI (a 1 0) := h.gs
theorem mL_ps {a : Nat → Nat → Nat} {μ : St} (h : MA a (ul μ)) : μ.1 0 8 = nI (a 8 0) := h.ps
theorem mL_rd {a : Nat → Nat → Nat} {μ : St} (h : MA a (ul μ)) : μ.1 0 10 = nI (a 0 2) := h.rd
theorem mL_sh {a : Nat → Nat → Nat} {μ : St} (h : MA a (ul μ)) : μ.1 0 7 = nI (a 18 0) := h.sh
theorem mL_wi {a : Nat → Nat → Nat} {μ : St} (h : MA a (ul μ)) : μ.1 0 11 = nI (a 0 4) := h.wi
theorem mL_no {a : Nat → Nat → Nat} {μ : St} (h : MA a (ul μ)) : μ.1 0 13 = nI (a 0 6) := h.no
theorem mL_dr {a : Nat → Nat → Nat} {μ : St} (h : MA a (ul μ)) : μ.1 0 14 = nI (a 0 7) := h.dr
theorem mL_un {a : Nat → Nat → Nat} {μ : St} (h : MA a (ul μ)) : μ.1 0 17 = nI (a 0 9) := h.un
theorem mL_rg {a : Nat → Nat → Nat} {μ : St} (h : MA a (ul μ)) : μ.1 9 140 = nI (a 0 8) := h.rg
theorem mL_ki {a : Nat → Nat → Nat} {μ : St} (h : MA a (ul μ)) : ∀ i, i < a 1 0 → μ.1 1 i = nI (a 2 i) := h.ki
theorem mL_pl {a : Nat → Nat → Nat} {μ : St} (h : MA a (ul μ)) : ∀ i, i < a 1 0 → μ.1 2 i = nI (a 3 i) := h.pl
theorem mL_ye {a : Nat → Nat → Nat} {μ : St} (h : MA a (ul μ)) : ∀ i, i < a 1 0 → μ.1 3 i = nI (a 4 i) := h.ye
theorem mL_he {a : Nat → Nat → Nat} {μ : St} (h : MA a (ul μ)) : ∀ i, i < 10 → μ.1 9 i = nI (a 5 i) := h.he
theorem mL_wg {a : Nat → Nat → Nat} {μ : St} (h : MA a (ul μ)) : ∀ i, i < 10 → μ.1 9 (10 + i) = nI (a 6 i) := h.wg
theorem mL_si {a : Nat → Nat → Nat} {μ : St} (h : MA a (ul μ)) : ∀ i n, i < a 1 0 → n < 12 → (a 5 i).testBit n = true → μ.1 9 (20 + (12 * i + n)) = nI (a 7 (12 * i + n)) := h.si
theorem mL_ny {a : Nat → Nat → Nat} {μ : St} (h : MA a (ul μ)) : ∀ n, n < a 8 0 → μ.1 4 n = nI (a 9 n) := h.ny
theorem mL_na {a : Nat → Nat → Nat} {μ : St} (h : MA a (ul μ)) : ∀ n, n < a 8 0 → μ.1 5 n = nI (a 10 n) := h.na
theorem mL_nb {a : Nat → Nat → Nat} {μ : St} (h : MA a (ul μ)) : ∀ n, n < a 8 0 → μ.1 6 n = nI (a 11 n) := h.nb
theorem mL_rc {a : Nat → Nat → Nat} {μ : St} (h : MA a (ul μ)) : ∀ i, i < a 0 2 → μ.1 7 i = nI (a 13 i) := h.rc
theorem mL_wt {a : Nat → Nat → Nat} {μ : St} (h : MA a (ul μ)) : ∀ i, i < 5 → μ.1 8 i = nI (a 14 i) := h.wt
theorem mL_u1 {a : Nat → Nat → Nat} {μ : St} (h : MA a (ul μ)) : ∀ t, 1 ≤ t → t ≤ a 0 9 → ∀ i, i < 10 → μ.1 10 (141 * (a 0 9 - t) + i) = nI (hdT a t i) := h.u1
theorem mL_u2 {a : Nat → Nat → Nat} {μ : St} (h : MA a (ul μ)) : ∀ t, 1 ≤ t → t ≤ a 0 9 → ∀ i, i < 10 → μ.1 10 (141 * (a 0 9 - t) + (10 + i)) = nI (wgT a t i) := h.u2
theorem mL_u3 {a : Nat → Nat → Nat} {μ : St} (h : MA a (ul μ)) : ∀ t, 1 ≤ t → t ≤ a 0 9 → μ.1 10 (141 * (a 0 9 - t) + 140) = nI (a 0 8 - t) := h.u3
theorem mL_u4 {a : Nat → Nat → Nat} {μ : St} (h : MA a (ul μ)) : ∀ t, 1 ≤ t → t ≤ a 0 9 → ∀ i n, i < a 1 0 → n < 12 → (hdT a t i).testBit n = true → μ.1 10 (141 * (a 0 9 - t) + (20 + (12 * i + n))) = nI (a 7 (12 * i + n)) := h.u4
