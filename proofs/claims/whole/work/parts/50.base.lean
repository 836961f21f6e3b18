/-! ===== pure side: numbers ===== -/
theorem ix_nI {n : Nat} (h : n < 2 ^ 31) : ix (nI n) = n := nI_clamp h
theorem nI_lt0 {n : Nat} (h : n < 2 ^ 31) : (nI n < 0) = False := eq_false (nI_pos h)
theorem nI_ge0 {n : Nat} (h : n < 2 ^ 31) : (0 ≤ nI n) = True := eq_true (nI_pos' h)
theorem nI_leE {a b : Nat} (ha : a < 2 ^ 31) (hb : b < 2 ^ 31) : (nI a ≤ nI b) = (a ≤ b) := propext (nI_leI ha hb)
theorem nI_ltE {a b : Nat} (ha : a < 2 ^ 31) (hb : b < 2 ^ 31) : (nI a < nI b) = (a < b) := propext (nI_ltI ha hb)
theorem nI_eqE {a b : Nat} (ha : a < 2 ^ 31) (hb : b < 2 ^ 31) : (nI a = nI b) = (a = b) := propext (nI_eq ha hb)
theorem nI_eq0 {a : Nat} (ha : a < 2 ^ 31) : (nI a = 0) = (a = 0) := nI_eqE (b := 0) ha (by decide)
theorem nI_z (n : Nat) : 0 + nI n = nI n := by rw [show (0 : Int32) = nI 0 from rfl, nI_add, Nat.zero_add]
theorem nI_s (n : Nat) : nI n + 1 = nI (n + 1) := nI_1 n
theorem nI_k (k n : Nat) : nI k + nI n = nI (k + n) := nI_add k n
theorem nI_m {a b : Nat} (h : b ≤ a) : nI a - nI b = nI (a - b) := pk_sub h
theorem nI_neg {x : Int32} (h : x < 0) (n : Nat) (hn : n < 2 ^ 31) : ¬ x = nI n := fun e => nI_pos hn (e ▸ h)
/-- an index that is in range -/
theorem ok_ix {α : Type} {i N : Nat} {x : Option α} (h : i < N) (hN : N < 2 ^ 31) : (if nI i < 0 ∨ N ≤ ix (nI i) then none else x) = x := by
  rw [if_neg]
  rw [ix_nI (by omega)]
  intro q
  rcases q with q | q
  · exact nI_pos (by omega) q
  · omega
/-- a number is out of 0 .. n, or it is one of them -/
theorem rng (x : Int32) (n : Nat) (hn : n < 2 ^ 31) : (∃ k : Nat, k ≤ n ∧ x = nI k) ∨ (x.toInt < 0 ∨ (n : Int) < x.toInt) := by
  by_cases h : x.toInt < 0
  · exact Or.inr (Or.inl h)
  · by_cases h2 : (n : Int) < x.toInt
    · exact Or.inr (Or.inr h2)
    · refine Or.inl ⟨x.toInt.toNat, by omega, ?_⟩
      refine Int32.toInt_inj.mp ?_
      rw [nI_toInt (by omega)]
      omega
theorem lt_T {x y : Int32} : (x < y) = (x.toInt < y.toInt) := propext Int32.lt_iff_toInt_lt
theorem le_T {x y : Int32} : (x ≤ y) = (x.toInt ≤ y.toInt) := propext Int32.le_iff_toInt_le
theorem T_0 : (0 : Int32).toInt = 0 := by decide
theorem lit_T (n : Nat) (h : n < 2 ^ 31) : (nI n).toInt = (n : Int) := nI_toInt h
/-! longs out of ints -/
theorem toL_T (x : Int32) : x.toInt64.toInt = x.toInt := Int32.toInt_toInt64 x
theorem lcmp_lt (x y : Int64) : (lg_cmp x y < 0) = (x.toInt < y.toInt) := by
  unfold lg_cmp
  by_cases h1 : x > y
  · rw [if_pos h1]
    have : y.toInt < x.toInt := Int64.lt_iff_toInt_lt.mp h1
    exact propext ⟨fun h => absurd h (by decide), fun h => by omega⟩
  · rw [if_neg h1]
    by_cases h2 : x = y
    · rw [if_pos h2, h2]
      exact propext ⟨fun h => absurd h (by decide), fun h => by omega⟩
    · rw [if_neg h2]
      refine propext ⟨fun _ => ?_, fun _ => by decide⟩
      have a1 : ¬ y.toInt < x.toInt := fun q => h1 (Int64.lt_iff_toInt_lt.mpr q)
      have a2 : x.toInt ≠ y.toInt := fun q => h2 (Int64.toInt_inj.mp q)
      omega
theorem lcmp_gt (x y : Int64) : (0 < lg_cmp x y) = (y.toInt < x.toInt) := by
  unfold lg_cmp
  by_cases h1 : x > y
  · rw [if_pos h1]
    have : y.toInt < x.toInt := Int64.lt_iff_toInt_lt.mp h1
    exact propext ⟨fun _ => this, fun _ => by decide⟩
  · rw [if_neg h1]
    have a1 : ¬ y.toInt < x.toInt := fun q => h1 (Int64.lt_iff_toInt_lt.mpr q)
    by_cases h2 : x = y
    · rw [if_pos h2]
      exact propext ⟨fun h => absurd h (by decide), fun h => absurd h a1⟩
    · rw [if_neg h2]
      exact propext ⟨fun h => absurd h (by decide), fun h => absurd h a1⟩
theorem lcmp_ge (x y : Int64) : (0 ≤ lg_cmp x y) = (y.toInt ≤ x.toInt) := by
  have h := lcmp_lt x y
  have e : (0 ≤ lg_cmp x y) = ¬ (lg_cmp x y < 0) := by
    rw [le_T, lt_T, T_0]; exact propext ⟨fun h => by omega, fun h => by omega⟩
  rw [e, h]
  exact propext ⟨fun h => by omega, fun h => by omega⟩
theorem in_T (x y z : Int64) : f_X7_in x y z = if y.toInt ≤ x.toInt ∧ x.toInt ≤ z.toInt then 1 else 0 := by
  unfold f_X7_in
  simp only [lcmp_lt, lcmp_gt]
  by_cases h1 : x.toInt < y.toInt
  · rw [if_pos h1, if_neg (by omega)]
  · rw [if_neg h1]
    by_cases h2 : z.toInt < x.toInt
    · rw [if_pos h2, if_neg (by omega)]
    · rw [if_neg h2, if_pos (by omega)]
theorem in_0 (x y z : Int64) : (f_X7_in x y z = 0) = ¬ (y.toInt ≤ x.toInt ∧ x.toInt ≤ z.toInt) := by
  rw [in_T]
  by_cases h : y.toInt ≤ x.toInt ∧ x.toInt ≤ z.toInt
  · rw [if_pos h]; exact propext ⟨fun q => absurd q (by decide), fun q => absurd h q⟩
  · rw [if_neg h]; exact propext ⟨fun _ => h, fun _ => rfl⟩
/-! ===== sets as numbers ===== -/
theorem nI_testBit {n i : Nat} (h : i < 32) : bt (nI n) i = n.testBit i := by
  unfold bt
  show (Int32.ofNat n).toBitVec.getLsbD i = _
  rw [show (Int32.ofNat n).toBitVec = BitVec.ofNat 32 n from rfl, BitVec.getLsbD_ofNat]
  simp [h]
theorem nI_and (a b : Nat) : nI a &&& nI b = nI (a &&& b) := fa_and a b
theorem nI_or (a b : Nat) : nI a ||| nI b = nI (a ||| b) := fa_or a b
theorem isl_1 {n : Nat} (h : n < 31) : isl 1 (nI n) = nI (2 ^ n) := by
  unfold isl
  have := pk_shlN (n := 1) (nI n &&& 31) n (s_l n (by omega)) (by
    have : 2 ^ n ≤ 2 ^ 31 := Nat.pow_le_pow_right (by decide) (by omega)
    omega)
  rw [Nat.one_mul] at this
  exact this
theorem isr_n {n k : Nat} (hn : n < 2 ^ 31) (h : k < 31) : isr (nI n) (nI k) = nI (n / 2 ^ k) := by
  unfold isr
  exact pk_shrN hn (nI k &&& 31) k (s_l k (by omega))
theorem bit_1 {n k : Nat} (hn : n < 2 ^ 31) (h : k < 31) : isr (nI n) (nI k) &&& 1 = nI (if n.testBit k then 1 else 0) := by
  rw [isr_n hn h, show (1 : Int32) = nI 1 from rfl, nI_and, Nat.and_one_is_mod]
  congr 1
  rw [Nat.testBit_eq_decide_div_mod_eq]
  have := Nat.mod_two_eq_zero_or_one (n / 2 ^ k)
  rcases this with h | h <;> simp [h]
theorem has_M {n k : Nat} (hn : n < 2 ^ 31) (h : k < 31) : f_X7_has (nI n) (nI k) = nI (if n.testBit k then 1 else 0) := by
  unfold f_X7_has
  rw [bit_1 hn h]
  cases n.testBit k <;> decide
theorem has_C {n k : Nat} (hn : n < 2 ^ 31) (h : k < 31) : f_X6_has (nI n) (nI k) = nI (if n.testBit k then 1 else 0) := by
  unfold f_X6_has
  rw [bit_1 hn h]
  cases n.testBit k <;> decide
theorem has_M0 {n k : Nat} (hn : n < 2 ^ 31) (h : k < 31) : (f_X7_has (nI n) (nI k) = 0) = (n.testBit k = false) := by
  rw [has_M hn h]
  cases n.testBit k <;> decide
theorem has_C0 {n k : Nat} (hn : n < 2 ^ 31) (h : k < 31) : (f_X6_has (nI n) (nI k) = 0) = (n.testBit k = false) := by
  rw [has_C hn h]
  cases n.testBit k <;> decide
/-- a without b -/
def andn (a b : Nat) : Nat := a ^^^ (a &&& b)
theorem andn_bit (a b i : Nat) : (andn a b).testBit i = (a.testBit i && !b.testBit i) := by
  unfold andn
  rw [Nat.testBit_xor, Nat.testBit_and]
  cases a.testBit i <;> cases b.testBit i <;> rfl
theorem andn_le (a b : Nat) : andn a b ≤ a := Nat.le_of_testBit (fun i h => by
  rw [andn_bit] at h
  simp only [Bool.and_eq_true] at h
  exact h.1)
theorem nI_andn (a b : Nat) : nI a &&& (nI b ^^^ (-1)) = nI (andn a b) := by
  apply b_ext
  intro i hi
  rw [b_and, b_xor, b_m1 i hi, nI_testBit hi, nI_testBit hi, nI_testBit hi, andn_bit]
  cases a.testBit i <;> cases b.testBit i <;> rfl
/-- the set of those below n that have P -/
def bsN (P : Nat → Bool) : Nat → Nat
  | 0 => 0
  | n + 1 => bsN P n ||| (if P n then 2 ^ n else 0)
theorem bsN_bit (P : Nat → Bool) : ∀ (n i : Nat), (bsN P n).testBit i = (decide (i < n) && P i)
  | 0, i => by simp [bsN]
  | n + 1, i => by
    rw [bsN, Nat.testBit_or, bsN_bit P n i]
    by_cases h : i = n
    · subst h
      cases hp : P i
      · simp
      · simp [Nat.testBit_two_pow_self]
    · have e : (if P n then 2 ^ n else 0).testBit i = false := by
        cases P n
        · simp
        · simp [Nat.testBit_two_pow_of_ne (Ne.symm h)]
      rw [e, Bool.or_false]
      have : decide (i < n) = decide (i < n + 1) := by
        by_cases q : i < n
        · simp [q, Nat.lt_succ_of_lt q]
        · have : ¬ i < n + 1 := by omega
          simp [q, this]
      rw [this]
theorem bsN_lt (P : Nat → Bool) (n : Nat) : bsN P n < 2 ^ n := Nat.lt_pow_two_of_testBit _ (fun i h => by
  rw [bsN_bit]
  have : ¬ i < n := by omega
  simp [this])
theorem bsN_cong {P Q : Nat → Bool} : ∀ {n : Nat}, (∀ i, i < n → P i = Q i) → bsN P n = bsN Q n
  | 0, _ => rfl
  | n + 1, h => by rw [bsN, bsN, bsN_cong (fun i hi => h i (by omega)), h n (by omega)]
theorem bsN_step (P : Nat → Bool) {n : Nat} (h : n < 31) : nI (bsN P n) ||| (if P n then isl 1 (nI n) else 0) = nI (bsN P (n + 1)) := by
  rw [bsN, ← nI_or]
  cases P n
  · rfl
  · simp [isl_1 h]
theorem bsN_t (P : Nat → Bool) {n : Nat} (h : n < 31) (hp : P n = true) : nI (bsN P n) ||| isl 1 (nI n) = nI (bsN P (n + 1)) := by
  have := bsN_step P h
  rw [hp] at this
  exact this
theorem bsN_f (P : Nat → Bool) {n : Nat} (hp : P n = false) : bsN P (n + 1) = bsN P n := by
  rw [bsN, hp]
  simp
theorem bsN_0 (P : Nat → Bool) (n : Nat) : bsN P n = 0 ↔ ∀ i, i < n → P i = false := by
  constructor
  · intro h i hi
    have := bsN_bit P n i
    rw [h] at this
    simp [hi] at this
    exact this
  · intro h
    apply Nat.eq_of_testBit_eq
    intro i
    rw [bsN_bit]
    by_cases hi : i < n
    · simp [h i hi]
    · simp [hi]
theorem p31 {n k : Nat} (h : n < 2 ^ k) (hk : k ≤ 31) : n < 2 ^ 31 := Nat.lt_of_lt_of_le h (Nat.pow_le_pow_right (by decide) hk)
theorem fu (n : Nat) (h : n < 100000) : ∃ m, FU = n + m + 1 := ⟨FU - n - 1, by unfold FU; omega⟩
theorem ok2 {i N : Nat} (h : i < N) (hN : i < 2 ^ 31) : (nI i < 0 ∨ N ≤ i) = False := eq_false (fun q => by
  rcases q with q | q
  · exact nI_pos hN q
  · omega)
