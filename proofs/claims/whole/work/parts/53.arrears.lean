theorem owed_M {a : Nat → Nat → Nat} {μ : St} (I : Inv a) (h : MA a (ul μ)) {i n : Nat} (hi : i < a 1 0) (hn : n < a 8 0) : f_X7_isOwed μ (nI i) (nI n) = some (nI (if owB a i n then 1 else 0)) := by
  have h10 := I.gs
  have h12 := I.ps
  obtain ⟨hk, hp, hy⟩ := I.gr i hi
  obtain ⟨hny, hna, hnb, hns⟩ := I.nw n hn
  have hsb := I.sb n hn
  have hD : (nI (a 9 n) - nI (a 4 i)).toInt = (a 9 n : Int) - a 4 i := pk_sub_toInt (by omega) (by omega)
  have e8 : (8 : Int64).toInt = 8 := by decide
  have e0 : (0 : Int64).toInt = 0 := by decide
  unfold f_X7_isOwed f_X7_isOwed_b32 f_X7_isOwed_b143
  simp only [ok2 (show i < 10 by omega) (show i < 2 ^ 31 by omega), if_false, ok2 (show n < 12 by omega) (show n < 2 ^ 31 by omega), ix_nI (show i < 2 ^ 31 by omega), ix_nI (show n < 2 ^ 31 by omega), mL_nb h n hn, mL_ny h n hn, mL_ye h i hi, mL_ki h i hi, mL_sh h, has_M0 (show a 11 n < 2 ^ 31 by omega) (show i < 31 by omega), has_M0 (show a 18 0 < 2 ^ 31 by have := I.sh; omega) (show n < 31 by omega), sq]
  have dz : (nI (a 9 n) - nI (a 4 i) = 0) = (a 9 n = a 4 i) := propext ⟨fun q => by have := congrArg Int32.toInt q; rw [hD, T_0] at this; omega, fun q => Int32.toInt_inj.mp (by rw [hD, T_0]; omega)⟩
  have dp : f_X7_in (nI (a 9 n) - nI (a 4 i)).toInt64 0 8 = nI (if (decide (a 4 i ≤ a 9 n) && decide (a 9 n ≤ a 4 i + 8)) then 1 else 0) := by
    rw [in_T, toL_T, hD, e8, e0]
    by_cases q1 : a 4 i ≤ a 9 n
    · by_cases q2 : a 9 n ≤ a 4 i + 8
      · rw [if_pos (by omega)]; simp [q1, q2]; rfl
      · rw [if_neg (by omega)]; simp [q1, q2]; rfl
    · rw [if_neg (by omega)]; simp [q1]; rfl
  simp only [dz, dp, hsb, b01, show ((2 : Int32) = nI 2) from rfl, show ((3 : Int32) = nI 3) from rfl, show ((4 : Int32) = nI 4) from rfl, show ((5 : Int32) = nI 5) from rfl, show ((1 : Int32) = nI 1) from rfl, nI_eqE (b := 2) (show a 2 i < 2 ^ 31 by omega) (by decide), nI_eqE (b := 3) (show a 2 i < 2 ^ 31 by omega) (by decide), nI_eqE (b := 4) (show a 2 i < 2 ^ 31 by omega) (by decide), nI_eqE (b := 5) (show a 2 i < 2 ^ 31 by omega) (by decide)]
  have z10 : (nI 1 = 0) = False := eq_false (by decide)
  unfold owB
  rcases (show a 2 i = 0 ∨ a 2 i = 1 ∨ a 2 i = 2 ∨ a 2 i = 3 ∨ a 2 i = 4 ∨ a 2 i = 5 by omega) with e | e | e | e | e | e <;> simp only [e]
  all_goals
    cases hb : (a 11 n).testBit i <;>
    by_cases q1 : a 4 i ≤ a 9 n <;> by_cases q8 : a 9 n ≤ a 4 i + 8 <;> by_cases qz : a 9 n = a 4 i <;> by_cases qs : a 12 n = 1 <;>
    first
      | (exfalso; omega)
      | simp [q1, q8, qz, qs, nI_0, z10]
def owedN (a : Nat → Nat → Nat) (i : Nat) : Nat := bsN (owB a i) (a 8 0)
def arB (a : Nat → Nat → Nat) (i n : Nat) : Bool := owB a i n && !(a 5 i).testBit n
def arrN (a : Nat → Nat → Nat) (i : Nat) : Nat := bsN (arB a i) (a 8 0)
theorem bs12 {a : Nat → Nat → Nat} (I : Inv a) (P : Nat → Bool) : bsN P (a 8 0) < 4096 := Nat.lt_of_lt_of_le (bsN_lt _ _) (Nat.pow_le_pow_right (n := 2) (by decide) I.ps)
theorem bs10 {a : Nat → Nat → Nat} (I : Inv a) (P : Nat → Bool) : bsN P (a 1 0) < 1024 := Nat.lt_of_lt_of_le (bsN_lt _ _) (Nat.pow_le_pow_right (n := 2) (by decide) I.gs)
theorem or_z (n : Nat) : nI n ||| 0 = nI n := by rw [show (0 : Int32) = nI 0 from rfl, nI_or, Nat.or_zero]
theorem owedTo_M {a : Nat → Nat → Nat} {μ : St} (I : Inv a) (h : MA a (ul μ)) {i : Nat} (hi : i < a 1 0) : f_X7_owedTo μ (nI i) = some (nI (owedN a i)) := by
  have h12 := I.ps
  have key : ∀ (k n m : Nat), n + k = a 8 0 → k < m → f_X7_owedTo_h4 μ (nI i) m (nI (bsN (owB a i) n)) (nI n) = some (nI (owedN a i)) := by
    intro k
    induction k with
    | zero =>
      intro n m h1 h2
      obtain ⟨m, rfl⟩ : ∃ m', m = m' + 1 := ⟨m - 1, by omega⟩
      rw [f_X7_owedTo_h4, mL_ps h, if_pos (by rw [nI_leE (by omega) (by omega)]; omega)]
      have : n = a 8 0 := by omega
      subst this
      rfl
    | succ k ih =>
      intro n m h1 h2
      obtain ⟨m, rfl⟩ : ∃ m', m = m' + 1 := ⟨m - 1, by omega⟩
      rw [f_X7_owedTo_h4, mL_ps h, if_neg (by rw [nI_leE (by omega) (by omega)]; omega)]
      simp only [owed_M I h hi (show n < a 8 0 by omega), bdr, f_X7_owedTo_b29, sq, b01, nI_s]
      cases hb : owB a i n
      · rw [if_pos rfl, or_z]
        have e := ih (n + 1) m (by omega) (by omega)
        rw [bsN_f _ hb] at e
        exact e
      · rw [if_neg (by decide), bsN_t _ (by omega) hb]
        exact ih (n + 1) m (by omega) (by omega)
  exact key (a 8 0) 0 FU (by omega) (by unfold FU; omega)
theorem andn_bs (P Q : Nat → Bool) (n y : Nat) (h : ∀ i, i < n → Q i = (P i && !y.testBit i)) : andn (bsN P n) y = bsN Q n := by
  apply Nat.eq_of_testBit_eq
  intro i
  rw [andn_bit, bsN_bit, bsN_bit]
  by_cases hi : i < n
  · simp [hi, h i hi]
  · simp [hi]
theorem arrears_M {a : Nat → Nat → Nat} {μ : St} (I : Inv a) (h : MA a (ul μ)) {i : Nat} (hi : i < a 1 0) : f_X7_arrears μ (nI i) = some (nI (arrN a i)) := by
  have h10 := I.gs
  unfold f_X7_arrears
  simp only [owedTo_M I h hi, bdr, nI_z, ix_nI (show i < 2 ^ 31 by omega), ok2 (show i < 141 by omega) (show i < 2 ^ 31 by omega), if_false, mL_he h i (by omega), nI_andn]
  congr 2
  exact andn_bs _ _ _ _ (fun n _ => rfl)
theorem owedAmong_C {a : Nat → Nat → Nat} {σ : St} (I : Inv a) (h : CA a (vw σ 1)) {i s : Nat} (hi : i < a 1 0) (hs : s < 2 ^ 31) : f_X3_owedAmong σ (nI i) (nI s) = some (nI (bsN (fun n => s.testBit n && owB a i n) (a 8 0))) := by
  have h12 := I.ps
  have key : ∀ (k n m : Nat), n + k = a 8 0 → k < m → f_X3_owedAmong_h5 σ (nI i) (nI s) m (nI (bsN (fun n => s.testBit n && owB a i n) n)) (nI n) = some (nI (bsN (fun n => s.testBit n && owB a i n) (a 8 0))) := by
    intro k
    induction k with
    | zero =>
      intro n m h1 h2
      obtain ⟨m, rfl⟩ : ∃ m', m = m' + 1 := ⟨m - 1, by omega⟩
      rw [f_X3_owedAmong_h5, cL_ps h, if_pos (by rw [nI_leE (by omega) (by omega)]; omega)]
      have : n = a 8 0 := by omega
      subst this
      rfl
    | succ k ih =>
      intro n m h1 h2
      obtain ⟨m, rfl⟩ : ∃ m', m = m' + 1 := ⟨m - 1, by omega⟩
      rw [f_X3_owedAmong_h5, cL_ps h, if_neg (by rw [nI_leE (by omega) (by omega)]; omega)]
      simp only [owed_C I h hi (show n < a 8 0 by omega), bdr, sq, b01, nI_s, has_C0 hs (show n < 31 by omega)]
      have e := ih (n + 1) m (by omega) (by omega)
      cases hs1 : s.testBit n
      · rw [if_pos rfl]
        rw [bsN_f _ (by simp [hs1])] at e
        exact e
      · rw [if_neg (by decide)]
        cases hb : owB a i n
        · rw [if_pos rfl]
          rw [bsN_f _ (by simp [hb])] at e
          exact e
        · rw [if_neg (by decide), bsN_t _ (by omega) (by simp [hs1, hb])]
          exact e
  exact key (a 8 0) 0 FU (by omega) (by unfold FU; omega)
theorem full_n {p : Nat} (h : p ≤ 12) : isl 1 (nI p) - 1 = nI (2 ^ p - 1) := by
  rw [isl_1 (by omega), show (1 : Int32) = nI 1 from rfl, nI_m Nat.one_le_two_pow]
theorem full_bit (p n : Nat) (h : n < p) : (2 ^ p - 1).testBit n = true := by rw [Nat.testBit_two_pow_sub_one]; simp [h]
theorem full_lt {p : Nat} (h : p ≤ 12) : 2 ^ p - 1 < 4096 := by
  have : 2 ^ p ≤ 2 ^ 12 := Nat.pow_le_pow_right (by decide) h
  omega
theorem owedTo_C {a : Nat → Nat → Nat} {σ : St} (I : Inv a) (h : CA a (vw σ 1)) {i : Nat} (hi : i < a 1 0) : f_X3_owedTo σ (nI i) = some (nI (owedN a i)) := by
  unfold f_X3_owedTo
  have hf := full_lt I.ps
  rw [cL_ps h, full_n I.ps, owedAmong_C I h hi (by omega)]
  simp only [bdr]
  congr 2
  exact bsN_cong (fun n hn => by simp [full_bit _ _ hn])
theorem arrears_C {a : Nat → Nat → Nat} {σ : St} (I : Inv a) (h : CA a (vw σ 1)) {i : Nat} (hi : i < a 1 0) : f_X3_arrearsOf σ (nI i) = some (nI (arrN a i)) := by
  unfold f_X3_arrearsOf
  have h10 := I.gs
  have hf := full_lt I.ps
  have hle := andn_le (2 ^ a 8 0 - 1) (a 5 i)
  simp only [cL_ps h, full_n I.ps, ix_nI (show i < 2 ^ 31 by omega), ok2 (show i < 10 by omega) (show i < 2 ^ 31 by omega), if_false, cL_he h i hi, nI_andn]
  rw [owedAmong_C I h hi (by omega)]
  simp only [bdr]
  congr 2
  refine bsN_cong (fun n hn => ?_)
  unfold arB
  rw [andn_bit, full_bit _ _ hn]
  cases owB a i n <;> simp
def anyR (P : Nat → Bool) : Nat → Nat → Bool
  | _, 0 => false
  | i, k + 1 => P i || anyR P (i + 1) k
theorem anyR_s (P : Nat → Bool) (i k : Nat) : anyR P i (k + 1) = (P i || anyR P (i + 1) k) := rfl
def ltB (a : Nat → Nat → Nat) (i n : Nat) : Bool := arB a i n && decide (a 9 n + 9 ≤ a 0 6)
def lateB (a : Nat → Nat → Nat) (i : Nat) : Bool := anyR (ltB a i) 0 (a 8 0)
theorem arr_bit {a : Nat → Nat → Nat} {i n : Nat} (hn : n < a 8 0) : (arrN a i).testBit n = arB a i n := by
  unfold arrN
  rw [bsN_bit]
  simp [hn]
theorem late_C {a : Nat → Nat → Nat} {σ : St} (I : Inv a) (h : CA a (vw σ 1)) {i : Nat} (hi : i < a 1 0) : f_X3_isLate σ (nI i) = some (nI (if lateB a i then 1 else 0)) := by
  have h12 := I.ps
  have hno := I.no
  have hA := bs12 I (arB a i)
  have key : ∀ (k n m : Nat), n + k = a 8 0 → k < m → f_X3_isLate_h8 σ (nI i) m (nI (arrN a i)) (nI n) = some (nI (if anyR (ltB a i) n k then 1 else 0)) := by
    intro k
    induction k with
    | zero =>
      intro n m h1 h2
      obtain ⟨m, rfl⟩ : ∃ m', m = m' + 1 := ⟨m - 1, by omega⟩
      rw [f_X3_isLate_h8, cL_ps h, if_pos (by rw [nI_leE (by omega) (by omega)]; omega)]
      rfl
    | succ k ih =>
      intro n m h1 h2
      obtain ⟨m, rfl⟩ : ∃ m', m = m' + 1 := ⟨m - 1, by omega⟩
      have hn : n < a 8 0 := by omega
      obtain ⟨hny, -⟩ := I.nw n hn
      have hD : (nI (a 0 6) - nI (a 9 n)).toInt = (a 0 6 : Int) - a 9 n := pk_sub_toInt (by omega) (by omega)
      have d9 : (nI (a 0 6) - nI (a 9 n) < 9) = ¬ (a 9 n + 9 ≤ a 0 6) := by rw [lt_T, hD, show (9 : Int32).toInt = 9 by decide]; exact propext ⟨fun q => by omega, fun q => by omega⟩
      rw [f_X3_isLate_h8, cL_ps h, if_neg (by rw [nI_leE (by omega) (by omega)]; omega)]
      simp only [sq, nI_s, has_C0 (show arrN a i < 2 ^ 31 by unfold arrN; omega) (show n < 31 by omega), arr_bit hn, ix_nI (show n < 2 ^ 31 by omega), ok2 (show n < 12 by omega) (show n < 2 ^ 31 by omega), if_false, cL_no h, cL_ny h n hn, d9, ih (n + 1) m (by omega) (by omega)]
      rw [anyR_s]
      have e : ltB a i n = (arB a i n && decide (a 9 n + 9 ≤ a 0 6)) := rfl
      rw [e]
      cases arB a i n <;> by_cases q : a 9 n + 9 ≤ a 0 6 <;> simp [q] <;> rfl
  unfold f_X3_isLate
  rw [arrears_C I h hi]
  exact key (a 8 0) 0 FU (by omega) (by unfold FU; omega)
theorem late_M {a : Nat → Nat → Nat} {μ : St} (I : Inv a) (h : MA a (ul μ)) {i : Nat} (hi : i < a 1 0) : f_X7_isLate μ (nI i) = some (nI (if lateB a i then 1 else 0)) := by
  have h12 := I.ps
  have hno := I.no
  have hA := bs12 I (arB a i)
  have key : ∀ (k n m : Nat) (b : Bool), n + k = a 8 0 → k < m → f_X7_isLate_h4 μ (nI i) m (nI (if b then 1 else 0)) (nI n) = some (nI (if b || anyR (ltB a i) n k then 1 else 0)) := by
    intro k
    induction k with
    | zero =>
      intro n m b h1 h2
      obtain ⟨m, rfl⟩ : ∃ m', m = m' + 1 := ⟨m - 1, by omega⟩
      rw [f_X7_isLate_h4, mL_ps h, if_pos (by rw [nI_leE (by omega) (by omega)]; omega)]
      cases b <;> rfl
    | succ k ih =>
      intro n m b h1 h2
      obtain ⟨m, rfl⟩ : ∃ m', m = m' + 1 := ⟨m - 1, by omega⟩
      have hn : n < a 8 0 := by omega
      obtain ⟨hny, -⟩ := I.nw n hn
      have d9 : (nI (a 0 6) < nI (a 9 n) + 9) = ¬ (a 9 n + 9 ≤ a 0 6) := by
        rw [show (9 : Int32) = nI 9 from rfl, nI_k, nI_ltE (by omega) (by omega)]
        exact propext ⟨fun q => by omega, fun q => by omega⟩
      have e0 := ih (n + 1) m false (by omega) (by omega)
      have e1 := ih (n + 1) m true (by omega) (by omega)
      simp only [Bool.false_or, Bool.true_or, if_true, show (nI (if false = true then 1 else 0)) = 0 from rfl, show nI 1 = 1 from rfl] at e0 e1
      rw [f_X7_isLate_h4, mL_ps h, if_neg (by rw [nI_leE (by omega) (by omega)]; omega)]
      unfold f_X7_isLate_b44 f_X7_isLate_b48
      simp only [sq, nI_s, arrears_M I h hi, bdr, b01, has_M0 (show arrN a i < 2 ^ 31 by unfold arrN; omega) (show n < 31 by omega), arr_bit hn, ix_nI (show n < 2 ^ 31 by omega), ok2 (show n < 12 by omega) (show n < 2 ^ 31 by omega), if_false, mL_no h, mL_ny h n hn, d9, e0, e1]
      rw [anyR_s]
      have e : ltB a i n = (arB a i n && decide (a 9 n + 9 ≤ a 0 6)) := rfl
      rw [e]
      cases b <;> cases arB a i n <;> by_cases q : a 9 n + 9 ≤ a 0 6 <;> simp [q] <;> rfl
  exact key (a 8 0) 0 FU false (by omega) (by unfold FU; omega)
