def lcN (k : Nat) : Nat := if k < 10 then 1 else if k < 20 then 2 else if k < 30 then 3 else if k < 42 then 4 else if k < 54 then 5 else if k < 66 then 6 else if k < 70 then 7 else if k < 75 then 8 else if k < 216 then 9 else if k < 1626 then 10 else 0
def liN (k : Nat) : Nat := if k < 10 then k else if k < 20 then k - 10 else if k < 30 then k - 20 else if k < 42 then k - 30 else if k < 54 then k - 42 else if k < 66 then k - 54 else if k < 70 then k - 66 else if k < 75 then k - 70 else if k < 216 then k - 75 else if k < 1626 then k - 216 else if k = 1626 then 3 else if k = 1627 then 8 else if k = 1628 then 10 else if k = 1629 then 7 else if k = 1630 then 11 else if k = 1631 then 13 else if k = 1632 then 14 else 17
def ilN (c i : Nat) : Nat := if c = 1 then i else if c = 2 then 10 + i else if c = 3 then 20 + i else if c = 4 then 30 + i else if c = 5 then 42 + i else if c = 6 then 54 + i else if c = 7 then 66 + i else if c = 8 then 70 + i else if c = 9 then 75 + i else if c = 10 then 216 + i else if i = 3 then 1626 else if i = 8 then 1627 else if i = 10 then 1628 else if i = 7 then 1629 else if i = 11 then 1630 else if i = 13 then 1631 else if i = 14 then 1632 else 1633
theorem lo_0 {k : Nat} (h1 : 0 ≤ k) (h2 : k < 10) : lcN k = 1 ∧ liN k = k := by
  unfold lcN liN
  rw [if_pos (show k < 10 by omega), if_pos (show k < 10 by omega)]
  exact ⟨rfl, rfl⟩
theorem lo_10 {k : Nat} (h1 : 10 ≤ k) (h2 : k < 20) : lcN k = 2 ∧ liN k = k - 10 := by
  unfold lcN liN
  rw [if_neg (show ¬ k < 10 by omega), if_pos (show k < 20 by omega), if_neg (show ¬ k < 10 by omega), if_pos (show k < 20 by omega)]
  exact ⟨rfl, rfl⟩
theorem lo_20 {k : Nat} (h1 : 20 ≤ k) (h2 : k < 30) : lcN k = 3 ∧ liN k = k - 20 := by
  unfold lcN liN
  rw [if_neg (show ¬ k < 10 by omega), if_neg (show ¬ k < 20 by omega), if_pos (show k < 30 by omega), if_neg (show ¬ k < 10 by omega), if_neg (show ¬ k < 20 by omega), if_pos (show k < 30 by omega)]
  exact ⟨rfl, rfl⟩
theorem lo_30 {k : Nat} (h1 : 30 ≤ k) (h2 : k < 42) : lcN k = 4 ∧ liN k = k - 30 := by
  unfold lcN liN
  rw [if_neg (show ¬ k < 10 by omega), if_neg (show ¬ k < 20 by omega), if_neg (show ¬ k < 30 by omega), if_pos (show k < 42 by omega), if_neg (show ¬ k < 10 by omega), if_neg (show ¬ k < 20 by omega), if_neg (show ¬ k < 30 by omega), if_pos (show k < 42 by omega)]
  exact ⟨rfl, rfl⟩
theorem lo_42 {k : Nat} (h1 : 42 ≤ k) (h2 : k < 54) : lcN k = 5 ∧ liN k = k - 42 := by
  unfold lcN liN
  rw [if_neg (show ¬ k < 10 by omega), if_neg (show ¬ k < 20 by omega), if_neg (show ¬ k < 30 by omega), if_neg (show ¬ k < 42 by omega), if_pos (show k < 54 by omega), if_neg (show ¬ k < 10 by omega), if_neg (show ¬ k < 20 by omega), if_neg (show ¬ k < 30 by omega), if_neg (show ¬ k < 42 by omega), if_pos (show k < 54 by omega)]
  exact ⟨rfl, rfl⟩
theorem lo_54 {k : Nat} (h1 : 54 ≤ k) (h2 : k < 66) : lcN k = 6 ∧ liN k = k - 54 := by
  unfold lcN liN
  rw [if_neg (show ¬ k < 10 by omega), if_neg (show ¬ k < 20 by omega), if_neg (show ¬ k < 30 by omega), if_neg (show ¬ k < 42 by omega), if_neg (show ¬ k < 54 by omega), if_pos (show k < 66 by omega), if_neg (show ¬ k < 10 by omega), if_neg (show ¬ k < 20 by omega), if_neg (show ¬ k < 30 by omega), if_neg (show ¬ k < 42 by omega), if_neg (show ¬ k < 54 by omega), if_pos (show k < 66 by omega)]
  exact ⟨rfl, rfl⟩
theorem lo_66 {k : Nat} (h1 : 66 ≤ k) (h2 : k < 70) : lcN k = 7 ∧ liN k = k - 66 := by
  unfold lcN liN
  rw [if_neg (show ¬ k < 10 by omega), if_neg (show ¬ k < 20 by omega), if_neg (show ¬ k < 30 by omega), if_neg (show ¬ k < 42 by omega), if_neg (show ¬ k < 54 by omega), if_neg (show ¬ k < 66 by omega), if_pos (show k < 70 by omega), if_neg (show ¬ k < 10 by omega), if_neg (show ¬ k < 20 by omega), if_neg (show ¬ k < 30 by omega), if_neg (show ¬ k < 42 by omega), if_neg (show ¬ k < 54 by omega), if_neg (show ¬ k < 66 by omega), if_pos (show k < 70 by omega)]
  exact ⟨rfl, rfl⟩
theorem lo_70 {k : Nat} (h1 : 70 ≤ k) (h2 : k < 75) : lcN k = 8 ∧ liN k = k - 70 := by
  unfold lcN liN
  rw [if_neg (show ¬ k < 10 by omega), if_neg (show ¬ k < 20 by omega), if_neg (show ¬ k < 30 by omega), if_neg (show ¬ k < 42 by omega), if_neg (show ¬ k < 54 by omega), if_neg (show ¬ k < 66 by omega), if_neg (show ¬ k < 70 by omega), if_pos (show k < 75 by omega), if_neg (show ¬ k < 10 by omega), if_neg (show ¬ k < 20 by omega), if_neg (show ¬ k < 30 by omega), if_neg (show ¬ k < 42 by omega), if_neg (show ¬ k < 54 by omega), if_neg (show ¬ k < 66 by omega), if_neg (show ¬ k < 70 by omega), if_pos (show k < 75 by omega)]
  exact ⟨rfl, rfl⟩
theorem lo_75 {k : Nat} (h1 : 75 ≤ k) (h2 : k < 216) : lcN k = 9 ∧ liN k = k - 75 := by
  unfold lcN liN
  rw [if_neg (show ¬ k < 10 by omega), if_neg (show ¬ k < 20 by omega), if_neg (show ¬ k < 30 by omega), if_neg (show ¬ k < 42 by omega), if_neg (show ¬ k < 54 by omega), if_neg (show ¬ k < 66 by omega), if_neg (show ¬ k < 70 by omega), if_neg (show ¬ k < 75 by omega), if_pos (show k < 216 by omega), if_neg (show ¬ k < 10 by omega), if_neg (show ¬ k < 20 by omega), if_neg (show ¬ k < 30 by omega), if_neg (show ¬ k < 42 by omega), if_neg (show ¬ k < 54 by omega), if_neg (show ¬ k < 66 by omega), if_neg (show ¬ k < 70 by omega), if_neg (show ¬ k < 75 by omega), if_pos (show k < 216 by omega)]
  exact ⟨rfl, rfl⟩
theorem lo_216 {k : Nat} (h1 : 216 ≤ k) (h2 : k < 1626) : lcN k = 10 ∧ liN k = k - 216 := by
  unfold lcN liN
  rw [if_neg (show ¬ k < 10 by omega), if_neg (show ¬ k < 20 by omega), if_neg (show ¬ k < 30 by omega), if_neg (show ¬ k < 42 by omega), if_neg (show ¬ k < 54 by omega), if_neg (show ¬ k < 66 by omega), if_neg (show ¬ k < 70 by omega), if_neg (show ¬ k < 75 by omega), if_neg (show ¬ k < 216 by omega), if_pos (show k < 1626 by omega), if_neg (show ¬ k < 10 by omega), if_neg (show ¬ k < 20 by omega), if_neg (show ¬ k < 30 by omega), if_neg (show ¬ k < 42 by omega), if_neg (show ¬ k < 54 by omega), if_neg (show ¬ k < 66 by omega), if_neg (show ¬ k < 70 by omega), if_neg (show ¬ k < 75 by omega), if_neg (show ¬ k < 216 by omega), if_pos (show k < 1626 by omega)]
  exact ⟨rfl, rfl⟩
theorem li_4 : (4 : Int32) = nI 4 := rfl
theorem li_10 : (10 : Int32) = nI 10 := rfl
theorem li_12 : (12 : Int32) = nI 12 := rfl
theorem li_20 : (20 : Int32) = nI 20 := rfl
theorem li_30 : (30 : Int32) = nI 30 := rfl
theorem li_66 : (66 : Int32) = nI 66 := rfl
theorem li_75 : (75 : Int32) = nI 75 := rfl
theorem li_216 : (216 : Int32) = nI 216 := rfl
theorem li_1626 : (1626 : Int32) = nI 1626 := rfl
theorem li_1627 : (1627 : Int32) = nI 1627 := rfl
theorem li_1628 : (1628 : Int32) = nI 1628 := rfl
theorem li_1629 : (1629 : Int32) = nI 1629 := rfl
theorem li_1630 : (1630 : Int32) = nI 1630 := rfl
theorem li_1631 : (1631 : Int32) = nI 1631 := rfl
theorem li_1632 : (1632 : Int32) = nI 1632 := rfl
theorem li_1633 : (1633 : Int32) = nI 1633 := rfl
theorem il_lo : ∀ {k : Nat}, k < 1634 → ilN (lcN k) (liN k) = k := by
  intro k hk
  by_cases h10 : k < 10
  · rw [(lo_0 (by omega) h10).1, (lo_0 (by omega) h10).2]
    unfold ilN
    rw [if_pos rfl]
  by_cases h20 : k < 20
  · rw [(lo_10 (by omega) h20).1, (lo_10 (by omega) h20).2]
    unfold ilN
    rw [if_neg (by decide), if_pos rfl]
    omega
  by_cases h30 : k < 30
  · rw [(lo_20 (by omega) h30).1, (lo_20 (by omega) h30).2]
    unfold ilN
    rw [if_neg (by decide), if_neg (by decide), if_pos rfl]
    omega
  by_cases h42 : k < 42
  · rw [(lo_30 (by omega) h42).1, (lo_30 (by omega) h42).2]
    unfold ilN
    rw [if_neg (by decide), if_neg (by decide), if_neg (by decide), if_pos rfl]
    omega
  by_cases h54 : k < 54
  · rw [(lo_42 (by omega) h54).1, (lo_42 (by omega) h54).2]
    unfold ilN
    rw [if_neg (by decide), if_neg (by decide), if_neg (by decide), if_neg (by decide), if_pos rfl]
    omega
  by_cases h66 : k < 66
  · rw [(lo_54 (by omega) h66).1, (lo_54 (by omega) h66).2]
    unfold ilN
    rw [if_neg (by decide), if_neg (by decide), if_neg (by decide), if_neg (by decide), if_neg (by decide), if_pos rfl]
    omega
  by_cases h70 : k < 70
  · rw [(lo_66 (by omega) h70).1, (lo_66 (by omega) h70).2]
    unfold ilN
    rw [if_neg (by decide), if_neg (by decide), if_neg (by decide), if_neg (by decide), if_neg (by decide), if_neg (by decide), if_pos rfl]
    omega
  by_cases h75 : k < 75
  · rw [(lo_70 (by omega) h75).1, (lo_70 (by omega) h75).2]
    unfold ilN
    rw [if_neg (by decide), if_neg (by decide), if_neg (by decide), if_neg (by decide), if_neg (by decide), if_neg (by decide), if_neg (by decide), if_pos rfl]
    omega
  by_cases h216 : k < 216
  · rw [(lo_75 (by omega) h216).1, (lo_75 (by omega) h216).2]
    unfold ilN
    rw [if_neg (by decide), if_neg (by decide), if_neg (by decide), if_neg (by decide), if_neg (by decide), if_neg (by decide), if_neg (by decide), if_neg (by decide), if_pos rfl]
    omega
  by_cases h1626 : k < 1626
  · rw [(lo_216 (by omega) h1626).1, (lo_216 (by omega) h1626).2]
    unfold ilN
    rw [if_neg (by decide), if_neg (by decide), if_neg (by decide), if_neg (by decide), if_neg (by decide), if_neg (by decide), if_neg (by decide), if_neg (by decide), if_neg (by decide), if_pos rfl]
    omega
  have e : k = 1626 ∨ k = 1627 ∨ k = 1628 ∨ k = 1629 ∨ k = 1630 ∨ k = 1631 ∨ k = 1632 ∨ k = 1633 := by omega
  rcases e with e | e | e | e | e | e | e | e <;> subst e <;> decide
theorem lo_inj {p q : Nat} (hp : p < 1634) (hq : q < 1634) (h1 : lcN p = lcN q) (h2 : liN p = liN q) : p = q := by
  rw [← il_lo hp, ← il_lo hq, h1, h2]
theorem wr_same (μ : St) (c i : Nat) : wr μ c i (μ.1 c i) = μ := by
  unfold wr
  refine Prod.ext ?_ rfl
  funext d
  by_cases h : d = c
  · subst h
    simp only [if_true]
    exact fa_upd_same rfl
  · simp only [h, if_false]
theorem wr_at (μ : St) (c i : Nat) (x : Int32) : (wr μ c i x).1 c i = x := by rw [wr_get, if_pos rfl, if_pos rfl]
theorem leT {n k : Nat} (h : n ≤ k) (hk : k < 2 ^ 31) : (nI n ≤ nI k) = True := eq_true (by rw [nI_leE (by omega) hk]; exact h)
theorem leF {n k : Nat} (h : k < n) (hn : n < 2 ^ 31) : (nI n ≤ nI k) = False := eq_false (by rw [nI_leE hn (by omega)]; omega)
theorem ltT {n k : Nat} (h : k < n) (hn : n < 2 ^ 31) : (nI k < nI n) = True := eq_true (by rw [nI_ltE (by omega) hn]; exact h)
theorem ltF {n k : Nat} (h : n ≤ k) (hk : k < 2 ^ 31) : (nI k < nI n) = False := eq_false (by rw [nI_ltE hk (by omega)]; omega)
theorem in_19 {k : Nat} (hk : k < 2 ^ 31) : (f_X7_in (nI k).toInt64 10 19 = 0) = ¬ (10 ≤ k ∧ k ≤ 19) := by
  rw [in_0, toL_T, lit_T k hk, show (10 : Int64).toInt = 10 by decide, show (19 : Int64).toInt = 19 by decide]
  exact propext ⟨fun h => by omega, fun h => by omega⟩
theorem n10 : ((1 : Int32) = 0) = False := eq_false (by decide)
theorem cf_0 {k : Nat} (h1 : 0 ≤ k) (h2 : k < 10) (μ : St) (v : Int32) : f_X7_carried μ (nI k) v 0 = some (μ.1 1 (k), μ) := by
  have e : irm (nI k) (nI 10) = nI (k) := by rw [irm_n (by omega) (by decide) (by decide), show k % 10 = k by omega]
  unfold f_X7_carried
  simp only [li_30, leF (n := 30) (k := k) (by omega) (by omega), li_10, leF (n := 10) (k := k) (by omega) (by omega), li_20, leF (n := 20) (k := k) (by omega) (by omega), ltT (n := 20) (k := k) (by omega) (by omega), e, ix_nI (show k < 2 ^ 31 by omega), ok2 (show k < 10 by omega) (show k < 2 ^ 31 by omega), ↓reduceIte, if_true, if_false, sq, n10, wr_same, wr_at, f_X7_carried_b32, f_X7_carried_b39, f_X7_carried_b68, f_X7_carried_b75, f_X7_carried_b96, f_X7_carried_b103, in_19 (show k < 2 ^ 31 by omega)]
theorem ct_0 {k : Nat} (h1 : 0 ≤ k) (h2 : k < 10) (μ : St) (v : Int32) : f_X7_carried μ (nI k) v 1 = some (v, wr μ 1 (k) v) := by
  have e : irm (nI k) (nI 10) = nI (k) := by rw [irm_n (by omega) (by decide) (by decide), show k % 10 = k by omega]
  unfold f_X7_carried
  simp only [li_30, leF (n := 30) (k := k) (by omega) (by omega), li_10, leF (n := 10) (k := k) (by omega) (by omega), li_20, leF (n := 20) (k := k) (by omega) (by omega), ltT (n := 20) (k := k) (by omega) (by omega), e, ix_nI (show k < 2 ^ 31 by omega), ok2 (show k < 10 by omega) (show k < 2 ^ 31 by omega), ↓reduceIte, if_true, if_false, sq, n10, wr_same, wr_at, f_X7_carried_b32, f_X7_carried_b39, f_X7_carried_b68, f_X7_carried_b75, f_X7_carried_b96, f_X7_carried_b103, in_19 (show k < 2 ^ 31 by omega)]
  rw [if_pos (show ¬ (10 ≤ k ∧ k ≤ 19) by omega)]
  try simp only [wr_same, wr_at]
theorem cf_10 {k : Nat} (h1 : 10 ≤ k) (h2 : k < 20) (μ : St) (v : Int32) : f_X7_carried μ (nI k) v 0 = some (μ.1 2 (k - 10), μ) := by
  have e : irm (nI k) (nI 10) = nI (k - 10) := by rw [irm_n (by omega) (by decide) (by decide), show k % 10 = k - 10 by omega]
  unfold f_X7_carried
  simp only [li_30, leF (n := 30) (k := k) (by omega) (by omega), li_10, leT (n := 10) (k := k) (by omega) (by omega), li_20, leF (n := 20) (k := k) (by omega) (by omega), ltT (n := 20) (k := k) (by omega) (by omega), e, ix_nI (show k - 10 < 2 ^ 31 by omega), ok2 (show k - 10 < 10 by omega) (show k - 10 < 2 ^ 31 by omega), ↓reduceIte, if_true, if_false, sq, n10, wr_same, wr_at, f_X7_carried_b32, f_X7_carried_b39, f_X7_carried_b68, f_X7_carried_b75, f_X7_carried_b96, f_X7_carried_b103, in_19 (show k < 2 ^ 31 by omega)]
theorem ct_10 {k : Nat} (h1 : 10 ≤ k) (h2 : k < 20) (μ : St) (v : Int32) : f_X7_carried μ (nI k) v 1 = some (v, wr μ 2 (k - 10) v) := by
  have e : irm (nI k) (nI 10) = nI (k - 10) := by rw [irm_n (by omega) (by decide) (by decide), show k % 10 = k - 10 by omega]
  unfold f_X7_carried
  simp only [li_30, leF (n := 30) (k := k) (by omega) (by omega), li_10, leT (n := 10) (k := k) (by omega) (by omega), li_20, leF (n := 20) (k := k) (by omega) (by omega), ltT (n := 20) (k := k) (by omega) (by omega), e, ix_nI (show k - 10 < 2 ^ 31 by omega), ok2 (show k - 10 < 10 by omega) (show k - 10 < 2 ^ 31 by omega), ↓reduceIte, if_true, if_false, sq, n10, wr_same, wr_at, f_X7_carried_b32, f_X7_carried_b39, f_X7_carried_b68, f_X7_carried_b75, f_X7_carried_b96, f_X7_carried_b103, in_19 (show k < 2 ^ 31 by omega)]
  rw [if_neg (show ¬ ¬ (10 ≤ k ∧ k ≤ 19) by omega)]
  try simp only [wr_same, wr_at]
theorem cf_20 {k : Nat} (h1 : 20 ≤ k) (h2 : k < 30) (μ : St) (v : Int32) : f_X7_carried μ (nI k) v 0 = some (μ.1 3 (k - 20), μ) := by
  have e : irm (nI k) (nI 10) = nI (k - 20) := by rw [irm_n (by omega) (by decide) (by decide), show k % 10 = k - 20 by omega]
  unfold f_X7_carried
  simp only [li_30, leF (n := 30) (k := k) (by omega) (by omega), li_10, leT (n := 10) (k := k) (by omega) (by omega), li_20, leT (n := 20) (k := k) (by omega) (by omega), ltF (n := 20) (k := k) (by omega) (by omega), e, ix_nI (show k - 20 < 2 ^ 31 by omega), ok2 (show k - 20 < 10 by omega) (show k - 20 < 2 ^ 31 by omega), ↓reduceIte, if_true, if_false, sq, n10, wr_same, wr_at, f_X7_carried_b32, f_X7_carried_b39, f_X7_carried_b68, f_X7_carried_b75, f_X7_carried_b96, f_X7_carried_b103, in_19 (show k < 2 ^ 31 by omega)]
theorem ct_20 {k : Nat} (h1 : 20 ≤ k) (h2 : k < 30) (μ : St) (v : Int32) : f_X7_carried μ (nI k) v 1 = some (v, wr μ 3 (k - 20) v) := by
  have e : irm (nI k) (nI 10) = nI (k - 20) := by rw [irm_n (by omega) (by decide) (by decide), show k % 10 = k - 20 by omega]
  unfold f_X7_carried
  simp only [li_30, leF (n := 30) (k := k) (by omega) (by omega), li_10, leT (n := 10) (k := k) (by omega) (by omega), li_20, leT (n := 20) (k := k) (by omega) (by omega), ltF (n := 20) (k := k) (by omega) (by omega), e, ix_nI (show k - 20 < 2 ^ 31 by omega), ok2 (show k - 20 < 10 by omega) (show k - 20 < 2 ^ 31 by omega), ↓reduceIte, if_true, if_false, sq, n10, wr_same, wr_at, f_X7_carried_b32, f_X7_carried_b39, f_X7_carried_b68, f_X7_carried_b75, f_X7_carried_b96, f_X7_carried_b103, in_19 (show k < 2 ^ 31 by omega)]
  rw [if_pos (show ¬ (10 ≤ k ∧ k ≤ 19) by omega)]
  try simp only [wr_same, wr_at]
theorem cf_30 {k : Nat} (h1 : 30 ≤ k) (h2 : k < 42) (μ : St) (v : Int32) : f_X7_carried μ (nI k) v 0 = some (μ.1 4 (k - 30), μ) := by
  have e0 : nI k - nI 30 = nI (k - 30) := nI_m (a := k) (b := 30) (by omega)
  have e : irm (nI (k - 30)) 12 = nI (k - 30) := by rw [show (12 : Int32) = nI 12 from rfl, irm_n (by omega) (by decide) (by decide), show (k - 30) % 12 = k - 30 by omega]
  have e1 : nI (k - 30) / 12 = 0 := by rw [show (12 : Int32) = nI 12 from rfl, pk_div (by omega) (by decide) (by decide), show (k - 30) / 12 = 0 by omega]; rfl
  unfold f_X7_carried
  simp only [li_30, leT (n := 30) (k := k) (by omega) (by omega), li_66, leF (n := 66) (k := k) (by omega) (by omega), e0, e, e1, ix_nI (show k - 30 < 2 ^ 31 by omega), ok2 (show k - 30 < 12 by omega) (show k - 30 < 2 ^ 31 by omega), ↓reduceIte, if_true, if_false, sq, n10, wr_same, wr_at, f_X7_carried_b187, f_X7_carried_b194, f_X7_carried_b215, f_X7_carried_b222, f_X7_carried_b243, f_X7_carried_b250, show ((0 : Int32) = 1) = False from eq_false (by decide), show ((0 : Int32) = 2) = False from eq_false (by decide)]
theorem ct_30 {k : Nat} (h1 : 30 ≤ k) (h2 : k < 42) (μ : St) (v : Int32) : f_X7_carried μ (nI k) v 1 = some (v, wr μ 4 (k - 30) v) := by
  have e0 : nI k - nI 30 = nI (k - 30) := nI_m (a := k) (b := 30) (by omega)
  have e : irm (nI (k - 30)) 12 = nI (k - 30) := by rw [show (12 : Int32) = nI 12 from rfl, irm_n (by omega) (by decide) (by decide), show (k - 30) % 12 = k - 30 by omega]
  have e1 : nI (k - 30) / 12 = 0 := by rw [show (12 : Int32) = nI 12 from rfl, pk_div (by omega) (by decide) (by decide), show (k - 30) / 12 = 0 by omega]; rfl
  unfold f_X7_carried
  simp only [li_30, leT (n := 30) (k := k) (by omega) (by omega), li_66, leF (n := 66) (k := k) (by omega) (by omega), e0, e, e1, ix_nI (show k - 30 < 2 ^ 31 by omega), ok2 (show k - 30 < 12 by omega) (show k - 30 < 2 ^ 31 by omega), ↓reduceIte, if_true, if_false, sq, n10, wr_same, wr_at, f_X7_carried_b187, f_X7_carried_b194, f_X7_carried_b215, f_X7_carried_b222, f_X7_carried_b243, f_X7_carried_b250, show ((0 : Int32) = 1) = False from eq_false (by decide), show ((0 : Int32) = 2) = False from eq_false (by decide)]
theorem cf_42 {k : Nat} (h1 : 42 ≤ k) (h2 : k < 54) (μ : St) (v : Int32) : f_X7_carried μ (nI k) v 0 = some (μ.1 5 (k - 42), μ) := by
  have e0 : nI k - nI 30 = nI (k - 30) := nI_m (a := k) (b := 30) (by omega)
  have e : irm (nI (k - 30)) 12 = nI (k - 42) := by rw [show (12 : Int32) = nI 12 from rfl, irm_n (by omega) (by decide) (by decide), show (k - 30) % 12 = k - 42 by omega]
  have e1 : nI (k - 30) / 12 = 1 := by rw [show (12 : Int32) = nI 12 from rfl, pk_div (by omega) (by decide) (by decide), show (k - 30) / 12 = 1 by omega]; rfl
  unfold f_X7_carried
  simp only [li_30, leT (n := 30) (k := k) (by omega) (by omega), li_66, leF (n := 66) (k := k) (by omega) (by omega), e0, e, e1, ix_nI (show k - 42 < 2 ^ 31 by omega), ok2 (show k - 42 < 12 by omega) (show k - 42 < 2 ^ 31 by omega), ↓reduceIte, if_true, if_false, sq, n10, wr_same, wr_at, f_X7_carried_b187, f_X7_carried_b194, f_X7_carried_b215, f_X7_carried_b222, f_X7_carried_b243, f_X7_carried_b250, show ((1 : Int32) = 0) = False from eq_false (by decide), show ((1 : Int32) = 2) = False from eq_false (by decide)]
theorem ct_42 {k : Nat} (h1 : 42 ≤ k) (h2 : k < 54) (μ : St) (v : Int32) : f_X7_carried μ (nI k) v 1 = some (v, wr μ 5 (k - 42) v) := by
  have e0 : nI k - nI 30 = nI (k - 30) := nI_m (a := k) (b := 30) (by omega)
  have e : irm (nI (k - 30)) 12 = nI (k - 42) := by rw [show (12 : Int32) = nI 12 from rfl, irm_n (by omega) (by decide) (by decide), show (k - 30) % 12 = k - 42 by omega]
  have e1 : nI (k - 30) / 12 = 1 := by rw [show (12 : Int32) = nI 12 from rfl, pk_div (by omega) (by decide) (by decide), show (k - 30) / 12 = 1 by omega]; rfl
  unfold f_X7_carried
  simp only [li_30, leT (n := 30) (k := k) (by omega) (by omega), li_66, leF (n := 66) (k := k) (by omega) (by omega), e0, e, e1, ix_nI (show k - 42 < 2 ^ 31 by omega), ok2 (show k - 42 < 12 by omega) (show k - 42 < 2 ^ 31 by omega), ↓reduceIte, if_true, if_false, sq, n10, wr_same, wr_at, f_X7_carried_b187, f_X7_carried_b194, f_X7_carried_b215, f_X7_carried_b222, f_X7_carried_b243, f_X7_carried_b250, show ((1 : Int32) = 0) = False from eq_false (by decide), show ((1 : Int32) = 2) = False from eq_false (by decide)]
theorem cf_54 {k : Nat} (h1 : 54 ≤ k) (h2 : k < 66) (μ : St) (v : Int32) : f_X7_carried μ (nI k) v 0 = some (μ.1 6 (k - 54), μ) := by
  have e0 : nI k - nI 30 = nI (k - 30) := nI_m (a := k) (b := 30) (by omega)
  have e : irm (nI (k - 30)) 12 = nI (k - 54) := by rw [show (12 : Int32) = nI 12 from rfl, irm_n (by omega) (by decide) (by decide), show (k - 30) % 12 = k - 54 by omega]
  have e1 : nI (k - 30) / 12 = 2 := by rw [show (12 : Int32) = nI 12 from rfl, pk_div (by omega) (by decide) (by decide), show (k - 30) / 12 = 2 by omega]; rfl
  unfold f_X7_carried
  simp only [li_30, leT (n := 30) (k := k) (by omega) (by omega), li_66, leF (n := 66) (k := k) (by omega) (by omega), e0, e, e1, ix_nI (show k - 54 < 2 ^ 31 by omega), ok2 (show k - 54 < 12 by omega) (show k - 54 < 2 ^ 31 by omega), ↓reduceIte, if_true, if_false, sq, n10, wr_same, wr_at, f_X7_carried_b187, f_X7_carried_b194, f_X7_carried_b215, f_X7_carried_b222, f_X7_carried_b243, f_X7_carried_b250, show ((2 : Int32) = 0) = False from eq_false (by decide), show ((2 : Int32) = 1) = False from eq_false (by decide)]
theorem ct_54 {k : Nat} (h1 : 54 ≤ k) (h2 : k < 66) (μ : St) (v : Int32) : f_X7_carried μ (nI k) v 1 = some (v, wr μ 6 (k - 54) v) := by
  have e0 : nI k - nI 30 = nI (k - 30) := nI_m (a := k) (b := 30) (by omega)
  have e : irm (nI (k - 30)) 12 = nI (k - 54) := by rw [show (12 : Int32) = nI 12 from rfl, irm_n (by omega) (by decide) (by decide), show (k - 30) % 12 = k - 54 by omega]
  have e1 : nI (k - 30) / 12 = 2 := by rw [show (12 : Int32) = nI 12 from rfl, pk_div (by omega) (by decide) (by decide), show (k - 30) / 12 = 2 by omega]; rfl
  unfold f_X7_carried
  simp only [li_30, leT (n := 30) (k := k) (by omega) (by omega), li_66, leF (n := 66) (k := k) (by omega) (by omega), e0, e, e1, ix_nI (show k - 54 < 2 ^ 31 by omega), ok2 (show k - 54 < 12 by omega) (show k - 54 < 2 ^ 31 by omega), ↓reduceIte, if_true, if_false, sq, n10, wr_same, wr_at, f_X7_carried_b187, f_X7_carried_b194, f_X7_carried_b215, f_X7_carried_b222, f_X7_carried_b243, f_X7_carried_b250, show ((2 : Int32) = 0) = False from eq_false (by decide), show ((2 : Int32) = 1) = False from eq_false (by decide)]
theorem cf_66 {k : Nat} (h1 : 66 ≤ k) (h2 : k < 70) (μ : St) (v : Int32) : f_X7_carried μ (nI k) v 0 = some (μ.1 7 (k - 66), μ) := by
  have e0 : nI k - nI 66 = nI (k - 66) := nI_m (a := k) (b := 66) (by omega)
  unfold f_X7_carried
  simp only [li_30, leT (n := 30) (k := k) (by omega) (by omega), li_66, leT (n := 66) (k := k) (by omega) (by omega), li_75, leF (n := 75) (k := k) (by omega) (by omega), e0, li_4, leF (n := 4) (k := k - 66) (by omega) (by omega), ix_nI (show k - 66 < 2 ^ 31 by omega), ok2 (show k - 66 < 4 by omega) (show k - 66 < 2 ^ 31 by omega), ↓reduceIte, if_true, if_false, sq, n10, wr_same, wr_at, f_X7_carried_b329]
theorem ct_66 {k : Nat} (h1 : 66 ≤ k) (h2 : k < 70) (μ : St) (v : Int32) : f_X7_carried μ (nI k) v 1 = some (v, wr μ 7 (k - 66) v) := by
  have e0 : nI k - nI 66 = nI (k - 66) := nI_m (a := k) (b := 66) (by omega)
  unfold f_X7_carried
  simp only [li_30, leT (n := 30) (k := k) (by omega) (by omega), li_66, leT (n := 66) (k := k) (by omega) (by omega), li_75, leF (n := 75) (k := k) (by omega) (by omega), e0, li_4, leF (n := 4) (k := k - 66) (by omega) (by omega), ix_nI (show k - 66 < 2 ^ 31 by omega), ok2 (show k - 66 < 4 by omega) (show k - 66 < 2 ^ 31 by omega), ↓reduceIte, if_true, if_false, sq, n10, wr_same, wr_at, f_X7_carried_b329]
theorem cf_70 {k : Nat} (h1 : 70 ≤ k) (h2 : k < 75) (μ : St) (v : Int32) : f_X7_carried μ (nI k) v 0 = some (μ.1 8 (k - 70), μ) := by
  have e0 : nI k - nI 66 = nI (k - 66) := nI_m (a := k) (b := 66) (by omega)
  have e1 : nI (k - 66) - nI 4 = nI (k - 70) := by rw [nI_m (show 4 ≤ k - 66 by omega), show k - 66 - 4 = k - 70 by omega]
  unfold f_X7_carried
  simp only [li_30, leT (n := 30) (k := k) (by omega) (by omega), li_66, leT (n := 66) (k := k) (by omega) (by omega), li_75, leF (n := 75) (k := k) (by omega) (by omega), e0, li_4, leT (n := 4) (k := k - 66) (by omega) (by omega), e1, ix_nI (show k - 70 < 2 ^ 31 by omega), ok2 (show k - 70 < 5 by omega) (show k - 70 < 2 ^ 31 by omega), ↓reduceIte, if_true, if_false, sq, n10, wr_same, wr_at, f_X7_carried_b363]
theorem ct_70 {k : Nat} (h1 : 70 ≤ k) (h2 : k < 75) (μ : St) (v : Int32) : f_X7_carried μ (nI k) v 1 = some (v, wr μ 8 (k - 70) v) := by
  have e0 : nI k - nI 66 = nI (k - 66) := nI_m (a := k) (b := 66) (by omega)
  have e1 : nI (k - 66) - nI 4 = nI (k - 70) := by rw [nI_m (show 4 ≤ k - 66 by omega), show k - 66 - 4 = k - 70 by omega]
  unfold f_X7_carried
  simp only [li_30, leT (n := 30) (k := k) (by omega) (by omega), li_66, leT (n := 66) (k := k) (by omega) (by omega), li_75, leF (n := 75) (k := k) (by omega) (by omega), e0, li_4, leT (n := 4) (k := k - 66) (by omega) (by omega), e1, ix_nI (show k - 70 < 2 ^ 31 by omega), ok2 (show k - 70 < 5 by omega) (show k - 70 < 2 ^ 31 by omega), ↓reduceIte, if_true, if_false, sq, n10, wr_same, wr_at, f_X7_carried_b363]
theorem cf_75 {k : Nat} (h1 : 75 ≤ k) (h2 : k < 216) (μ : St) (v : Int32) : f_X7_carried μ (nI k) v 0 = some (μ.1 9 (k - 75), μ) := by
  have e0 : nI k - nI 75 = nI (k - 75) := nI_m (a := k) (b := 75) (by omega)
  unfold f_X7_carried
  simp only [li_30, leT (n := 30) (k := k) (by omega) (by omega), li_66, leT (n := 66) (k := k) (by omega) (by omega), li_75, leT (n := 75) (k := k) (by omega) (by omega), li_216, leF (n := 216) (k := k) (by omega) (by omega), e0, ix_nI (show k - 75 < 2 ^ 31 by omega), ok2 (show k - 75 < 141 by omega) (show k - 75 < 2 ^ 31 by omega), ↓reduceIte, if_true, if_false, sq, n10, wr_same, wr_at, f_X7_carried_b406]
theorem ct_75 {k : Nat} (h1 : 75 ≤ k) (h2 : k < 216) (μ : St) (v : Int32) : f_X7_carried μ (nI k) v 1 = some (v, wr μ 9 (k - 75) v) := by
  have e0 : nI k - nI 75 = nI (k - 75) := nI_m (a := k) (b := 75) (by omega)
  unfold f_X7_carried
  simp only [li_30, leT (n := 30) (k := k) (by omega) (by omega), li_66, leT (n := 66) (k := k) (by omega) (by omega), li_75, leT (n := 75) (k := k) (by omega) (by omega), li_216, leF (n := 216) (k := k) (by omega) (by omega), e0, ix_nI (show k - 75 < 2 ^ 31 by omega), ok2 (show k - 75 < 141 by omega) (show k - 75 < 2 ^ 31 by omega), ↓reduceIte, if_true, if_false, sq, n10, wr_same, wr_at, f_X7_carried_b406]
theorem cf_216 {k : Nat} (h1 : 216 ≤ k) (h2 : k < 1626) (μ : St) (v : Int32) : f_X7_carried μ (nI k) v 0 = some (μ.1 10 (k - 216), μ) := by
  have e0 : nI k - nI 216 = nI (k - 216) := nI_m (a := k) (b := 216) (by omega)
  unfold f_X7_carried
  simp only [li_30, leT (n := 30) (k := k) (by omega) (by omega), li_66, leT (n := 66) (k := k) (by omega) (by omega), li_75, leT (n := 75) (k := k) (by omega) (by omega), li_216, leT (n := 216) (k := k) (by omega) (by omega), li_1626, leF (n := 1626) (k := k) (by omega) (by omega), e0, ix_nI (show k - 216 < 2 ^ 31 by omega), ok2 (show k - 216 < 1410 by omega) (show k - 216 < 2 ^ 31 by omega), ↓reduceIte, if_true, if_false, sq, n10, wr_same, wr_at, f_X7_carried_b451]
theorem ct_216 {k : Nat} (h1 : 216 ≤ k) (h2 : k < 1626) (μ : St) (v : Int32) : f_X7_carried μ (nI k) v 1 = some (v, wr μ 10 (k - 216) v) := by
  have e0 : nI k - nI 216 = nI (k - 216) := nI_m (a := k) (b := 216) (by omega)
  unfold f_X7_carried
  simp only [li_30, leT (n := 30) (k := k) (by omega) (by omega), li_66, leT (n := 66) (k := k) (by omega) (by omega), li_75, leT (n := 75) (k := k) (by omega) (by omega), li_216, leT (n := 216) (k := k) (by omega) (by omega), li_1626, leF (n := 1626) (k := k) (by omega) (by omega), e0, ix_nI (show k - 216 < 2 ^ 31 by omega), ok2 (show k - 216 < 1410 by omega) (show k - 216 < 2 ^ 31 by omega), ↓reduceIte, if_true, if_false, sq, n10, wr_same, wr_at, f_X7_carried_b451]
theorem eqT {n k : Nat} (h : k = n) : (nI k = nI n) = True := eq_true (by rw [h])
theorem eqF {n k : Nat} (h : k ≠ n) (hk : k < 2 ^ 31) (hn : n < 2 ^ 31) : (nI k = nI n) = False := eq_false (by rw [nI_eqE hk hn]; exact h)
theorem cf_1626 {k : Nat} (hk : k = 1626) (μ : St) (v : Int32) : f_X7_carried μ (nI k) v 0 = some (μ.1 0 3, μ) := by
  unfold f_X7_carried
  simp only [↓reduceIte, li_30, leT (n := 30) (k := k) (by omega) (by omega), li_66, leT (n := 66) (k := k) (by omega) (by omega), li_75, leT (n := 75) (k := k) (by omega) (by omega), li_216, leT (n := 216) (k := k) (by omega) (by omega), li_1626, leT (n := 1626) (k := k) (by omega) (by omega), li_1626, eqT (n := 1626) hk, li_1627, eqF (n := 1627) (k := k) (by omega) (by omega) (by omega), li_1628, eqF (n := 1628) (k := k) (by omega) (by omega) (by omega), li_1629, eqF (n := 1629) (k := k) (by omega) (by omega) (by omega), li_1630, eqF (n := 1630) (k := k) (by omega) (by omega) (by omega), li_1631, eqF (n := 1631) (k := k) (by omega) (by omega) (by omega), li_1632, eqF (n := 1632) (k := k) (by omega) (by omega) (by omega), li_1633, eqF (n := 1633) (k := k) (by omega) (by omega) (by omega), if_true, if_false, sq, n10, wr_same, wr_at, f_X7_carried_b483, f_X7_carried_b506, f_X7_carried_b529, f_X7_carried_b552, f_X7_carried_b575, f_X7_carried_b598, f_X7_carried_b621, f_X7_carried_b644]
theorem ct_1626 {k : Nat} (hk : k = 1626) (μ : St) (v : Int32) : f_X7_carried μ (nI k) v 1 = some (v, wr μ 0 3 v) := by
  unfold f_X7_carried
  simp only [↓reduceIte, li_30, leT (n := 30) (k := k) (by omega) (by omega), li_66, leT (n := 66) (k := k) (by omega) (by omega), li_75, leT (n := 75) (k := k) (by omega) (by omega), li_216, leT (n := 216) (k := k) (by omega) (by omega), li_1626, leT (n := 1626) (k := k) (by omega) (by omega), li_1626, eqT (n := 1626) hk, li_1627, eqF (n := 1627) (k := k) (by omega) (by omega) (by omega), li_1628, eqF (n := 1628) (k := k) (by omega) (by omega) (by omega), li_1629, eqF (n := 1629) (k := k) (by omega) (by omega) (by omega), li_1630, eqF (n := 1630) (k := k) (by omega) (by omega) (by omega), li_1631, eqF (n := 1631) (k := k) (by omega) (by omega) (by omega), li_1632, eqF (n := 1632) (k := k) (by omega) (by omega) (by omega), li_1633, eqF (n := 1633) (k := k) (by omega) (by omega) (by omega), if_true, if_false, sq, n10, wr_same, wr_at, f_X7_carried_b483, f_X7_carried_b506, f_X7_carried_b529, f_X7_carried_b552, f_X7_carried_b575, f_X7_carried_b598, f_X7_carried_b621, f_X7_carried_b644]
theorem cf_1627 {k : Nat} (hk : k = 1627) (μ : St) (v : Int32) : f_X7_carried μ (nI k) v 0 = some (μ.1 0 8, μ) := by
  unfold f_X7_carried
  simp only [↓reduceIte, li_30, leT (n := 30) (k := k) (by omega) (by omega), li_66, leT (n := 66) (k := k) (by omega) (by omega), li_75, leT (n := 75) (k := k) (by omega) (by omega), li_216, leT (n := 216) (k := k) (by omega) (by omega), li_1626, leT (n := 1626) (k := k) (by omega) (by omega), li_1626, eqF (n := 1626) (k := k) (by omega) (by omega) (by omega), li_1627, eqT (n := 1627) hk, li_1628, eqF (n := 1628) (k := k) (by omega) (by omega) (by omega), li_1629, eqF (n := 1629) (k := k) (by omega) (by omega) (by omega), li_1630, eqF (n := 1630) (k := k) (by omega) (by omega) (by omega), li_1631, eqF (n := 1631) (k := k) (by omega) (by omega) (by omega), li_1632, eqF (n := 1632) (k := k) (by omega) (by omega) (by omega), li_1633, eqF (n := 1633) (k := k) (by omega) (by omega) (by omega), if_true, if_false, sq, n10, wr_same, wr_at, f_X7_carried_b483, f_X7_carried_b506, f_X7_carried_b529, f_X7_carried_b552, f_X7_carried_b575, f_X7_carried_b598, f_X7_carried_b621, f_X7_carried_b644]
theorem ct_1627 {k : Nat} (hk : k = 1627) (μ : St) (v : Int32) : f_X7_carried μ (nI k) v 1 = some (v, wr μ 0 8 v) := by
  unfold f_X7_carried
  simp only [↓reduceIte, li_30, leT (n := 30) (k := k) (by omega) (by omega), li_66, leT (n := 66) (k := k) (by omega) (by omega), li_75, leT (n := 75) (k := k) (by omega) (by omega), li_216, leT (n := 216) (k := k) (by omega) (by omega), li_1626, leT (n := 1626) (k := k) (by omega) (by omega), li_1626, eqF (n := 1626) (k := k) (by omega) (by omega) (by omega), li_1627, eqT (n := 1627) hk, li_1628, eqF (n := 1628) (k := k) (by omega) (by omega) (by omega), li_1629, eqF (n := 1629) (k := k) (by omega) (by omega) (by omega), li_1630, eqF (n := 1630) (k := k) (by omega) (by omega) (by omega), li_1631, eqF (n := 1631) (k := k) (by omega) (by omega) (by omega), li_1632, eqF (n := 1632) (k := k) (by omega) (by omega) (by omega), li_1633, eqF (n := 1633) (k := k) (by omega) (by omega) (by omega), if_true, if_false, sq, n10, wr_same, wr_at, f_X7_carried_b483, f_X7_carried_b506, f_X7_carried_b529, f_X7_carried_b552, f_X7_carried_b575, f_X7_carried_b598, f_X7_carried_b621, f_X7_carried_b644]
theorem cf_1628 {k : Nat} (hk : k = 1628) (μ : St) (v : Int32) : f_X7_carried μ (nI k) v 0 = some (μ.1 0 10, μ) := by
  unfold f_X7_carried
  simp only [↓reduceIte, li_30, leT (n := 30) (k := k) (by omega) (by omega), li_66, leT (n := 66) (k := k) (by omega) (by omega), li_75, leT (n := 75) (k := k) (by omega) (by omega), li_216, leT (n := 216) (k := k) (by omega) (by omega), li_1626, leT (n := 1626) (k := k) (by omega) (by omega), li_1626, eqF (n := 1626) (k := k) (by omega) (by omega) (by omega), li_1627, eqF (n := 1627) (k := k) (by omega) (by omega) (by omega), li_1628, eqT (n := 1628) hk, li_1629, eqF (n := 1629) (k := k) (by omega) (by omega) (by omega), li_1630, eqF (n := 1630) (k := k) (by omega) (by omega) (by omega), li_1631, eqF (n := 1631) (k := k) (by omega) (by omega) (by omega), li_1632, eqF (n := 1632) (k := k) (by omega) (by omega) (by omega), li_1633, eqF (n := 1633) (k := k) (by omega) (by omega) (by omega), if_true, if_false, sq, n10, wr_same, wr_at, f_X7_carried_b483, f_X7_carried_b506, f_X7_carried_b529, f_X7_carried_b552, f_X7_carried_b575, f_X7_carried_b598, f_X7_carried_b621, f_X7_carried_b644]
theorem ct_1628 {k : Nat} (hk : k = 1628) (μ : St) (v : Int32) : f_X7_carried μ (nI k) v 1 = some (v, wr μ 0 10 v) := by
  unfold f_X7_carried
  simp only [↓reduceIte, li_30, leT (n := 30) (k := k) (by omega) (by omega), li_66, leT (n := 66) (k := k) (by omega) (by omega), li_75, leT (n := 75) (k := k) (by omega) (by omega), li_216, leT (n := 216) (k := k) (by omega) (by omega), li_1626, leT (n := 1626) (k := k) (by omega) (by omega), li_1626, eqF (n := 1626) (k := k) (by omega) (by omega) (by omega), li_1627, eqF (n := 1627) (k := k) (by omega) (by omega) (by omega), li_1628, eqT (n := 1628) hk, li_1629, eqF (n := 1629) (k := k) (by omega) (by omega) (by omega), li_1630, eqF (n := 1630) (k := k) (by omega) (by omega) (by omega), li_1631, eqF (n := 1631) (k := k) (by omega) (by omega) (by omega), li_1632, eqF (n := 1632) (k := k) (by omega) (by omega) (by omega), li_1633, eqF (n := 1633) (k := k) (by omega) (by omega) (by omega), if_true, if_false, sq, n10, wr_same, wr_at, f_X7_carried_b483, f_X7_carried_b506, f_X7_carried_b529, f_X7_carried_b552, f_X7_carried_b575, f_X7_carried_b598, f_X7_carried_b621, f_X7_carried_b644]
theorem cf_1629 {k : Nat} (hk : k = 1629) (μ : St) (v : Int32) : f_X7_carried μ (nI k) v 0 = some (μ.1 0 7, μ) := by
  unfold f_X7_carried
  simp only [↓reduceIte, li_30, leT (n := 30) (k := k) (by omega) (by omega), li_66, leT (n := 66) (k := k) (by omega) (by omega), li_75, leT (n := 75) (k := k) (by omega) (by omega), li_216, leT (n := 216) (k := k) (by omega) (by omega), li_1626, leT (n := 1626) (k := k) (by omega) (by omega), li_1626, eqF (n := 1626) (k := k) (by omega) (by omega) (by omega), li_1627, eqF (n := 1627) (k := k) (by omega) (by omega) (by omega), li_1628, eqF (n := 1628) (k := k) (by omega) (by omega) (by omega), li_1629, eqT (n := 1629) hk, li_1630, eqF (n := 1630) (k := k) (by omega) (by omega) (by omega), li_1631, eqF (n := 1631) (k := k) (by omega) (by omega) (by omega), li_1632, eqF (n := 1632) (k := k) (by omega) (by omega) (by omega), li_1633, eqF (n := 1633) (k := k) (by omega) (by omega) (by omega), if_true, if_false, sq, n10, wr_same, wr_at, f_X7_carried_b483, f_X7_carried_b506, f_X7_carried_b529, f_X7_carried_b552, f_X7_carried_b575, f_X7_carried_b598, f_X7_carried_b621, f_X7_carried_b644]
theorem ct_1629 {k : Nat} (hk : k = 1629) (μ : St) (v : Int32) : f_X7_carried μ (nI k) v 1 = some (v, wr μ 0 7 v) := by
  unfold f_X7_carried
  simp only [↓reduceIte, li_30, leT (n := 30) (k := k) (by omega) (by omega), li_66, leT (n := 66) (k := k) (by omega) (by omega), li_75, leT (n := 75) (k := k) (by omega) (by omega), li_216, leT (n := 216) (k := k) (by omega) (by omega), li_1626, leT (n := 1626) (k := k) (by omega) (by omega), li_1626, eqF (n := 1626) (k := k) (by omega) (by omega) (by omega), li_1627, eqF (n := 1627) (k := k) (by omega) (by omega) (by omega), li_1628, eqF (n := 1628) (k := k) (by omega) (by omega) (by omega), li_1629, eqT (n := 1629) hk, li_1630, eqF (n := 1630) (k := k) (by omega) (by omega) (by omega), li_1631, eqF (n := 1631) (k := k) (by omega) (by omega) (by omega), li_1632, eqF (n := 1632) (k := k) (by omega) (by omega) (by omega), li_1633, eqF (n := 1633) (k := k) (by omega) (by omega) (by omega), if_true, if_false, sq, n10, wr_same, wr_at, f_X7_carried_b483, f_X7_carried_b506, f_X7_carried_b529, f_X7_carried_b552, f_X7_carried_b575, f_X7_carried_b598, f_X7_carried_b621, f_X7_carried_b644]
theorem cf_1630 {k : Nat} (hk : k = 1630) (μ : St) (v : Int32) : f_X7_carried μ (nI k) v 0 = some (μ.1 0 11, μ) := by
  unfold f_X7_carried
  simp only [↓reduceIte, li_30, leT (n := 30) (k := k) (by omega) (by omega), li_66, leT (n := 66) (k := k) (by omega) (by omega), li_75, leT (n := 75) (k := k) (by omega) (by omega), li_216, leT (n := 216) (k := k) (by omega) (by omega), li_1626, leT (n := 1626) (k := k) (by omega) (by omega), li_1626, eqF (n := 1626) (k := k) (by omega) (by omega) (by omega), li_1627, eqF (n := 1627) (k := k) (by omega) (by omega) (by omega), li_1628, eqF (n := 1628) (k := k) (by omega) (by omega) (by omega), li_1629, eqF (n := 1629) (k := k) (by omega) (by omega) (by omega), li_1630, eqT (n := 1630) hk, li_1631, eqF (n := 1631) (k := k) (by omega) (by omega) (by omega), li_1632, eqF (n := 1632) (k := k) (by omega) (by omega) (by omega), li_1633, eqF (n := 1633) (k := k) (by omega) (by omega) (by omega), if_true, if_false, sq, n10, wr_same, wr_at, f_X7_carried_b483, f_X7_carried_b506, f_X7_carried_b529, f_X7_carried_b552, f_X7_carried_b575, f_X7_carried_b598, f_X7_carried_b621, f_X7_carried_b644]
theorem ct_1630 {k : Nat} (hk : k = 1630) (μ : St) (v : Int32) : f_X7_carried μ (nI k) v 1 = some (v, wr μ 0 11 v) := by
  unfold f_X7_carried
  simp only [↓reduceIte, li_30, leT (n := 30) (k := k) (by omega) (by omega), li_66, leT (n := 66) (k := k) (by omega) (by omega), li_75, leT (n := 75) (k := k) (by omega) (by omega), li_216, leT (n := 216) (k := k) (by omega) (by omega), li_1626, leT (n := 1626) (k := k) (by omega) (by omega), li_1626, eqF (n := 1626) (k := k) (by omega) (by omega) (by omega), li_1627, eqF (n := 1627) (k := k) (by omega) (by omega) (by omega), li_1628, eqF (n := 1628) (k := k) (by omega) (by omega) (by omega), li_1629, eqF (n := 1629) (k := k) (by omega) (by omega) (by omega), li_1630, eqT (n := 1630) hk, li_1631, eqF (n := 1631) (k := k) (by omega) (by omega) (by omega), li_1632, eqF (n := 1632) (k := k) (by omega) (by omega) (by omega), li_1633, eqF (n := 1633) (k := k) (by omega) (by omega) (by omega), if_true, if_false, sq, n10, wr_same, wr_at, f_X7_carried_b483, f_X7_carried_b506, f_X7_carried_b529, f_X7_carried_b552, f_X7_carried_b575, f_X7_carried_b598, f_X7_carried_b621, f_X7_carried_b644]
theorem cf_1631 {k : Nat} (hk : k = 1631) (μ : St) (v : Int32) : f_X7_carried μ (nI k) v 0 = some (μ.1 0 13, μ) := by
  unfold f_X7_carried
  simp only [↓reduceIte, li_30, leT (n := 30) (k := k) (by omega) (by omega), li_66, leT (n := 66) (k := k) (by omega) (by omega), li_75, leT (n := 75) (k := k) (by omega) (by omega), li_216, leT (n := 216) (k := k) (by omega) (by omega), li_1626, leT (n := 1626) (k := k) (by omega) (by omega), li_1626, eqF (n := 1626) (k := k) (by omega) (by omega) (by omega), li_1627, eqF (n := 1627) (k := k) (by omega) (by omega) (by omega), li_1628, eqF (n := 1628) (k := k) (by omega) (by omega) (by omega), li_1629, eqF (n := 1629) (k := k) (by omega) (by omega) (by omega), li_1630, eqF (n := 1630) (k := k) (by omega) (by omega) (by omega), li_1631, eqT (n := 1631) hk, li_1632, eqF (n := 1632) (k := k) (by omega) (by omega) (by omega), li_1633, eqF (n := 1633) (k := k) (by omega) (by omega) (by omega), if_true, if_false, sq, n10, wr_same, wr_at, f_X7_carried_b483, f_X7_carried_b506, f_X7_carried_b529, f_X7_carried_b552, f_X7_carried_b575, f_X7_carried_b598, f_X7_carried_b621, f_X7_carried_b644]
theorem ct_1631 {k : Nat} (hk : k = 1631) (μ : St) (v : Int32) : f_X7_carried μ (nI k) v 1 = some (v, wr μ 0 13 v) := by
  unfold f_X7_carried
  simp only [↓reduceIte, li_30, leT (n := 30) (k := k) (by omega) (by omega), li_66, leT (n := 66) (k := k) (by omega) (by omega), li_75, leT (n := 75) (k := k) (by omega) (by omega), li_216, leT (n := 216) (k := k) (by omega) (by omega), li_1626, leT (n := 1626) (k := k) (by omega) (by omega), li_1626, eqF (n := 1626) (k := k) (by omega) (by omega) (by omega), li_1627, eqF (n := 1627) (k := k) (by omega) (by omega) (by omega), li_1628, eqF (n := 1628) (k := k) (by omega) (by omega) (by omega), li_1629, eqF (n := 1629) (k := k) (by omega) (by omega) (by omega), li_1630, eqF (n := 1630) (k := k) (by omega) (by omega) (by omega), li_1631, eqT (n := 1631) hk, li_1632, eqF (n := 1632) (k := k) (by omega) (by omega) (by omega), li_1633, eqF (n := 1633) (k := k) (by omega) (by omega) (by omega), if_true, if_false, sq, n10, wr_same, wr_at, f_X7_carried_b483, f_X7_carried_b506, f_X7_carried_b529, f_X7_carried_b552, f_X7_carried_b575, f_X7_carried_b598, f_X7_carried_b621, f_X7_carried_b644]
theorem cf_1632 {k : Nat} (hk : k = 1632) (μ : St) (v : Int32) : f_X7_carried μ (nI k) v 0 = some (μ.1 0 14, μ) := by
  unfold f_X7_carried
  simp only [↓reduceIte, li_30, leT (n := 30) (k := k) (by omega) (by omega), li_66, leT (n := 66) (k := k) (by omega) (by omega), li_75, leT (n := 75) (k := k) (by omega) (by omega), li_216, leT (n := 216) (k := k) (by omega) (by omega), li_1626, leT (n := 1626) (k := k) (by omega) (by omega), li_1626, eqF (n := 1626) (k := k) (by omega) (by omega) (by omega), li_1627, eqF (n := 1627) (k := k) (by omega) (by omega) (by omega), li_1628, eqF (n := 1628) (k := k) (by omega) (by omega) (by omega), li_1629, eqF (n := 1629) (k := k) (by omega) (by omega) (by omega), li_1630, eqF (n := 1630) (k := k) (by omega) (by omega) (by omega), li_1631, eqF (n := 1631) (k := k) (by omega) (by omega) (by omega), li_1632, eqT (n := 1632) hk, li_1633, eqF (n := 1633) (k := k) (by omega) (by omega) (by omega), if_true, if_false, sq, n10, wr_same, wr_at, f_X7_carried_b483, f_X7_carried_b506, f_X7_carried_b529, f_X7_carried_b552, f_X7_carried_b575, f_X7_carried_b598, f_X7_carried_b621, f_X7_carried_b644]
theorem ct_1632 {k : Nat} (hk : k = 1632) (μ : St) (v : Int32) : f_X7_carried μ (nI k) v 1 = some (v, wr μ 0 14 v) := by
  unfold f_X7_carried
  simp only [↓reduceIte, li_30, leT (n := 30) (k := k) (by omega) (by omega), li_66, leT (n := 66) (k := k) (by omega) (by omega), li_75, leT (n := 75) (k := k) (by omega) (by omega), li_216, leT (n := 216) (k := k) (by omega) (by omega), li_1626, leT (n := 1626) (k := k) (by omega) (by omega), li_1626, eqF (n := 1626) (k := k) (by omega) (by omega) (by omega), li_1627, eqF (n := 1627) (k := k) (by omega) (by omega) (by omega), li_1628, eqF (n := 1628) (k := k) (by omega) (by omega) (by omega), li_1629, eqF (n := 1629) (k := k) (by omega) (by omega) (by omega), li_1630, eqF (n := 1630) (k := k) (by omega) (by omega) (by omega), li_1631, eqF (n := 1631) (k := k) (by omega) (by omega) (by omega), li_1632, eqT (n := 1632) hk, li_1633, eqF (n := 1633) (k := k) (by omega) (by omega) (by omega), if_true, if_false, sq, n10, wr_same, wr_at, f_X7_carried_b483, f_X7_carried_b506, f_X7_carried_b529, f_X7_carried_b552, f_X7_carried_b575, f_X7_carried_b598, f_X7_carried_b621, f_X7_carried_b644]
theorem cf_1633 {k : Nat} (hk : k = 1633) (μ : St) (v : Int32) : f_X7_carried μ (nI k) v 0 = some (μ.1 0 17, μ) := by
  unfold f_X7_carried
  simp only [↓reduceIte, li_30, leT (n := 30) (k := k) (by omega) (by omega), li_66, leT (n := 66) (k := k) (by omega) (by omega), li_75, leT (n := 75) (k := k) (by omega) (by omega), li_216, leT (n := 216) (k := k) (by omega) (by omega), li_1626, leT (n := 1626) (k := k) (by omega) (by omega), li_1626, eqF (n := 1626) (k := k) (by omega) (by omega) (by omega), li_1627, eqF (n := 1627) (k := k) (by omega) (by omega) (by omega), li_1628, eqF (n := 1628) (k := k) (by omega) (by omega) (by omega), li_1629, eqF (n := 1629) (k := k) (by omega) (by omega) (by omega), li_1630, eqF (n := 1630) (k := k) (by omega) (by omega) (by omega), li_1631, eqF (n := 1631) (k := k) (by omega) (by omega) (by omega), li_1632, eqF (n := 1632) (k := k) (by omega) (by omega) (by omega), li_1633, eqT (n := 1633) hk, if_true, if_false, sq, n10, wr_same, wr_at, f_X7_carried_b483, f_X7_carried_b506, f_X7_carried_b529, f_X7_carried_b552, f_X7_carried_b575, f_X7_carried_b598, f_X7_carried_b621, f_X7_carried_b644]
theorem ct_1633 {k : Nat} (hk : k = 1633) (μ : St) (v : Int32) : f_X7_carried μ (nI k) v 1 = some (v, wr μ 0 17 v) := by
  unfold f_X7_carried
  simp only [↓reduceIte, li_30, leT (n := 30) (k := k) (by omega) (by omega), li_66, leT (n := 66) (k := k) (by omega) (by omega), li_75, leT (n := 75) (k := k) (by omega) (by omega), li_216, leT (n := 216) (k := k) (by omega) (by omega), li_1626, leT (n := 1626) (k := k) (by omega) (by omega), li_1626, eqF (n := 1626) (k := k) (by omega) (by omega) (by omega), li_1627, eqF (n := 1627) (k := k) (by omega) (by omega) (by omega), li_1628, eqF (n := 1628) (k := k) (by omega) (by omega) (by omega), li_1629, eqF (n := 1629) (k := k) (by omega) (by omega) (by omega), li_1630, eqF (n := 1630) (k := k) (by omega) (by omega) (by omega), li_1631, eqF (n := 1631) (k := k) (by omega) (by omega) (by omega), li_1632, eqF (n := 1632) (k := k) (by omega) (by omega) (by omega), li_1633, eqT (n := 1633) hk, if_true, if_false, sq, n10, wr_same, wr_at, f_X7_carried_b483, f_X7_carried_b506, f_X7_carried_b529, f_X7_carried_b552, f_X7_carried_b575, f_X7_carried_b598, f_X7_carried_b621, f_X7_carried_b644]
theorem cf_all {k : Nat} (hk : k < 1634) (μ : St) (v : Int32) : f_X7_carried μ (nI k) v 0 = some (μ.1 (lcN k) (liN k), μ) := by
  by_cases h10 : k < 10
  · rw [cf_0 (by omega) h10, (lo_0 (by omega) h10).1, (lo_0 (by omega) h10).2]
  by_cases h20 : k < 20
  · rw [cf_10 (by omega) h20, (lo_10 (by omega) h20).1, (lo_10 (by omega) h20).2]
  by_cases h30 : k < 30
  · rw [cf_20 (by omega) h30, (lo_20 (by omega) h30).1, (lo_20 (by omega) h30).2]
  by_cases h42 : k < 42
  · rw [cf_30 (by omega) h42, (lo_30 (by omega) h42).1, (lo_30 (by omega) h42).2]
  by_cases h54 : k < 54
  · rw [cf_42 (by omega) h54, (lo_42 (by omega) h54).1, (lo_42 (by omega) h54).2]
  by_cases h66 : k < 66
  · rw [cf_54 (by omega) h66, (lo_54 (by omega) h66).1, (lo_54 (by omega) h66).2]
  by_cases h70 : k < 70
  · rw [cf_66 (by omega) h70, (lo_66 (by omega) h70).1, (lo_66 (by omega) h70).2]
  by_cases h75 : k < 75
  · rw [cf_70 (by omega) h75, (lo_70 (by omega) h75).1, (lo_70 (by omega) h75).2]
  by_cases h216 : k < 216
  · rw [cf_75 (by omega) h216, (lo_75 (by omega) h216).1, (lo_75 (by omega) h216).2]
  by_cases h1626 : k < 1626
  · rw [cf_216 (by omega) h1626, (lo_216 (by omega) h1626).1, (lo_216 (by omega) h1626).2]
  have e : k = 1626 ∨ k = 1627 ∨ k = 1628 ∨ k = 1629 ∨ k = 1630 ∨ k = 1631 ∨ k = 1632 ∨ k = 1633 := by omega
  rcases e with e | e | e | e | e | e | e | e
  · rw [cf_1626 e μ v, show lcN k = 0 by rw [e]; decide, show liN k = 3 by rw [e]; decide]
  · rw [cf_1627 e μ v, show lcN k = 0 by rw [e]; decide, show liN k = 8 by rw [e]; decide]
  · rw [cf_1628 e μ v, show lcN k = 0 by rw [e]; decide, show liN k = 10 by rw [e]; decide]
  · rw [cf_1629 e μ v, show lcN k = 0 by rw [e]; decide, show liN k = 7 by rw [e]; decide]
  · rw [cf_1630 e μ v, show lcN k = 0 by rw [e]; decide, show liN k = 11 by rw [e]; decide]
  · rw [cf_1631 e μ v, show lcN k = 0 by rw [e]; decide, show liN k = 13 by rw [e]; decide]
  · rw [cf_1632 e μ v, show lcN k = 0 by rw [e]; decide, show liN k = 14 by rw [e]; decide]
  · rw [cf_1633 e μ v, show lcN k = 0 by rw [e]; decide, show liN k = 17 by rw [e]; decide]
theorem ct_all {k : Nat} (hk : k < 1634) (μ : St) (v : Int32) : f_X7_carried μ (nI k) v 1 = some (v, wr μ (lcN k) (liN k) v) := by
  by_cases h10 : k < 10
  · rw [ct_0 (by omega) h10, (lo_0 (by omega) h10).1, (lo_0 (by omega) h10).2]
  by_cases h20 : k < 20
  · rw [ct_10 (by omega) h20, (lo_10 (by omega) h20).1, (lo_10 (by omega) h20).2]
  by_cases h30 : k < 30
  · rw [ct_20 (by omega) h30, (lo_20 (by omega) h30).1, (lo_20 (by omega) h30).2]
  by_cases h42 : k < 42
  · rw [ct_30 (by omega) h42, (lo_30 (by omega) h42).1, (lo_30 (by omega) h42).2]
  by_cases h54 : k < 54
  · rw [ct_42 (by omega) h54, (lo_42 (by omega) h54).1, (lo_42 (by omega) h54).2]
  by_cases h66 : k < 66
  · rw [ct_54 (by omega) h66, (lo_54 (by omega) h66).1, (lo_54 (by omega) h66).2]
  by_cases h70 : k < 70
  · rw [ct_66 (by omega) h70, (lo_66 (by omega) h70).1, (lo_66 (by omega) h70).2]
  by_cases h75 : k < 75
  · rw [ct_70 (by omega) h75, (lo_70 (by omega) h75).1, (lo_70 (by omega) h75).2]
  by_cases h216 : k < 216
  · rw [ct_75 (by omega) h216, (lo_75 (by omega) h216).1, (lo_75 (by omega) h216).2]
  by_cases h1626 : k < 1626
  · rw [ct_216 (by omega) h1626, (lo_216 (by omega) h1626).1, (lo_216 (by omega) h1626).2]
  have e : k = 1626 ∨ k = 1627 ∨ k = 1628 ∨ k = 1629 ∨ k = 1630 ∨ k = 1631 ∨ k = 1632 ∨ k = 1633 := by omega
  rcases e with e | e | e | e | e | e | e | e
  · rw [ct_1626 e μ v, show lcN k = 0 by rw [e]; decide, show liN k = 3 by rw [e]; decide]
  · rw [ct_1627 e μ v, show lcN k = 0 by rw [e]; decide, show liN k = 8 by rw [e]; decide]
  · rw [ct_1628 e μ v, show lcN k = 0 by rw [e]; decide, show liN k = 10 by rw [e]; decide]
  · rw [ct_1629 e μ v, show lcN k = 0 by rw [e]; decide, show liN k = 7 by rw [e]; decide]
  · rw [ct_1630 e μ v, show lcN k = 0 by rw [e]; decide, show liN k = 11 by rw [e]; decide]
  · rw [ct_1631 e μ v, show lcN k = 0 by rw [e]; decide, show liN k = 13 by rw [e]; decide]
  · rw [ct_1632 e μ v, show lcN k = 0 by rw [e]; decide, show liN k = 14 by rw [e]; decide]
  · rw [ct_1633 e μ v, show lcN k = 0 by rw [e]; decide, show liN k = 17 by rw [e]; decide]
