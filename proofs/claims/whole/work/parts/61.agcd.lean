/-! ===== fractions ===== -/
theorem irm_n {a b : Nat} (ha : a < 2 ^ 31) (h0 : 0 < b) (hb : b < 2 ^ 31) : irm (nI a) (nI b) = nI (a % b) := pk_rem ha h0 hb
theorem com_M {p q : Nat} (hp : p < 2 ^ 31) (hq : q < 50) : f_X7_common (nI p) (nI q) = some (nI (Nat.gcd p q)) := by
  have key : ∀ (k q p m : Nat), q ≤ k → q < 50 → p < 2 ^ 31 → k + 1 < m → ∀ x y : Int32, f_X7_common_h4 x y m (nI p) (nI q) = some (nI (Nat.gcd p q)) := by
    intro k
    induction k with
    | zero =>
      intro q p m h1 h2 h3 h4 x y
      obtain ⟨m, rfl⟩ : ∃ m', m = m' + 1 := ⟨m - 1, by omega⟩
      have : q = 0 := by omega
      subst this
      rw [f_X7_common_h4, if_pos (by rfl), Nat.gcd_zero_right]
    | succ k ih =>
      intro q p m h1 h2 h3 h4 x y
      obtain ⟨m, rfl⟩ : ∃ m', m = m' + 1 := ⟨m - 1, by omega⟩
      rw [f_X7_common_h4]
      by_cases q0 : q = 0
      · subst q0
        rw [if_pos (by rfl), Nat.gcd_zero_right]
      · have n0 : ¬ nI q = 0 := by rw [nI_eq0 (by omega)]; exact q0
        rw [if_neg n0, if_neg n0]
        have hm := Nat.mod_lt p (show 0 < q by omega)
        simp only [sq, irm_n h3 (show 0 < q by omega) (show q < 2 ^ 31 by omega)]
        rw [ih (p % q) q m (by omega) (by omega) (by omega) (by omega)]
        rw [Nat.gcd_comm p q, Nat.gcd_rec q p, Nat.gcd_comm]
  exact key q q p FU (by omega) hq hp (by unfold FU; omega) _ _
theorem low_C {p q : Nat} (hp : p < 50) (hq : q < 50) (h0 : 0 < p ∨ 0 < q) : f_X6_inLowestTerms (nI p) (nI q) = some (nI (p / Nat.gcd p q)) := by
  have hg : 0 < Nat.gcd p q := by
    rcases h0 with h0 | h0
    · exact Nat.gcd_pos_of_pos_left q h0
    · exact Nat.gcd_pos_of_pos_right p h0
  have key : ∀ (k m : Nat), k < m → Nat.gcd p q + k < 50 → f_X6_inLowestTerms_h6 (nI p) (nI q) m (nI (Nat.gcd p q + k)) = some (nI (p / Nat.gcd p q)) := by
    intro k
    induction k with
    | zero =>
      intro m h1 h2
      obtain ⟨m, rfl⟩ : ∃ m', m = m' + 1 := ⟨m - 1, by omega⟩
      rw [f_X6_inLowestTerms_h6, Nat.add_zero]
      by_cases g1 : Nat.gcd p q ≤ 1
      · rw [if_pos (by rw [show (1 : Int32) = nI 1 from rfl, nI_leE (by omega) (by omega)]; exact g1)]
        rw [show Nat.gcd p q = 1 by omega, Nat.div_one]
      · rw [if_neg (by rw [show (1 : Int32) = nI 1 from rfl, nI_leE (by omega) (by omega)]; exact g1)]
        have n0 : ¬ nI (Nat.gcd p q) = 0 := by rw [nI_eq0 (by omega)]; omega
        rw [if_neg n0, irm_n (by omega) hg (by omega), Nat.mod_eq_zero_of_dvd (Nat.gcd_dvd_left p q), if_pos (by rfl), if_neg n0, irm_n (by omega) hg (by omega), Nat.mod_eq_zero_of_dvd (Nat.gcd_dvd_right p q), if_pos (by rfl), if_neg n0, pk_div (by omega) hg (by omega)]
    | succ k ih =>
      intro m h1 h2
      obtain ⟨m, rfl⟩ : ∃ m', m = m' + 1 := ⟨m - 1, by omega⟩
      rw [f_X6_inLowestTerms_h6, if_neg (by rw [show (1 : Int32) = nI 1 from rfl, nI_leE (by omega) (by omega)]; omega)]
      have n0 : ¬ nI (Nat.gcd p q + (k + 1)) = 0 := by rw [nI_eq0 (by omega)]; omega
      have e := ih m (by omega) (by omega)
      have e1 : nI (Nat.gcd p q + (k + 1)) + (-1) = nI (Nat.gcd p q + k) := pk_m1 _
      rw [if_neg n0, irm_n (by omega) (by omega) (by omega)]
      simp only [sq, e1]
      by_cases d1 : p % (Nat.gcd p q + (k + 1)) = 0
      · rw [d1, if_pos (by rfl), if_neg n0, irm_n (by omega) (by omega) (by omega)]
        by_cases d2 : q % (Nat.gcd p q + (k + 1)) = 0
        · exfalso
          have := Nat.dvd_gcd (Nat.dvd_of_mod_eq_zero d1) (Nat.dvd_of_mod_eq_zero d2)
          have := Nat.le_of_dvd hg this
          omega
        · have hm := Nat.mod_lt q (show 0 < Nat.gcd p q + (k + 1) by omega)
          rw [if_neg (by rw [nI_eq0 (by omega)]; exact d2)]
          exact e
      · have hm := Nat.mod_lt p (show 0 < Nat.gcd p q + (k + 1) by omega)
        rw [if_neg (by rw [nI_eq0 (by omega)]; exact d1)]
        exact e
  unfold f_X6_inLowestTerms
  have em : imax (nI p) (nI q) = nI (if p < q then q else p) := by
    unfold imax
    simp only [nI_ltE (show p < 2 ^ 31 by omega) (show q < 2 ^ 31 by omega)]
    by_cases h : p < q
    · rw [if_pos h, if_pos h]
    · rw [if_neg h, if_neg h]
  have hle : Nat.gcd p q ≤ (if p < q then q else p) := by
    by_cases h : p < q
    · rw [if_pos h]; exact Nat.le_of_dvd (by omega) (Nat.gcd_dvd_right p q)
    · rw [if_neg h]; exact Nat.le_of_dvd (by omega) (Nat.gcd_dvd_left p q)
  have hmx : (if p < q then q else p) < 50 := by split <;> omega
  rw [em]
  simp only [sq]
  have := key ((if p < q then q else p) - Nat.gcd p q) FU (by unfold FU; omega) (by omega)
  rw [show Nat.gcd p q + ((if p < q then q else p) - Nat.gcd p q) = (if p < q then q else p) by omega] at this
  exact this

