theorem ctN_le (s : Nat) : ∀ p, ctN s p ≤ p
  | 0 => Nat.le_refl _
  | p + 1 => by
    have := ctN_le s p
    show ctN s p + (if s.testBit p then 1 else 0) ≤ p + 1
    split <;> omega
theorem ct_lt {s n p : Nat} (hn : n < p) (hb : s.testBit n = false) : ctN s p < p := by
  have h1 := ct_or hn hb
  have h2 := ctN_le (s ||| 2 ^ n) p
  omega
theorem in_let {T : Nat → Nat} {t q l h : Nat} (hT : ∀ i, i < t → T i ≤ 126) (x y : Int64) (hx : x.toInt = (l : Int)) (hy : y.toInt = (h : Int)) : (f_X7_in (ltI T t q).toInt64 x y = 0) = ¬ (q < t ∧ l ≤ T q ∧ T q ≤ h) := by
  rw [in_0, toL_T, hx, hy]
  unfold ltI
  by_cases c : q < t
  · have := hT q c
    rw [if_pos c, lit_T (T q) (by omega)]
    exact propext ⟨fun w => by omega, fun w => by omega⟩
  · rw [if_neg c, show (-1 : Int32).toInt = -1 by decide]
    exact propext ⟨fun w d => c d.1, fun w => by omega⟩
theorem ah_step {σ μ : St} {t : Nat} {T : Nat → Nat} (hC : TC σ t T) (hM : TM μ t T) {k y : Nat} (hk : k ≤ 11) (hy : y < 100) (h46 : σ.1 46 0 = nI k) (hN : ∀ u, u < k → ∃ z, z < 100 ∧ σ.1 47 u = nI z ∧ μ.1 12 (4 * u) = nI z) {j s p : Nat} (hj : j < 12) (hs : s < 2 ^ k) (hp : p ≤ t) (m : Nat) : (∃ q, q ≤ t ∧ nx T t q = q ∧ ((f_X5_takeAhead_46_h5 (nI y) (m + 1) (nI s) (nI j) (PC σ p) = some (-1, PC σ q) ∧ f_X7_readAhead_h2 (nI k) (nI y) (m + 1) (nI s) (PM μ p) = some (-1, PM μ q)) ∨ (f_X5_takeAhead_46_h5 (nI y) (m + 1) (nI s) (nI j) (PC σ p) = some (nI s, PC σ q) ∧ f_X7_readAhead_h2 (nI k) (nI y) (m + 1) (nI s) (PM μ p) = some (nI s, PM μ q)) ∨ (f_X5_takeAhead_46_h5 (nI y) (m + 1) (nI s) (nI j) (PC σ p) = some (nI s, PC σ q) ∧ f_X7_readAhead_h2 (nI k) (nI y) (m + 1) (nI s) (PM μ p) = some (-1, PM μ q) ∧ q < t ∧ 97 ≤ T q ∧ T q ≤ 122))) ∨ (∃ n q, n < k ∧ s.testBit n = false ∧ q ≤ t ∧ f_X5_takeAhead_46_h5 (nI y) (m + 1) (nI s) (nI j) (PC σ p) = f_X5_takeAhead_46_h5 (nI y) m (nI (s ||| 2 ^ n)) (nI (j + 1)) (PC σ q) ∧ f_X7_readAhead_h2 (nI k) (nI y) (m + 1) (nI s) (PM μ p) = f_X7_readAhead_h2 (nI k) (nI y) m (nI (s ||| 2 ^ n)) (PM μ q)) := by
  have ht := hC.1
  have hT : ∀ i, i < t → T i ≤ 126 := fun i hi => (hC.2.2 i hi).2.1
  have hn := nx_le (T := T) hp
  have hp12 := pow12 (p := k) (by omega)
  have e97 : (97 : Int32) = nI 97 := rfl
  -- the model, at the letter
  have b23 : ∀ p', p' ≤ t → nx T t p' = nx T t p → f_X7_readAhead_b23 (f_X7_readAhead_h2 (nI k) (nI y) m) (nI k) (nI y) (nI s) (PM μ p') = (if ¬ (0 ≤ (ltI T t (nx T t p) - nI 97).toInt ∧ (ltI T t (nx T t p) - nI 97).toInt < (k : Int)) then some (-1, PM μ (nx T t p)) else (if (4 * (ltI T t (nx T t p) - nI 97)) < 0 ∨ 128 ≤ ix (4 * (ltI T t (nx T t p) - nI 97)) then none else if (nI y) < (μ.1 12 (ix (4 * (ltI T t (nx T t p) - nI 97)))) then (some ((-1), PM μ (nx T t p))) else (if (f_X7_has (nI s) (ltI T t (nx T t p) - nI 97)) = 0 then f_X7_readAhead_h2 (nI k) (nI y) m (nI s ||| (isl 1 (ltI T t (nx T t p) - nI 97))) (PM μ (nx T t p + 1)) else (some ((-1), PM μ (nx T t p)))))) := fun p' h1 h2 => by
    unfold f_X7_readAhead_b23
    rw [next_M hM h1, h2]
    simp only [bdp, sq, PM_1, nI_s, PM_w, PM_n μ _ (show (12 : Nat) ≠ 0 by decide), cnt_M0 (show k < 2 ^ 30 by omega), toL_T, e97]
  rw [f_X5_takeAhead_46_h5, if_neg (show ¬ (12 : Int32) ≤ nI j by rw [show (12 : Int32) = nI 12 from rfl, nI_leE (by omega) (by omega)]; omega), next_C hC hp]
  simp only [bdp, sq, PC_1, nI_s, PC_w, PC_n σ _ (show (46 : Nat) ≠ 37 by decide), PC_n σ _ (show (47 : Nat) ≠ 37 by decide), h46, e97]
  have stop : ∀ X : Option (Int32 × St), X = f_X5_takeAhead_46_b81 (nI y) (nI s) (PC σ (nx T t p)) → (f_X7_readAhead_b23 (f_X7_readAhead_h2 (nI k) (nI y) m) (nI k) (nI y) (nI s) (PM μ p) = some (-1, PM μ (nx T t p))) → (f_X7_readAhead_b23 (f_X7_readAhead_h2 (nI k) (nI y) m) (nI k) (nI y) (nI s) (PM μ (nx T t p)) = some (-1, PM μ (nx T t p))) → (∃ q, q ≤ t ∧ nx T t q = q ∧ ((X = some (-1, PC σ q) ∧ f_X7_readAhead_h2 (nI k) (nI y) (m + 1) (nI s) (PM μ p) = some (-1, PM μ q)) ∨ (X = some (nI s, PC σ q) ∧ f_X7_readAhead_h2 (nI k) (nI y) (m + 1) (nI s) (PM μ p) = some (nI s, PM μ q)) ∨ (X = some (nI s, PC σ q) ∧ f_X7_readAhead_h2 (nI k) (nI y) (m + 1) (nI s) (PM μ p) = some (-1, PM μ q) ∧ q < t ∧ 97 ≤ T q ∧ T q ≤ 122))) := fun X hX hm1 hm2 => by
    refine ⟨nx T t p, hn, nx_nx hp, ?_⟩
    rw [hX, f_X7_readAhead_h2]
    unfold f_X5_takeAhead_46_b81
    by_cases c : s = 0
    · rw [if_pos (show nI s = 0 by rw [c]; rfl), if_pos (show nI s = 0 by rw [c]; rfl), hm1]
      exact Or.inl ⟨rfl, rfl⟩
    · have c' : ¬ nI s = 0 := by rw [nI_eq0 (by omega)]; exact c
      rw [if_neg c', if_neg c', next_M hM hp]
      simp only [bdp, in_let hT 97 122 (l := 97) (h := 122) (by decide) (by decide)]
      by_cases g : nx T t p < t ∧ 97 ≤ T (nx T t p) ∧ T (nx T t p) ≤ 122
      · rw [if_neg (not_not_intro g), hm2]
        exact Or.inr (Or.inr ⟨trivial, rfl, g⟩)
      · rw [if_pos g]
        exact Or.inr (Or.inl ⟨trivial, rfl⟩)
  have r1 := b23 p hp rfl
  have r2 := b23 (nx T t p) hn (nx_nx hp)
  by_cases g : fgP T t p 97 k
  · have g' := g
    rw [← fg_in hT (by decide)] at g'
    have hv := fg_v g
    have hnk : T (nx T t p) - 97 < k := by have := g.2.2; have := g.2.1; omega
    have hlt := g.1
    have hg1 := g.2.1
    rw [hv] at r1 r2 ⊢
    have hgn : (nI (T (nx T t p) - 97)).toInt = ((T (nx T t p) - 97 : Nat) : Int) := lit_T _ (by omega)
    obtain ⟨n, hnn⟩ : ∃ n, n = T (nx T t p) - 97 := ⟨_, rfl⟩
    rw [← hnn] at r1 r2 hgn hnk ⊢
    obtain ⟨z, z1, z2, z3⟩ := hN n hnk
    have e4 : (4 : Int32) * nI n = nI (4 * n) := pk_mul 4 n
    simp only [hgn, e4, ix_nI (show 4 * n < 2 ^ 31 by omega), ok2 (show 4 * n < 128 by omega) (show 4 * n < 2 ^ 31 by omega), if_false, z3, nI_ltE (show y < 2 ^ 31 by omega) (show z < 2 ^ 31 by omega), has_M0 (show s < 2 ^ 31 by omega) (show n < 31 by omega), isl_1 (show n < 31 by omega), nI_or] at r1 r2
    rw [if_neg (by omega)] at r1 r2
    simp only [nI_lt0 (show n < 2 ^ 31 by omega), nI_leE (show k < 2 ^ 31 by omega) (show n < 2 ^ 31 by omega), show ¬ k ≤ n by omega, if_false, has_C0 (show s < 2 ^ 31 by omega) (show n < 31 by omega), ix_nI (show n < 2 ^ 31 by omega), false_or, show ¬ 12 ≤ n by omega, z2, nI_leE (show z < 2 ^ 31 by omega) (show y < 2 ^ 31 by omega), isl_1 (show n < 31 by omega), nI_or]
    by_cases c1 : s.testBit n = false
    · rw [if_pos c1]
      rw [if_pos c1] at r1 r2
      by_cases c2 : z ≤ y
      · rw [if_neg (by omega)] at r1 r2
        rw [if_pos c2]
        refine Or.inr ⟨n, nx T t p + 1, hnk, c1, hlt, rfl, ?_⟩
        rw [f_X7_readAhead_h2]
        by_cases c : s = 0
        · rw [if_pos (show nI s = 0 by rw [c]; rfl), r1]
        · rw [if_neg (show ¬ nI s = 0 by rw [nI_eq0 (by omega)]; exact c), next_M hM hp]
          simp only [bdp, in_let hT 97 122 (l := 97) (h := 122) (by decide) (by decide)]
          rw [if_neg (not_not_intro ⟨hlt, hg1, by omega⟩), r2]
      · rw [if_pos (by omega)] at r1 r2
        rw [if_neg c2]
        exact Or.inl (stop _ rfl r1 r2)
    · rw [if_neg c1]
      rw [if_neg c1, ite_self] at r1 r2
      exact Or.inl (stop _ rfl r1 r2)
  · have g' := g
    rw [← fg_in hT (by decide)] at g'
    rw [if_pos g'] at r1 r2
    refine Or.inl (stop _ ?_ r1 r2)
    by_cases c1 : ltI T t (nx T t p) - nI 97 < 0
    · rw [if_pos c1]
    · have c1' : ¬ (ltI T t (nx T t p) - nI 97).toInt < 0 := by rw [lt_T, T_0] at c1; exact c1
      rw [if_neg c1, if_pos (by rw [le_T, lit_T k (by omega)]; omega)]
theorem ah_J {σ μ : St} {t : Nat} {T : Nat → Nat} (hC : TC σ t T) (hM : TM μ t T) {k y : Nat} (hk : k ≤ 11) (hy : y < 100) (h46 : σ.1 46 0 = nI k) (hN : ∀ u, u < k → ∃ z, z < 100 ∧ σ.1 47 u = nI z ∧ μ.1 12 (4 * u) = nI z) : ∀ (d j m s p : Nat), j + d = k → d < m → s < 2 ^ k → ctN s k = j → p ≤ t → ∃ q, q ≤ t ∧ nx T t q = q ∧ ((f_X5_takeAhead_46_h5 (nI y) m (nI s) (nI j) (PC σ p) = some (-1, PC σ q) ∧ f_X7_readAhead_h2 (nI k) (nI y) m (nI s) (PM μ p) = some (-1, PM μ q)) ∨ (∃ s', s' < 2 ^ k ∧ f_X5_takeAhead_46_h5 (nI y) m (nI s) (nI j) (PC σ p) = some (nI s', PC σ q) ∧ f_X7_readAhead_h2 (nI k) (nI y) m (nI s) (PM μ p) = some (nI s', PM μ q)) ∨ (∃ s', s' < 2 ^ k ∧ f_X5_takeAhead_46_h5 (nI y) m (nI s) (nI j) (PC σ p) = some (nI s', PC σ q) ∧ f_X7_readAhead_h2 (nI k) (nI y) m (nI s) (PM μ p) = some (-1, PM μ q) ∧ q < t ∧ 97 ≤ T q ∧ T q ≤ 122)) := by
  intro d
  induction d with
  | zero =>
    intro j m s p h1 h2 hs hc hp
    obtain ⟨m, rfl⟩ : ∃ m', m = m' + 1 := ⟨m - 1, by omega⟩
    rcases ah_step hC hM hk hy h46 hN (j := j) (by omega) hs hp m with ⟨q, q1, q2, q3⟩ | ⟨n, q, n1, n2, -, -, -⟩
    · refine ⟨q, q1, q2, ?_⟩
      rcases q3 with q3 | q3 | q3
      · exact Or.inl q3
      · exact Or.inr (Or.inl ⟨s, hs, q3⟩)
      · exact Or.inr (Or.inr ⟨s, hs, q3⟩)
    · have := ct_lt n1 n2
      omega
  | succ d ih =>
    intro j m s p h1 h2 hs hc hp
    obtain ⟨m, rfl⟩ : ∃ m', m = m' + 1 := ⟨m - 1, by omega⟩
    rcases ah_step hC hM hk hy h46 hN (j := j) (by omega) hs hp m with ⟨q, q1, q2, q3⟩ | ⟨n, q, n1, n2, n3, n4, n5⟩
    · refine ⟨q, q1, q2, ?_⟩
      rcases q3 with q3 | q3 | q3
      · exact Or.inl q3
      · exact Or.inr (Or.inl ⟨s, hs, q3⟩)
      · exact Or.inr (Or.inr ⟨s, hs, q3⟩)
    · rw [n4, n5]
      exact ih (j + 1) m (s ||| 2 ^ n) q (by omega) (by omega) (Nat.or_lt_two_pow hs (Nat.pow_lt_pow_right (by decide) n1)) (by rw [ct_or n1 n2, hc]) n3
theorem ba_step {σ μ : St} {t : Nat} {T : Nat → Nat} (hC : TC σ t T) (hM : TM μ t T) {j s p : Nat} (hj : j < 10) (hs : s < 1024) (hp : p ≤ t) (m : Nat) : (∃ q, q ≤ t ∧ nx T t q = q ∧ ((f_X5_takeBarred_h4 (m + 1) (nI s) (nI j) (PC σ p) = some (-1, PC σ q) ∧ f_X7_readBarred_h2 (m + 1) (nI s) (PM μ p) = some (-1, PM μ q)) ∨ (f_X5_takeBarred_h4 (m + 1) (nI s) (nI j) (PC σ p) = some (nI s, PC σ q) ∧ f_X7_readBarred_h2 (m + 1) (nI s) (PM μ p) = some (nI s, PM μ q)) ∨ (f_X5_takeBarred_h4 (m + 1) (nI s) (nI j) (PC σ p) = some (nI s, PC σ q) ∧ f_X7_readBarred_h2 (m + 1) (nI s) (PM μ p) = some (-1, PM μ q) ∧ q < t ∧ 48 ≤ T q ∧ T q ≤ 57))) ∨ (∃ n q, n < 10 ∧ s.testBit n = false ∧ q ≤ t ∧ f_X5_takeBarred_h4 (m + 1) (nI s) (nI j) (PC σ p) = f_X5_takeBarred_h4 m (nI (s ||| 2 ^ n)) (nI (j + 1)) (PC σ q) ∧ f_X7_readBarred_h2 (m + 1) (nI s) (PM μ p) = f_X7_readBarred_h2 m (nI (s ||| 2 ^ n)) (PM μ q)) := by
  have ht := hC.1
  have hT : ∀ i, i < t → T i ≤ 126 := fun i hi => (hC.2.2 i hi).2.1
  have hn := nx_le (T := T) hp
  have e48 : (48 : Int32) = nI 48 := rfl
  have b23 : ∀ p', p' ≤ t → nx T t p' = nx T t p → f_X7_readBarred_b23 (f_X7_readBarred_h2 m) (nI s) (PM μ p') = (if ¬ (0 ≤ (ltI T t (nx T t p) - nI 48).toInt ∧ (ltI T t (nx T t p) - nI 48).toInt ≤ 9) then some (-1, PM μ (nx T t p)) else (if (f_X7_has (nI s) (ltI T t (nx T t p) - nI 48)) = 0 then f_X7_readBarred_h2 m (nI s ||| (isl 1 (ltI T t (nx T t p) - nI 48))) (PM μ (nx T t p + 1)) else (some ((-1), PM μ (nx T t p))))) := fun p' h1 h2 => by
    unfold f_X7_readBarred_b23
    rw [next_M hM h1, h2]
    simp only [bdp, sq, PM_1, nI_s, PM_w, in_0, toL_T, e48, show (0 : Int64).toInt = 0 by decide, show (9 : Int64).toInt = 9 by decide]
  rw [f_X5_takeBarred_h4, if_neg (show ¬ (10 : Int32) ≤ nI j by rw [show (10 : Int32) = nI 10 from rfl, nI_leE (by omega) (by omega)]; omega), next_C hC hp]
  simp only [bdp, sq, PC_1, nI_s, PC_w, e48]
  have stop : ∀ X : Option (Int32 × St), X = f_X5_takeBarred_b61 (nI s) (PC σ (nx T t p)) → (f_X7_readBarred_b23 (f_X7_readBarred_h2 m) (nI s) (PM μ p) = some (-1, PM μ (nx T t p))) → (f_X7_readBarred_b23 (f_X7_readBarred_h2 m) (nI s) (PM μ (nx T t p)) = some (-1, PM μ (nx T t p))) → (∃ q, q ≤ t ∧ nx T t q = q ∧ ((X = some (-1, PC σ q) ∧ f_X7_readBarred_h2 (m + 1) (nI s) (PM μ p) = some (-1, PM μ q)) ∨ (X = some (nI s, PC σ q) ∧ f_X7_readBarred_h2 (m + 1) (nI s) (PM μ p) = some (nI s, PM μ q)) ∨ (X = some (nI s, PC σ q) ∧ f_X7_readBarred_h2 (m + 1) (nI s) (PM μ p) = some (-1, PM μ q) ∧ q < t ∧ 48 ≤ T q ∧ T q ≤ 57))) := fun X hX hm1 hm2 => by
    refine ⟨nx T t p, hn, nx_nx hp, ?_⟩
    rw [hX, f_X7_readBarred_h2]
    unfold f_X5_takeBarred_b61
    by_cases c : s = 0
    · rw [if_pos (show nI s = 0 by rw [c]; rfl), if_pos (show nI s = 0 by rw [c]; rfl), hm1]
      exact Or.inl ⟨rfl, rfl⟩
    · have c' : ¬ nI s = 0 := by rw [nI_eq0 (by omega)]; exact c
      rw [if_neg c', if_neg c', next_M hM hp]
      simp only [bdp, in_let hT 48 57 (l := 48) (h := 57) (by decide) (by decide)]
      by_cases g : nx T t p < t ∧ 48 ≤ T (nx T t p) ∧ T (nx T t p) ≤ 57
      · rw [if_neg (not_not_intro g), hm2]
        exact Or.inr (Or.inr ⟨trivial, rfl, g⟩)
      · rw [if_pos g]
        exact Or.inr (Or.inl ⟨trivial, rfl⟩)
  have r1 := b23 p hp rfl
  have r2 := b23 (nx T t p) hn (nx_nx hp)
  by_cases g : fgP T t p 48 10
  · have hv := fg_v g
    have hnk : T (nx T t p) - 48 < 10 := by have := g.2.2; have := g.2.1; omega
    have hlt := g.1
    have hg1 := g.2.1
    rw [hv] at r1 r2 ⊢
    have hgn : (nI (T (nx T t p) - 48)).toInt = ((T (nx T t p) - 48 : Nat) : Int) := lit_T _ (by omega)
    obtain ⟨n, hnn⟩ : ∃ n, n = T (nx T t p) - 48 := ⟨_, rfl⟩
    rw [← hnn] at r1 r2 hgn hnk ⊢
    simp only [hgn, has_M0 (show s < 2 ^ 31 by omega) (show n < 31 by omega), isl_1 (show n < 31 by omega), nI_or] at r1 r2
    rw [if_neg (by omega)] at r1 r2
    simp only [nI_lt0 (show n < 2 ^ 31 by omega), show (10 : Int32) = nI 10 from rfl, nI_leE (show 10 < 2 ^ 31 by decide) (show n < 2 ^ 31 by omega), show ¬ 10 ≤ n by omega, if_false, has_C0 (show s < 2 ^ 31 by omega) (show n < 31 by omega), isl_1 (show n < 31 by omega), nI_or]
    by_cases c1 : s.testBit n = false
    · rw [if_pos c1]
      rw [if_pos c1] at r1 r2
      refine Or.inr ⟨n, nx T t p + 1, hnk, c1, hlt, rfl, ?_⟩
      rw [f_X7_readBarred_h2]
      by_cases c : s = 0
      · rw [if_pos (show nI s = 0 by rw [c]; rfl), r1]
      · rw [if_neg (show ¬ nI s = 0 by rw [nI_eq0 (by omega)]; exact c), next_M hM hp]
        simp only [bdp, in_let hT 48 57 (l := 48) (h := 57) (by decide) (by decide)]
        rw [if_neg (not_not_intro ⟨hlt, hg1, by omega⟩), r2]
    · rw [if_neg c1]
      rw [if_neg c1] at r1 r2
      exact Or.inl (stop _ rfl r1 r2)
  · have g' := g
    rw [← fg_in hT (by decide)] at g'
    rw [if_pos (by omega)] at r1 r2
    refine Or.inl (stop _ ?_ r1 r2)
    by_cases c1 : ltI T t (nx T t p) - nI 48 < 0
    · rw [if_pos c1]
    · have c1' : ¬ (ltI T t (nx T t p) - nI 48).toInt < 0 := by rw [lt_T, T_0] at c1; exact c1
      rw [if_neg c1, if_pos (by rw [le_T, show (10 : Int32).toInt = 10 by decide]; omega)]
theorem ct_full {s p : Nat} (h : ctN s p = p) {n : Nat} (hn : n < p) : s.testBit n = true := by
  cases hb : s.testBit n
  · have := ct_lt hn hb
    omega
  · rfl
theorem ba_J {σ μ : St} {t : Nat} {T : Nat → Nat} (hC : TC σ t T) (hM : TM μ t T) : ∀ (d j m s p : Nat), j + d = 10 → d < m → s < 1024 → ctN s 10 = j → p ≤ t → ∃ pc q, pc ≤ t ∧ q ≤ t ∧ nx T t pc = q ∧ nx T t q = q ∧ ((pc = q ∧ f_X5_takeBarred_h4 m (nI s) (nI j) (PC σ p) = some (-1, PC σ q) ∧ f_X7_readBarred_h2 m (nI s) (PM μ p) = some (-1, PM μ q)) ∨ (∃ s', s' < 1024 ∧ f_X5_takeBarred_h4 m (nI s) (nI j) (PC σ p) = some (nI s', PC σ pc) ∧ f_X7_readBarred_h2 m (nI s) (PM μ p) = some (nI s', PM μ q)) ∨ (∃ s', s' < 1024 ∧ f_X5_takeBarred_h4 m (nI s) (nI j) (PC σ p) = some (nI s', PC σ pc) ∧ f_X7_readBarred_h2 m (nI s) (PM μ p) = some (-1, PM μ q) ∧ q < t ∧ 48 ≤ T q ∧ T q ≤ 57)) := by
  have hT : ∀ i, i < t → T i ≤ 126 := fun i hi => (hC.2.2 i hi).2.1
  intro d
  induction d with
  | zero =>
    intro j m s p h1 h2 hs hc hp
    obtain ⟨m, rfl⟩ : ∃ m', m = m' + 1 := ⟨m - 1, by omega⟩
    have hj : j = 10 := by omega
    subst hj
    have full : ∀ n, n < 10 → s.testBit n = true := fun n hn => ct_full hc hn
    have s0 : s ≠ 0 := fun e => by
      have := full 0 (by decide)
      rw [e, Nat.zero_testBit] at this
      cases this
    have c' : ¬ nI s = 0 := by rw [nI_eq0 (by omega)]; exact s0
    have hn := nx_le (T := T) hp
    refine ⟨p, nx T t p, hp, hn, rfl, nx_nx hp, ?_⟩
    rw [f_X5_takeBarred_h4, if_pos (show (10 : Int32) ≤ nI 10 by decide), f_X7_readBarred_h2, if_neg c', next_M hM hp]
    unfold f_X5_takeBarred_b61
    rw [if_neg c']
    simp only [bdp, in_let hT 48 57 (l := 48) (h := 57) (by decide) (by decide)]
    by_cases g : nx T t p < t ∧ 48 ≤ T (nx T t p) ∧ T (nx T t p) ≤ 57
    · rw [if_neg (not_not_intro g)]
      refine Or.inr (Or.inr ⟨s, hs, rfl, ?_, g⟩)
      unfold f_X7_readBarred_b23
      rw [next_M hM hn, nx_nx hp]
      have hv : ltI T t (nx T t p) - 48 = nI (T (nx T t p) - 48) := fg_v (T := T) (t := t) (p := p) (o := 48) (b := 10) ⟨g.1, g.2.1, by omega⟩
      simp only [bdp, sq, hv, in_0, toL_T, lit_T (T (nx T t p) - 48) (show T (nx T t p) - 48 < 2 ^ 31 by omega), show (0 : Int64).toInt = 0 by decide, show (9 : Int64).toInt = 9 by decide, has_M0 (show s < 2 ^ 31 by omega) (show T (nx T t p) - 48 < 31 by omega)]
      rw [if_neg (by omega), full _ (by omega), if_neg (show ¬ true = false by decide)]
    · rw [if_pos g]
      exact Or.inr (Or.inl ⟨s, hs, rfl, rfl⟩)
  | succ d ih =>
    intro j m s p h1 h2 hs hc hp
    obtain ⟨m, rfl⟩ : ∃ m', m = m' + 1 := ⟨m - 1, by omega⟩
    rcases ba_step hC hM (j := j) (by omega) hs hp m with ⟨q, q1, q2, q3⟩ | ⟨n, q, n1, n2, n3, n4, n5⟩
    · refine ⟨q, q, q1, q1, q2, q2, ?_⟩
      rcases q3 with q3 | q3 | q3
      · exact Or.inl ⟨rfl, q3⟩
      · exact Or.inr (Or.inl ⟨s, hs, q3⟩)
      · exact Or.inr (Or.inr ⟨s, hs, q3⟩)
    · rw [n4, n5]
      exact ih (j + 1) m (s ||| 2 ^ n) q (by omega) (by omega) (Nat.or_lt_two_pow (n := 10) hs (Nat.pow_lt_pow_right (by decide) n1)) (by rw [ct_or n1 n2, hc]) n3
