theorem paper_l {t : Nat} {T : Nat → Nat} : ∀ (d k m : Nat) (σ μ : St) (p : Nat), k + d = 12 → 1 ≤ d → d < m → TC σ t T → TM μ t T → NT σ μ k → σ.1 46 0 = nI k → μ.1 0 21 = nI k → p ≤ t → ∃ (r : Int32) (σ' μ' : St) (q : Nat), f_X5_takePaper_46_h11 m (nI k) (PC σ p) = some (r, PC σ' q) ∧ f_X7_readAll_h34 1 m 12 1 (PM μ p) = some (r, PM μ' q) ∧ (∀ c, (c < 46 ∨ 50 < c) → σ'.1 c = σ.1 c) ∧ σ'.2 = σ.2 ∧ (∀ c, c ≠ 0 → c ≠ 12 → μ'.1 c = μ.1 c) ∧ (∀ f, f ≠ 21 → μ'.1 0 f = μ.1 0 f) ∧ μ'.2 = μ.2 ∧ q ≤ t ∧ ((r = 0 ∧ nx T t q = q) ∨ (r = 1 ∧ ∃ n, n ≤ 12 ∧ NT σ' μ' n ∧ σ'.1 46 0 = nI n ∧ σ'.1 46 1 = 0 ∧ μ'.1 0 21 = nI n)) := by
  intro d
  induction d with
  | zero =>
    intro k m σ μ p h1 h0
    omega
  | succ d ih =>
    intro k m σ μ p h1 h0 h2 hC hM hN h46 h21 hp
    obtain ⟨m, rfl⟩ : ∃ m', m = m' + 1 + 1 := ⟨m - 2, by omega⟩
    have hT : ∀ i, i < t → T i ≤ 126 := fun i hi => (hC.2.2 i hi).2.1
    have hle : ¬ (12 : Int32) ≤ nI k := by rw [show (12 : Int32) = nI 12 from rfl, nI_leE (by omega) (by omega)]; omega
    have hk9 : (nI k = 11) = (k = 11) := by rw [show (11 : Int32) = nI 11 from rfl, nI_eqE (by omega) (by omega)]
    obtain ⟨σ1, μ1, c1, c2, m1, m2, hr⟩ := news_J hC hM (show k ≤ 11 by omega) h46 hN hp
    have hC1 : TC σ1 t T := hC.fr (by rw [c1 37 (by decide)]) (c1 38 (by decide))
    have hM1 : TM μ1 t T := hM.fr (by rw [m1 0 (by decide)]) (m1 11 (by decide))
    rw [f_X5_takePaper_46_h11, f_X7_readAll_h34, if_neg hle, if_neg (show ¬ (1 : Int32) = 0 by decide), PM_o μ p (by decide), h21, if_neg hle, if_neg (show ¬ (1 : Int32) = 0 by decide), if_pos rfl]
    rcases hr with ⟨q, hq, hqq, e1, e2⟩ | ⟨pc, q, hpc, hq, hpq, e1, e2, hN1, h461, h462⟩ | ⟨pc, q, hpc, hq, hpq, hqq, h44, e1, e2⟩
    · rw [e1, e2]
      simp only [bdp]
      rw [if_pos trivial, if_pos trivial]
      refine ⟨0, σ1, μ1, q, rfl, ?_, c1, c2, fun c _ h12 => m1 c h12, fun f _ => by rw [m1 0 (by decide)], m2, hq, Or.inl ⟨rfl, hqq⟩⟩
      unfold f_X7_readAll_b103
      rw [if_pos rfl]
    · rw [e1, e2]
      simp only [bdp]
      have hn := nx_le (T := T) hq
      rw [if_neg (show ¬ (1 : Int32) = 0 by decide), if_neg (show ¬ (1 : Int32) = 0 by decide), next_C hC1 hpc, hpq]
      simp only []
      have fr2 : ∀ c, c ≠ 0 → c ≠ 12 → (wr μ1 0 21 (nI (k + 1))).1 c = μ.1 c := fun c d1 d2 => by rw [wr_ne d1, m1 c d2]
      have ff2 : ∀ f, f ≠ 21 → (wr μ1 0 21 (nI (k + 1))).1 0 f = μ.1 0 f := fun f hf => by rw [wr_get, if_pos rfl, if_neg hf, m1 0 (by decide)]
      have hG2 : NT σ1 (wr μ1 0 21 (nI (k + 1))) (k + 1) := by
        unfold NT
        rw [wr_ne (by decide)]
        exact hN1
      have h212 : (wr μ1 0 21 (nI (k + 1))).1 0 21 = nI (k + 1) := wr_at _ _ _ _
      have fin0 : ∃ (r : Int32) (σ' μ' : St) (q' : Nat), some ((0 : Int32), PC σ1 (nx T t q)) = some (r, PC σ' q') ∧ some ((0 : Int32), PM (wr μ1 0 21 (nI (k + 1))) (nx T t q)) = some (r, PM μ' q') ∧ (∀ c, (c < 46 ∨ 50 < c) → σ'.1 c = σ.1 c) ∧ σ'.2 = σ.2 ∧ (∀ c, c ≠ 0 → c ≠ 12 → μ'.1 c = μ.1 c) ∧ (∀ f, f ≠ 21 → μ'.1 0 f = μ.1 0 f) ∧ μ'.2 = μ.2 ∧ q' ≤ t ∧ ((r = 0 ∧ nx T t q' = q') ∨ (r = 1 ∧ ∃ n, n ≤ 12 ∧ NT σ' μ' n ∧ σ'.1 46 0 = nI n ∧ σ'.1 46 1 = 0 ∧ μ'.1 0 21 = nI n)) := ⟨0, σ1, _, nx T t q, rfl, rfl, c1, c2, fr2, ff2, m2, hn, Or.inl ⟨rfl, nx_nx hq⟩⟩
      rcases ra_nx hM1 1 (q := q) (k := k) (most := 12) (sep := 44) (by decide) (by decide) (by decide) (by omega) (by rw [m1 0 (by decide), h21]) hq m with ⟨g, e⟩ | ⟨g1, g2, e⟩
      · have e' : f_X7_readAll_b103 (f_X7_readAll_h34 1 (m + 1)) 1 12 1 (PM μ1 q) = _ := e
        rw [e']
        by_cases c : nx T t q < t
        · rw [if_pos c, if_neg (by rw [lt_m1 hT]; exact not_not_intro c)]
          by_cases c9 : k = 11
          · rw [if_pos (by rw [hk9]; exact c9)]
            exact fin0
          · rw [if_neg (by rw [hk9]; exact c9)]
            have g' : ¬ tkP T t q 44 := by
              rcases g with g | g
              · omega
              · exact g
            rcases takes_C hC1 hn (c := 44) (by decide) with ⟨g3, e3⟩ | ⟨g3, e3⟩
            · rw [tk_nx hq] at g3
              exact absurd g3 g'
            · have e3' : f_X5_takes (PC σ1 (nx T t q)) 44 = _ := e3
              rw [e3', nx_nx hq]
              simp only []
              rw [if_pos trivial]
              exact fin0
        · rw [if_neg c, if_pos (by rw [lt_m1 hT]; exact c)]
          exact ⟨1, σ1, _, nx T t q, rfl, rfl, c1, c2, fr2, ff2, m2, hn, Or.inr ⟨rfl, k + 1, by omega, hG2, h461, h462, h212⟩⟩
      · have e' : f_X7_readAll_b103 (f_X7_readAll_h34 1 (m + 1)) 1 12 1 (PM μ1 q) = f_X7_readAll_h34 1 (m + 1) 12 1 (PM (wr μ1 0 21 (nI (k + 1))) (nx T t q + 1)) := e
        rw [e', if_neg (by rw [lt_m1 hT]; exact not_not_intro g2.1), if_neg (by rw [hk9]; omega)]
        rcases takes_C hC1 hn (c := 44) (by decide) with ⟨g3, e3⟩ | ⟨g3, e3⟩
        · have e3' : f_X5_takes (PC σ1 (nx T t q)) 44 = _ := e3
          rw [e3', nx_nx hq]
          simp only [sq, nI_s]
          rw [if_neg (show ¬ (1 : Int32) = 0 by decide)]
          obtain ⟨r, σ', μ', q', b1, b2, b3, b4, b5, b6, b7, b8, b9⟩ := ih (k + 1) (m + 1) σ1 (wr μ1 0 21 (nI (k + 1))) (nx T t q + 1) (by omega) (by omega) (by omega) hC1 (hM1.fr (by rw [wr_get, if_pos rfl, if_neg (by decide)]) (wr_ne (by decide))) hG2 h461 h212 g2.1
          exact ⟨r, σ', μ', q', b1, b2, fun c hc => by rw [b3 c hc, c1 c hc], by rw [b4, c2], fun c d1 d2 => by rw [b5 c d1 d2, fr2 c d1 d2], fun f hf => by rw [b6 f hf, ff2 f hf], by rw [b7]; exact m2, b8, b9⟩
        · rw [tk_nx hq] at g3
          exact absurd g2 g3
    · rw [e1, e2]
      simp only [bdp]
      rw [if_neg (show ¬ (1 : Int32) = 0 by decide), if_pos trivial, next_C hC1 hpc, hpq]
      simp only []
      rw [if_neg (by rw [lt_m1 hT]; exact not_not_intro hq)]
      have hM0 : f_X7_readAll_b103 (f_X7_readAll_h34 1 (m + 1)) 1 12 0 (PM μ1 q) = some (0, PM μ1 q) := by
        unfold f_X7_readAll_b103
        rw [if_pos rfl]
      rw [hM0]
      have fin0 : ∃ (r : Int32) (σ' μ' : St) (q' : Nat), some ((0 : Int32), PC σ1 q) = some (r, PC σ' q') ∧ some ((0 : Int32), PM μ1 q) = some (r, PM μ' q') ∧ (∀ c, (c < 46 ∨ 50 < c) → σ'.1 c = σ.1 c) ∧ σ'.2 = σ.2 ∧ (∀ c, c ≠ 0 → c ≠ 12 → μ'.1 c = μ.1 c) ∧ (∀ f, f ≠ 21 → μ'.1 0 f = μ.1 0 f) ∧ μ'.2 = μ.2 ∧ q' ≤ t ∧ ((r = 0 ∧ nx T t q' = q') ∨ (r = 1 ∧ ∃ n, n ≤ 12 ∧ NT σ' μ' n ∧ σ'.1 46 0 = nI n ∧ σ'.1 46 1 = 0 ∧ μ'.1 0 21 = nI n)) := ⟨0, σ1, μ1, q, rfl, rfl, c1, c2, fun c _ h12 => m1 c h12, fun f _ => by rw [m1 0 (by decide)], m2, by omega, Or.inl ⟨rfl, hqq⟩⟩
      by_cases c9 : k = 11
      · rw [if_pos (by rw [hk9]; exact c9)]
        exact fin0
      · rw [if_neg (by rw [hk9]; exact c9)]
        rcases takes_C hC1 (show q ≤ t by omega) (c := 44) (by decide) with ⟨g3, e3⟩ | ⟨g3, e3⟩
        · have := g3.2
          rw [hqq] at this
          exact absurd this h44
        · have e3' : f_X5_takes (PC σ1 q) 44 = _ := e3
          rw [e3', hqq]
          simp only []
          rw [if_pos trivial]
          exact fin0
theorem fill6 : ∀ (k i m : Nat) (σ : St), i + k = 10 → k < m → ∃ σ', f_J7_fill_53178_6_h5 0 m (nI i) 10 σ = some σ' ∧ (∀ c, c ≠ 6 → σ'.1 c = σ.1 c) ∧ σ'.2 = σ.2 ∧ (∀ q, i ≤ q → q < 10 → σ'.1 6 q = 0) ∧ (∀ q, q < i → σ'.1 6 q = σ.1 6 q) := by
  intro k
  induction k with
  | zero =>
    intro i m σ h1 h2
    obtain ⟨m, rfl⟩ : ∃ m', m = m' + 1 := ⟨m - 1, by omega⟩
    rw [f_J7_fill_53178_6_h5, if_pos (by rw [show (10 : Int32) = nI 10 from rfl, nI_leE (by omega) (by omega)]; omega)]
    exact ⟨σ, rfl, fun _ _ => rfl, rfl, fun q h3 h4 => by omega, fun _ _ => rfl⟩
  | succ k ih =>
    intro i m σ h1 h2
    obtain ⟨m, rfl⟩ : ∃ m', m = m' + 1 := ⟨m - 1, by omega⟩
    rw [f_J7_fill_53178_6_h5, if_neg (by rw [show (10 : Int32) = nI 10 from rfl, nI_leE (by omega) (by omega)]; omega)]
    simp only [ix_nI (show i < 2 ^ 31 by omega), ok2 (show i < 10 by omega) (show i < 2 ^ 31 by omega), if_false, sq, nI_s]
    obtain ⟨σ', e, e1, e2, e3, e4⟩ := ih (i + 1) m (wr σ 6 i 0) (by omega) (by omega)
    refine ⟨σ', e, fun c hc => by rw [e1 c hc, wr_ne hc], e2, fun q h3 h4 => ?_, fun q h3 => ?_⟩
    · by_cases h5 : q = i
      · subst h5
        rw [e4 q (by omega), wr_get, if_pos rfl, if_pos rfl]
      · exact e3 q (by omega) h4
    · rw [e4 q (by omega), wr_get, if_pos rfl, if_neg (by omega)]
theorem fill7 : ∀ (k i m : Nat) (σ : St), i + k = 10 → k < m → ∃ σ', f_J7_fill_53178_7_h5 0 m (nI i) 10 σ = some σ' ∧ (∀ c, c ≠ 7 → σ'.1 c = σ.1 c) ∧ σ'.2 = σ.2 ∧ (∀ q, i ≤ q → q < 10 → σ'.1 7 q = 0) ∧ (∀ q, q < i → σ'.1 7 q = σ.1 7 q) := by
  intro k
  induction k with
  | zero =>
    intro i m σ h1 h2
    obtain ⟨m, rfl⟩ : ∃ m', m = m' + 1 := ⟨m - 1, by omega⟩
    rw [f_J7_fill_53178_7_h5, if_pos (by rw [show (10 : Int32) = nI 10 from rfl, nI_leE (by omega) (by omega)]; omega)]
    exact ⟨σ, rfl, fun _ _ => rfl, rfl, fun q h3 h4 => by omega, fun _ _ => rfl⟩
  | succ k ih =>
    intro i m σ h1 h2
    obtain ⟨m, rfl⟩ : ∃ m', m = m' + 1 := ⟨m - 1, by omega⟩
    rw [f_J7_fill_53178_7_h5, if_neg (by rw [show (10 : Int32) = nI 10 from rfl, nI_leE (by omega) (by omega)]; omega)]
    simp only [ix_nI (show i < 2 ^ 31 by omega), ok2 (show i < 10 by omega) (show i < 2 ^ 31 by omega), if_false, sq, nI_s]
    obtain ⟨σ', e, e1, e2, e3, e4⟩ := ih (i + 1) m (wr σ 7 i 0) (by omega) (by omega)
    refine ⟨σ', e, fun c hc => by rw [e1 c hc, wr_ne hc], e2, fun q h3 h4 => ?_, fun q h3 => ?_⟩
    · by_cases h5 : q = i
      · subst h5
        rw [e4 q (by omega), wr_get, if_pos rfl, if_pos rfl]
      · exact e3 q (by omega) h4
    · rw [e4 q (by omega), wr_get, if_pos rfl, if_neg (by omega)]
theorem forget_C (σ : St) : ∃ σ', f_X1_forget σ = some σ' ∧ (∀ c, c ≠ 6 → c ≠ 7 → σ'.1 c = σ.1 c) ∧ σ'.2 = σ.2 ∧ (∀ q, q < 10 → σ'.1 6 q = 0 ∧ σ'.1 7 q = 0) := by
  unfold f_X1_forget f_J7_fill_53178_6 f_J7_fill_53178_7
  obtain ⟨σ1, e, e1, e2, e3, -⟩ := fill6 10 0 FU σ (by omega) (by unfold FU; omega)
  obtain ⟨σ2, g, g1, g2, g3, -⟩ := fill7 10 0 FU σ1 (by omega) (by unfold FU; omega)
  have e' : f_J7_fill_53178_6_h5 0 FU 0 10 σ = some σ1 := e
  have g' : f_J7_fill_53178_7_h5 0 FU 0 10 σ1 = some σ2 := g
  rw [e']
  simp only [bdr]
  rw [g']
  exact ⟨σ2, rfl, fun c c6 c7 => by rw [g1 c c7, e1 c c6], by rw [g2, e2], fun q hq => ⟨by rw [g1 6 (by decide)]; exact e3 q (by omega) hq, g3 q (by omega) hq⟩⟩
theorem paper_27 {n : Nat} {hh : Nat → Nat} (hn : n ≤ 12) : ∀ (k i m o : Nat) (μ : St), i + k = n → k < m → μ.1 0 21 = nI n → μ.1 0 8 = nI i → o < 4096 → μ.1 0 7 = nI o → (∀ u, u < i → o.testBit u = decide (hh u = 1)) → (∀ u, u < n → μ.1 12 (4 * u + 3) = nI (hh u) ∧ hh u ≤ 1) → ∃ (μ' : St) (o' : Nat), f_X7_paper_h27 m (nI i) μ = some (nI n, μ') ∧ (∀ c, c ≠ 0 → c ≠ 4 → c ≠ 5 → c ≠ 6 → μ'.1 c = μ.1 c) ∧ (∀ f, f ≠ 7 → f ≠ 8 → μ'.1 0 f = μ.1 0 f) ∧ μ'.1 0 8 = nI n ∧ μ'.1 0 7 = nI o' ∧ o' < 4096 ∧ (∀ u, u < n → o'.testBit u = decide (hh u = 1)) ∧ μ'.2 = μ.2 ∧ (∀ u, i ≤ u → u < n → μ'.1 4 u = μ.1 12 (4 * u) ∧ μ'.1 5 u = μ.1 12 (4 * u + 1) ∧ μ'.1 6 u = μ.1 12 (4 * u + 2)) ∧ (∀ u, u < i → μ'.1 4 u = μ.1 4 u ∧ μ'.1 5 u = μ.1 5 u ∧ μ'.1 6 u = μ.1 6 u) := by
  intro k
  induction k with
  | zero =>
    intro i m o μ h1 h2 h21 h8 ho h7 hb hx
    obtain ⟨m, rfl⟩ : ∃ m', m = m' + 1 := ⟨m - 1, by omega⟩
    have : i = n := by omega
    subst this
    rw [f_X7_paper_h27, h21, if_pos (by rw [nI_leE (by omega) (by omega)]; omega), h8]
    exact ⟨μ, o, rfl, fun _ _ _ _ _ => rfl, fun _ _ _ => rfl, h8, h7, ho, hb, rfl, fun u h4 h5 => by omega, fun _ _ => ⟨rfl, rfl, rfl⟩⟩
  | succ k ih =>
    intro i m o μ h1 h2 h21 h8 ho h7 hb hx
    obtain ⟨m, rfl⟩ : ∃ m', m = m' + 1 := ⟨m - 1, by omega⟩
    obtain ⟨x3, x1⟩ := hx i (by omega)
    rw [f_X7_paper_h27, h21, if_neg (by rw [nI_leE (by omega) (by omega)]; omega)]
    simp only [show (4 : Int32) * nI i = nI (4 * i) from pk_mul 4 i, nI_s, nI_2, nI_3, ix_nI (show 4 * i < 2 ^ 31 by omega), ok2 (show 4 * i < 128 by omega) (show 4 * i < 2 ^ 31 by omega), ix_nI (show 4 * i + 1 < 2 ^ 31 by omega), ok2 (show 4 * i + 1 < 128 by omega) (show 4 * i + 1 < 2 ^ 31 by omega), ix_nI (show 4 * i + 2 < 2 ^ 31 by omega), ok2 (show 4 * i + 2 < 128 by omega) (show 4 * i + 2 < 2 ^ 31 by omega), ix_nI (show 4 * i + 3 < 2 ^ 31 by omega), ok2 (show 4 * i + 3 < 128 by omega) (show 4 * i + 3 < 2 ^ 31 by omega), if_false]
    have ea : f_X7_addNews μ (μ.1 12 (4 * i)) (μ.1 12 (4 * i + 1)) (μ.1 12 (4 * i + 2)) (μ.1 12 (4 * i + 3)) = some (wr (wr (wr (wr (wr μ 4 i (μ.1 12 (4 * i))) 5 i (μ.1 12 (4 * i + 1))) 6 i (μ.1 12 (4 * i + 2))) 0 7 (nI (shN o i (hh i)))) 0 8 (nI (i + 1))) := by
      rw [addN_Me, h8, h7, x3]
      simp only [ix_nI (show i < 2 ^ 31 by omega), ok2 (show i < 12 by omega) (show i < 2 ^ 31 by omega), if_false, nI_s, isl_1 (show i < 31 by omega), nI_andn, isl_n (show i < 31 by omega) x1, nI_or]
      rfl
    rw [ea]
    simp only [bdr, sq]
    obtain ⟨μ1, hμ⟩ : ∃ μ1, μ1 = wr (wr (wr (wr (wr μ 4 i (μ.1 12 (4 * i))) 5 i (μ.1 12 (4 * i + 1))) 6 i (μ.1 12 (4 * i + 2))) 0 7 (nI (shN o i (hh i)))) 0 8 (nI (i + 1)) := ⟨_, rfl⟩
    have g1 : ∀ c, c ≠ 0 → c ≠ 4 → c ≠ 5 → c ≠ 6 → μ1.1 c = μ.1 c := fun c d0 d1 d2 d3 => by rw [hμ, wr_ne d0, wr_ne d0, wr_ne d3, wr_ne d2, wr_ne d1]
    have g2 : ∀ f, f ≠ 7 → f ≠ 8 → μ1.1 0 f = μ.1 0 f := fun f h7 h8 => by rw [hμ, wr_get, if_pos rfl, if_neg h8, wr_get, if_pos rfl, if_neg h7, wr_ne (by decide), wr_ne (by decide), wr_ne (by decide)]
    have g3 : μ1.1 0 8 = nI (i + 1) := by rw [hμ, wr_at]
    have g37 : μ1.1 0 7 = nI (shN o i (hh i)) := by rw [hμ, wr_get, if_pos rfl, if_neg (by decide), wr_at]
    have g4 : ∀ u, μ1.1 4 u = if u = i then μ.1 12 (4 * i) else μ.1 4 u := fun u => by rw [hμ, wr_ne (by decide), wr_ne (by decide), wr_ne (by decide), wr_ne (by decide), wr_get, if_pos rfl]
    have g5 : ∀ u, μ1.1 5 u = if u = i then μ.1 12 (4 * i + 1) else μ.1 5 u := fun u => by rw [hμ, wr_ne (by decide), wr_ne (by decide), wr_ne (by decide), wr_get, if_pos rfl, wr_ne (by decide)]
    have g6 : ∀ u, μ1.1 6 u = if u = i then μ.1 12 (4 * i + 2) else μ.1 6 u := fun u => by rw [hμ, wr_ne (by decide), wr_ne (by decide), wr_get, if_pos rfl, wr_ne (by decide), wr_ne (by decide)]
    have g7 : μ1.2 = μ.2 := by rw [hμ]; rfl
    have g12 : μ1.1 12 = μ.1 12 := g1 12 (by decide) (by decide) (by decide) (by decide)
    rw [← hμ]
    obtain ⟨μ', o', e, e1, e2, e3, e4, e5, e6, e7, e8, e9⟩ := ih (i + 1) m (shN o i (hh i)) μ1 (by omega) (by omega) (by rw [g2 21 (by decide) (by decide), h21]) g3 (sh_lt ho (by omega) x1) g37 (fun u hu => by
      rw [sh_bit x1]
      by_cases c : u = i
      · rw [if_pos c, c]
      · rw [if_neg c, hb u (by omega)]) (fun u hu => by rw [g12]; exact hx u hu)
    refine ⟨μ', o', e, fun c d0 d1 d2 d3 => by rw [e1 c d0 d1 d2 d3, g1 c d0 d1 d2 d3], fun f f7 f8 => by rw [e2 f f7 f8, g2 f f7 f8], e3, e4, e5, e6, by rw [e7, g7], fun u h4 h5 => ?_, fun u h4 => ?_⟩
    · by_cases c : u = i
      · subst c
        obtain ⟨b1, b2, b3⟩ := e9 u (by omega)
        rw [b1, b2, b3, g4, g5, g6, if_pos rfl, if_pos rfl, if_pos rfl]
        exact ⟨rfl, rfl, rfl⟩
      · have := e8 u (by omega) h5
        rw [g12] at this
        exact this
    · obtain ⟨b1, b2, b3⟩ := e9 u (by omega)
      rw [b1, b2, b3, g4, g5, g6, if_neg (by omega), if_neg (by omega), if_neg (by omega)]
      exact ⟨rfl, rfl, rfl⟩
