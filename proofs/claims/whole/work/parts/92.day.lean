theorem fg_ge {T : Nat → Nat} {t p o b : Nat} (h : fgP T t p o b) (hp : p ≤ t) : p + 1 ≤ nx T t p + 1 ∧ nx T t p + 1 ≤ t := ⟨by have := nx_ge (T := T) hp; omega, h.1⟩
theorem reading_J {σ μ : St} {t : Nat} {T : Nat → Nat} (hC : TC σ t T) (hM : TM μ t T) {k p R P : Nat} (hk : k < 40) (hR : R ≤ 4) (hP : P ≤ 12) (h10 : μ.1 0 10 = nI R) (h8 : μ.1 0 8 = nI P) (hp : p ≤ t) : (∃ q, q ≤ t ∧ nx T t q = q ∧ f_X5_takeReading (PC σ p) (nI R) (nI P) = some (-1, PC σ q) ∧ f_X7_readReading (PM μ p) (nI (3 * k)) = some (0, PM μ q)) ∨ (∃ r s n q, r < R ∧ s < 36 ∧ n < P ∧ q ≤ t ∧ p + 4 ≤ q ∧ f_X5_takeReading (PC σ p) (nI R) (nI P) = some (nI ((r * 36 + s) * 12 + n), PC σ q) ∧ f_X7_readReading (PM μ p) (nI (3 * k)) = some (1, PM (wr (wr (wr μ 12 (3 * k) (nI r)) 12 (3 * k + 1) (nI s)) 12 (3 * k + 2) (nI n)) q)) := by
  have ht := hC.1
  have hT : ∀ i, i < t → T i ≤ 126 := fun i hi => (hC.2.2 i hi).2.1
  have hn := nx_le (T := T) hp
  unfold f_X5_takeReading f_X7_readReading
  rw [next_M hM hp]
  simp only [bdp, sq]
  have e9 : (f_X7_in (ltI T t (nx T t p) - 48).toInt64 0 9 = 0) = ¬ (0 ≤ (ltI T t (nx T t p) - nI 48).toInt ∧ (ltI T t (nx T t p) - nI 48).toInt ≤ 9) := by
    rw [in_0, toL_T, show (0 : Int64).toInt = 0 by decide, show (9 : Int64).toInt = 9 by decide]
    rfl
  have eR : (f_X7_isReader (PM μ (nx T t p)) (ltI T t (nx T t p) - 48).toInt64 = 0) = ¬ (0 ≤ (ltI T t (nx T t p) - nI 48).toInt ∧ (ltI T t (nx T t p) - nI 48).toInt < R) := by
    unfold f_X7_isReader
    rw [PM_o _ _ (by decide), h10, cnt_M0 (by omega), toL_T]
    rfl
  simp only [e9, eR]
  rcases fig_C hC (b := R) hp (by omega) with ⟨g1, e1⟩ | ⟨g1, e1⟩
  · have g1' := g1
    rw [← fg_in hT (by decide)] at g1'
    rw [e1, if_neg (by omega), if_neg (not_not_intro g1'), PM_1, nI_s, PM_w]
    simp only []
    have v0 := fg_v g1
    have v0' : ltI T t (nx T t p) - 48 = nI (T (nx T t p) - 48) := v0
    rw [v0']
    have hr : T (nx T t p) - 48 < R := by have := g1.2.2; have := g1.2.1; omega
    have b1 := fg_ge g1 hp
    generalize T (nx T t p) - 48 = r at hr ⊢
    generalize nx T t p + 1 = p1 at b1 ⊢
    rw [if_pos (nI_pos' (by omega))]
    have hn1 := nx_le (T := T) b1.2
    rcases fig_C hC (b := 6) b1.2 (by decide) with ⟨g2, e2⟩ | ⟨g2, e2⟩
    · rcases fig_M hM b1.2 with ⟨-, m2⟩ | ⟨g3, m2⟩
      · have e2' : f_X5_takeFigure (PC σ p1) 6 = _ := e2
        rw [e2', m2]
        simp only []
        have hv1 : T (nx T t p1) - 48 < 6 := by have := g2.2.2; omega
        have b2 := fg_ge g2 b1.2
        generalize T (nx T t p1) - 48 = v1 at hv1 ⊢
        generalize nx T t p1 + 1 = p2 at b2 ⊢
        rw [if_pos (nI_pos' (by omega)), if_pos (nI_pos' (by omega))]
        have hn2 := nx_le (T := T) b2.2
        rcases fig_C hC (b := 6) b2.2 (by decide) with ⟨g4, e4⟩ | ⟨g4, e4⟩
        · rcases fig_M hM b2.2 with ⟨-, m4⟩ | ⟨g5, m4⟩
          · have e4' : f_X5_takeFigure (PC σ p2) 6 = _ := e4
            rw [e4', m4]
            simp only []
            have hv2 : T (nx T t p2) - 48 < 6 := by have := g4.2.2; omega
            have b3 := fg_ge g4 b2.2
            generalize T (nx T t p2) - 48 = v2 at hv2 ⊢
            generalize nx T t p2 + 1 = p3 at b3 ⊢
            rw [if_pos (nI_pos' (by omega)), if_pos (nI_pos' (by omega)), next_C hC b3.2, next_M hM b3.2]
            simp only []
            have hn3 := nx_le (T := T) b3.2
            have eN : (f_X7_isNews (PM μ (nx T t p3)) (ltI T t (nx T t p3) - 97).toInt64 = 0) = ¬ (0 ≤ (ltI T t (nx T t p3) - nI 97).toInt ∧ (ltI T t (nx T t p3) - nI 97).toInt < P) := by
              unfold f_X7_isNews
              rw [PM_o _ _ (by decide), h8, cnt_M0 (by omega), toL_T]
              rfl
            have d0 : (ltI T t (nx T t p3) - 97 < 0) = ((ltI T t (nx T t p3) - nI 97).toInt < 0) := by rw [lt_T, T_0]; rfl
            have dP : (ltI T t (nx T t p3) - 97 < nI P) = ((ltI T t (nx T t p3) - nI 97).toInt < P) := by rw [lt_T, lit_T P (by omega)]; rfl
            simp only [eN, d0, dP]
            by_cases g6 : fgP T t p3 97 P
            · have g6' := g6
              rw [← fg_in hT (by decide)] at g6'
              have b4 := fg_ge g6 b3.2
              have v6 : ltI T t (nx T t p3) - 97 = nI (T (nx T t p3) - 97) := fg_v g6
              rw [if_neg (by omega), if_pos g6'.2, if_neg (not_not_intro g6'), PC_1, PM_1, nI_s, PC_w, PM_w, v6]
              have hn4 : T (nx T t p3) - 97 < P := by have := g6.2.2; have := g6.2.1; omega
              generalize T (nx T t p3) - 97 = n at hn4 ⊢
              generalize nx T t p3 + 1 = p4 at b4 ⊢
              refine Or.inr ⟨r, 6 * v1 + v2, n, p4, hr, by omega, hn4, b4.2, by omega, ?_, ?_⟩
              · rw [show (36 : Int32) = nI 36 from rfl, show (6 : Int32) = nI 6 from rfl, show (12 : Int32) = nI 12 from rfl, pk_mul, pk_mul, nI_k, nI_k, pk_mul, nI_k, show (r * 36 + 6 * v1 + v2) * 12 + n = (r * 36 + (6 * v1 + v2)) * 12 + n by omega]
              · simp only [nI_s, nI_2, ix_nI (show 3 * k < 2 ^ 31 by omega), ok2 (show 3 * k < 128 by omega) (show 3 * k < 2 ^ 31 by omega), ix_nI (show 3 * k + 1 < 2 ^ 31 by omega), ok2 (show 3 * k + 1 < 128 by omega) (show 3 * k + 1 < 2 ^ 31 by omega), ix_nI (show 3 * k + 2 < 2 ^ 31 by omega), ok2 (show 3 * k + 2 < 128 by omega) (show 3 * k + 2 < 2 ^ 31 by omega), if_false]
                rw [PM_c _ _ _ (by decide), PM_c _ _ _ (by decide), PM_c _ _ _ (by decide), show (6 : Int32) * nI v1 + nI v2 = nI (6 * v1 + v2) by rw [show (6 : Int32) = nI 6 from rfl, pk_mul, nI_k]]
            · have g6' := g6
              rw [← fg_in hT (by decide)] at g6'
              rw [if_pos g6']
              refine Or.inl ⟨nx T t p3, hn3, nx_nx b3.2, ?_, rfl⟩
              by_cases c : (ltI T t (nx T t p3) - nI 97).toInt < 0
              · rw [if_pos c]
              · rw [if_neg c, if_neg (by omega)]
          · exact absurd g4 g5
        · rcases fig_M hM b2.2 with ⟨g5, m4⟩ | ⟨-, m4⟩
          · exact absurd g5 g4
          · have e4' : f_X5_takeFigure (PC σ p2) 6 = _ := e4
            rw [e4', m4]
            simp only []
            rw [if_neg (by decide), if_neg (by decide)]
            exact Or.inl ⟨_, hn2, nx_nx b2.2, rfl, rfl⟩
      · exact absurd g2 g3
    · rcases fig_M hM b1.2 with ⟨g3, m2⟩ | ⟨-, m2⟩
      · exact absurd g3 g2
      · have e2' : f_X5_takeFigure (PC σ p1) 6 = _ := e2
        rw [e2', m2]
        simp only []
        rw [if_neg (by decide), if_neg (by decide)]
        exact Or.inl ⟨_, hn1, nx_nx b1.2, rfl, rfl⟩
  · have g1' := g1
    rw [← fg_in hT (by decide)] at g1'
    rw [e1]
    simp only []
    rw [if_neg (show ¬ (0 : Int32) ≤ -1 by decide)]
    refine Or.inl ⟨nx T t p, hn, nx_nx hp, rfl, ?_⟩
    by_cases c : 0 ≤ (ltI T t (nx T t p) - nI 48).toInt ∧ (ltI T t (nx T t p) - nI 48).toInt ≤ 9
    · rw [if_neg (not_not_intro c), if_pos g1']
    · rw [if_pos c]
theorem rd_end {μ : St} {t : Nat} {T : Nat → Nat} (hM : TM μ t T) {p : Nat} (hp : p ≤ t) (hpt : t ≤ p) (x : Int32) : f_X7_readReading (PM μ p) x = some (0, PM μ p) := by
  unfold f_X7_readReading
  rw [next_M hM hp, nx_e hpt]
  have e : ltI T t p = -1 := by
    unfold ltI
    rw [if_neg (by omega)]
  rw [e]
  simp only [bdp, sq]
  rw [if_pos (by decide)]
def DT (σ μ : St) (R P k : Nat) : Prop := ∀ u, u < k → ∃ r s n, r < R ∧ s < 36 ∧ n < P ∧ σ.1 51 u = nI ((r * 36 + s) * 12 + n) ∧ (μ.1 12 (3 * u) = nI r ∧ μ.1 12 (3 * u + 1) = nI s ∧ μ.1 12 (3 * u + 2) = nI n)
theorem day_l {t : Nat} {T : Nat → Nat} {R P : Nat} (hR : R ≤ 4) (hP : P ≤ 12) : ∀ (d k m : Nat) (σ μ : St) (p : Nat), k + d = 32 → d + 1 < m → TC σ t T → TM μ t T → μ.1 0 10 = nI R → μ.1 0 8 = nI P → DT σ μ R P k → μ.1 0 21 = nI k → 5 * k ≤ p → p ≤ t → ∃ (rC rM : Int32) (σ' μ' : St) (q : Nat), f_X5_takeDay_51_h8 (nI R) (nI P) m (nI k) (PC σ p) = some (rC, PC σ' q) ∧ f_X7_readAll_h34 2 m 40 1 (PM μ p) = some (rM, PM μ' q) ∧ (∀ c, c ≠ 51 → σ'.1 c = σ.1 c) ∧ σ'.2 = σ.2 ∧ (∀ c, c ≠ 0 → c ≠ 12 → μ'.1 c = μ.1 c) ∧ (∀ f, f ≠ 21 → μ'.1 0 f = μ.1 0 f) ∧ μ'.2 = μ.2 ∧ q ≤ t ∧ ((rC = -1 ∧ rM = 0 ∧ nx T t q = q) ∨ (rM = 1 ∧ ∃ n, n ≤ 32 ∧ rC = nI n ∧ DT σ' μ' R P n ∧ μ'.1 0 21 = nI n)) := by
  intro d
  induction d with
  | zero =>
    intro k m σ μ p h1 h2 hC hM h10 h8 hD h21 h5 hp
    obtain ⟨m, rfl⟩ : ∃ m', m = m' + 1 := ⟨m - 1, by omega⟩
    have ht := hC.1
    have hpt : t ≤ p := by omega
    rw [f_X5_takeDay_51_h8, if_pos (by rw [show (32 : Int32) = nI 32 from rfl, nI_leE (by omega) (by omega)]; omega), f_X7_readAll_h34, if_neg (show ¬ (1 : Int32) = 0 by decide), PM_o μ p (by decide), h21, if_neg (by rw [show (40 : Int32) = nI 40 from rfl, nI_leE (by omega) (by omega)]; omega), if_neg (show ¬ (2 : Int32) = 0 by decide), if_neg (show ¬ (2 : Int32) = 1 by decide), m3I]
    rw [rd_end hM hp hpt]
    simp only [bdp]
    rw [if_pos trivial]
    unfold f_X7_readAll_b103
    rw [if_pos rfl]
    exact ⟨-1, 0, σ, μ, p, rfl, rfl, fun _ _ => rfl, rfl, fun _ _ _ => rfl, fun _ _ => rfl, rfl, hp, Or.inl ⟨rfl, rfl, nx_e hpt⟩⟩
  | succ d ih =>
    intro k m σ μ p h1 h2 hC hM h10 h8 hD h21 h5 hp
    obtain ⟨m, rfl⟩ : ∃ m', m = m' + 1 + 1 := ⟨m - 2, by omega⟩
    have ht := hC.1
    have hT : ∀ i, i < t → T i ≤ 126 := fun i hi => (hC.2.2 i hi).2.1
    rw [f_X5_takeDay_51_h8, if_neg (by rw [show (32 : Int32) = nI 32 from rfl, nI_leE (by omega) (by omega)]; omega), f_X7_readAll_h34, if_neg (show ¬ (1 : Int32) = 0 by decide), PM_o μ p (by decide), h21, if_neg (show ¬ (40 : Int32) ≤ nI k by rw [show (40 : Int32) = nI 40 from rfl, nI_leE (by omega) (by omega)]; omega), if_neg (show ¬ (2 : Int32) = 0 by decide), if_neg (show ¬ (2 : Int32) = 1 by decide), m3I]
    rcases reading_J hC hM (k := k) (by omega) hR hP h10 h8 hp with ⟨q, q1, q2, q3, q4⟩ | ⟨r, s, n, q, r1, r2, r3, q1, q2, q3, q4⟩
    · rw [q3, q4]
      simp only [bdp, ix_nI (show k < 2 ^ 31 by omega), ok2 (show k < 32 by omega) (show k < 2 ^ 31 by omega), if_false, sq, wr_at]
      rw [if_neg (show ¬ (0 : Int32) ≤ -1 by decide), if_pos trivial, PC_c _ _ _ (by decide)]
      refine ⟨-1, 0, wr σ 51 k (-1), μ, q, rfl, ?_, fun c hc => wr_ne hc, rfl, fun _ _ _ => rfl, fun _ _ => rfl, rfl, q1, Or.inl ⟨rfl, rfl, q2⟩⟩
      unfold f_X7_readAll_b103
      rw [if_pos rfl]
    · rw [q3, q4]
      simp only [bdp, ix_nI (show k < 2 ^ 31 by omega), ok2 (show k < 32 by omega) (show k < 2 ^ 31 by omega), if_false, sq, wr_at]
      rw [if_pos (nI_pos' (by omega)), if_neg (show ¬ (1 : Int32) = 0 by decide), PC_c _ _ _ (by decide)]
      obtain ⟨σ1, hσ⟩ : ∃ σ1, σ1 = wr σ 51 k (nI ((r * 36 + s) * 12 + n)) := ⟨_, rfl⟩
      obtain ⟨μ1, hμ⟩ : ∃ μ1, μ1 = wr (wr (wr μ 12 (3 * k) (nI r)) 12 (3 * k + 1) (nI s)) 12 (3 * k + 2) (nI n) := ⟨_, rfl⟩
      rw [← hσ, ← hμ]
      have c1 : ∀ c, c ≠ 51 → σ1.1 c = σ.1 c := fun c hc => by rw [hσ, wr_ne hc]
      have m1 : ∀ c, c ≠ 12 → μ1.1 c = μ.1 c := fun c hc => by rw [hμ, wr_ne hc, wr_ne hc, wr_ne hc]
      have c2 : σ1.2 = σ.2 := by rw [hσ]; rfl
      have m2 : μ1.2 = μ.2 := by rw [hμ]; rfl
      have hC1 : TC σ1 t T := hC.fr (by rw [c1 37 (by decide)]) (c1 38 (by decide))
      have hM1 : TM μ1 t T := hM.fr (by rw [m1 0 (by decide)]) (m1 11 (by decide))
      have hn := nx_le (T := T) q1
      have hnq := nx_ge (T := T) q1
      have hD1 : DT σ1 (wr μ1 0 21 (nI (k + 1))) R P (k + 1) := fun u hu => by
        rw [wr_ne (by decide)]
        by_cases c : u = k
        · subst c
          refine ⟨r, s, n, r1, r2, r3, by rw [hσ, wr_at], ?_, ?_, ?_⟩
          · rw [hμ, w3g, if_neg (by omega), if_neg (by omega), if_pos rfl]
          · rw [hμ, w3g, if_neg (by omega), if_pos rfl]
          · rw [hμ, w3g, if_pos rfl]
        · obtain ⟨a1, a2, a3, b1, b2, b3, b4, b5, b6, b7⟩ := hD u (by omega)
          refine ⟨a1, a2, a3, b1, b2, b3, by rw [hσ, wr_get, if_pos rfl, if_neg c]; exact b4, ?_, ?_, ?_⟩
          · rw [hμ, w3g, if_neg (by omega), if_neg (by omega), if_neg (by omega)]; exact b5
          · rw [hμ, w3g, if_neg (by omega), if_neg (by omega), if_neg (by omega)]; exact b6
          · rw [hμ, w3g, if_neg (by omega), if_neg (by omega), if_neg (by omega)]; exact b7
      have fr2 : ∀ c, c ≠ 0 → c ≠ 12 → (wr μ1 0 21 (nI (k + 1))).1 c = μ.1 c := fun c d1 d2 => by rw [wr_ne d1, m1 c d2]
      have ff2 : ∀ f, f ≠ 21 → (wr μ1 0 21 (nI (k + 1))).1 0 f = μ.1 0 f := fun f hf => by rw [wr_get, if_pos rfl, if_neg hf, m1 0 (by decide)]
      rw [next_C hC1 q1]
      simp only []
      rcases ra_nx hM1 2 (q := q) (k := k) (most := 40) (sep := 59) (by decide) (by decide) (by decide) (by omega) (by rw [m1 0 (by decide), h21]) q1 m with ⟨g, e⟩ | ⟨g1, g2, e⟩
      · have e' : f_X7_readAll_b103 (f_X7_readAll_h34 2 (m + 1)) 2 40 1 (PM μ1 q) = _ := e
        have g' : ¬ tkP T t q 59 := by
          rcases g with g | g
          · omega
          · exact g
        rw [e']
        by_cases c : nx T t q < t
        · rw [if_pos c, if_neg (by rw [lt_m1 hT]; exact not_not_intro c)]
          rcases takes_C hC1 hn (c := 59) (by decide) with ⟨g3, e3⟩ | ⟨g3, e3⟩
          · rw [tk_nx q1] at g3
            exact absurd g3 g'
          · have e3' : f_X5_takes (PC σ1 (nx T t q)) 59 = _ := e3
            rw [e3', nx_nx q1]
            simp only []
            rw [if_pos trivial]
            exact ⟨-1, 0, σ1, _, nx T t q, rfl, rfl, c1, c2, fr2, ff2, m2, hn, Or.inl ⟨rfl, rfl, nx_nx q1⟩⟩
        · rw [if_neg c, if_pos (by rw [lt_m1 hT]; exact c), nI_s]
          exact ⟨nI (k + 1), 1, σ1, _, nx T t q, rfl, rfl, c1, c2, fr2, ff2, m2, hn, Or.inr ⟨rfl, k + 1, by omega, rfl, hD1, wr_at _ _ _ _⟩⟩
      · have e' : f_X7_readAll_b103 (f_X7_readAll_h34 2 (m + 1)) 2 40 1 (PM μ1 q) = f_X7_readAll_h34 2 (m + 1) 40 1 (PM (wr μ1 0 21 (nI (k + 1))) (nx T t q + 1)) := e
        rw [e', if_neg (by rw [lt_m1 hT]; exact not_not_intro g2.1)]
        rcases takes_C hC1 hn (c := 59) (by decide) with ⟨g3, e3⟩ | ⟨g3, e3⟩
        · have e3' : f_X5_takes (PC σ1 (nx T t q)) 59 = _ := e3
          rw [e3', nx_nx q1]
          simp only [nI_s]
          rw [if_neg (show ¬ (1 : Int32) = 0 by decide)]
          obtain ⟨rC, rM, σ', μ', q', b1, b2, b3, b4, b5, b6, b7, b8, b9⟩ := ih (k + 1) (m + 1) σ1 (wr μ1 0 21 (nI (k + 1))) (nx T t q + 1) (by omega) (by omega) hC1 (hM1.fr (by rw [wr_get, if_pos rfl, if_neg (by decide)]) (wr_ne (by decide))) (by rw [ff2 10 (by decide), h10]) (by rw [ff2 8 (by decide), h8]) hD1 (wr_at _ _ _ _) (by omega) g2.1
          exact ⟨rC, rM, σ', μ', q', b1, b2, fun c hc => by rw [b3 c hc, c1 c hc], by rw [b4, c2], fun c d1 d2 => by rw [b5 c d1 d2, fr2 c d1 d2], fun f hf => by rw [b6 f hf, ff2 f hf], by rw [b7]; exact m2, b8, b9⟩
        · rw [tk_nx q1] at g3
          exact absurd g2 g3
theorem day_x {nw n R P : Nat} (hn : n ≤ 32) (hR4 : R ≤ 4) (hP : P ≤ 12) : ∀ (d k m c : Nat) (a : Nat → Nat → Nat) (σ μ : St), k + d = n → d < m → RR σ nw μ → Inv a → CA a (vw σ 1) → MA a (ul μ) → a 0 2 = R → a 8 0 = P → DT σ μ R P n → μ.1 0 21 = nI n → ∃ (r : Int32) (σ' μ' : St), f_X6_day_h53 m (nI n) (nI c) (nI k) σ = some (r, σ') ∧ f_X7_day_h20 m (nI c) (nI k) μ = some (r, μ') ∧ RR σ' nw μ' := by
  intro d
  induction d with
  | zero =>
    intro k m c a σ μ h1 h2 hR I hC hM ha hb hD h21
    obtain ⟨m, rfl⟩ : ∃ m', m = m' + 1 := ⟨m - 1, by omega⟩
    have hle : nI n ≤ nI k := by rw [nI_leE (by omega) (by omega)]; omega
    rw [f_X6_day_h53, f_X7_day_h20, h21, if_pos hle, if_pos hle]
    exact ⟨_, σ, μ, rfl, rfl, hR⟩
  | succ d ih =>
    intro k m c a σ μ h1 h2 hR I hC hM ha hb hD h21
    obtain ⟨m, rfl⟩ : ∃ m', m = m' + 1 := ⟨m - 1, by omega⟩
    have h8 := I.rg
    have hle : ¬ nI n ≤ nI k := by rw [nI_leE (by omega) (by omega)]; omega
    rw [f_X6_day_h53, f_X7_day_h20, h21, if_neg hle, if_neg (show ¬ (32 : Int32) ≤ nI k by rw [show (32 : Int32) = nI 32 from rfl, nI_leE (by omega) (by omega)]; omega), if_neg hle, cL_rg hC, show ix 140 = 140 by decide, mL_rg hM, show (9999 : Int32) = nI 9999 from rfl]
    have e9 : (nI 9999 ≤ nI (a 0 8)) = (9999 ≤ a 0 8) := nI_leE (by omega) (by omega)
    by_cases q : 9999 ≤ a 0 8
    · rw [if_pos (by rw [e9]; exact q), if_neg (by decide), if_pos (by rw [e9]; exact q)]
      exact ⟨_, σ, μ, rfl, rfl, hR⟩
    · have nq : ¬ nI 9999 ≤ nI (a 0 8) := by rw [e9]; exact q
      rw [if_neg nq, if_neg (show ¬ ((140 : Int32) < 0 ∨ 141 ≤ 140) by decide), if_neg nq]
      obtain ⟨r, s, w, r1, r2, r3, d1, d2, d3, d4⟩ := hD k (by omega)
      have hx : (r * 36 + s) * 12 + w < 2 ^ 31 := by omega
      have k1 : f_X5_readerIn (nI ((r * 36 + s) * 12 + w)) = nI r := by
        unfold f_X5_readerIn
        rw [show (12 : Int32) = nI 12 from rfl, show (36 : Int32) = nI 36 from rfl, pk_div hx (by decide) (by decide), pk_div (by omega) (by decide) (by decide), show ((r * 36 + s) * 12 + w) / 12 / 36 = r by omega]
      have k2 : f_X5_placeIn (nI ((r * 36 + s) * 12 + w)) = nI s := by
        unfold f_X5_placeIn
        rw [show (12 : Int32) = nI 12 from rfl, show (36 : Int32) = nI 36 from rfl, pk_div hx (by decide) (by decide), irm_n (by omega) (by decide) (by decide), show ((r * 36 + s) * 12 + w) / 12 % 36 = s by omega]
      have k3 : f_X5_newsIn (nI ((r * 36 + s) * 12 + w)) = nI w := by
        unfold f_X5_newsIn
        rw [show (12 : Int32) = nI 12 from rfl, irm_n hx (by decide) (by decide), show ((r * 36 + s) * 12 + w) % 12 = w by omega]
      obtain ⟨F, RR', σ5, μ5, e1, e2, I', hC', hM', f1, f2, g1, g2, g3⟩ := read_R I hC hM (r := r) (s := s) (n := w) (by omega) r2 (by omega) (by omega)
      simp only [ix_nI (show k < 2 ^ 31 by omega), ok2 (show k < 32 by omega) (show k < 2 ^ 31 by omega), if_false, sq, d1, k1, k2, k3, m3I, nI_s, nI_2, ix_nI (show 3 * k < 2 ^ 31 by omega), ok2 (show 3 * k < 128 by omega) (show 3 * k < 2 ^ 31 by omega), ix_nI (show 3 * k + 1 < 2 ^ 31 by omega), ok2 (show 3 * k + 1 < 128 by omega) (show 3 * k + 1 < 2 ^ 31 by omega), ix_nI (show 3 * k + 2 < 2 ^ 31 by omega), ok2 (show 3 * k + 2 < 128 by omega) (show 3 * k + 2 < 2 ^ 31 by omega), d2, d3, d4, f_X7_day_b85]
      rw [wrongedBy_M I hM (r := r) (s := s) (n := w) (by omega) r2 (by omega), e1, e2]
      simp only [bdr, bdp]
      have hR5 : RR σ5 nw μ5 := hR.par ⟨_, I', hC', hM'⟩ f1 f2 g1 (g2 19 (by decide)) (g2 26 (by decide)) g3
      have hWl := wrN_lt I (hearN a r s (a 0 4)) (a 5) w
      have hD5 : DT σ5 μ5 R P n := by
        unfold DT
        rw [f1 51 (by decide), g1 12 (by decide)]
        exact hD
      have nxt := fun c' => ih (k + 1) m c' (aR a w F RR') σ5 μ5 (by omega) (by omega) hR5 I' hC' hM' (by show a 0 2 = R; exact ha) (by show a 8 0 = P; exact hb) hD5 (by rw [g2 21 (by decide), h21])
      by_cases z : wrN a (hearN a r s (a 0 4)) (a 5) w = 0
      · rw [if_pos z, if_neg (show ¬ nI 1 = 0 by decide), if_pos (by rw [z]; rfl)]
        exact nxt (c + 1)
      · rw [if_neg z, if_pos (show nI 0 = 0 by decide), if_neg (by rw [nI_eq0 (by omega)]; exact z), nI_p0]
        exact nxt c
theorem op13 : Op13 RR := by
  intro σ nw μ hR
  obtain ⟨⟨a, I, hC, hM⟩, hkp, htp, hs, hnw⟩ := id hR
  obtain ⟨t, T, tC, tM⟩ := tape_T htp
  have ht := tC.1
  unfold f_X6_day f_X7_day f_X5_takeDay_51 f_X7_readAll
  simp only [sq]
  have eM : wr (wr μ 0 20 0) 0 21 0 = PM (wr μ 0 21 0) 0 := PM_f μ 0 0 (by decide)
  rw [show wr σ 37 1 0 = PC σ 0 from rfl, eM, if_neg (show ¬ (2 : Int32) = 0 by decide), if_neg (show ¬ (2 : Int32) = 1 by decide), cL_rd hC, cL_ps hC]
  have z10 : (wr μ 0 21 0).1 0 10 = nI (a 0 2) := by rw [wr_get, if_pos rfl, if_neg (by decide)]; exact mL_rd hM
  have z8 : (wr μ 0 21 0).1 0 8 = nI (a 8 0) := by rw [wr_get, if_pos rfl, if_neg (by decide)]; exact mL_ps hM
  obtain ⟨rC, rM, σ1, μ1, q, b1, b2, b3, b4, b5, b6, b7, b8, b9⟩ := day_l (t := t) (T := T) I.rd I.ps 32 0 FU σ (wr μ 0 21 0) 0 (by omega) (by unfold FU; omega) tC (tM.fr (by rw [wr_get, if_pos rfl, if_neg (by decide)]) (wr_ne (by decide))) z10 z8 (fun u hu => by omega) (wr_at _ _ _ _) (by omega) (by omega)
  have b1' : f_X5_takeDay_51_h8 (nI (a 0 2)) (nI (a 8 0)) FU 0 (PC σ 0) = some (rC, PC σ1 q) := b1
  rw [b1', b2]
  simp only [bdp]
  have gc : ∀ c, c ≠ 0 → c ≠ 12 → μ1.1 c = μ.1 c := fun c d0 d12 => by rw [b5 c d0 d12, wr_ne d0]
  have gf : ∀ f, f ≠ 21 → μ1.1 0 f = μ.1 0 f := fun f hf => by rw [b6 f hf, wr_get, if_pos rfl, if_neg hf]
  rw [PC_f σ1 q _ (by decide)]
  have hRf : RR (PC (wr σ1 37 0 0) q) nw (PM (wr μ1 0 19 0) q) := fault_R hR (fun c hc => b3 c (by omega)) (fun c hc => b3 c (by omega)) b4 gc gf b7
  rcases b9 with ⟨rfl, rfl, b9⟩ | ⟨rfl, n, hn, rfl, hD, h21⟩
  · have tM1 : TM μ1 t T := tM.fr (gf 19 (by decide)) (gc 11 (by decide) (by decide))
    rw [if_neg (show ¬ (0 : Int32) ≤ -1 by decide), end_M0 tM1 b8 b9]
    simp only [f_X5_faultHere]
    rw [if_neg (m20 q (by omega)), PC_1]
    exact ⟨_, _, _, rfl, rfl, hRf⟩
  · rw [if_pos (nI_pos' (by omega)), end_M1]
    simp only []
    rw [if_pos (show (0 : Int32) ≤ 0 by decide)]
    have hCf : CA a (vw (PC (wr σ1 37 0 0) q) 1) := hC.cg (fun k hk => by
      show (PC (wr σ1 37 0 0) q).1 (1 + k) = σ.1 (1 + k)
      rw [PC_n _ _ (by omega), wr_ne (by omega), b3 _ (by omega)])
    have hMf : MA a (ul (PM (wr μ1 0 19 0) q)) := hM.cg (ul_cg (fun f h1 h2 h3 => by rw [PM_o _ _ h2, wr_get, if_pos rfl, if_neg h1, gf f h3]) (fun c h1 h2 => by rw [PM_n _ _ (by omega), wr_ne (by omega), gc c (by omega) (by omega)]))
    have hDf : DT (PC (wr σ1 37 0 0) q) (PM (wr μ1 0 19 0) q) (a 0 2) (a 8 0) n := by
      unfold DT
      rw [PC_n _ _ (by decide), wr_ne (by decide), PM_n _ _ (by decide), wr_ne (by decide)]
      exact hD
    exact day_x hn I.rd I.ps n 0 FU 0 a _ _ (by omega) (by unfold FU; omega) hRf I hCf hMf rfl rfl hDf (by rw [PM_o _ _ (by decide), wr_get, if_pos rfl, if_neg (by decide), h21])
