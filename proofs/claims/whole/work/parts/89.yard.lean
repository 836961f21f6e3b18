theorem kind_eq (x : Int32) : f_X5_kindOf x = f_X7_kindOf x := by
  unfold f_X5_kindOf f_X7_kindOf
  by_cases h1 : x = 112
  · subst h1; decide
  by_cases h2 : x = 100
  · subst h2; decide
  by_cases h3 : x = 105
  · subst h3; decide
  by_cases h4 : x = 101
  · subst h4; decide
  by_cases h5 : x = 102
  · subst h5; decide
  by_cases h6 : x = 110
  · subst h6; decide
  simp only [h1, h2, h3, h4, h5, h6, if_false, ite_self]
theorem kind_r (x : Int32) : f_X7_kindOf x = -1 ∨ ∃ k, k < 6 ∧ f_X7_kindOf x = nI k := by
  unfold f_X7_kindOf
  by_cases h1 : x = 112
  · exact Or.inr ⟨0, by decide, by rw [if_pos h1]; rfl⟩
  by_cases h2 : x = 100
  · exact Or.inr ⟨1, by decide, by rw [if_neg h1, if_pos h2]; rfl⟩
  by_cases h3 : x = 105
  · exact Or.inr ⟨2, by decide, by rw [if_neg h1, if_neg h2, if_pos h3]; rfl⟩
  by_cases h4 : x = 101
  · exact Or.inr ⟨3, by decide, by rw [if_neg h1, if_neg h2, if_neg h3, if_pos h4]; rfl⟩
  by_cases h5 : x = 102
  · exact Or.inr ⟨4, by decide, by rw [if_neg h1, if_neg h2, if_neg h3, if_neg h4, if_pos h5]; rfl⟩
  by_cases h6 : x = 110
  · exact Or.inr ⟨5, by decide, by rw [if_neg h1, if_neg h2, if_neg h3, if_neg h4, if_neg h5, if_pos h6]; rfl⟩
  exact Or.inl (by rw [if_neg h1, if_neg h2, if_neg h3, if_neg h4, if_neg h5, if_neg h6])
def GT (σ μ : St) (k : Nat) : Prop := ∀ u, u < k → ∃ kd pl yr, kd < 6 ∧ pl < 36 ∧ yr < 90 ∧ (σ.1 40 u = nI kd ∧ σ.1 41 u = nI pl ∧ σ.1 42 u = nI yr ∧ σ.1 43 u = 0 ∧ σ.1 44 u = 0) ∧ (μ.1 12 (3 * u) = nI kd ∧ μ.1 12 (3 * u + 1) = nI pl ∧ μ.1 12 (3 * u + 2) = nI yr)
def ad39 (σ : St) (k : Nat) (x y z : Int32) : St := wr (wr (wr (wr (wr (wr σ 40 k x) 41 k y) 42 k z) 43 k 0) 44 k 0) 39 0 (nI (k + 1))
theorem add_39 {σ : St} {k : Nat} (hk : k < 10) (h : σ.1 39 0 = nI k) (q : Nat) (x y z : Int32) : f_X1_add_39 (PC σ q) x y z = some (PC (ad39 σ k x y z) q) := by
  unfold f_X1_add_39
  have e0 : (PC σ q).1 39 0 = nI k := by rw [PC_n σ q (by decide), h]
  rw [e0, if_pos (by rw [show (10 : Int32) = nI 10 from rfl, nI_ltE (by omega) (by omega)]; exact hk)]
  simp only [sq, ix_nI (show k < 2 ^ 31 by omega)]
  have e1 : (wr (PC σ q) 40 k x).1 39 0 = nI k := by rw [wr_ne (by decide), e0]
  have e2 : (wr (wr (PC σ q) 40 k x) 41 k y).1 39 0 = nI k := by rw [wr_ne (by decide), e1]
  have e3 : (wr (wr (wr (PC σ q) 40 k x) 41 k y) 42 k z).1 39 0 = nI k := by rw [wr_ne (by decide), e2]
  have e4 : (wr (wr (wr (wr (PC σ q) 40 k x) 41 k y) 42 k z) 43 k 0).1 39 0 = nI k := by rw [wr_ne (by decide), e3]
  have e5 : (wr (wr (wr (wr (wr (PC σ q) 40 k x) 41 k y) 42 k z) 43 k 0) 44 k 0).1 39 0 = nI k := by rw [wr_ne (by decide), e4]
  simp only [e1, e2, e3, e4, e5, ix_nI (show k < 2 ^ 31 by omega), ok2 hk (show k < 2 ^ 31 by omega), if_false, nI_s]
  unfold ad39
  rw [PC_c σ q x (by decide), PC_c _ q y (by decide), PC_c _ q z (by decide), PC_c _ q 0 (by decide), PC_c _ q 0 (by decide), PC_c _ q _ (by decide)]
theorem grave_J {σ μ : St} {t : Nat} {T : Nat → Nat} (hC : TC σ t T) (hM : TM μ t T) {k p : Nat} (hk : k < 10) (h39 : σ.1 39 0 = nI k) (hG : GT σ μ k) (hp : p ≤ t) : ∃ (r : Int32) (σ' μ' : St) (q : Nat), f_X5_takeGrave_39 (PC σ p) = some (r, PC σ' q) ∧ f_X7_readGrave (PM μ p) (nI (3 * k)) = some (r, PM μ' q) ∧ (∀ c, (c < 39 ∨ 44 < c) → σ'.1 c = σ.1 c) ∧ σ'.2 = σ.2 ∧ (∀ c, c ≠ 12 → μ'.1 c = μ.1 c) ∧ μ'.2 = μ.2 ∧ q ≤ t ∧ ((r = 0 ∧ nx T t q = q) ∨ (r = 1 ∧ GT σ' μ' (k + 1) ∧ σ'.1 39 0 = nI (k + 1))) := by
  have ht := hC.1
  have hT : ∀ i, i < t → T i ≤ 126 := fun i hi => (hC.2.2 i hi).2.1
  have hn := nx_le (T := T) hp
  unfold f_X5_takeGrave_39 f_X7_readGrave
  rw [next_C hC hp, next_M hM hp]
  simp only [bdp, sq, kind_eq, ix_nI (show 3 * k < 2 ^ 31 by omega), ok2 (show 3 * k < 128 by omega) (show 3 * k < 2 ^ 31 by omega), if_false, wr_at, nI_s, nI_2, ix_nI (show 3 * k + 1 < 2 ^ 31 by omega), ok2 (show 3 * k + 1 < 128 by omega) (show 3 * k + 1 < 2 ^ 31 by omega), ix_nI (show 3 * k + 2 < 2 ^ 31 by omega), ok2 (show 3 * k + 2 < 128 by omega) (show 3 * k + 2 < 2 ^ 31 by omega)]
  have fl : ∀ (μ' : St) (q : Nat), (∀ c, c ≠ 12 → μ'.1 c = μ.1 c) → μ'.2 = μ.2 → q ≤ t → nx T t q = q → ∃ (r : Int32) (σ' μ'' : St) (q' : Nat), some ((0 : Int32), PC σ q) = some (r, PC σ' q') ∧ some ((0 : Int32), PM μ' q) = some (r, PM μ'' q') ∧ (∀ c, (c < 39 ∨ 44 < c) → σ'.1 c = σ.1 c) ∧ σ'.2 = σ.2 ∧ (∀ c, c ≠ 12 → μ''.1 c = μ.1 c) ∧ μ''.2 = μ.2 ∧ q' ≤ t ∧ ((r = 0 ∧ nx T t q' = q') ∨ (r = 1 ∧ GT σ' μ'' (k + 1) ∧ σ'.1 39 0 = nI (k + 1))) := fun μ' q f1 f2 f3 f4 => ⟨0, σ, μ', q, rfl, rfl, fun _ _ => rfl, rfl, f1, f2, f3, Or.inl ⟨rfl, f4⟩⟩
  rcases kind_r (ltI T t (nx T t p)) with e | ⟨kd, hkd, e⟩
  · rw [e, if_neg (by decide), if_neg (by decide), PM_c μ _ _ (by decide)]
    exact fl _ _ (fun c hc => wr_ne hc) rfl hn (nx_nx hp)
  have hlt : nx T t p < t := by
    rcases Nat.lt_or_ge (nx T t p) t with c | c
    · exact c
    · unfold ltI at e
      rw [if_neg (by omega)] at e
      exact absurd e (fun e => nI_pos (show kd < 2 ^ 31 by omega) (by rw [← e]; decide))
  rw [e, if_pos (nI_pos' (by omega)), if_pos (nI_pos' (by omega)), PM_c μ _ _ (by decide), PC_1, PM_1, nI_s, PC_w, PM_w]
  have f12 : ∀ c, c ≠ 12 → (wr μ 12 (3 * k) (nI kd)).1 c = μ.1 c := fun c hc => wr_ne hc
  have hM1 : TM (wr μ 12 (3 * k) (nI kd)) t T := hM.fr (by rw [f12 0 (by decide)]) (f12 11 (by decide))
  have hp1 : nx T t p + 1 ≤ t := hlt
  have hn1 := nx_le (T := T) hp1
  rcases fig_C hC (b := 6) hp1 (by decide) with ⟨g1, e1⟩ | ⟨g1, e1⟩
  · rcases fig_M hM1 hp1 with ⟨-, m1⟩ | ⟨g2, m1⟩
    · have e1' : f_X5_takeFigure (PC σ (nx T t p + 1)) 6 = _ := e1
      rw [e1', m1]
      simp only []
      rw [if_pos (nI_pos' (by have := g1.2.2; omega)), if_pos (nI_pos' (by have := g1.2.2; omega))]
      have hv1 : T (nx T t (nx T t p + 1)) - 48 < 6 := by have := g1.2.2; omega
      generalize T (nx T t (nx T t p + 1)) - 48 = v1 at hv1 ⊢
      have hp2 : nx T t (nx T t p + 1) + 1 ≤ t := g1.1
      generalize nx T t (nx T t p + 1) + 1 = p2 at hp2 ⊢
      have hn2 := nx_le (T := T) hp2
      rcases fig_C hC (b := 6) hp2 (by decide) with ⟨g3, e3⟩ | ⟨g3, e3⟩
      · rcases fig_M hM1 hp2 with ⟨-, m3⟩ | ⟨g4, m3⟩
        · have e3' : f_X5_takeFigure (PC σ p2) 6 = _ := e3
          rw [e3', m3]
          simp only []
          rw [if_neg (nI_pos (by have := g3.2.2; omega)), if_neg (nI_pos (by have := g3.2.2; omega))]
          have hv2 : T (nx T t p2) - 48 < 6 := by have := g3.2.2; omega
          generalize T (nx T t p2) - 48 = v2 at hv2 ⊢
          have hp3 : nx T t p2 + 1 ≤ t := g3.1
          generalize nx T t p2 + 1 = p3 at hp3 ⊢
          have hn3 := nx_le (T := T) hp3
          have e6 : (6 : Int32) * nI v1 + nI v2 = nI (6 * v1 + v2) := by rw [show (6 : Int32) = nI 6 from rfl, pk_mul, nI_k]
          rcases takes_C hC hp3 (c := 64) (by decide) with ⟨g5, e5⟩ | ⟨g5, e5⟩
          · rcases takes_M hM1 hp3 (c := 64) (by decide) with ⟨-, m5⟩ | ⟨g6, m5⟩
            · have e5' : f_X5_takes (PC σ p3) 64 = _ := e5
              have m5' : f_X7_takes (PM (wr μ 12 (3 * k) (nI kd)) p3) 64 = _ := m5
              rw [e5', m5']
              simp only [e6]
              rw [if_neg (by decide), if_neg (by decide), PM_c _ _ _ (by decide)]
              have hp4 : nx T t p3 + 1 ≤ t := g5.1
              generalize nx T t p3 + 1 = p4 at hp4 ⊢
              have hn4 := nx_le (T := T) hp4
              have f13 : ∀ c, c ≠ 12 → (wr (wr μ 12 (3 * k) (nI kd)) 12 (3 * k + 1) (nI (6 * v1 + v2))).1 c = μ.1 c := fun c hc => by rw [wr_ne hc, f12 c hc]
              have hM2 : TM (wr (wr μ 12 (3 * k) (nI kd)) 12 (3 * k + 1) (nI (6 * v1 + v2))) t T := hM.fr (by rw [f13 0 (by decide)]) (f13 11 (by decide))
              obtain ⟨r, q', n1, n2, n3⟩ := num_J hC hM2 (b := 89) (by decide) hp4
              have n1' : f_X5_takeNumber (PC σ p4) 89 = _ := n1
              have n2' : f_X7_readNumber (PM (wr (wr μ 12 (3 * k) (nI kd)) 12 (3 * k + 1) (nI (6 * v1 + v2))) p4) 89 = _ := n2
              rw [n1', n2']
              simp only [wr_at]
              rw [PM_c _ _ _ (by decide)]
              have f14 : ∀ c, c ≠ 12 → (wr (wr (wr μ 12 (3 * k) (nI kd)) 12 (3 * k + 1) (nI (6 * v1 + v2))) 12 (3 * k + 2) r).1 c = μ.1 c := fun c hc => by rw [wr_ne hc, f13 c hc]
              rcases n3 with ⟨r1, r2⟩ | ⟨w, w1, w2, w3, w4⟩
              · rw [r1] at f14 ⊢
                rw [if_neg (by decide), if_pos (by decide)]
                exact fl _ _ f14 rfl (by omega) (by rw [r2]; exact nx_nx hp4)
              · rw [w2] at f14 ⊢
                rw [if_pos (nI_pos' (by omega)), if_neg (nI_pos (by omega)), add_39 hk h39]
                simp only [bdr]
                refine ⟨1, ad39 σ k (nI kd) (nI (6 * v1 + v2)) (nI w), _, q', rfl, rfl, fun c hc => ?_, rfl, f14, rfl, w4, Or.inr ⟨rfl, fun u hu => ?_, ?_⟩⟩
                · unfold ad39
                  rw [wr_ne (by omega), wr_ne (by omega), wr_ne (by omega), wr_ne (by omega), wr_ne (by omega), wr_ne (by omega)]
                · unfold ad39
                  by_cases c : u = k
                  · subst c
                    refine ⟨kd, 6 * v1 + v2, w, hkd, by omega, by omega, ⟨?_, ?_, ?_, ?_, ?_⟩, ?_, ?_, ?_⟩
                    · rw [wr_ne (by decide), wr_ne (by decide), wr_ne (by decide), wr_ne (by decide), wr_ne (by decide), wr_at]
                    · rw [wr_ne (by decide), wr_ne (by decide), wr_ne (by decide), wr_ne (by decide), wr_at]
                    · rw [wr_ne (by decide), wr_ne (by decide), wr_ne (by decide), wr_at]
                    · rw [wr_ne (by decide), wr_ne (by decide), wr_at]
                    · rw [wr_ne (by decide), wr_at]
                    · rw [w3g, if_neg (by omega), if_neg (by omega), if_pos rfl]
                    · rw [w3g, if_neg (by omega), if_pos rfl]
                    · rw [w3g, if_pos rfl]
                  · obtain ⟨a1, a2, a3, b1, b2, b3, ⟨c1, c2, c3, c4, c5⟩, d1, d2, d3⟩ := hG u (by omega)
                    refine ⟨a1, a2, a3, b1, b2, b3, ⟨?_, ?_, ?_, ?_, ?_⟩, ?_, ?_, ?_⟩
                    · rw [wr_ne (by decide), wr_ne (by decide), wr_ne (by decide), wr_ne (by decide), wr_ne (by decide), wr_get, if_pos rfl, if_neg c]; exact c1
                    · rw [wr_ne (by decide), wr_ne (by decide), wr_ne (by decide), wr_ne (by decide), wr_get, if_pos rfl, if_neg c, wr_ne (by decide)]; exact c2
                    · rw [wr_ne (by decide), wr_ne (by decide), wr_ne (by decide), wr_get, if_pos rfl, if_neg c, wr_ne (by decide), wr_ne (by decide)]; exact c3
                    · rw [wr_ne (by decide), wr_ne (by decide), wr_get, if_pos rfl, if_neg c, wr_ne (by decide), wr_ne (by decide), wr_ne (by decide)]; exact c4
                    · rw [wr_ne (by decide), wr_get, if_pos rfl, if_neg c, wr_ne (by decide), wr_ne (by decide), wr_ne (by decide), wr_ne (by decide)]; exact c5
                    · rw [w3g, if_neg (by omega), if_neg (by omega), if_neg (by omega)]; exact d1
                    · rw [w3g, if_neg (by omega), if_neg (by omega), if_neg (by omega)]; exact d2
                    · rw [w3g, if_neg (by omega), if_neg (by omega), if_neg (by omega)]; exact d3
                · unfold ad39
                  rw [wr_at]
            · exact absurd g5 g6
          · rcases takes_M hM1 hp3 (c := 64) (by decide) with ⟨g6, m5⟩ | ⟨-, m5⟩
            · exact absurd g6 g5
            · have e5' : f_X5_takes (PC σ p3) 64 = _ := e5
              have m5' : f_X7_takes (PM (wr μ 12 (3 * k) (nI kd)) p3) 64 = _ := m5
              rw [e5', m5']
              simp only []
              rw [if_pos trivial, if_pos trivial]
              exact fl _ _ f12 rfl hn3 (nx_nx hp3)
        · exact absurd g3 g4
      · rcases fig_M hM1 hp2 with ⟨g4, m3⟩ | ⟨-, m3⟩
        · exact absurd g4 g3
        · have e3' : f_X5_takeFigure (PC σ p2) 6 = _ := e3
          rw [e3', m3]
          simp only []
          rw [if_pos (by decide), if_pos (by decide)]
          exact fl _ _ f12 rfl hn2 (nx_nx hp2)
    · exact absurd g1 g2
  · rcases fig_M hM1 hp1 with ⟨g2, m1⟩ | ⟨-, m1⟩
    · exact absurd g2 g1
    · have e1' : f_X5_takeFigure (PC σ (nx T t p + 1)) 6 = _ := e1
      rw [e1', m1]
      simp only []
      rw [if_neg (by decide), if_neg (by decide)]
      exact fl _ _ f12 rfl hn1 (nx_nx hp1)
