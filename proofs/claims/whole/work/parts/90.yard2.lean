theorem ra_end {μ : St} {t : Nat} {T : Nat → Nat} (hM : TM μ t T) (x1 v2 : Int32) {p : Nat} (hp : p ≤ t) (m : Nat) : f_X7_readAll_h34 x1 (m + 1) v2 0 (PM μ p) = some (if nx T t p < t then 0 else 1, PM μ (nx T t p)) := by
  rw [f_X7_readAll_h34, if_pos rfl, next_M hM hp]
  simp only [bdp]
  unfold ltI
  by_cases c : nx T t p < t
  · have := (hM.2.2 _ c).2.1
    rw [if_pos c, if_pos c, if_pos (nI_pos' (by omega))]
  · rw [if_neg c, if_neg c, if_neg (by decide)]
theorem ra_nx {μ : St} {t : Nat} {T : Nat → Nat} (hM : TM μ t T) (x1 : Int32) {q k most sep : Nat} (hs : (if x1 = 2 then (59 : Int32) else 44) = nI sep) (hsep : sep < 100) (hm : most < 100) (hk : k < 100) (h21 : μ.1 0 21 = nI k) (hq : q ≤ t) (m : Nat) : ((most ≤ k + 1 ∨ ¬ tkP T t q sep) ∧ f_X7_readAll_b103 (f_X7_readAll_h34 x1 (m + 1)) x1 (nI most) 1 (PM μ q) = some (if nx T t q < t then 0 else 1, PM (wr μ 0 21 (nI (k + 1))) (nx T t q))) ∨ (k + 1 < most ∧ tkP T t q sep ∧ f_X7_readAll_b103 (f_X7_readAll_h34 x1 (m + 1)) x1 (nI most) 1 (PM μ q) = f_X7_readAll_h34 x1 (m + 1) (nI most) 1 (PM (wr μ 0 21 (nI (k + 1))) (nx T t q + 1))) := by
  have hM2 : TM (wr μ 0 21 (nI (k + 1))) t T := hM.fr (by rw [wr_get, if_pos rfl, if_neg (by decide)]) (wr_ne (by decide))
  have hn := nx_le (T := T) hq
  unfold f_X7_readAll_b103 f_X7_readAll_b143
  rw [if_neg (by decide)]
  simp only [sq]
  rw [PM_o μ q (by decide), h21, nI_s, PM_f μ q _ (by decide), PM_o _ q (by decide), wr_at]
  by_cases c : most ≤ k + 1
  · refine Or.inl ⟨Or.inl c, ?_⟩
    rw [if_pos (by rw [nI_leE (by omega) (by omega)]; exact c), ra_end hM2 x1 _ hq m]
  · rw [if_neg (by rw [nI_leE (by omega) (by omega)]; exact c)]
    have hh : (if x1 = 2 then (bdp (f_X7_takes (PM (wr μ 0 21 (nI (k + 1))) q) 59) fun r17 s18 => if r17 = 0 then f_X7_readAll_h34 x1 (m + 1) (nI most) 0 s18 else f_X7_readAll_h34 x1 (m + 1) (nI most) 1 s18) else (bdp (f_X7_takes (PM (wr μ 0 21 (nI (k + 1))) q) 44) fun r17 s18 => if r17 = 0 then f_X7_readAll_h34 x1 (m + 1) (nI most) 0 s18 else f_X7_readAll_h34 x1 (m + 1) (nI most) 1 s18)) = (bdp (f_X7_takes (PM (wr μ 0 21 (nI (k + 1))) q) (nI sep)) fun r17 s18 => if r17 = 0 then f_X7_readAll_h34 x1 (m + 1) (nI most) 0 s18 else f_X7_readAll_h34 x1 (m + 1) (nI most) 1 s18) := by
      by_cases c2 : x1 = 2
      · rw [if_pos c2] at hs ⊢
        rw [hs]
      · rw [if_neg c2] at hs ⊢
        rw [hs]
    rw [hh]
    rcases takes_M hM2 hq (c := sep) (by omega) with ⟨g, e⟩ | ⟨g, e⟩
    · refine Or.inr ⟨by omega, g, ?_⟩
      rw [e]
      simp only [bdp]
      rw [if_neg (by decide)]
    · refine Or.inl ⟨Or.inr g, ?_⟩
      rw [e]
      simp only [bdp]
      rw [if_pos trivial, ra_end hM2 x1 _ hn m, nx_nx hq]
theorem tk_nx {T : Nat → Nat} {t q c : Nat} (hq : q ≤ t) : tkP T t (nx T t q) c = tkP T t q c := by
  unfold tkP
  rw [nx_nx hq]
theorem lt_m1 {T : Nat → Nat} {t q : Nat} (hT : ∀ i, i < t → T i ≤ 126) : (ltI T t q = -1) = ¬ q < t := by
  unfold ltI
  by_cases c : q < t
  · have := hT q c
    rw [if_pos c]
    exact propext ⟨fun e => absurd (show nI (T q) < 0 by rw [e]; decide) (nI_pos (by omega)), fun e => absurd c e⟩
  · rw [if_neg c]
    exact propext ⟨fun _ => c, fun _ => rfl⟩
theorem yard_l {t : Nat} {T : Nat → Nat} : ∀ (d k m : Nat) (σ μ : St) (p : Nat), k + d = 10 → 1 ≤ d → d < m → TC σ t T → TM μ t T → GT σ μ k → σ.1 39 0 = nI k → μ.1 0 21 = nI k → p ≤ t → ∃ (r : Int32) (σ' μ' : St) (q : Nat), f_X5_takeYard_39_h12 m (nI k) (PC σ p) = some (r, PC σ' q) ∧ f_X7_readAll_h34 0 m 10 1 (PM μ p) = some (r, PM μ' q) ∧ (∀ c, (c < 39 ∨ 44 < c) → σ'.1 c = σ.1 c) ∧ σ'.2 = σ.2 ∧ (∀ c, c ≠ 0 → c ≠ 12 → μ'.1 c = μ.1 c) ∧ (∀ f, f ≠ 21 → μ'.1 0 f = μ.1 0 f) ∧ μ'.2 = μ.2 ∧ q ≤ t ∧ ((r = 0 ∧ nx T t q = q) ∨ (r = 1 ∧ ∃ n, n ≤ 10 ∧ GT σ' μ' n ∧ σ'.1 39 0 = nI n ∧ μ'.1 0 21 = nI n)) := by
  intro d
  induction d with
  | zero =>
    intro k m σ μ p h1 h0
    omega
  | succ d ih =>
    intro k m σ μ p h1 h0 h2 hC hM hG h39 h21 hp
    obtain ⟨m, rfl⟩ : ∃ m', m = m' + 1 + 1 := ⟨m - 2, by omega⟩
    have hT : ∀ i, i < t → T i ≤ 126 := fun i hi => (hC.2.2 i hi).2.1
    have hle : ¬ (10 : Int32) ≤ nI k := by rw [show (10 : Int32) = nI 10 from rfl, nI_leE (by omega) (by omega)]; omega
    obtain ⟨r, σ1, μ1, q, e1, e2, c1, c2, m1, m2, hq, hr⟩ := grave_J hC hM (show k < 10 by omega) h39 hG hp
    rw [f_X5_takeYard_39_h12, f_X7_readAll_h34, if_neg hle, if_neg (show ¬ (1 : Int32) = 0 by decide), PM_o μ p (by decide), h21, if_neg hle, if_pos rfl, m3I, e1, e2]
    simp only [bdp]
    rcases hr with ⟨rfl, hr⟩ | ⟨rfl, hG1, h391⟩
    · rw [if_pos rfl, if_pos rfl]
      refine ⟨0, σ1, μ1, q, rfl, ?_, c1, c2, fun c _ h12 => m1 c h12, fun f _ => by rw [m1 0 (by decide)], m2, hq, Or.inl ⟨rfl, hr⟩⟩
      unfold f_X7_readAll_b103
      rw [if_pos rfl]
    · have hC1 : TC σ1 t T := hC.fr (by rw [c1 37 (by decide)]) (c1 38 (by decide))
      have hM1 : TM μ1 t T := hM.fr (by rw [m1 0 (by decide)]) (m1 11 (by decide))
      have hn := nx_le (T := T) hq
      rw [if_neg (show ¬ (1 : Int32) = 0 by decide), if_neg (show ¬ (1 : Int32) = 0 by decide), next_C hC1 hq]
      simp only []
      have fr2 : ∀ c, c ≠ 0 → c ≠ 12 → (wr μ1 0 21 (nI (k + 1))).1 c = μ.1 c := fun c d1 d2 => by rw [wr_ne d1, m1 c d2]
      have ff2 : ∀ f, f ≠ 21 → (wr μ1 0 21 (nI (k + 1))).1 0 f = μ.1 0 f := fun f hf => by rw [wr_get, if_pos rfl, if_neg hf, m1 0 (by decide)]
      have hG2 : GT σ1 (wr μ1 0 21 (nI (k + 1))) (k + 1) := by
        unfold GT
        rw [wr_ne (by decide)]
        exact hG1
      have h212 : (wr μ1 0 21 (nI (k + 1))).1 0 21 = nI (k + 1) := wr_at _ _ _ _
      have fin0 : ∃ (r : Int32) (σ' μ' : St) (q' : Nat), some ((0 : Int32), PC σ1 (nx T t q)) = some (r, PC σ' q') ∧ some ((0 : Int32), PM (wr μ1 0 21 (nI (k + 1))) (nx T t q)) = some (r, PM μ' q') ∧ (∀ c, (c < 39 ∨ 44 < c) → σ'.1 c = σ.1 c) ∧ σ'.2 = σ.2 ∧ (∀ c, c ≠ 0 → c ≠ 12 → μ'.1 c = μ.1 c) ∧ (∀ f, f ≠ 21 → μ'.1 0 f = μ.1 0 f) ∧ μ'.2 = μ.2 ∧ q' ≤ t ∧ ((r = 0 ∧ nx T t q' = q') ∨ (r = 1 ∧ ∃ n, n ≤ 10 ∧ GT σ' μ' n ∧ σ'.1 39 0 = nI n ∧ μ'.1 0 21 = nI n)) := ⟨0, σ1, _, nx T t q, rfl, rfl, c1, c2, fr2, ff2, m2, hn, Or.inl ⟨rfl, nx_nx hq⟩⟩
      have hk9 : (nI k = 9) = (k = 9) := by rw [show (9 : Int32) = nI 9 from rfl, nI_eqE (by omega) (by omega)]
      rcases ra_nx hM1 0 (q := q) (k := k) (most := 10) (sep := 44) (by decide) (by decide) (by decide) (by omega) (by rw [m1 0 (by decide), h21]) hq m with ⟨g, e⟩ | ⟨g1, g2, e⟩
      · have e' : f_X7_readAll_b103 (f_X7_readAll_h34 0 (m + 1)) 0 10 1 (PM μ1 q) = _ := e
        rw [e']
        by_cases c : nx T t q < t
        · rw [if_pos c, if_neg (by rw [lt_m1 hT]; exact not_not_intro c)]
          by_cases c9 : k = 9
          · rw [if_pos (by rw [hk9]; exact c9)]
            exact fin0
          · rw [if_neg (by rw [hk9]; exact c9)]
            have g' : ¬ tkP T t q 44 := by
              rcases g with g | g
              · omega
              · exact g
            rcases takes_C hC1 hn (c := 44) (by decide) with ⟨g3, e3⟩ | ⟨g3, e3⟩
            · rw [tk_nx hq] at g3
              exact absurd g3 g'
            · have e3' : f_X5_takes (PC σ1 (nx T t q)) 44 = _ := e3
              rw [e3', nx_nx hq]
              simp only []
              rw [if_pos trivial]
              exact fin0
        · rw [if_neg c, if_pos (by rw [lt_m1 hT]; exact c)]
          exact ⟨1, σ1, _, nx T t q, rfl, rfl, c1, c2, fr2, ff2, m2, hn, Or.inr ⟨rfl, k + 1, by omega, hG2, h391, h212⟩⟩
      · have e' : f_X7_readAll_b103 (f_X7_readAll_h34 0 (m + 1)) 0 10 1 (PM μ1 q) = f_X7_readAll_h34 0 (m + 1) 10 1 (PM (wr μ1 0 21 (nI (k + 1))) (nx T t q + 1)) := e
        rw [e', if_neg (by rw [lt_m1 hT]; exact not_not_intro g2.1), if_neg (by rw [hk9]; omega)]
        rcases takes_C hC1 hn (c := 44) (by decide) with ⟨g3, e3⟩ | ⟨g3, e3⟩
        · have e3' : f_X5_takes (PC σ1 (nx T t q)) 44 = _ := e3
          rw [e3', nx_nx hq]
          simp only [sq, nI_s]
          rw [if_neg (show ¬ (1 : Int32) = 0 by decide)]
          obtain ⟨r, σ', μ', q', b1, b2, b3, b4, b5, b6, b7, b8, b9⟩ := ih (k + 1) (m + 1) σ1 (wr μ1 0 21 (nI (k + 1))) (nx T t q + 1) (by omega) (by omega) (by omega) hC1 (hM1.fr (by rw [wr_get, if_pos rfl, if_neg (by decide)]) (wr_ne (by decide))) hG2 h391 h212 g2.1
          exact ⟨r, σ', μ', q', b1, b2, fun c hc => by rw [b3 c hc, c1 c hc], by rw [b4, c2], fun c d1 d2 => by rw [b5 c d1 d2, fr2 c d1 d2], fun f hf => by rw [b6 f hf, ff2 f hf], by rw [b7]; exact m2, b8, b9⟩
        · rw [tk_nx hq] at g3
          exact absurd g2 g3
theorem forget_l : ∀ (k i m : Nat) (μ : St), i + k = 10 → k < m → ∃ μ', f_X7_forget_h2 m (nI i) μ = some μ' ∧ (∀ c, c ≠ 0 → c ≠ 9 → μ'.1 c = μ.1 c) ∧ (∀ f, f ≠ 17 → μ'.1 0 f = μ.1 0 f) ∧ μ'.2 = μ.2 ∧ μ'.1 0 17 = 0 ∧ (∀ u, i ≤ u → u < 10 → μ'.1 9 u = 0 ∧ μ'.1 9 (10 + u) = 0) ∧ (∀ z, 20 ≤ z → μ'.1 9 z = μ.1 9 z) ∧ (∀ u, u < i → μ'.1 9 u = μ.1 9 u ∧ μ'.1 9 (10 + u) = μ.1 9 (10 + u)) := by
  intro k
  induction k with
  | zero =>
    intro i m μ h1 h2
    obtain ⟨m, rfl⟩ : ∃ m', m = m' + 1 := ⟨m - 1, by omega⟩
    rw [f_X7_forget_h2, if_pos (by rw [show (10 : Int32) = nI 10 from rfl, nI_leE (by omega) (by omega)]; omega)]
    simp only [sq]
    refine ⟨_, rfl, fun c c0 _ => wr_ne c0, fun f hf => ?_, rfl, wr_at _ _ _ _, fun u h3 h4 => by omega, fun z _ => ?_, fun u _ => ⟨?_, ?_⟩⟩
    · rw [wr_get, if_pos rfl, if_neg hf]
    · rw [wr_ne (by decide)]
    · rw [wr_ne (by decide)]
    · rw [wr_ne (by decide)]
  | succ k ih =>
    intro i m μ h1 h2
    obtain ⟨m, rfl⟩ : ∃ m', m = m' + 1 := ⟨m - 1, by omega⟩
    rw [f_X7_forget_h2, if_neg (by rw [show (10 : Int32) = nI 10 from rfl, nI_leE (by omega) (by omega)]; omega)]
    simp only [nI_z, show (10 : Int32) + nI i = nI (10 + i) from nI_k 10 i, ix_nI (show i < 2 ^ 31 by omega), ok2 (show i < 141 by omega) (show i < 2 ^ 31 by omega), ix_nI (show 10 + i < 2 ^ 31 by omega), ok2 (show 10 + i < 141 by omega) (show 10 + i < 2 ^ 31 by omega), if_false, sq, nI_s]
    obtain ⟨μ', e, e1, e2, e3, e4, e5, e6, e7⟩ := ih (i + 1) m (wr (wr μ 9 i 0) 9 (10 + i) 0) (by omega) (by omega)
    have g : ∀ z, (wr (wr μ 9 i 0) 9 (10 + i) 0).1 9 z = if z = 10 + i then 0 else if z = i then 0 else μ.1 9 z := fun z => by rw [wr_get, if_pos rfl, wr_get, if_pos rfl]
    refine ⟨μ', e, fun c c0 c9 => by rw [e1 c c0 c9, wr_ne c9, wr_ne c9], fun f hf => by rw [e2 f hf, wr_ne (by decide), wr_ne (by decide)], e3, e4, fun u h3 h4 => ?_, fun z hz => ?_, fun u h3 => ⟨?_, ?_⟩⟩
    · by_cases h5 : u = i
      · subst h5
        rw [(e7 u (by omega)).1, (e7 u (by omega)).2, g, g, if_neg (by omega), if_pos rfl, if_pos rfl]
        exact ⟨rfl, rfl⟩
      · exact e5 u (by omega) h4
    · rw [e6 z hz, g, if_neg (by omega), if_neg (by omega)]
    · rw [(e7 u (by omega)).1, g, if_neg (by omega), if_neg (by omega)]
    · rw [(e7 u (by omega)).2, g, if_neg (by omega), if_neg (by omega)]
theorem yard_27 {n : Nat} (hn : n ≤ 10) : ∀ (k i m : Nat) (μ : St), i + k = n → k < m → μ.1 0 21 = nI n → μ.1 0 3 = nI i → (∀ u, u < 20 → μ.1 9 u = 0) → ∃ μ', f_X7_yard_h27 m (nI i) μ = some (nI n, μ') ∧ (∀ c, c ≠ 0 → c ≠ 1 → c ≠ 2 → c ≠ 3 → μ'.1 c = μ.1 c) ∧ (∀ f, f ≠ 3 → μ'.1 0 f = μ.1 0 f) ∧ μ'.1 0 3 = nI n ∧ μ'.2 = μ.2 ∧ (∀ u, i ≤ u → u < n → μ'.1 1 u = μ.1 12 (3 * u) ∧ μ'.1 2 u = μ.1 12 (3 * u + 1) ∧ μ'.1 3 u = μ.1 12 (3 * u + 2)) ∧ (∀ u, u < i → μ'.1 1 u = μ.1 1 u ∧ μ'.1 2 u = μ.1 2 u ∧ μ'.1 3 u = μ.1 3 u) := by
  intro k
  induction k with
  | zero =>
    intro i m μ h1 h2 h21 h3 h9
    obtain ⟨m, rfl⟩ : ∃ m', m = m' + 1 := ⟨m - 1, by omega⟩
    have : i = n := by omega
    subst this
    rw [f_X7_yard_h27, h21, if_pos (by rw [nI_leE (by omega) (by omega)]; omega), h3]
    exact ⟨μ, rfl, fun _ _ _ _ _ => rfl, fun _ _ => rfl, h3, rfl, fun u h4 h5 => by omega, fun _ _ => ⟨rfl, rfl, rfl⟩⟩
  | succ k ih =>
    intro i m μ h1 h2 h21 h3 h9
    obtain ⟨m, rfl⟩ : ∃ m', m = m' + 1 := ⟨m - 1, by omega⟩
    rw [f_X7_yard_h27, h21, if_neg (by rw [nI_leE (by omega) (by omega)]; omega)]
    simp only [m3I, nI_s, nI_2, ix_nI (show 3 * i < 2 ^ 31 by omega), ok2 (show 3 * i < 128 by omega) (show 3 * i < 2 ^ 31 by omega), ix_nI (show 3 * i + 1 < 2 ^ 31 by omega), ok2 (show 3 * i + 1 < 128 by omega) (show 3 * i + 1 < 2 ^ 31 by omega), ix_nI (show 3 * i + 2 < 2 ^ 31 by omega), ok2 (show 3 * i + 2 < 128 by omega) (show 3 * i + 2 < 2 ^ 31 by omega), if_false]
    have ea : f_X7_addGrave μ (μ.1 12 (3 * i)) (μ.1 12 (3 * i + 1)) (μ.1 12 (3 * i + 2)) = some (wr (wr (wr (wr μ 1 i (μ.1 12 (3 * i))) 2 i (μ.1 12 (3 * i + 1))) 3 i (μ.1 12 (3 * i + 2))) 0 3 (nI (i + 1))) := by
      rw [add_Me, h3]
      simp only [nI_z, show (10 : Int32) + nI i = nI (10 + i) from nI_k 10 i, ix_nI (show i < 2 ^ 31 by omega), ok2 (show i < 10 by omega) (show i < 2 ^ 31 by omega), ok2 (show i < 141 by omega) (show i < 2 ^ 31 by omega), ix_nI (show 10 + i < 2 ^ 31 by omega), ok2 (show 10 + i < 141 by omega) (show 10 + i < 2 ^ 31 by omega), if_false, nI_s]
      have s1 : ∀ (ν : St), ν.1 9 i = 0 → wr ν 9 i 0 = ν := fun ν e => by
        have := wr_same ν 9 i
        rw [e] at this
        exact this
      have s2 : ∀ (ν : St), ν.1 9 (10 + i) = 0 → wr ν 9 (10 + i) 0 = ν := fun ν e => by
        have := wr_same ν 9 (10 + i)
        rw [e] at this
        exact this
      rw [s1 _ (by rw [wr_ne (by decide), wr_ne (by decide), wr_ne (by decide)]; exact h9 i (by omega)), s2 _ (by rw [wr_ne (by decide), wr_ne (by decide), wr_ne (by decide)]; exact h9 _ (by omega))]
    rw [ea]
    simp only [bdr, sq]
    obtain ⟨μ1, hμ⟩ : ∃ μ1, μ1 = wr (wr (wr (wr μ 1 i (μ.1 12 (3 * i))) 2 i (μ.1 12 (3 * i + 1))) 3 i (μ.1 12 (3 * i + 2))) 0 3 (nI (i + 1)) := ⟨_, rfl⟩
    have g1 : ∀ c, c ≠ 0 → c ≠ 1 → c ≠ 2 → c ≠ 3 → μ1.1 c = μ.1 c := fun c d0 d1 d2 d3 => by rw [hμ, wr_ne d0, wr_ne d3, wr_ne d2, wr_ne d1]
    have g2 : ∀ f, f ≠ 3 → μ1.1 0 f = μ.1 0 f := fun f hf => by rw [hμ, wr_get, if_pos rfl, if_neg hf, wr_ne (by decide), wr_ne (by decide), wr_ne (by decide)]
    have g3 : μ1.1 0 3 = nI (i + 1) := by rw [hμ, wr_at]
    have g4 : ∀ u, μ1.1 1 u = if u = i then μ.1 12 (3 * i) else μ.1 1 u := fun u => by rw [hμ, wr_ne (by decide), wr_ne (by decide), wr_ne (by decide), wr_get, if_pos rfl]
    have g5 : ∀ u, μ1.1 2 u = if u = i then μ.1 12 (3 * i + 1) else μ.1 2 u := fun u => by rw [hμ, wr_ne (by decide), wr_ne (by decide), wr_get, if_pos rfl, wr_ne (by decide)]
    have g6 : ∀ u, μ1.1 3 u = if u = i then μ.1 12 (3 * i + 2) else μ.1 3 u := fun u => by rw [hμ, wr_ne (by decide), wr_get, if_pos rfl, wr_ne (by decide), wr_ne (by decide)]
    have g7 : μ1.2 = μ.2 := by rw [hμ]; rfl
    rw [← hμ]
    obtain ⟨μ', e, e1, e2, e3, e4, e5, e6⟩ := ih (i + 1) m μ1 (by omega) (by omega) (by rw [g2 21 (by decide), h21]) g3 (fun u hu => by rw [g1 9 (by decide) (by decide) (by decide) (by decide)]; exact h9 u hu)
    have g12 : μ1.1 12 = μ.1 12 := g1 12 (by decide) (by decide) (by decide) (by decide)
    refine ⟨μ', e, fun c d0 d1 d2 d3 => by rw [e1 c d0 d1 d2 d3, g1 c d0 d1 d2 d3], fun f hf => by rw [e2 f hf, g2 f hf], e3, by rw [e4, g7], fun u h4 h5 => ?_, fun u h4 => ?_⟩
    · by_cases c : u = i
      · subst c
        obtain ⟨b1, b2, b3⟩ := e6 u (by omega)
        rw [b1, b2, b3, g4, g5, g6, if_pos rfl, if_pos rfl, if_pos rfl]
        exact ⟨rfl, rfl, rfl⟩
      · have := e5 u (by omega) h5
        rw [g12] at this
        exact this
    · obtain ⟨b1, b2, b3⟩ := e6 u (by omega)
      rw [b1, b2, b3, g4, g5, g6, if_neg (by omega), if_neg (by omega), if_neg (by omega)]
      exact ⟨rfl, rfl, rfl⟩
