def wtN (a : Nat → Nat → Nat) (r s x : Nat) : Nat := smN (fun w => if andn x (hearN a r s w) = 0 then a 14 w else 0) 5
theorem wt_le {a : Nat → Nat → Nat} (I : Inv a) (r s x : Nat) : wtN a r s x ≤ 45 := by
  have := sm_le (f := fun w => if andn x (hearN a r s w) = 0 then a 14 w else 0) (b := 9) (n := 5) (fun w hw => by
    have := I.wt w hw
    show (if andn x (hearN a r s w) = 0 then a 14 w else 0) ≤ 9
    split <;> omega)
  exact this
theorem al_le {a : Nat → Nat → Nat} (I : Inv a) : smN (a 14) 5 ≤ 45 := by
  have := sm_le (f := a 14) (b := 9) (n := 5) (fun w hw => I.wt w hw)
  exact this
theorem allW_C {a : Nat → Nat → Nat} {σ : St} (I : Inv a) (h : CA a (vw σ 1)) : f_X3_allWeights σ = some (nI (smN (a 14) 5)) := by
  have h10 := I.gs
  have h12 := I.ps
  have key : ∀ (k i m : Nat), i + k = 5 → k < m → f_X3_allWeights_h4 σ m (nI (smN (a 14) i)) (nI i) = some (nI (smN (a 14) (5))) := by
    intro k
    induction k with
    | zero =>
      intro i m h1 h2
      obtain ⟨m, rfl⟩ : ∃ m', m = m' + 1 := ⟨m - 1, by omega⟩
      rw [f_X3_allWeights_h4]
      rw [show (5 : Int32) = nI 5 from rfl, if_pos (by rw [nI_leE (by omega) (by omega)]; omega)]
      have : i = 5 := by omega
      subst this
      rfl
    | succ k ih =>
      intro i m h1 h2
      obtain ⟨m, rfl⟩ : ∃ m', m = m' + 1 := ⟨m - 1, by omega⟩
      rw [f_X3_allWeights_h4]
      have hi : i < 5 := by omega
      rw [show (5 : Int32) = nI 5 from rfl, if_neg (by rw [nI_leE (by omega) (by omega)]; omega)]
      have e := ih (i + 1) m (by omega) (by omega)
      simp only [sq, nI_s, ix_nI (show i < 2 ^ 31 by omega), ok2 (show i < 5 by omega) (show i < 2 ^ 31 by omega), if_false, cL_wt h i hi]
      rw [sm_s]
      exact e
  exact key (5) 0 FU (by omega) (by unfold FU; omega)
theorem allW_M {a : Nat → Nat → Nat} {μ : St} (I : Inv a) (h : MA a (ul μ)) : f_X7_allWeights μ = some (nI (smN (a 14) 5)) := by
  have h10 := I.gs
  have h12 := I.ps
  have key : ∀ (k i m : Nat), i + k = 5 → k < m → f_X7_allWeights_h4 μ m (nI (smN (a 14) i)) (nI i) = some (nI (smN (a 14) (5))) := by
    intro k
    induction k with
    | zero =>
      intro i m h1 h2
      obtain ⟨m, rfl⟩ : ∃ m', m = m' + 1 := ⟨m - 1, by omega⟩
      rw [f_X7_allWeights_h4]
      rw [show (5 : Int32) = nI 5 from rfl, if_pos (by rw [nI_leE (by omega) (by omega)]; omega)]
      have : i = 5 := by omega
      subst this
      rfl
    | succ k ih =>
      intro i m h1 h2
      obtain ⟨m, rfl⟩ : ∃ m', m = m' + 1 := ⟨m - 1, by omega⟩
      rw [f_X7_allWeights_h4]
      have hi : i < 5 := by omega
      rw [show (5 : Int32) = nI 5 from rfl, if_neg (by rw [nI_leE (by omega) (by omega)]; omega)]
      have e := ih (i + 1) m (by omega) (by omega)
      simp only [sq, nI_s, ix_nI (show i < 2 ^ 31 by omega), ok2 (show i < 5 by omega) (show i < 2 ^ 31 by omega), if_false, mL_wt h i hi]
      rw [sm_s]
      exact e
  exact key (5) 0 FU (by omega) (by unfold FU; omega)
theorem wt_C {a : Nat → Nat → Nat} {σ : St} (I : Inv a) (h : CA a (vw σ 1)) {r s x : Nat} (hr : r < a 0 2) (hs : s < 36) (hx : x < 2 ^ 31) : f_X3_weightsOfHearing σ (nI r) (nI s) (nI x) = some (nI (wtN a r s x)) := by
  have h10 := I.gs
  have h12 := I.ps
  have key : ∀ (k i m : Nat), i + k = 5 → k < m → f_X3_weightsOfHearing_h6 σ (nI r) (nI s) (nI x) m (nI (smN (fun w => if andn x (hearN a r s w) = 0 then a 14 w else 0) i)) (nI i) = some (nI (smN (fun w => if andn x (hearN a r s w) = 0 then a 14 w else 0) (5))) := by
    intro k
    induction k with
    | zero =>
      intro i m h1 h2
      obtain ⟨m, rfl⟩ : ∃ m', m = m' + 1 := ⟨m - 1, by omega⟩
      rw [f_X3_weightsOfHearing_h6]
      rw [show (5 : Int32) = nI 5 from rfl, if_pos (by rw [nI_leE (by omega) (by omega)]; omega)]
      have : i = 5 := by omega
      subst this
      rfl
    | succ k ih =>
      intro i m h1 h2
      obtain ⟨m, rfl⟩ : ∃ m', m = m' + 1 := ⟨m - 1, by omega⟩
      rw [f_X3_weightsOfHearing_h6]
      have hi : i < 5 := by omega
      have hle := andn_le x (hearN a r s i)
      rw [show (5 : Int32) = nI 5 from rfl, if_neg (by rw [nI_leE (by omega) (by omega)]; omega)]
      have e := ih (i + 1) m (by omega) (by omega)
      simp only [sq, nI_s, bdr, hearers_C I h hr hs hi, nI_andn, nI_eq0 (show andn x (hearN a r s i) < 2 ^ 31 by omega), ix_nI (show i < 2 ^ 31 by omega), ok2 (show i < 5 by omega) (show i < 2 ^ 31 by omega), if_false, cL_wt h i hi]
      by_cases q : andn x (hearN a r s i) = 0
      · rw [if_pos q, nI_add]
        rw [smN, if_pos q] at e
        exact e
      · rw [if_neg q]
        rw [smN, if_neg q, Nat.add_zero] at e
        exact e
  exact key (5) 0 FU (by omega) (by unfold FU; omega)
theorem wt_M {a : Nat → Nat → Nat} {μ : St} (I : Inv a) (h : MA a (ul μ)) {r s x : Nat} (hr : r < a 0 2) (hs : s < 36) (hx : x < 2 ^ 31) : f_X7_weightOf μ (nI r) (nI s) (nI x) = some (nI (wtN a r s x)) := by
  have h10 := I.gs
  have h12 := I.ps
  have key : ∀ (k i m : Nat), i + k = 5 → k < m → f_X7_weightOf_h6 μ (nI r) (nI s) (nI x) m (nI (smN (fun w => if andn x (hearN a r s w) = 0 then a 14 w else 0) i)) (nI i) = some (nI (smN (fun w => if andn x (hearN a r s w) = 0 then a 14 w else 0) (5))) := by
    intro k
    induction k with
    | zero =>
      intro i m h1 h2
      obtain ⟨m, rfl⟩ : ∃ m', m = m' + 1 := ⟨m - 1, by omega⟩
      rw [f_X7_weightOf_h6]
      rw [show (5 : Int32) = nI 5 from rfl, if_pos (by rw [nI_leE (by omega) (by omega)]; omega)]
      have : i = 5 := by omega
      subst this
      rfl
    | succ k ih =>
      intro i m h1 h2
      obtain ⟨m, rfl⟩ : ∃ m', m = m' + 1 := ⟨m - 1, by omega⟩
      rw [f_X7_weightOf_h6]
      have hi : i < 5 := by omega
      have hle := andn_le x (hearN a r s i)
      rw [show (5 : Int32) = nI 5 from rfl, if_neg (by rw [nI_leE (by omega) (by omega)]; omega)]
      have e := ih (i + 1) m (by omega) (by omega)
      simp only [sq, nI_s, bdr, hearers_M I h hr hs hi, nI_andn, nI_eq0 (show andn x (hearN a r s i) < 2 ^ 31 by omega), f_X7_weightOf_b40, nI_p0, ix_nI (show i < 2 ^ 31 by omega), ok2 (show i < 5 by omega) (show i < 2 ^ 31 by omega), if_false, mL_wt h i hi]
      by_cases q : andn x (hearN a r s i) = 0
      · rw [if_pos q, nI_add]
        rw [smN, if_pos q] at e
        exact e
      · rw [if_neg q]
        rw [smN, if_neg q, Nat.add_zero] at e
        exact e
  exact key (5) 0 FU (by omega) (by unfold FU; omega)
theorem op25 : Op25 RR := by
  intro σ nw μ hR x y z u
  obtain ⟨⟨a, I, hC, hM⟩, -⟩ := id hR
  have hrd := I.rd
  have h10 := I.gs
  have hpw : 2 ^ a 1 0 < 2 ^ 31 := Nat.pow_lt_pow_right (by decide) (by omega)
  unfold f_X6_chance f_X7_chance
  simp only [isReader_C0 I hC, isReader_M0 I hM, isPlace_C0, isPlace_M0, isGraveSet_C0 I hC, areGraves_M0 I hM, toL_T, in_0, lt_T, le_T, T_0, show (0 : Int64).toInt = 0 by decide, show (1 : Int64).toInt = 1 by decide, show (1 : Int32).toInt = 1 by decide]
  by_cases v1 : 0 ≤ x.toInt ∧ x.toInt < a 0 2
  · by_cases v2 : 0 ≤ y.toInt ∧ y.toInt < 36
    · by_cases v3 : 0 ≤ z.toInt ∧ z.toInt < (2 ^ a 1 0 : Nat)
      · by_cases v4 : 0 ≤ u.toInt ∧ u.toInt ≤ 1
        · obtain ⟨r, hr, rfl⟩ := nI_ofR (n := a 0 2) v1 (by omega)
          obtain ⟨s, hs, rfl⟩ := nI_ofR (n := 36) v2 (by decide)
          obtain ⟨w, hw, rfl⟩ := nI_ofR (n := 2 ^ a 1 0) v3 hpw
          have w1 := wt_le I r s w
          have w2 := al_le I
          simp only [not_not_intro v1, not_not_intro v2, not_not_intro v3, not_not_intro v4, if_false, allW_C I hC, allW_M I hM, bdr, nI_eq0 (show smN (a 14) 5 < 2 ^ 31 by omega), wt_C I hC hr hs (show w < 2 ^ 31 by omega), wt_M I hM hr hs (show w < 2 ^ 31 by omega)]
          rw [if_neg (show ¬ u.toInt < 0 by omega), if_pos v4.2]
          by_cases q0 : smN (a 14) 5 = 0
          · rw [if_pos q0, if_pos q0]
            exact ⟨_, rfl, rfl, hR⟩
          · rw [if_neg q0, if_neg q0]
            have hg : 0 < Nat.gcd (wtN a r s w) (smN (a 14) 5) := Nat.gcd_pos_of_pos_right _ (by omega)
            have hg2 : Nat.gcd (wtN a r s w) (smN (a 14) 5) ≤ smN (a 14) 5 := Nat.le_of_dvd (by omega) (Nat.gcd_dvd_right _ _)
            rw [com_M (by omega) (by omega), low_C (by omega) (by omega) (Or.inr (by omega)), low_C (by omega) (by omega) (Or.inl (by omega)), Nat.gcd_comm (smN (a 14) 5)]
            simp only []
            rw [if_neg (show ¬ nI (Nat.gcd (wtN a r s w) (smN (a 14) 5)) = 0 by rw [nI_eq0 (by omega)]; omega), if_neg (show ¬ nI (Nat.gcd (wtN a r s w) (smN (a 14) 5)) = 0 by rw [nI_eq0 (by omega)]; omega), pk_div (by omega) hg (by omega), pk_div (by omega) hg (by omega)]
            by_cases qu : u = 0
            · rw [if_pos qu]
              exact ⟨_, rfl, rfl, hR⟩
            · rw [if_neg qu]
              exact ⟨_, rfl, rfl, hR⟩
        · simp only [if_pos v4, ite_self]
          refine ⟨-1, ?_, rfl, hR⟩
          (repeat' split) <;> first | rfl | (exfalso; omega)
      · simp only [if_pos v3, ite_self]
        exact ⟨_, rfl, rfl, hR⟩
    · simp only [if_pos v2, ite_self]
      exact ⟨_, rfl, rfl, hR⟩
  · simp only [if_pos v1]
    exact ⟨_, rfl, rfl, hR⟩
/-! the likeliest place -/
def llN (W : Nat → Nat) : Nat → Nat → Nat → Nat
  | _, 0, b => b
  | i, k + 1, b => if W i ≤ W b then llN W (i + 1) k b else llN W (i + 1) k i
theorem lkl_C {a : Nat → Nat → Nat} {σ : St} (I : Inv a) (h : CA a (vw σ 1)) {r x b : Nat} (hr : r < a 0 2) (hx : x < 2 ^ 31) (hb : b < 36) : ∀ (k i m : Nat), i + k = 36 → k < m → f_X6_likeliest_h40 σ (nI r) (nI x) m (nI b) (nI (wtN a r b x)) (nI i) = some (nI (llN (fun s => wtN a r s x) i k b)) := by
  have h10 := I.gs
  have h12 := I.ps
  have hwi := I.wi
  have key : ∀ (k i m : Nat) (b : Nat), b < 36 → i + k = 36 → k < m → f_X6_likeliest_h40 σ (nI r) (nI x) m (nI b) (nI (wtN a r b x)) (nI i) = some (nI (llN (fun s => wtN a r s x) i k b)) := by
    intro k
    induction k with
    | zero =>
      intro i m b hb h1 h2
      obtain ⟨m, rfl⟩ : ∃ m', m = m' + 1 := ⟨m - 1, by omega⟩
      rw [f_X6_likeliest_h40]
      rw [if_pos (by rw [show (36 : Int32) = nI 36 from rfl, nI_leE (by omega) (by omega)]; omega)]
      rfl
    | succ k ih =>
      intro i m b hb h1 h2
      obtain ⟨m, rfl⟩ : ∃ m', m = m' + 1 := ⟨m - 1, by omega⟩
      rw [f_X6_likeliest_h40]
      have hi : i < 36 := by omega
      have w1 := wt_le I r i x
      have w2 := wt_le I r b x
      rw [if_neg (by rw [show (36 : Int32) = nI 36 from rfl, nI_leE (by omega) (by omega)]; omega)]
      simp only [sq, bdr, nI_s, wt_C I h hr hi hx, nI_leE (show wtN a r i x < 2 ^ 31 by omega) (show wtN a r b x < 2 ^ 31 by omega), llN]
      by_cases q1 : wtN a r i x ≤ wtN a r b x
      · rw [if_pos q1, if_pos q1]; exact ih (i + 1) m b hb (by omega) (by omega)
      · rw [if_neg q1, if_neg q1]; exact ih (i + 1) m i hi (by omega) (by omega)
  exact fun k i m h1 h2 => key k i m b hb h1 h2
theorem lkl_M {a : Nat → Nat → Nat} {μ : St} (I : Inv a) (h : MA a (ul μ)) {r x b : Nat} (hr : r < a 0 2) (hx : x < 2 ^ 31) (hb : b < 36) : ∀ (k i m : Nat), i + k = 36 → k < m → f_X7_likeliest_h34 μ (nI r) (nI x) m (nI b) (nI i) = some (nI (llN (fun s => wtN a r s x) i k b)) := by
  have h10 := I.gs
  have h12 := I.ps
  have hwi := I.wi
  have key : ∀ (k i m : Nat) (b : Nat), b < 36 → i + k = 36 → k < m → f_X7_likeliest_h34 μ (nI r) (nI x) m (nI b) (nI i) = some (nI (llN (fun s => wtN a r s x) i k b)) := by
    intro k
    induction k with
    | zero =>
      intro i m b hb h1 h2
      obtain ⟨m, rfl⟩ : ∃ m', m = m' + 1 := ⟨m - 1, by omega⟩
      rw [f_X7_likeliest_h34]
      rw [if_pos (by rw [show (36 : Int32) = nI 36 from rfl, nI_leE (by omega) (by omega)]; omega)]
      rfl
    | succ k ih =>
      intro i m b hb h1 h2
      obtain ⟨m, rfl⟩ : ∃ m', m = m' + 1 := ⟨m - 1, by omega⟩
      rw [f_X7_likeliest_h34]
      have hi : i < 36 := by omega
      have w1 := wt_le I r i x
      have w2 := wt_le I r b x
      rw [if_neg (by rw [show (36 : Int32) = nI 36 from rfl, nI_leE (by omega) (by omega)]; omega)]
      simp only [sq, bdr, nI_s, wt_M I h hr hi hx, wt_M I h hr hb hx, nI_leE (show wtN a r i x < 2 ^ 31 by omega) (show wtN a r b x < 2 ^ 31 by omega), llN]
      by_cases q1 : wtN a r i x ≤ wtN a r b x
      · rw [if_pos q1, if_pos q1]; exact ih (i + 1) m b hb (by omega) (by omega)
      · rw [if_neg q1, if_neg q1]; exact ih (i + 1) m i hi (by omega) (by omega)
  exact fun k i m h1 h2 => key k i m b hb h1 h2
theorem op26 : Op26 RR := by
  intro σ nw μ hR x y
  obtain ⟨⟨a, I, hC, hM⟩, -⟩ := id hR
  have hrd := I.rd
  have h10 := I.gs
  have hpw : 2 ^ a 1 0 < 2 ^ 31 := Nat.pow_lt_pow_right (by decide) (by omega)
  unfold f_X6_likeliest f_X7_likeliest
  simp only [isReader_C0 I hC, isReader_M0 I hM, isGraveSet_C0 I hC, areGraves_M0 I hM, toL_T]
  by_cases v1 : 0 ≤ x.toInt ∧ x.toInt < a 0 2
  · by_cases v3 : 0 ≤ y.toInt ∧ y.toInt < (2 ^ a 1 0 : Nat)
    · obtain ⟨r, hr, rfl⟩ := nI_ofR (n := a 0 2) v1 (by omega)
      obtain ⟨w, hw, rfl⟩ := nI_ofR (n := 2 ^ a 1 0) v3 hpw
      have w2 := al_le I
      have w0 := wt_le I r 0 w
      simp only [not_not_intro v1, not_not_intro v3, if_false, allW_C I hC, allW_M I hM, bdr, nI_eq0 (show smN (a 14) 5 < 2 ^ 31 by omega)]
      by_cases q0 : smN (a 14) 5 = 0
      · rw [if_pos q0, if_pos q0]
        exact ⟨_, rfl, rfl, hR⟩
      · rw [if_neg q0, if_neg q0]
        refine ⟨_, ?_, lkl_M I hM hr (show w < 2 ^ 31 by omega) (show 0 < 36 by decide) 35 1 FU (by decide) (by unfold FU; omega), hR⟩
        rw [show FU = 99999 + 1 from rfl, f_X6_likeliest_h40, if_neg (by decide), show (0 : Int32) = nI 0 from rfl, wt_C I hC hr (show 0 < 36 by decide) (show w < 2 ^ 31 by omega)]
        simp only [bdr, sq, nI_s, Nat.zero_add, nI_leE (show wtN a r 0 w < 2 ^ 31 by omega) (show 0 < 2 ^ 31 by decide)]
        have e := lkl_C I hC hr (show w < 2 ^ 31 by omega) (show 0 < 36 by decide) 35 1 99999 (by decide) (by decide)
        by_cases q1 : wtN a r 0 w ≤ 0
        · rw [if_pos q1]
          rw [show wtN a r 0 w = 0 by omega] at e
          exact e
        · rw [if_neg q1]
          exact e
    · simp only [if_pos v3, ite_self]
      exact ⟨_, rfl, rfl, hR⟩
  · simp only [if_pos v1]
    exact ⟨_, rfl, rfl, hR⟩

