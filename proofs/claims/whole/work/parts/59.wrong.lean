/-! ===== who is wronged ===== -/
def lkN (a : Nat → Nat → Nat) (h i n : Nat) : Nat := bsN (fun m => (andn (a 10 n) h).testBit m && owB a i m) (a 8 0)
def wrongB (a : Nat → Nat → Nat) (h i n : Nat) : Bool := (a 11 n).testBit i || h.testBit n || decide (lkN a h i n ≠ 0)
def wrN (a : Nat → Nat → Nat) (H : Nat) (hd : Nat → Nat) (n : Nat) : Nat := bsN (fun i => H.testBit i && wrongB a (hd i) i n) (a 1 0)
theorem lk_eq {a : Nat → Nat → Nat} (h i n : Nat) : andn (a 10 n &&& owedN a i) h = lkN a h i n := by
  apply Nat.eq_of_testBit_eq
  intro m
  unfold lkN owedN
  rw [andn_bit, Nat.testBit_and, bsN_bit, bsN_bit, andn_bit]
  cases (a 10 n).testBit m <;> cases h.testBit m <;> cases owB a i m <;> simp
theorem na_lt {a : Nat → Nat → Nat} (I : Inv a) {n : Nat} (hn : n < a 8 0) : a 10 n < 4096 := by
  have h12 := I.ps
  have := (I.nw n hn).2.1
  exact Nat.lt_of_lt_of_le this (Nat.pow_le_pow_right (n := 2) (by decide) (show n ≤ 12 by omega))
theorem isWrong_C {a : Nat → Nat → Nat} {σ : St} (I : Inv a) (h : CA a (vw σ 1)) {i n x : Nat} (hi : i < a 1 0) (hn : n < a 8 0) (hx : x < 4096) : f_X3_isWrong σ (nI i) (nI n) (nI x) = some (nI (if wrongB a x i n then 1 else 0)) := by
  have h10 := I.gs
  have h12 := I.ps
  have hb := (I.nw n hn).2.2.1
  have hle := andn_le (a 10 n) x
  have hna := na_lt I hn
  have hlk : lkN a x i n < 4096 := bs12 I _
  unfold f_X3_isWrong
  simp only [ix_nI (show n < 2 ^ 31 by omega), ok2 (show n < 12 by omega) (show n < 2 ^ 31 by omega), if_false, cL_nb h n hn, cL_na h n hn, has_C0 (show a 11 n < 2 ^ 31 by omega) (show i < 31 by omega), has_C0 (show x < 2 ^ 31 by omega) (show n < 31 by omega), nI_andn, owedAmong_C I h hi (show andn (a 10 n) x < 2 ^ 31 by omega), bdr]
  unfold wrongB
  cases (a 11 n).testBit i
  · cases x.testBit n
    · rw [if_pos rfl, if_pos rfl]
      show (if nI (lkN a x i n) = 0 then some 0 else some 1) = _
      by_cases q : lkN a x i n = 0
      · rw [if_pos (by rw [q]; rfl)]; simp [q]; rfl
      · rw [if_neg (by rw [nI_eq0 (by omega)]; exact q)]; simp [q]; rfl
    · rfl
  · rfl
theorem wrongedOf_C {a : Nat → Nat → Nat} {σ : St} (I : Inv a) (h : CA a (vw σ 1)) {H n : Nat} (hn : n < a 8 0) (hH : H < 2 ^ 31) : f_X3_wrongedOf_6 σ (nI H) (nI n) = some (nI (wrN a H (a 5) n)) := by
  have h10 := I.gs
  have h12 := I.ps
  have key : ∀ (k i m : Nat), i + k = a 1 0 → k < m → f_X3_wrongedOf_6_h6 σ (nI H) (nI n) m (nI (bsN (fun i => H.testBit i && wrongB a (a 5 i) i n) i)) (nI i) = some (nI (bsN (fun i => H.testBit i && wrongB a (a 5 i) i n) (a 1 0))) := by
    intro k
    induction k with
    | zero =>
      intro i m h1 h2
      obtain ⟨m, rfl⟩ : ∃ m', m = m' + 1 := ⟨m - 1, by omega⟩
      rw [f_X3_wrongedOf_6_h6]
      rw [cL_gs h, if_pos (by rw [nI_leE (by omega) (by omega)]; omega)]
      have : i = a 1 0 := by omega
      subst this
      rfl
    | succ k ih =>
      intro i m h1 h2
      obtain ⟨m, rfl⟩ : ∃ m', m = m' + 1 := ⟨m - 1, by omega⟩
      rw [f_X3_wrongedOf_6_h6]
      have hi : i < a 1 0 := by omega
      have h5 : a 5 i < 4096 := (I.hw i (by omega)).1
      rw [cL_gs h, if_neg (by rw [nI_leE (by omega) (by omega)]; omega)]
      have e := ih (i + 1) m (by omega) (by omega)
      simp only [sq, nI_s, bdr, b01, ix_nI (show i < 2 ^ 31 by omega), ok2 (show i < 10 by omega) (show i < 2 ^ 31 by omega), if_false, cL_he h i hi, isWrong_C I h hi hn h5, has_C0 hH (show i < 31 by omega)]
      cases hq : H.testBit i
      · rw [if_pos rfl]
        rw [bsN_f (fun i => H.testBit i && wrongB a (a 5 i) i n) (by simp [hq])] at e
        exact e
      · rw [if_neg (by decide)]
        cases hb : wrongB a (a 5 i) i n
        · rw [if_pos rfl]
          rw [bsN_f (fun i => H.testBit i && wrongB a (a 5 i) i n) (by simp [hb])] at e
          exact e
        · rw [if_neg (by decide), bsN_t (fun i => H.testBit i && wrongB a (a 5 i) i n) (by omega) (by simp [hq, hb])]
          exact e
  exact key (a 1 0) 0 FU (by omega) (by unfold FU; omega)
theorem wrongedOf61_C {a : Nat → Nat → Nat} {σ : St} (I : Inv a) (h : CA a (vw σ 1)) {H n : Nat} {hd : Nat → Nat} (hn : n < a 8 0) (hH : H < 2 ^ 31) (hv : ∀ i, i < a 1 0 → σ.1 61 i = nI (hd i)) (hl : ∀ i, i < a 1 0 → hd i < 4096) : f_X3_wrongedOf_61 σ (nI H) (nI n) = some (nI (wrN a H hd n)) := by
  have h10 := I.gs
  have h12 := I.ps
  have key : ∀ (k i m : Nat), i + k = a 1 0 → k < m → f_X3_wrongedOf_61_h6 σ (nI H) (nI n) m (nI (bsN (fun i => H.testBit i && wrongB a (hd i) i n) i)) (nI i) = some (nI (bsN (fun i => H.testBit i && wrongB a (hd i) i n) (a 1 0))) := by
    intro k
    induction k with
    | zero =>
      intro i m h1 h2
      obtain ⟨m, rfl⟩ : ∃ m', m = m' + 1 := ⟨m - 1, by omega⟩
      rw [f_X3_wrongedOf_61_h6]
      rw [cL_gs h, if_pos (by rw [nI_leE (by omega) (by omega)]; omega)]
      have : i = a 1 0 := by omega
      subst this
      rfl
    | succ k ih =>
      intro i m h1 h2
      obtain ⟨m, rfl⟩ : ∃ m', m = m' + 1 := ⟨m - 1, by omega⟩
      rw [f_X3_wrongedOf_61_h6]
      have hi : i < a 1 0 := by omega
      rw [cL_gs h, if_neg (by rw [nI_leE (by omega) (by omega)]; omega)]
      have e := ih (i + 1) m (by omega) (by omega)
      simp only [sq, nI_s, bdr, b01, ix_nI (show i < 2 ^ 31 by omega), ok2 (show i < 10 by omega) (show i < 2 ^ 31 by omega), if_false, hv i hi, isWrong_C I h hi hn (hl i hi), has_C0 hH (show i < 31 by omega)]
      cases hq : H.testBit i
      · rw [if_pos rfl]
        rw [bsN_f (fun i => H.testBit i && wrongB a (hd i) i n) (by simp [hq])] at e
        exact e
      · rw [if_neg (by decide)]
        cases hb : wrongB a (hd i) i n
        · rw [if_pos rfl]
          rw [bsN_f (fun i => H.testBit i && wrongB a (hd i) i n) (by simp [hb])] at e
          exact e
        · rw [if_neg (by decide), bsN_t (fun i => H.testBit i && wrongB a (hd i) i n) (by omega) (by simp [hq, hb])]
          exact e
  exact key (a 1 0) 0 FU (by omega) (by unfold FU; omega)
theorem hearers_fr {μ μ' : St} (e : ∀ c, c < 9 → μ'.1 c = μ.1 c) (x1 x2 x3 : Int32) : f_X7_hearers μ' x1 x2 x3 = f_X7_hearers μ x1 x2 x3 := by
  have e0 := e 0 (by decide)
  have e1 := e 1 (by decide)
  have e2 := e 2 (by decide)
  have e7 := e 7 (by decide)
  have k : ∀ (n : Nat) (v4 v5 : Int32), f_X7_hearers_h6 μ' x1 x2 x3 n v4 v5 = f_X7_hearers_h6 μ x1 x2 x3 n v4 v5 := by
    intro n
    induction n with
    | zero => intro _ _; rfl
    | succ n ih =>
      intro v4 v5
      simp only [f_X7_hearers_h6, f_X7_hearers_b42, f_X7_hearsOne, f_X7_hearsOne_b20, f_X7_hearsOne_b27, f_X7_hearsOne_b47, e0, e1, e2, e7, ih]
  exact k _ _ _
theorem owed_fr {μ μ' : St} (e : ∀ c, c < 9 → μ'.1 c = μ.1 c) (x1 x2 : Int32) : f_X7_isOwed μ' x1 x2 = f_X7_isOwed μ x1 x2 := by
  have e0 := e 0 (by decide)
  have e1 := e 1 (by decide)
  have e3 := e 3 (by decide)
  have e4 := e 4 (by decide)
  have e6 := e 6 (by decide)
  simp only [f_X7_isOwed, f_X7_isOwed_b32, f_X7_isOwed_b143, e0, e1, e3, e4, e6]
theorem owedTo_fr {μ μ' : St} (e : ∀ c, c < 9 → μ'.1 c = μ.1 c) (x1 : Int32) : f_X7_owedTo μ' x1 = f_X7_owedTo μ x1 := by
  have e0 := e 0 (by decide)
  have k : ∀ (n : Nat) (v2 v3 : Int32), f_X7_owedTo_h4 μ' x1 n v2 v3 = f_X7_owedTo_h4 μ x1 n v2 v3 := by
    intro n
    induction n with
    | zero => intro _ _; rfl
    | succ n ih =>
      intro v2 v3
      simp only [f_X7_owedTo_h4, f_X7_owedTo_b29, e0, owed_fr e, ih]
  exact k _ _ _
theorem wrongedBy_Mg {a : Nat → Nat → Nat} {μ μ' : St} (I : Inv a) (h : MA a (ul μ)) (e : ∀ c, c < 9 → μ'.1 c = μ.1 c) {hd : Nat → Nat} (hh : ∀ i, i < a 1 0 → μ'.1 9 i = nI (hd i)) (hl : ∀ i, i < a 1 0 → hd i < 4096) {r s n : Nat} (hr : r < a 0 2) (hs : s < 36) (hn : n < a 8 0) : f_X7_wrongedBy μ' (nI r) (nI s) (nI n) = some (nI (wrN a (hearN a r s (a 0 4)) hd n)) := by
  have h10 := I.gs
  have h12 := I.ps
  have hwi := I.wi
  have hb := (I.nw n hn).2.2.1
  have hna := na_lt I hn
  have e0 := e 0 (by decide)
  have e5 := e 5 (by decide)
  have e6 := e 6 (by decide)
  unfold f_X7_wrongedBy
  rw [hearers_fr e, e0, mL_wi h, hearers_M I h hr hs (by omega)]
  simp only [bdr]
  have hH : hearN a r s (a 0 4) < 2 ^ 31 := by have := hearN_lt I r s (a 0 4); omega
  generalize hearN a r s (a 0 4) = H at hH ⊢
  have key : ∀ (k i m : Nat), i + k = a 1 0 → k < m → f_X7_wrongedBy_h18 μ' (nI r) (nI s) (nI n) m (nI H) (nI (bsN (fun i => H.testBit i && wrongB a (hd i) i n) i)) (nI i) = some (nI (bsN (fun i => H.testBit i && wrongB a (hd i) i n) (a 1 0))) := by
    intro k
    induction k with
    | zero =>
      intro i m h1 h2
      obtain ⟨m, rfl⟩ : ∃ m', m = m' + 1 := ⟨m - 1, by omega⟩
      rw [f_X7_wrongedBy_h18]
      rw [e0, mL_gs h, if_pos (by rw [nI_leE (by omega) (by omega)]; omega)]
      have : i = a 1 0 := by omega
      subst this
      rfl
    | succ k ih =>
      intro i m h1 h2
      obtain ⟨m, rfl⟩ : ∃ m', m = m' + 1 := ⟨m - 1, by omega⟩
      rw [f_X7_wrongedBy_h18]
      have hi : i < a 1 0 := by omega
      have hl := hl i hi
      have hlk : lkN a (hd i) i n < 4096 := bs12 I _
      rw [e0, mL_gs h, if_neg (by rw [nI_leE (by omega) (by omega)]; omega)]
      have e9 := ih (i + 1) m (by omega) (by omega)
      simp only [sq, nI_s, bdr, owedTo_fr e, owedTo_M I h hi, nI_z, ix_nI (show i < 2 ^ 31 by omega), ok2 (show i < 141 by omega) (show i < 2 ^ 31 by omega), if_false, ix_nI (show n < 2 ^ 31 by omega), ok2 (show n < 12 by omega) (show n < 2 ^ 31 by omega), if_false, e5, e6, mL_na h n hn, mL_nb h n hn, hh i hi, nI_and, nI_andn, lk_eq, f_X7_wrongedBy_b60, f_X7_wrongedBy_b102, f_X7_wrongedBy_b129, has_M0 (show a 11 n < 2 ^ 31 by omega) (show i < 31 by omega), has_M0 (show hd i < 2 ^ 31 by omega) (show n < 31 by omega), has_M0 hH (show i < 31 by omega), nI_eq0 (show lkN a (hd i) i n < 2 ^ 31 by omega), or_z]
      cases hb : (H.testBit i && wrongB a (hd i) i n)
      · rw [bsN_f (fun i => H.testBit i && wrongB a (hd i) i n) hb] at e9
        cases hq : H.testBit i
        · simp only [if_true, ite_self]; exact e9
        · rw [hq, Bool.true_and] at hb
          unfold wrongB at hb
          simp only [Bool.or_eq_false_iff, decide_eq_false_iff_not, Decidable.not_not] at hb
          simp only [hb.1.1, hb.1.2, hb.2, if_true, if_false, Bool.true_eq_false]
          exact e9
      · have hq : H.testBit i = true := by cases q : H.testBit i <;> simp [q] at hb; rfl
        have hw : wrongB a (hd i) i n = true := by cases q : wrongB a (hd i) i n <;> simp [q] at hb; rfl
        have g := bsN_t (fun i => H.testBit i && wrongB a (hd i) i n) (show i < 31 by omega) hb
        rw [← g] at e9
        simp only [hq, if_false, Bool.true_eq_false, show ((1 : Int32) = 0) = False from eq_false (by decide), if_true]
        unfold wrongB at hw
        cases q1 : (a 11 n).testBit i
        · cases q2 : (hd i).testBit n
          · by_cases q3 : lkN a (hd i) i n = 0
            · simp [q1, q2, q3] at hw
            · simp only [if_true, if_neg q3, if_false, show ((1 : Int32) = 0) = False from eq_false (by decide)]; exact e9
          · simp only [if_true, if_false, Bool.true_eq_false]; exact (ite_self _).trans e9
        · simp only [if_false, Bool.true_eq_false]; exact (ite_self _).trans e9
  exact key (a 1 0) 0 FU (by omega) (by unfold FU; omega)
theorem wrongedBy_M {a : Nat → Nat → Nat} {μ : St} (I : Inv a) (h : MA a (ul μ)) {r s n : Nat} (hr : r < a 0 2) (hs : s < 36) (hn : n < a 8 0) : f_X7_wrongedBy μ (nI r) (nI s) (nI n) = some (nI (wrN a (hearN a r s (a 0 4)) (a 5) n)) :=
  have h10 := I.gs
  wrongedBy_Mg I h (fun _ _ => rfl) (fun i hi => mL_he h i (by omega)) (fun i hi => (I.hw i (by omega)).1) hr hs hn
theorem isReading_C0 {a : Nat → Nat → Nat} {σ : St} (I : Inv a) (h : CA a (vw σ 1)) (x y z : Int64) : (f_X6_isReading σ x y z = 0) = ¬ ((0 ≤ x.toInt ∧ x.toInt < a 0 2) ∧ (0 ≤ y.toInt ∧ y.toInt < 36) ∧ (0 ≤ z.toInt ∧ z.toInt < a 8 0)) := by
  unfold f_X6_isReading
  simp only [isReader_C0 I h, isPlace_C0, isNews_C0 I h]
  by_cases c1 : 0 ≤ x.toInt ∧ x.toInt < a 0 2
  · by_cases c2 : 0 ≤ y.toInt ∧ y.toInt < 36
    · by_cases c3 : 0 ≤ z.toInt ∧ z.toInt < a 8 0
      · simp [c1, c2, c3]
      · simp [c1, c2, c3]
    · simp [c1, c2]
  · simp [c1]
theorem isReading_M0 {a : Nat → Nat → Nat} {μ : St} (I : Inv a) (h : MA a (ul μ)) (x y z : Int64) : (f_X7_isReading μ x y z = 0) = ¬ ((0 ≤ x.toInt ∧ x.toInt < a 0 2) ∧ (0 ≤ y.toInt ∧ y.toInt < 36) ∧ (0 ≤ z.toInt ∧ z.toInt < a 8 0)) := by
  unfold f_X7_isReading
  simp only [isReader_M0 I h, isPlace_M0, isNews_M0 I h]
  by_cases c1 : 0 ≤ x.toInt ∧ x.toInt < a 0 2
  · by_cases c2 : 0 ≤ y.toInt ∧ y.toInt < 36
    · by_cases c3 : 0 ≤ z.toInt ∧ z.toInt < a 8 0
      · simp [c1, c2, c3]
      · simp [c1, c2, c3]
    · simp [c1, c2]
  · simp [c1]
theorem op15 : Op15 RR := by
  intro σ nw μ hR x y
  obtain ⟨⟨a, I, hC, hM⟩, -⟩ := id hR
  have hrd := I.rd
  have hwi := I.wi
  unfold f_X6_hears f_X7_hears
  simp only [isReader_C0 I hC, isReader_M0 I hM, isPlace_C0, isPlace_M0, toL_T]
  by_cases v1 : 0 ≤ x.toInt ∧ x.toInt < a 0 2
  · by_cases v2 : 0 ≤ y.toInt ∧ y.toInt < 36
    · obtain ⟨r, hr, rfl⟩ := nI_ofR (n := a 0 2) v1 (by omega)
      obtain ⟨s, hs, rfl⟩ := nI_ofR (n := 36) v2 (by decide)
      simp only [not_not_intro v1, not_not_intro v2, if_false, cL_wi hC, mL_wi hM, hearers_C I hC hr hs (show a 0 4 < 5 by omega), hearers_M I hM hr hs (show a 0 4 < 5 by omega), bdr]
      exact ⟨_, rfl, rfl, hR⟩
    · simp only [if_pos v2, ite_self]
      exact ⟨_, rfl, rfl, hR⟩
  · simp only [if_pos v1]
    exact ⟨_, rfl, rfl, hR⟩
theorem op16 : Op16 RR := by
  intro σ nw μ hR x y z
  obtain ⟨⟨a, I, hC, hM⟩, -⟩ := id hR
  have hrd := I.rd
  have hwi := I.wi
  have hps := I.ps
  unfold f_X6_wronged f_X7_wronged
  simp only [isReading_C0 I hC, isReading_M0 I hM, toL_T]
  by_cases v : (0 ≤ x.toInt ∧ x.toInt < a 0 2) ∧ (0 ≤ y.toInt ∧ y.toInt < 36) ∧ (0 ≤ z.toInt ∧ z.toInt < a 8 0)
  · rw [if_neg (not_not_intro v), if_neg (not_not_intro v)]
    obtain ⟨v1, v2, v3⟩ := v
    obtain ⟨r, hr, rfl⟩ := nI_ofR (n := a 0 2) v1 (by omega)
    obtain ⟨s, hs, rfl⟩ := nI_ofR (n := 36) v2 (by decide)
    obtain ⟨n, hn, rfl⟩ := nI_ofR (n := a 8 0) v3 (by omega)
    have hH := hearN_lt I r s (a 0 4)
    simp only [cL_wi hC, hearers_C I hC hr hs (show a 0 4 < 5 by omega), bdr, wrongedOf_C I hC hn (show hearN a r s (a 0 4) < 2 ^ 31 by omega), wrongedBy_M I hM hr hs hn]
    exact ⟨_, rfl, rfl, hR⟩
  · rw [if_pos v, if_pos v]
    exact ⟨_, rfl, rfl, hR⟩
theorem op27 : Op27 RR := by
  intro σ nw μ hR x y
  obtain ⟨⟨a, I, hC, hM⟩, -⟩ := id hR
  have h10 := I.gs
  unfold f_X6_more f_X7_more
  simp only [isGrave_C0 I hC, isGrave_M0 I hM]
  by_cases v1 : 0 ≤ x.toInt ∧ x.toInt < a 1 0
  · by_cases v2 : 0 ≤ y.toInt ∧ y.toInt < a 1 0
    · obtain ⟨i, hi, rfl⟩ := nI_ofR (n := a 1 0) v1 (by omega)
      obtain ⟨j, hj, rfl⟩ := nI_ofR (n := a 1 0) v2 (by omega)
      simp only [not_not_intro v1, not_not_intro v2, if_false, nI_z, ix_nI (show i < 2 ^ 31 by omega), ix_nI (show j < 2 ^ 31 by omega), ok2 (show i < 10 by omega) (show i < 2 ^ 31 by omega), ok2 (show j < 10 by omega) (show j < 2 ^ 31 by omega), ok2 (show i < 141 by omega) (show i < 2 ^ 31 by omega), ok2 (show j < 141 by omega) (show j < 2 ^ 31 by omega), cL_he hC i hi, cL_he hC j hj, mL_he hM i (show i < 10 by omega), mL_he hM j (show j < 10 by omega)]
      exact ⟨_, rfl, rfl, hR⟩
    · simp only [if_pos v2, ite_self]
      exact ⟨_, rfl, rfl, hR⟩
  · simp only [if_pos v1]
    exact ⟨_, rfl, rfl, hR⟩

