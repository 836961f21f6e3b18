def owByN (a : Nat → Nat → Nat) (n : Nat) : Nat := bsN (fun i => owB a i n) (a 1 0)
def hdOfN (a : Nat → Nat → Nat) (n : Nat) : Nat := bsN (fun i => (a 5 i).testBit n) (a 1 0)
theorem owBy_C {a : Nat → Nat → Nat} {σ : St} (I : Inv a) (h : CA a (vw σ 1)) {n : Nat} (hn : n < a 8 0) : f_X3_owedBy σ (nI n) = some (nI (owByN a n)) := by
  have h10 := I.gs
  have h12 := I.ps
  have key : ∀ (k i m : Nat), i + k = a 1 0 → k < m → f_X3_owedBy_h4 σ (nI n) m (nI (bsN (fun i => owB a i n) i)) (nI i) = some (nI (bsN (fun i => owB a i n) (a 1 0))) := by
    intro k
    induction k with
    | zero =>
      intro i m h1 h2
      obtain ⟨m, rfl⟩ : ∃ m', m = m' + 1 := ⟨m - 1, by omega⟩
      rw [f_X3_owedBy_h4]
      rw [cL_gs h, if_pos (by rw [nI_leE (by omega) (by omega)]; omega)]
      have : i = a 1 0 := by omega
      subst this
      rfl
    | succ k ih =>
      intro i m h1 h2
      obtain ⟨m, rfl⟩ : ∃ m', m = m' + 1 := ⟨m - 1, by omega⟩
      rw [f_X3_owedBy_h4]
      have hi : i < a 1 0 := by omega
      rw [cL_gs h, if_neg (by rw [nI_leE (by omega) (by omega)]; omega)]
      have e := ih (i + 1) m (by omega) (by omega)
      simp only [sq, nI_s, bdr, b01, owed_C I h hi hn]
      cases hb : owB a i n
      · rw [if_pos rfl]
        rw [bsN_f (fun i => owB a i n) hb] at e
        exact e
      · rw [if_neg (by decide), bsN_t (fun i => owB a i n) (by omega) hb]
        exact e
  exact key (a 1 0) 0 FU (by omega) (by unfold FU; omega)
theorem hdOf_C {a : Nat → Nat → Nat} {σ : St} (I : Inv a) (h : CA a (vw σ 1)) {n : Nat} (hn : n < a 8 0) : f_X3_heardOf σ (nI n) = some (nI (hdOfN a n)) := by
  have h10 := I.gs
  have h12 := I.ps
  have key : ∀ (k i m : Nat), i + k = a 1 0 → k < m → f_X3_heardOf_h4 σ (nI n) m (nI (bsN (fun i => (a 5 i).testBit n) i)) (nI i) = some (nI (bsN (fun i => (a 5 i).testBit n) (a 1 0))) := by
    intro k
    induction k with
    | zero =>
      intro i m h1 h2
      obtain ⟨m, rfl⟩ : ∃ m', m = m' + 1 := ⟨m - 1, by omega⟩
      rw [f_X3_heardOf_h4]
      rw [cL_gs h, if_pos (by rw [nI_leE (by omega) (by omega)]; omega)]
      have : i = a 1 0 := by omega
      subst this
      rfl
    | succ k ih =>
      intro i m h1 h2
      obtain ⟨m, rfl⟩ : ∃ m', m = m' + 1 := ⟨m - 1, by omega⟩
      rw [f_X3_heardOf_h4]
      have hi : i < a 1 0 := by omega
      have h5 : a 5 i < 2 ^ 31 := by have := (I.hw i (by omega)).1; omega
      rw [cL_gs h, if_neg (by rw [nI_leE (by omega) (by omega)]; omega)]
      have e := ih (i + 1) m (by omega) (by omega)
      simp only [sq, nI_s, bdr, b01, ix_nI (show i < 2 ^ 31 by omega), ok2 (show i < 10 by omega) (show i < 2 ^ 31 by omega), if_false, cL_he h i hi, has_C0 h5 (show n < 31 by omega)]
      cases hb : (a 5 i).testBit n
      · rw [if_pos rfl]
        rw [bsN_f (fun i => (a 5 i).testBit n) hb] at e
        exact e
      · rw [if_neg (by decide), bsN_t (fun i => (a 5 i).testBit n) (by omega) hb]
        exact e
  exact key (a 1 0) 0 FU (by omega) (by unfold FU; omega)
theorem of4_M {a : Nat → Nat → Nat} {μ : St} (I : Inv a) (h : MA a (ul μ)) {n : Nat} (hn : n < a 8 0) : f_X7_of_h83 μ (nI n) (nI 4) FU 0 0 = some (nI (owByN a n)) := by
  have h10 := I.gs
  have h12 := I.ps
  have key : ∀ (k i m : Nat), i + k = a 1 0 → k < m → f_X7_of_h83 μ (nI n) (nI 4) m (nI (bsN (fun i => owB a i n) i)) (nI i) = some (nI (bsN (fun i => owB a i n) (a 1 0))) := by
    intro k
    induction k with
    | zero =>
      intro i m h1 h2
      obtain ⟨m, rfl⟩ : ∃ m', m = m' + 1 := ⟨m - 1, by omega⟩
      rw [f_X7_of_h83]
      rw [mL_gs h, if_pos (by rw [nI_leE (by omega) (by omega)]; omega)]
      have : i = a 1 0 := by omega
      subst this
      rfl
    | succ k ih =>
      intro i m h1 h2
      obtain ⟨m, rfl⟩ : ∃ m', m = m' + 1 := ⟨m - 1, by omega⟩
      rw [f_X7_of_h83]
      have hi : i < a 1 0 := by omega
      rw [mL_gs h, if_neg (by rw [nI_leE (by omega) (by omega)]; omega)]
      have e := ih (i + 1) m (by omega) (by omega)
      simp only [sq, nI_s, bdr, b01, show (4 : Int32) = nI 4 from rfl, if_true, owed_M I h hi hn, f_X7_of_b120, f_X7_of_b136]
      cases hb : owB a i n
      · rw [if_pos rfl, or_z]
        rw [bsN_f (fun i => owB a i n) hb] at e
        exact e
      · rw [if_neg (by decide), bsN_t (fun i => owB a i n) (by omega) hb]
        exact e
  exact key (a 1 0) 0 FU (by omega) (by unfold FU; omega)
theorem of5_M {a : Nat → Nat → Nat} {μ : St} (I : Inv a) (h : MA a (ul μ)) {n : Nat} (hn : n < a 8 0) : f_X7_of_h83 μ (nI n) (nI 5) FU 0 0 = some (nI (hdOfN a n)) := by
  have h10 := I.gs
  have h12 := I.ps
  have key : ∀ (k i m : Nat), i + k = a 1 0 → k < m → f_X7_of_h83 μ (nI n) (nI 5) m (nI (bsN (fun i => (a 5 i).testBit n) i)) (nI i) = some (nI (bsN (fun i => (a 5 i).testBit n) (a 1 0))) := by
    intro k
    induction k with
    | zero =>
      intro i m h1 h2
      obtain ⟨m, rfl⟩ : ∃ m', m = m' + 1 := ⟨m - 1, by omega⟩
      rw [f_X7_of_h83]
      rw [mL_gs h, if_pos (by rw [nI_leE (by omega) (by omega)]; omega)]
      have : i = a 1 0 := by omega
      subst this
      rfl
    | succ k ih =>
      intro i m h1 h2
      obtain ⟨m, rfl⟩ : ∃ m', m = m' + 1 := ⟨m - 1, by omega⟩
      rw [f_X7_of_h83]
      have hi : i < a 1 0 := by omega
      have h5 : a 5 i < 2 ^ 31 := by have := (I.hw i (by omega)).1; omega
      rw [mL_gs h, if_neg (by rw [nI_leE (by omega) (by omega)]; omega)]
      have e := ih (i + 1) m (by omega) (by omega)
      simp only [sq, nI_s, bdr, b01, show (nI 5 = 4) = False from eq_false (by decide), nI_z, ix_nI (show i < 2 ^ 31 by omega), ok2 (show i < 141 by omega) (show i < 2 ^ 31 by omega), if_false, mL_he h i (show i < 10 by omega), f_X7_of_b120, f_X7_of_b136, has_M0 h5 (show n < 31 by omega)]
      cases hb : (a 5 i).testBit n
      · rw [if_pos rfl, or_z]
        rw [bsN_f (fun i => (a 5 i).testBit n) hb] at e
        exact e
      · rw [if_neg (by decide), bsN_t (fun i => (a 5 i).testBit n) (by omega) hb]
        exact e
  exact key (a 1 0) 0 FU (by omega) (by unfold FU; omega)
theorem op8 : Op8 RR := by
  intro σ nw μ hR x y
  obtain ⟨⟨a, I, hC, hM⟩, -⟩ := id hR
  have h10 := I.gs
  by_cases v : 0 ≤ x.toInt ∧ x.toInt < a 1 0
  · obtain ⟨i, hi, rfl⟩ := nI_ofR (n := a 1 0) v (by omega)
    refine ⟨if y = 0 then nI (a 2 i) else if y = 1 then nI (a 3 i) else if y = 2 then nI (a 4 i) else if y = 3 then nI (a 5 i) else if y = 4 then nI (owedN a i) else if y = 5 then nI (arrN a i) else if y = 6 then nI (a 6 i) else if y = 7 then nI (if lateB a i then 1 else 0) else -1, ?_, ?_, hR⟩
    · unfold f_X6_told
      simp only [isGrave_C0 I hC, lit_T i (show i < 2 ^ 31 by omega), ix_nI (show i < 2 ^ 31 by omega), ok2 (show i < 10 by omega) (show i < 2 ^ 31 by omega), if_false, cL_ki hC i hi, cL_pl hC i hi, cL_ye hC i hi, cL_he hC i hi, cL_wg hC i hi, owedTo_C I hC hi, arrears_C I hC hi, late_C I hC hi, bdr, b01]
      rw [if_neg (by omega)]
      cases lateB a i <;> (repeat' split) <;> first | rfl | contradiction
    · unfold f_X7_told
      simp only [isGrave_M0 I hM, lit_T i (show i < 2 ^ 31 by omega), nI_z, show (10 : Int32) = nI 10 from rfl, nI_k, ix_nI (show i < 2 ^ 31 by omega), ix_nI (show 10 + i < 2 ^ 31 by omega), ok2 (show i < 10 by omega) (show i < 2 ^ 31 by omega), ok2 (show i < 141 by omega) (show i < 2 ^ 31 by omega), ok2 (show 10 + i < 141 by omega) (show 10 + i < 2 ^ 31 by omega), if_false, mL_ki hM i hi, mL_pl hM i hi, mL_ye hM i hi, mL_he hM i (show i < 10 by omega), mL_wg hM i (show i < 10 by omega), owedTo_M I hM hi, arrears_M I hM hi, late_M I hM hi, bdr, b01]
      rw [if_neg (by omega)]
      cases lateB a i <;> (repeat' split) <;> first | rfl | contradiction
  · refine ⟨-1, ?_, ?_, hR⟩
    · unfold f_X6_told
      rw [if_pos (by rw [isGrave_C0 I hC]; exact v)]
    · unfold f_X7_told
      rw [if_pos (by rw [isGrave_M0 I hM]; exact v)]
theorem op9 : Op9 RR := by
  intro σ nw μ hR x y
  obtain ⟨⟨a, I, hC, hM⟩, -⟩ := id hR
  have h12 := I.ps
  have hsh := I.sh
  by_cases v : 0 ≤ x.toInt ∧ x.toInt < a 8 0
  · obtain ⟨n, hn, rfl⟩ := nI_ofR (n := a 8 0) v (by omega)
    have hns := (I.nw n hn).2.2.2
    refine ⟨if y = 0 then nI (a 9 n) else if y = 1 then nI (a 10 n) else if y = 2 then nI (a 11 n) else if y = 3 then nI (a 12 n) else if y = 4 then nI (owByN a n) else if y = 5 then nI (hdOfN a n) else -1, ?_, ?_, hR⟩
    · unfold f_X6_of
      simp only [isNews_C0 I hC, toL_T, lit_T n (show n < 2 ^ 31 by omega), ix_nI (show n < 2 ^ 31 by omega), ok2 (show n < 12 by omega) (show n < 2 ^ 31 by omega), if_false, cL_ny hC n hn, cL_na hC n hn, cL_nb hC n hn, cL_ns hC n hn, owBy_C I hC hn, hdOf_C I hC hn, bdr]
      rw [if_neg (by omega)]
      (repeat' split) <;> first | rfl | contradiction
    · unfold f_X7_of
      simp only [isNews_M0 I hM, toL_T, lit_T n (show n < 2 ^ 31 by omega), ix_nI (show n < 2 ^ 31 by omega), ok2 (show n < 12 by omega) (show n < 2 ^ 31 by omega), if_false, mL_ny hM n hn, mL_na hM n hn, mL_nb hM n hn, mL_sh hM, bit_1 (show a 18 0 < 2 ^ 31 by omega) (show n < 31 by omega), I.sb n hn, in_0, show (0 : Int64).toInt = 0 by decide, show (5 : Int64).toInt = 5 by decide]
      rw [if_neg (by omega)]
      by_cases w : 0 ≤ y.toInt ∧ y.toInt ≤ 5
      · rw [if_neg (by omega)]
        obtain ⟨k, hk, rfl⟩ := nI_ofR (n := 6) (x := y) (by omega) (by decide)
        have e12 : nI (if decide (a 12 n = 1) = true then 1 else 0) = nI (a 12 n) := by
          rcases (show a 12 n = 0 ∨ a 12 n = 1 by omega) with e | e <;> rw [e] <;> rfl
        rw [e12]
        rcases (show k = 0 ∨ k = 1 ∨ k = 2 ∨ k = 3 ∨ k = 4 ∨ k = 5 by omega) with rfl | rfl | rfl | rfl | rfl | rfl
        · rfl
        · rfl
        · rfl
        · rfl
        · exact of4_M I hM hn
        · exact of5_M I hM hn
      · rw [if_pos (by omega)]
        have ne : ∀ k : Nat, k < 6 → ¬ y = nI k := fun k hk e => w (by rw [e, lit_T k (by omega)]; omega)
        rw [if_neg (show ¬ y = 0 from ne 0 (by decide)), if_neg (show ¬ y = 1 from ne 1 (by decide)), if_neg (show ¬ y = 2 from ne 2 (by decide)), if_neg (show ¬ y = 3 from ne 3 (by decide)), if_neg (show ¬ y = 4 from ne 4 (by decide)), if_neg (show ¬ y = 5 from ne 5 (by decide))]
  · refine ⟨-1, ?_, ?_, hR⟩
    · unfold f_X6_of
      rw [if_pos (by rw [isNews_C0 I hC, toL_T]; exact v)]
    · unfold f_X7_of
      rw [if_pos (by rw [isNews_M0 I hM, toL_T]; exact v)]

