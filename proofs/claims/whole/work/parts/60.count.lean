theorem nI_p0 (n : Nat) : nI n + 0 = nI n := by rw [show (0 : Int32) = nI 0 from rfl, nI_add, Nat.add_zero]
def qA (a : Nat → Nat → Nat) (i : Nat) : Nat := pcN (arrN a i)
def qP (a : Nat → Nat → Nat) (i : Nat) : Nat := if arrN a i = 0 then 1 else 0
def qL (a : Nat → Nat → Nat) (i : Nat) : Nat := if lateB a i then 1 else 0
theorem arr_lt {a : Nat → Nat → Nat} (I : Inv a) (i : Nat) : arrN a i < 4096 := bs12 I _
theorem allArr_C {a : Nat → Nat → Nat} {σ : St} (I : Inv a) (h : CA a (vw σ 1)) : f_X3_allArrears σ = some (nI (smN (qA a) (a 1 0))) := by
  have h10 := I.gs
  have h12 := I.ps
  have key : ∀ (k i m : Nat), i + k = a 1 0 → k < m → f_X3_allArrears_h4 σ m (nI (smN (qA a) i)) (nI i) = some (nI (smN (qA a) (a 1 0))) := by
    intro k
    induction k with
    | zero =>
      intro i m h1 h2
      obtain ⟨m, rfl⟩ : ∃ m', m = m' + 1 := ⟨m - 1, by omega⟩
      rw [f_X3_allArrears_h4]
      rw [cL_gs h, if_pos (by rw [nI_leE (by omega) (by omega)]; omega)]
      have : i = a 1 0 := by omega
      subst this
      rfl
    | succ k ih =>
      intro i m h1 h2
      obtain ⟨m, rfl⟩ : ∃ m', m = m' + 1 := ⟨m - 1, by omega⟩
      rw [f_X3_allArrears_h4]
      have hi : i < a 1 0 := by omega
      rw [cL_gs h, if_neg (by rw [nI_leE (by omega) (by omega)]; omega)]
      have e := ih (i + 1) m (by omega) (by omega)
      simp only [sq, nI_s, bdr, arrears_C I h hi, (pc_of (arr_lt I i)).2.1]
      rw [show nI (pcN (arrN a i)) = nI (qA a i) from rfl, sm_s]
      exact e
  exact key (a 1 0) 0 FU (by omega) (by unfold FU; omega)
theorem paid_C {a : Nat → Nat → Nat} {σ : St} (I : Inv a) (h : CA a (vw σ 1)) : f_X3_paidGraves σ = some (nI (smN (qP a) (a 1 0))) := by
  have h10 := I.gs
  have h12 := I.ps
  have key : ∀ (k i m : Nat), i + k = a 1 0 → k < m → f_X3_paidGraves_h4 σ m (nI (smN (qP a) i)) (nI i) = some (nI (smN (qP a) (a 1 0))) := by
    intro k
    induction k with
    | zero =>
      intro i m h1 h2
      obtain ⟨m, rfl⟩ : ∃ m', m = m' + 1 := ⟨m - 1, by omega⟩
      rw [f_X3_paidGraves_h4]
      rw [cL_gs h, if_pos (by rw [nI_leE (by omega) (by omega)]; omega)]
      have : i = a 1 0 := by omega
      subst this
      rfl
    | succ k ih =>
      intro i m h1 h2
      obtain ⟨m, rfl⟩ : ∃ m', m = m' + 1 := ⟨m - 1, by omega⟩
      rw [f_X3_paidGraves_h4]
      have hi : i < a 1 0 := by omega
      have hl := arr_lt I i
      rw [cL_gs h, if_neg (by rw [nI_leE (by omega) (by omega)]; omega)]
      have e := ih (i + 1) m (by omega) (by omega)
      simp only [sq, nI_s, bdr, arrears_C I h hi, nI_eq0 (show arrN a i < 2 ^ 31 by omega)]
      by_cases q : arrN a i = 0
      · rw [if_pos q, sm_1 (show qP a i = 1 from if_pos q)]; exact e
      · rw [if_neg q]; rw [sm_0 (show qP a i = 0 from if_neg q)] at e; exact e
  exact key (a 1 0) 0 FU (by omega) (by unfold FU; omega)
theorem late_Cs {a : Nat → Nat → Nat} {σ : St} (I : Inv a) (h : CA a (vw σ 1)) : f_X3_lateGraves σ = some (nI (smN (qL a) (a 1 0))) := by
  have h10 := I.gs
  have h12 := I.ps
  have key : ∀ (k i m : Nat), i + k = a 1 0 → k < m → f_X3_lateGraves_h4 σ m (nI (smN (qL a) i)) (nI i) = some (nI (smN (qL a) (a 1 0))) := by
    intro k
    induction k with
    | zero =>
      intro i m h1 h2
      obtain ⟨m, rfl⟩ : ∃ m', m = m' + 1 := ⟨m - 1, by omega⟩
      rw [f_X3_lateGraves_h4]
      rw [cL_gs h, if_pos (by rw [nI_leE (by omega) (by omega)]; omega)]
      have : i = a 1 0 := by omega
      subst this
      rfl
    | succ k ih =>
      intro i m h1 h2
      obtain ⟨m, rfl⟩ : ∃ m', m = m' + 1 := ⟨m - 1, by omega⟩
      rw [f_X3_lateGraves_h4]
      have hi : i < a 1 0 := by omega
      rw [cL_gs h, if_neg (by rw [nI_leE (by omega) (by omega)]; omega)]
      have e := ih (i + 1) m (by omega) (by omega)
      simp only [sq, nI_s, bdr, late_C I h hi, b01]
      cases q : lateB a i
      · rw [if_pos rfl]; rw [sm_0 (show qL a i = 0 by unfold qL; rw [q]; rfl)] at e; exact e
      · rw [if_neg (by decide), sm_1 (show qL a i = 1 by unfold qL; rw [q]; rfl)]; exact e
  exact key (a 1 0) 0 FU (by omega) (by unfold FU; omega)
theorem wrongs_C {a : Nat → Nat → Nat} {σ : St} (I : Inv a) (h : CA a (vw σ 1)) : f_X1_allWrongs σ = some (nI (smN (a 6) (a 1 0))) := by
  have h10 := I.gs
  have h12 := I.ps
  have key : ∀ (k i m : Nat), i + k = a 1 0 → k < m → f_X1_allWrongs_h4 σ m (nI (smN (a 6) i)) (nI i) = some (nI (smN (a 6) (a 1 0))) := by
    intro k
    induction k with
    | zero =>
      intro i m h1 h2
      obtain ⟨m, rfl⟩ : ∃ m', m = m' + 1 := ⟨m - 1, by omega⟩
      rw [f_X1_allWrongs_h4]
      rw [cL_gs h, if_pos (by rw [nI_leE (by omega) (by omega)]; omega)]
      have : i = a 1 0 := by omega
      subst this
      rfl
    | succ k ih =>
      intro i m h1 h2
      obtain ⟨m, rfl⟩ : ∃ m', m = m' + 1 := ⟨m - 1, by omega⟩
      rw [f_X1_allWrongs_h4]
      have hi : i < a 1 0 := by omega
      rw [cL_gs h, if_neg (by rw [nI_leE (by omega) (by omega)]; omega)]
      have e := ih (i + 1) m (by omega) (by omega)
      simp only [sq, nI_s, ix_nI (show i < 2 ^ 31 by omega), ok2 (show i < 10 by omega) (show i < 2 ^ 31 by omega), if_false, cL_wg h i hi]
      rw [sm_s]
      exact e
  exact key (a 1 0) 0 FU (by omega) (by unfold FU; omega)
theorem count_M {a : Nat → Nat → Nat} {μ : St} (I : Inv a) (h : MA a (ul μ)) (x : Int32) : f_X7_count μ x = some (if x = 0 then nI (a 1 0) else if x = 1 then nI (a 8 0) else if x = 2 then nI (a 0 2) else if x = 3 then nI (a 0 8) else if x = 4 then nI (smN (qA a) (a 1 0)) else if x = 5 then nI (smN (qP a) (a 1 0)) else if x = 6 then nI (smN (qL a) (a 1 0)) else if x = 7 then nI (a 0 9) else if x = 8 then nI (a 0 4) else if x = 9 then nI (smN (a 6) (a 1 0)) else -1) := by
  have h10 := I.gs
  have h12 := I.ps
  have key : ∀ (k i m : Nat), i + k = a 1 0 → k < m → f_X7_count_h13 μ x m (nI (smN (qA a) i)) (nI (smN (qP a) i)) (nI (smN (qL a) i)) (nI (smN (a 6) i)) (nI i) = some (if x = 0 then nI (a 1 0) else if x = 1 then nI (a 8 0) else if x = 2 then nI (a 0 2) else if x = 3 then nI (a 0 8) else if x = 4 then nI (smN (qA a) (a 1 0)) else if x = 5 then nI (smN (qP a) (a 1 0)) else if x = 6 then nI (smN (qL a) (a 1 0)) else if x = 7 then nI (a 0 9) else if x = 8 then nI (a 0 4) else if x = 9 then nI (smN (a 6) (a 1 0)) else -1) := by
    intro k
    induction k with
    | zero =>
      intro i m h1 h2
      obtain ⟨m, rfl⟩ : ∃ m', m = m' + 1 := ⟨m - 1, by omega⟩
      rw [f_X7_count_h13]
      rw [mL_gs h, if_pos (by rw [nI_leE (by omega) (by omega)]; omega)]
      have : i = a 1 0 := by omega
      subst this
      simp only [mL_ps h, mL_rd h, mL_rg h, mL_un h, mL_wi h, show ix (140 : Int32) = 140 from rfl, show ((140 : Int32) < 0 ∨ 141 ≤ 140) = False from eq_false (by decide), if_false]
      (repeat' split) <;> first | rfl | contradiction
    | succ k ih =>
      intro i m h1 h2
      obtain ⟨m, rfl⟩ : ∃ m', m = m' + 1 := ⟨m - 1, by omega⟩
      rw [f_X7_count_h13]
      have hi : i < a 1 0 := by omega
      have hl := arr_lt I i
      rw [mL_gs h, if_neg (by rw [nI_leE (by omega) (by omega)]; omega)]
      have e := ih (i + 1) m (by omega) (by omega)
      simp only [sq, nI_s, bdr, arrears_M I h hi, (pc_of (arr_lt I i)).1, late_M I h hi, b01, f_X7_count_b49, f_X7_count_b67, nI_eq0 (show arrN a i < 2 ^ 31 by omega), show (10 : Int32) = nI 10 from rfl, nI_k, ix_nI (show 10 + i < 2 ^ 31 by omega), ok2 (show 10 + i < 141 by omega) (show 10 + i < 2 ^ 31 by omega), if_false, mL_wg h i (show i < 10 by omega)]
      rw [smN, smN, smN, smN] at e
      simp only [nI_p0]
      by_cases q : arrN a i = 0
      · rw [if_pos q]
        rw [show qP a i = 1 from if_pos q] at e
        cases q2 : lateB a i
        · rw [if_pos rfl]; rw [show qL a i = 0 by unfold qL; rw [q2]; rfl, Nat.add_zero] at e; exact e
        · rw [if_neg (by decide)]; rw [show qL a i = 1 by unfold qL; rw [q2]; rfl] at e; exact e
      · rw [if_neg q]
        rw [show qP a i = 0 from if_neg q, Nat.add_zero] at e
        cases q2 : lateB a i
        · rw [if_pos rfl]; rw [show qL a i = 0 by unfold qL; rw [q2]; rfl, Nat.add_zero] at e; exact e
        · rw [if_neg (by decide)]; rw [show qL a i = 1 by unfold qL; rw [q2]; rfl] at e; exact e
  exact key (a 1 0) 0 FU (by omega) (by unfold FU; omega)
theorem op14 : Op14 RR := by
  intro σ nw μ hR x
  obtain ⟨⟨a, I, hC, hM⟩, -⟩ := id hR
  refine ⟨_, ?_, count_M I hM x, hR⟩
  unfold f_X6_count
  simp only [allArr_C I hC, paid_C I hC, late_Cs I hC, wrongs_C I hC, bdr, cL_gs hC, cL_ps hC, cL_rd hC, cL_rg hC, cL_un hC, cL_wi hC]
  (repeat' split) <;> first | rfl | contradiction

