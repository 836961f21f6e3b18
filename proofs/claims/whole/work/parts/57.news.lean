theorem anyR_iff (P : Nat → Bool) : ∀ (k i : Nat), anyR P i k = true ↔ ∃ j, i ≤ j ∧ j < i + k ∧ P j = true
  | 0, i => by
    constructor
    · intro h; cases h
    · rintro ⟨j, h1, h2, -⟩; omega
  | k + 1, i => by
    rw [anyR_s, Bool.or_eq_true, anyR_iff P k (i + 1)]
    constructor
    · rintro (h | ⟨j, h1, h2, h3⟩)
      · exact ⟨i, Nat.le_refl _, by omega, h⟩
      · exact ⟨j, by omega, by omega, h3⟩
    · rintro ⟨j, h1, h2, h3⟩
      by_cases e : j = i
      · subst e; exact Or.inl h3
      · exact Or.inr ⟨j, by omega, by omega, h3⟩
theorem mayBe_M {a : Nat → Nat → Nat} {μ : St} (I : Inv a) (h : MA a (ul μ)) {y : Nat} (hy : y < 100) : f_X7_mayBeAhead μ (nI y) = some (nI (bsN (fun n => decide (a 9 n ≤ y)) (a 8 0))) := by
  have h12 := I.ps
  have key : ∀ (k n m : Nat), n + k = a 8 0 → k < m → f_X7_mayBeAhead_h4 μ (nI y) m (nI (bsN (fun n => decide (a 9 n ≤ y)) n)) (nI n) = some (nI (bsN (fun n => decide (a 9 n ≤ y)) (a 8 0))) := by
    intro k
    induction k with
    | zero =>
      intro n m h1 h2
      obtain ⟨m, rfl⟩ : ∃ m', m = m' + 1 := ⟨m - 1, by omega⟩
      rw [f_X7_mayBeAhead_h4, mL_ps h, if_pos (by rw [nI_leE (by omega) (by omega)]; omega)]
      have : n = a 8 0 := by omega
      subst this
      rfl
    | succ k ih =>
      intro n m h1 h2
      obtain ⟨m, rfl⟩ : ∃ m', m = m' + 1 := ⟨m - 1, by omega⟩
      have hn : n < a 8 0 := by omega
      obtain ⟨hny, -⟩ := I.nw n hn
      rw [f_X7_mayBeAhead_h4, mL_ps h, if_neg (by rw [nI_leE (by omega) (by omega)]; omega)]
      simp only [f_X7_mayBeAhead_b30, sq, nI_s, ix_nI (show n < 2 ^ 31 by omega), ok2 (show n < 12 by omega) (show n < 2 ^ 31 by omega), if_false, mL_ny h n hn, nI_ltE (show y < 2 ^ 31 by omega) (show a 9 n < 2 ^ 31 by omega)]
      have e := ih (n + 1) m (by omega) (by omega)
      by_cases q : y < a 9 n
      · rw [if_pos q, or_z]
        rw [bsN_f _ (by simp; omega)] at e
        exact e
      · rw [if_neg q, bsN_t (fun n => decide (a 9 n ≤ y)) (by omega) (by simp; omega)]
        exact e
  exact key (a 8 0) 0 FU (by omega) (by unfold FU; omega)
def laB (a : Nat → Nat → Nat) (s y n : Nat) : Bool := s.testBit n && decide (y < a 9 n)
theorem noLater_C {a : Nat → Nat → Nat} {σ : St} (I : Inv a) (h : CA a (vw σ 1)) {s y : Nat} (hs : s < 2 ^ 31) (hy : y < 100) : f_X2_areNoLater σ (nI s) (nI y) = some (nI (if anyR (laB a s y) 0 (a 8 0) then 0 else 1)) := by
  have h12 := I.ps
  have key : ∀ (k n m : Nat), n + k = a 8 0 → k < m → f_X2_areNoLater_h2 σ (nI s) (nI y) m (nI n) = some (nI (if anyR (laB a s y) n k then 0 else 1)) := by
    intro k
    induction k with
    | zero =>
      intro n m h1 h2
      obtain ⟨m, rfl⟩ : ∃ m', m = m' + 1 := ⟨m - 1, by omega⟩
      rw [f_X2_areNoLater_h2, cL_ps h, if_pos (by rw [nI_leE (by omega) (by omega)]; omega)]
      rfl
    | succ k ih =>
      intro n m h1 h2
      obtain ⟨m, rfl⟩ : ∃ m', m = m' + 1 := ⟨m - 1, by omega⟩
      have hn : n < a 8 0 := by omega
      obtain ⟨hny, -⟩ := I.nw n hn
      rw [f_X2_areNoLater_h2, cL_ps h, if_neg (by rw [nI_leE (by omega) (by omega)]; omega)]
      simp only [sq, nI_s, has_C0 hs (show n < 31 by omega), ix_nI (show n < 2 ^ 31 by omega), ok2 (show n < 12 by omega) (show n < 2 ^ 31 by omega), if_false, cL_ny h n hn, nI_leE (show a 9 n < 2 ^ 31 by omega) (show y < 2 ^ 31 by omega), ih (n + 1) m (by omega) (by omega)]
      rw [anyR_s]
      have e : laB a s y n = (s.testBit n && decide (y < a 9 n)) := rfl
      rw [e]
      cases s.testBit n
      · simp
      · by_cases q : a 9 n ≤ y
        · have q2 : ¬ y < a 9 n := by omega
          simp [q, q2]
        · have q2 : y < a 9 n := by omega
          simp [q, q2, nI_0]
  exact key (a 8 0) 0 FU (by omega) (by unfold FU; omega)
theorem tb_hi {s p n : Nat} (h : s < 2 ^ p) (hn : p ≤ n) : s.testBit n = false := Nat.testBit_lt_two_pow (Nat.lt_of_lt_of_le h (Nat.pow_le_pow_right (by decide) hn))
theorem ahead_iff {a : Nat → Nat → Nat} {s y : Nat} : andn s (bsN (fun n => decide (a 9 n ≤ y)) (a 8 0)) = 0 ↔ s < 2 ^ a 8 0 ∧ anyR (laB a s y) 0 (a 8 0) = false := by
  constructor
  · intro h
    have key : ∀ n, s.testBit n = true → n < a 8 0 ∧ a 9 n ≤ y := by
      intro n hn
      have := andn_bit s (bsN (fun n => decide (a 9 n ≤ y)) (a 8 0)) n
      rw [h, Nat.zero_testBit, hn, bsN_bit] at this
      simpa using this.symm
    refine ⟨Nat.lt_pow_two_of_testBit _ (fun n hn => ?_), ?_⟩
    · cases q : s.testBit n
      · rfl
      · have := (key n q).1; omega
    · cases q : anyR (laB a s y) 0 (a 8 0)
      · rfl
      · obtain ⟨j, -, -, h3⟩ := (anyR_iff _ _ _).mp q
        unfold laB at h3
        simp only [Bool.and_eq_true, decide_eq_true_eq] at h3
        have := (key j h3.1).2
        omega
  · rintro ⟨h1, h2⟩
    apply Nat.eq_of_testBit_eq
    intro n
    rw [andn_bit, Nat.zero_testBit, bsN_bit]
    cases q : s.testBit n
    · rfl
    · have hn : n < a 8 0 := by
        rcases Nat.lt_or_ge n (a 8 0) with w | w
        · exact w
        · rw [tb_hi h1 w] at q; cases q
      have : a 9 n ≤ y := by
        rcases Nat.lt_or_ge y (a 9 n) with w | w
        · have : anyR (laB a s y) 0 (a 8 0) = true := (anyR_iff _ _ _).mpr ⟨n, by omega, by omega, by unfold laB; simp [q, w]⟩
          rw [h2] at this; cases this
        · exact w
      simp [hn, this]
theorem addN_Ce (σ : St) (x1 x2 x3 x4 : Int32) : f_X2_add σ x1 x2 x3 x4 = if (σ.1 9 0) < 12 then (if (σ.1 9 0) < 0 ∨ 12 ≤ ix (σ.1 9 0) then none else if (σ.1 9 0) < 0 ∨ 12 ≤ ix (σ.1 9 0) then none else if (σ.1 9 0) < 0 ∨ 12 ≤ ix (σ.1 9 0) then none else if (σ.1 9 0) < 0 ∨ 12 ≤ ix (σ.1 9 0) then none else some (wr (wr (wr (wr (wr (wr σ 10 (ix (σ.1 9 0)) x1) 11 (ix (σ.1 9 0)) x2) 12 (ix (σ.1 9 0)) x3) 13 (ix (σ.1 9 0)) x4) 9 0 ((σ.1 9 0) + 1)) 9 1 0)) else (some σ) := rfl
theorem addN_Me (σ : St) (x1 x2 x3 x4 : Int32) : f_X7_addNews σ x1 x2 x3 x4 = if (σ.1 0 8) < 0 ∨ 12 ≤ ix (σ.1 0 8) then none else if (σ.1 0 8) < 0 ∨ 12 ≤ ix (σ.1 0 8) then none else if (σ.1 0 8) < 0 ∨ 12 ≤ ix (σ.1 0 8) then none else some (wr (wr (wr (wr (wr σ 4 (ix (σ.1 0 8)) x1) 5 (ix (σ.1 0 8)) x2) 6 (ix (σ.1 0 8)) x3) 0 7 (((σ.1 0 7) &&& ((isl 1 (σ.1 0 8)) ^^^ ((-1)))) ||| (isl x4 (σ.1 0 8)))) 0 8 ((σ.1 0 8) + 1)) := rfl
def snC (σ : St) (g y s b h : Nat) : St := wr (wr (wr (wr (wr (wr σ 10 g (nI y)) 11 g (nI s)) 12 g (nI b)) 13 g (nI h)) 9 0 (nI (g + 1))) 9 1 0
def shN (o g h : Nat) : Nat := andn o (2 ^ g) ||| h * 2 ^ g
def snM (μ : St) (o g y s b h : Nat) : St := wr (wr (wr (wr (wr μ 4 g (nI y)) 5 g (nI s)) 6 g (nI b)) 0 7 (nI (shN o g h))) 0 8 (nI (g + 1))
theorem addN_C {a : Nat → Nat → Nat} {σ : St} (hC : CA a (vw σ 1)) (hg : a 8 0 < 12) (y s b h : Nat) : f_X2_add σ (nI y) (nI s) (nI b) (nI h) = some (snC σ (a 8 0) y s b h) := by
  rw [addN_Ce, cL_ps hC]
  simp only [show (12 : Int32) = nI 12 from rfl, nI_ltE (show a 8 0 < 2 ^ 31 by omega) (show 12 < 2 ^ 31 by decide), hg, if_true, ix_nI (show a 8 0 < 2 ^ 31 by omega), ok2 (show a 8 0 < 12 by omega) (show a 8 0 < 2 ^ 31 by omega), if_false, nI_s]
  rfl
theorem isl_n {h n : Nat} (hn : n < 31) (hh : h ≤ 1) : isl (nI h) (nI n) = nI (h * 2 ^ n) := by
  unfold isl
  exact pk_shlN (n := h) (nI n &&& 31) n (s_l n (by omega)) (by
    have : 2 ^ n ≤ 2 ^ 31 := Nat.pow_le_pow_right (by decide) (by omega)
    have : h * 2 ^ n ≤ 1 * 2 ^ n := Nat.mul_le_mul_right _ hh
    omega)
theorem addN_M {a : Nat → Nat → Nat} {μ : St} (hM : MA a (ul μ)) (hg : a 8 0 < 12) (y s b : Nat) {h : Nat} (hh : h ≤ 1) : f_X7_addNews μ (nI y) (nI s) (nI b) (nI h) = some (snM μ (a 18 0) (a 8 0) y s b h) := by
  rw [addN_Me, mL_ps hM, mL_sh hM]
  simp only [isl_1 (show a 8 0 < 31 by omega), isl_n (show a 8 0 < 31 by omega) hh, nI_andn, nI_or, ix_nI (show a 8 0 < 2 ^ 31 by omega), ok2 (show a 8 0 < 12 by omega) (show a 8 0 < 2 ^ 31 by omega), if_false, nI_s]
  rfl
def aN (a : Nat → Nat → Nat) (y s b h : Nat) : Nat → Nat → Nat := uA (uA (uA (uA (uA (uA a 9 (a 8 0) y) 10 (a 8 0) s) 11 (a 8 0) b) 12 (a 8 0) h) 8 0 (a 8 0 + 1)) 18 0 (shN (a 18 0) (a 8 0) h)
theorem sh_lt {o g h : Nat} (ho : o < 4096) (hg : g < 12) (hh : h ≤ 1) : shN o g h < 4096 := by
  unfold shN
  have h1 : andn o (2 ^ g) < 2 ^ 12 := Nat.lt_of_le_of_lt (andn_le _ _) ho
  have h2 : h * 2 ^ g < 2 ^ 12 := by
    have : 2 ^ g ≤ 2 ^ 11 := Nat.pow_le_pow_right (by decide) (by omega)
    have : h * 2 ^ g ≤ 1 * 2 ^ g := Nat.mul_le_mul_right _ hh
    omega
  exact Nat.or_lt_two_pow h1 h2
theorem sh_bit {o g h n : Nat} (hh : h ≤ 1) : (shN o g h).testBit n = if n = g then decide (h = 1) else o.testBit n := by
  unfold shN
  rw [Nat.testBit_or, andn_bit]
  rcases (show h = 0 ∨ h = 1 by omega) with rfl | rfl
  · by_cases e : n = g
    · subst e; simp [Nat.testBit_two_pow_self]
    · simp [e, Nat.testBit_two_pow_of_ne (Ne.symm e)]
  · by_cases e : n = g
    · subst e; simp [Nat.testBit_two_pow_self]
    · simp [e, Nat.testBit_two_pow_of_ne (Ne.symm e)]
theorem news_par {a : Nat → Nat → Nat} {σ μ : St} (I : Inv a) (hC : CA a (vw σ 1)) (hM : MA a (ul μ)) (hg : a 8 0 < 12) {y s b h : Nat} (hy : y < 100) (hs : s < 2 ^ a 8 0) (hb : b < 1024) (hh : h ≤ 1) : Inv (aN a y s b h) ∧ CA (aN a y s b h) (vw (snC σ (a 8 0) y s b h) 1) ∧ MA (aN a y s b h) (ul (snM μ (a 18 0) (a 8 0) y s b h)) := by
  refine ⟨⟨I.gs, hg, I.rd, I.wi, I.no, I.dr, I.rg, I.un, I.ur, I.gr, I.hw, I.hz, I.si, ?_, I.rc, I.wt, I.ud, I.uwc rfl rfl rfl, sh_lt I.sh hg hh, ?_⟩, ⟨hC.rd, hC.wi, hC.no, hC.dr, hC.rg, hC.un, hC.gs, rfl, Or.inl rfl, hC.ki, hC.pl, hC.ye, hC.he, hC.wg, hC.si, ex1 hC.ny, ex1 hC.na, ex1 hC.nb, ex1 hC.ns, hC.rc, hC.wt, hC.u1, hC.u2, hC.u3⟩, ⟨hM.gs, rfl, hM.rd, rfl, hM.wi, hM.no, hM.dr, hM.un, hM.rg, hM.ki, hM.pl, hM.ye, hM.he, hM.wg, hM.si, ex1 hM.ny, ex1 hM.na, ex1 hM.nb, hM.rc, hM.wt, hM.u1c rfl rfl rfl rfl rfl, hM.u2c rfl rfl rfl rfl, hM.u3, hM.u4c rfl rfl rfl rfl rfl rfl (Or.inl (Nat.le_refl _))⟩⟩
  · intro n hn
    have hn : n < a 8 0 + 1 := hn
    show (if n = a 8 0 then y else a 9 n) ≤ 99 ∧ (if n = a 8 0 then s else a 10 n) < 2 ^ n ∧ (if n = a 8 0 then b else a 11 n) < 1024 ∧ (if n = a 8 0 then h else a 12 n) ≤ 1
    by_cases e : n = a 8 0
    · simp only [e, if_true]
      exact ⟨by omega, hs, hb, hh⟩
    · simp only [e, if_false]
      exact I.nw n (by omega)
  · intro n hn
    have hn : n < a 8 0 + 1 := hn
    show (shN (a 18 0) (a 8 0) h).testBit n = decide ((if n = a 8 0 then h else a 12 n) = 1)
    rw [sh_bit hh]
    by_cases e : n = a 8 0
    · simp only [e, if_true]
    · simp only [e, if_false]
      exact I.sb n (by omega)
theorem op3 : Op3 RR := by
  intro σ nw μ hR x y z
  obtain ⟨⟨a, I, hC, hM⟩, -⟩ := id hR
  have h12 := I.ps
  have hp12 := pow12 I.ps
  by_cases v : (0 ≤ x.toInt ∧ x.toInt < 100) ∧ 0 ≤ y.toInt ∧ (0 ≤ z.toInt ∧ z.toInt < 2)
  · obtain ⟨q, hq, rfl⟩ := nI_ofR (n := 100) v.1 (by decide)
    obtain ⟨s, hs31, rfl⟩ := nI_of (x := y) (by rw [lt_T, T_0]; omega)
    obtain ⟨h, hh, rfl⟩ := nI_ofR (n := 2) v.2.2 (by decide)
    have hle := andn_le s (bsN (fun n => decide (a 9 n ≤ q)) (a 8 0))
    have eM : f_X7_news μ (nI q) (nI s) (nI h) = if andn s (bsN (fun n => decide (a 9 n ≤ q)) (a 8 0)) = 0 then (if a 8 0 = 12 then some ((-3), μ) else (bdr (f_X7_addNews μ (nI q) (nI s) 0 (nI h)) fun s4 => some ((s4.1 0 8) - 1, s4))) else some ((-1), μ) := by
      unfold f_X7_news
      simp only [in_0, toL_T, lit_T q (show q < 2 ^ 31 by omega), lit_T h (show h < 2 ^ 31 by omega), nI_lt0 hs31, if_false, mayBe_M I hM hq, bdr, nI_andn, nI_eq0 (show andn s (bsN (fun n => decide (a 9 n ≤ q)) (a 8 0)) < 2 ^ 31 by omega), mL_ps hM, show (12 : Int32) = nI 12 from rfl, nI_eqE (show a 8 0 < 2 ^ 31 by omega) (show 12 < 2 ^ 31 by decide), show (0 : Int64).toInt = 0 by decide, show (1 : Int64).toInt = 1 by decide, show (99 : Int64).toInt = 99 by decide]
      rw [if_neg (by omega)]
      congr 1
      rw [if_neg (by omega)]
    have eC : f_X6_news σ (nI q) (nI s) (nI h) = if s < 2 ^ a 8 0 then (if anyR (laB a s q) 0 (a 8 0) then some ((-1), σ) else (if a 8 0 < 12 then (bdr (f_X2_add σ (nI q) (nI s) 0 (nI h)) fun s4 => some ((s4.1 9 0) - 1, s4)) else some ((-3), σ))) else some ((-1), σ) := by
      unfold f_X6_news
      simp only [nI_lt0 (show q < 2 ^ 31 by omega), nI_lt0 (show h < 2 ^ 31 by omega), if_false, show (99 : Int32) = nI 99 from rfl, show (1 : Int32) = nI 1 from rfl, nI_ltE (show 99 < 2 ^ 31 by decide) (show q < 2 ^ 31 by omega), nI_leE (show h < 2 ^ 31 by omega) (show 1 < 2 ^ 31 by decide), show ¬ 99 < q by omega, show h ≤ 1 by omega, if_true, isNewsSet_C0 I hC, lit_T s hs31, noLater_C I hC hs31 hq, bdr, cL_ps hC, show (12 : Int32) = nI 12 from rfl, nI_ltE (show a 8 0 < 2 ^ 31 by omega) (show 12 < 2 ^ 31 by decide)]
      by_cases w : s < 2 ^ a 8 0
      · rw [if_neg (by omega), if_pos w]
        cases anyR (laB a s q) 0 (a 8 0) <;> rfl
      · rw [if_pos (by omega), if_neg w]
    by_cases w : andn s (bsN (fun n => decide (a 9 n ≤ q)) (a 8 0)) = 0
    · obtain ⟨w1, w2⟩ := ahead_iff.mp w
      rw [if_pos w] at eM
      rw [if_pos w1, w2] at eC
      by_cases hg : a 8 0 < 12
      · refine ⟨nI (a 8 0), snC σ (a 8 0) q s 0 h, snM μ (a 18 0) (a 8 0) q s 0 h, ?_, ?_, hR.par ⟨_, news_par I hC hM hg hq w1 (by decide) (by omega)⟩ (fun c hc => (wr_ne (by omega)).trans ((wr_ne (by omega)).trans ((wr_ne (by omega)).trans ((wr_ne (by omega)).trans ((wr_ne (by omega)).trans (wr_ne (by omega))))))) rfl (fun c hc => (wr_ne (by omega)).trans ((wr_ne (by omega)).trans ((wr_ne (by omega)).trans ((wr_ne (by omega)).trans (wr_ne (by omega)))))) rfl rfl rfl⟩
        · rw [eC, if_neg (by decide), if_pos hg, show (0 : Int32) = nI 0 from rfl, addN_C hC hg]
          show some (nI (a 8 0 + 1) - 1, _) = _
          rw [nI_pred]
        · rw [eM, if_neg (by omega), show (0 : Int32) = nI 0 from rfl, addN_M hM hg _ _ _ (by omega)]
          show some (nI (a 8 0 + 1) - 1, _) = _
          rw [nI_pred]
      · refine ⟨-3, σ, μ, ?_, ?_, hR⟩
        · rw [eC, if_neg (by decide), if_neg hg]
        · rw [eM, if_pos (by omega)]
    · refine ⟨-1, σ, μ, ?_, ?_, hR⟩
      · rw [eC]
        by_cases w1 : s < 2 ^ a 8 0
        · rw [if_pos w1, if_pos]
          cases q2 : anyR (laB a s q) 0 (a 8 0)
          · exact absurd (ahead_iff.mpr ⟨w1, q2⟩) w
          · rfl
        · rw [if_neg w1]
      · rw [eM, if_neg w]
  · refine ⟨-1, σ, μ, ?_, ?_, hR⟩
    · unfold f_X6_news
      simp only [lt_T, le_T, T_0, isNewsSet_C0 I hC, show (99 : Int32).toInt = 99 by decide, show (1 : Int32).toInt = 1 by decide]
      (repeat' split) <;> first | rfl | (exfalso; omega)
    · unfold f_X7_news
      simp only [in_0, toL_T, lt_T, T_0, show (0 : Int64).toInt = 0 by decide, show (1 : Int64).toInt = 1 by decide, show (99 : Int64).toInt = 99 by decide]
      by_cases c1 : 0 ≤ x.toInt ∧ x.toInt ≤ 99
      · rw [if_neg (by omega)]
        by_cases c2 : y.toInt < 0
        · rw [if_pos c2]
        · rw [if_neg c2]
          obtain ⟨q, hq, rfl⟩ := nI_ofR (n := 100) (x := x) (by omega) (by decide)
          rw [mayBe_M I hM hq]
          show (if _ then _ else _) = _
          rw [if_pos (show ¬ (0 ≤ z.toInt ∧ z.toInt ≤ 1) by omega)]
          split <;> rfl
      · rw [if_pos (by omega)]

