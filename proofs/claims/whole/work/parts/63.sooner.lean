/-! ===== what was heard in wrong order ===== -/
def woB (a : Nat → Nat → Nat) (i p n : Nat) : Bool := (a 10 n).testBit p && ((a 5 i).testBit p && ((a 5 i).testBit n && decide (a 7 (12 * i + n) < a 7 (12 * i + p))))
def soB (a : Nat → Nat → Nat) (i k : Nat) : Bool := decide (k / 12 < a 8 0) && (decide (k % 12 < a 8 0) && woB a i (k / 12) (k % 12))
def cnS (B : Nat → Bool) : Nat → Nat → Nat
  | _, 0 => 0
  | k, j + 1 => (if B k then 1 else 0) + cnS B (k + 1) j
def fsS (B : Nat → Bool) : Nat → Nat → Int32
  | _, 0 => -4
  | k, j + 1 => if B k then nI (100 * (k / 12) + k % 12) else fsS B (k + 1) j
theorem sk (B : Nat → Bool) : ∀ (d k j : Nat), (∀ q, k ≤ q → q < k + d → B q = false) → cnS B k (d + j) = cnS B (k + d) j ∧ fsS B k (d + j) = fsS B (k + d) j
  | 0, k, j, _ => by rw [Nat.zero_add, Nat.add_zero]; exact ⟨rfl, rfl⟩
  | d + 1, k, j, h => by
    have e := sk B d (k + 1) j (fun q h1 h2 => h q (by omega) (by omega))
    have b := h k (by omega) (by omega)
    rw [show d + 1 + j = (d + j) + 1 by omega, cnS, fsS, b, e.1, e.2, show k + 1 + d = k + (d + 1) by omega]
    exact ⟨Nat.zero_add _, rfl⟩
def rsS (B : Nat → Bool) (x c k j : Nat) : Int32 := if x = 1 then fsS B k j else nI (c + cnS B k j)
theorem wo_C {a : Nat → Nat → Nat} {σ : St} (I : Inv a) (h : CA a (vw σ 1)) {i p n : Nat} (hi : i < a 1 0) (hp : p < a 8 0) (hn : n < a 8 0) : f_X3_heardInWrongOrder σ (nI i) (nI p) (nI n) = some (nI (if woB a i p n then 1 else 0)) := by
  have h10 := I.gs
  have h12 := I.ps
  have h5 := (I.hw i (by omega)).1
  have hna := na_lt I hn
  have s1 := I.si (12 * i + n) (by omega)
  have s2 := I.si (12 * i + p) (by omega)
  unfold f_X3_heardInWrongOrder
  simp only [sq, show (12 : Int32) = nI 12 from rfl, pk_mul, nI_k, ix_nI (show i < 2 ^ 31 by omega), ok2 (show i < 10 by omega) (show i < 2 ^ 31 by omega), ix_nI (show n < 2 ^ 31 by omega), ok2 (show n < 12 by omega) (show n < 2 ^ 31 by omega), if_false, ix_nI (show i * 12 + n < 2 ^ 31 by omega), ok2 (show i * 12 + n < 120 by omega) (show i * 12 + n < 2 ^ 31 by omega), ix_nI (show i * 12 + p < 2 ^ 31 by omega), ok2 (show i * 12 + p < 120 by omega) (show i * 12 + p < 2 ^ 31 by omega), cL_he h i hi, cL_na h n hn, has_C0 (show a 10 n < 2 ^ 31 by omega) (show p < 31 by omega), has_C0 (show a 5 i < 2 ^ 31 by omega) (show p < 31 by omega), has_C0 (show a 5 i < 2 ^ 31 by omega) (show n < 31 by omega)]
  unfold woB
  cases q1 : (a 10 n).testBit p
  · rfl
  · cases q2 : (a 5 i).testBit p
    · rfl
    · cases q3 : (a 5 i).testBit n
      · rfl
      · rw [show i * 12 + n = 12 * i + n by omega, show i * 12 + p = 12 * i + p by omega, cL_si h i n hi (by omega) q3, cL_si h i p hi (by omega) q2]
        simp only [Bool.true_eq_false, if_false, nI_leE (show a 7 (12 * i + p) < 2 ^ 31 by omega) (show a 7 (12 * i + n) < 2 ^ 31 by omega), Bool.true_and]
        by_cases q4 : a 7 (12 * i + n) < a 7 (12 * i + p)
        · rw [if_neg (by omega), decide_eq_true q4]; rfl
        · rw [if_pos (by omega), decide_eq_false q4]; rfl
theorem so_in {a : Nat → Nat → Nat} {i p n : Nat} (I : Inv a) (hp : p < a 8 0) (hn : n < a 8 0) : soB a i (12 * p + n) = woB a i p n := by
  have h12 := I.ps
  unfold soB
  rw [show (12 * p + n) / 12 = p by omega, show (12 * p + n) % 12 = n by omega, decide_eq_true hp, decide_eq_true hn]
  rfl
theorem so_out {a : Nat → Nat → Nat} {i k : Nat} (h : a 8 0 ≤ k / 12 ∨ a 8 0 ≤ k % 12) : soB a i k = false := by
  unfold soB
  rcases h with h | h
  · rw [decide_eq_false (show ¬ k / 12 < a 8 0 by omega)]; rfl
  · rw [decide_eq_false (show ¬ k % 12 < a 8 0 by omega)]; simp
theorem sooner_C {a : Nat → Nat → Nat} {σ : St} (I : Inv a) (h : CA a (vw σ 1)) {i x : Nat} (hi : i < a 1 0) (hx : x ≤ 1) : f_X6_sooner_h24 σ (nI i) (nI x) FU 0 0 = some (rsS (soB a i) x 0 0 144) := by
  have h10 := I.gs
  have h12 := I.ps
  have key : ∀ (q p m c : Nat), p + q = a 8 0 → q < m → f_X6_sooner_h24 σ (nI i) (nI x) m (nI c) (nI p) = some (rsS (soB a i) x c (12 * p) (144 - 12 * p)) := by
    intro q
    induction q with
    | zero =>
      intro p m c h1 h2
      obtain ⟨m, rfl⟩ : ∃ m', m = m' + 1 := ⟨m - 1, by omega⟩
      rw [f_X6_sooner_h24, cL_ps h, if_pos (by rw [nI_leE (by omega) (by omega)]; omega)]
      have e := sk (soB a i) (144 - 12 * p) (12 * p) 0 (fun k k1 k2 => so_out (Or.inl (by omega)))
      rw [Nat.add_zero] at e
      unfold rsS
      rw [e.1, e.2]
      simp only [show (1 : Int32) = nI 1 from rfl, nI_eqE (show x < 2 ^ 31 by omega) (show 1 < 2 ^ 31 by decide)]
      by_cases x1 : x = 1
      · rw [if_pos x1, if_pos x1]; rfl
      · rw [if_neg x1, if_neg x1]; rfl
    | succ q ihq =>
      intro p m c h1 h2
      obtain ⟨m, rfl⟩ : ∃ m', m = m' + 1 := ⟨m - 1, by omega⟩
      rw [f_X6_sooner_h24, cL_ps h, if_neg (by rw [nI_leE (by omega) (by omega)]; omega)]
      have inner : ∀ (k n m' c : Nat), n + k = a 8 0 → k < m' → f_X6_sooner_h42 (f_X6_sooner_h24 σ (nI i) (nI x) m) σ (nI i) (nI x) m' (nI c) (nI p) (nI n) = some (rsS (soB a i) x c (12 * p + n) (144 - (12 * p + n))) := by
        intro k
        induction k with
        | zero =>
          intro n m' c h3 h4
          obtain ⟨m', rfl⟩ : ∃ u, m' = u + 1 := ⟨m' - 1, by omega⟩
          rw [f_X6_sooner_h42, cL_ps h, if_pos (by rw [nI_leE (by omega) (by omega)]; omega)]
          simp only [sq, nI_s]
          rw [ihq (p + 1) m c (by omega) (by omega)]
          have e := sk (soB a i) (12 - n) (12 * p + n) (144 - 12 * (p + 1)) (fun k k1 k2 => so_out (Or.inr (by omega)))
          rw [show 12 - n + (144 - 12 * (p + 1)) = 144 - (12 * p + n) by omega, show 12 * p + n + (12 - n) = 12 * (p + 1) by omega] at e
          unfold rsS
          rw [e.1, e.2]
        | succ k ihk =>
          intro n m' c h3 h4
          obtain ⟨m', rfl⟩ : ∃ u, m' = u + 1 := ⟨m' - 1, by omega⟩
          rw [f_X6_sooner_h42, cL_ps h, if_neg (by rw [nI_leE (by omega) (by omega)]; omega), wo_C I h hi (show p < a 8 0 by omega) (show n < a 8 0 by omega)]
          simp only [sq, nI_s, bdr, b01, show (1 : Int32) = nI 1 from rfl, show (100 : Int32) = nI 100 from rfl, pk_mul, nI_k, nI_eqE (show x < 2 ^ 31 by omega) (show 1 < 2 ^ 31 by decide)]
          have eB := so_in (i := i) I (show p < a 8 0 by omega) (show n < a 8 0 by omega)
          rw [show 144 - (12 * p + n) = (144 - (12 * p + (n + 1))) + 1 by omega]
          unfold rsS
          rw [cnS, fsS, eB, show (12 * p + n) / 12 = p by omega, show (12 * p + n) % 12 = n by omega]
          cases hb : woB a i p n
          · rw [if_pos rfl, ihk (n + 1) m' c (by omega) (by omega)]
            unfold rsS
            simp only [Bool.false_eq_true, if_false, Nat.zero_add, Nat.add_assoc]
          · rw [if_neg (by decide)]
            by_cases x1 : x = 1
            · rw [if_pos x1, if_pos x1]; rfl
            · rw [if_neg x1, if_neg x1, ihk (n + 1) m' (c + 1) (by omega) (by omega)]
              unfold rsS
              rw [if_neg x1]
              simp only [if_true, Nat.add_assoc]
      exact inner (a 8 0) 0 FU c (by omega) (by unfold FU; omega)
  exact key (a 8 0) 0 FU 0 (by omega) (by unfold FU; omega)
theorem sooner_M {a : Nat → Nat → Nat} {μ : St} (I : Inv a) (h : MA a (ul μ)) {i x : Nat} (hi : i < a 1 0) (hx : x ≤ 1) : f_X7_sooner_h29 μ (nI i) (nI x) FU 0 (-4) 0 = some (rsS (soB a i) x 0 0 144) := by
  have h10 := I.gs
  have h12 := I.ps
  have h5 := (I.hw i (by omega)).1
  have key : ∀ (j k m c : Nat) (f : Int32), k + j = 144 → j < m → c ≤ k → (c = 0 → f = -4) → f_X7_sooner_h29 μ (nI i) (nI x) m (nI c) f (nI k) = some (if x = 1 then (if c = 0 then fsS (soB a i) k j else f) else nI (c + cnS (soB a i) k j)) := by
    intro j
    induction j with
    | zero =>
      intro k m c f h1 h2 hc h3
      obtain ⟨m, rfl⟩ : ∃ m', m = m' + 1 := ⟨m - 1, by omega⟩
      rw [f_X7_sooner_h29, if_pos (by rw [show (144 : Int32) = nI 144 from rfl, nI_leE (by omega) (by omega)]; omega)]
      simp only [nI_eq0 (show x < 2 ^ 31 by omega), fsS, cnS, Nat.add_zero]
      by_cases x1 : x = 1
      · rw [if_neg (by omega), if_pos x1]
        by_cases c0 : c = 0
        · rw [if_pos c0, h3 c0]
        · rw [if_neg c0]
      · rw [if_pos (by omega), if_neg x1]
    | succ j ih =>
      intro k m c f h1 h2 hc h3
      obtain ⟨m, rfl⟩ : ∃ m', m = m' + 1 := ⟨m - 1, by omega⟩
      have e0 := fun (hB : soB a i k = false) => ih (k + 1) m c f (by omega) (by omega) (by omega) h3
      rw [f_X7_sooner_h29, if_neg (by rw [show (144 : Int32) = nI 144 from rfl, nI_leE (by omega) (by omega)]; omega)]
      rw [cnS, fsS]
      simp only [sq, nI_s, show (12 : Int32) = nI 12 from rfl, pk_div (show k < 2 ^ 31 by omega) (show 0 < 12 by decide) (show 12 < 2 ^ 31 by decide), irm_n (show k < 2 ^ 31 by omega) (show 0 < 12 by decide) (show 12 < 2 ^ 31 by decide), mL_ps h, nI_leE (show a 8 0 < 2 ^ 31 by omega) (show k / 12 < 2 ^ 31 by omega), nI_leE (show a 8 0 < 2 ^ 31 by omega) (show k % 12 < 2 ^ 31 by omega)]
      by_cases r1 : a 8 0 ≤ k / 12
      · have hB : soB a i k = false := so_out (Or.inl r1)
        rw [if_pos r1, e0 hB, hB]
        simp only [Bool.false_eq_true, if_false, Nat.zero_add]
      · rw [if_neg r1]
        by_cases r2 : a 8 0 ≤ k % 12
        · have hB : soB a i k = false := so_out (Or.inr r2)
          rw [if_pos r2, e0 hB, hB]
          simp only [Bool.false_eq_true, if_false, Nat.zero_add]
        · rw [if_neg r2]
          have hn : k % 12 < a 8 0 := by omega
          have hp : k / 12 < a 8 0 := by omega
          have hna := na_lt I hn
          have hBk : soB a i k = woB a i (k / 12) (k % 12) := by
            unfold soB; rw [decide_eq_true hp, decide_eq_true hn]; rfl
          rw [hBk] at e0
          rw [hBk]
          have s1 := I.si (12 * i + k % 12) (by omega)
          have s2 := I.si (12 * i + k / 12) (by omega)
          simp only [show (20 : Int32) = nI 20 from rfl, pk_mul, nI_k, nI_z, ix_nI (show k % 12 < 2 ^ 31 by omega), ok2 (show k % 12 < 12 by omega) (show k % 12 < 2 ^ 31 by omega), if_false, ix_nI (show i < 2 ^ 31 by omega), ok2 (show i < 141 by omega) (show i < 2 ^ 31 by omega), ix_nI (show 20 + 12 * i + k % 12 < 2 ^ 31 by omega), ok2 (show 20 + 12 * i + k % 12 < 141 by omega) (show 20 + 12 * i + k % 12 < 2 ^ 31 by omega), ix_nI (show 20 + 12 * i + k / 12 < 2 ^ 31 by omega), ok2 (show 20 + 12 * i + k / 12 < 141 by omega) (show 20 + 12 * i + k / 12 < 2 ^ 31 by omega), mL_na h _ hn, mL_he h i (show i < 10 by omega), has_M0 (show a 10 (k % 12) < 2 ^ 31 by omega) (show k / 12 < 31 by omega), has_M0 (show a 5 i < 2 ^ 31 by omega) (show k / 12 < 31 by omega), has_M0 (show a 5 i < 2 ^ 31 by omega) (show k % 12 < 31 by omega)]
          unfold woB
          unfold woB at e0
          cases q1 : (a 10 (k % 12)).testBit (k / 12)
          · rw [if_pos rfl, e0 (by rw [q1]; rfl)]
            simp only [Bool.false_and, Bool.false_eq_true, if_false, Nat.zero_add]
          · rw [if_neg (by decide)]
            cases q2 : (a 5 i).testBit (k / 12)
            · rw [if_pos rfl, e0 (by rw [q1, q2]; rfl)]
              simp only [Bool.false_and, Bool.and_false, Bool.false_eq_true, if_false, Nat.zero_add]
            · rw [if_neg (by decide)]
              cases q3 : (a 5 i).testBit (k % 12)
              · rw [if_pos rfl, e0 (by rw [q1, q2, q3]; rfl)]
                simp only [Bool.false_and, Bool.and_false, Bool.false_eq_true, if_false, Nat.zero_add]
              · rw [if_neg (by decide), show 20 + 12 * i + k % 12 = 20 + (12 * i + k % 12) by omega, show 20 + 12 * i + k / 12 = 20 + (12 * i + k / 12) by omega, mL_si h i _ hi (by omega) q3, mL_si h i _ hi (by omega) q2]
                simp only [nI_leE (show a 7 (12 * i + k / 12) < 2 ^ 31 by omega) (show a 7 (12 * i + k % 12) < 2 ^ 31 by omega), Bool.true_and, f_X7_sooner_b154, f_X7_sooner_b178, f_X7_sooner_b191, sq, nI_s, nI_p0, if_true]
                by_cases q4 : a 7 (12 * i + k % 12) < a 7 (12 * i + k / 12)
                · rw [if_neg (by omega), decide_eq_true q4]
                  simp only [nI_eq0 (show c < 2 ^ 31 by omega), show ((1 : Int32) = 0) = False from eq_false (by decide), if_false, if_true, show (100 : Int32) = nI 100 from rfl, pk_mul, nI_k]
                  by_cases c0 : c = 0
                  · rw [if_pos c0, if_pos c0, ih (k + 1) m (c + 1) _ (by omega) (by omega) (by omega) (by omega)]
                    rw [if_neg (show ¬ c + 1 = 0 by omega), Nat.add_assoc]
                  · rw [if_neg c0, if_neg c0, ih (k + 1) m (c + 1) _ (by omega) (by omega) (by omega) (by omega)]
                    rw [if_neg (show ¬ c + 1 = 0 by omega), Nat.add_assoc]
                · rw [if_pos (by omega), decide_eq_false q4]
                  rw [e0 (by rw [q1, q2, q3, decide_eq_false q4]; rfl)]
                  simp only [Bool.false_eq_true, if_false, Nat.zero_add]
  have e := key 144 0 FU 0 (-4) (by decide) (by unfold FU; omega) (by decide) (fun _ => rfl)
  unfold rsS
  exact e
theorem op28 : Op28 RR := by
  intro σ nw μ hR x y
  obtain ⟨⟨a, I, hC, hM⟩, -⟩ := id hR
  have h10 := I.gs
  unfold f_X6_sooner f_X7_sooner
  simp only [isGrave_C0 I hC, isGrave_M0 I hM, toL_T, in_0, lt_T, le_T, T_0, show (0 : Int64).toInt = 0 by decide, show (1 : Int64).toInt = 1 by decide, show (1 : Int32).toInt = 1 by decide]
  by_cases v1 : 0 ≤ x.toInt ∧ x.toInt < a 1 0
  · by_cases v4 : 0 ≤ y.toInt ∧ y.toInt ≤ 1
    · obtain ⟨i, hi, rfl⟩ := nI_ofR (n := a 1 0) v1 (by omega)
      obtain ⟨z, hz, rfl⟩ := nI_ofR (n := 2) (x := y) ⟨v4.1, by omega⟩ (by decide)
      simp only [not_not_intro v1, not_not_intro v4, if_false, sooner_C I hC hi (show z ≤ 1 by omega), sooner_M I hM hi (show z ≤ 1 by omega)]
      rw [if_neg (show ¬ (nI z).toInt < 0 by omega), if_pos v4.2]
      exact ⟨_, rfl, rfl, hR⟩
    · simp only [if_pos v4, ite_self]
      refine ⟨-1, ?_, rfl, hR⟩
      (repeat' split) <;> first | rfl | (exfalso; omega)
  · simp only [if_pos v1]
    exact ⟨_, rfl, rfl, hR⟩

