/-! ===== orders: how many ===== -/
def WN (p : Nat) (ah : Nat → Nat) (s : Nat) : Nat := ordT p ah (s + 1) s
theorem ordT_st (p : Nat) (ah : Nat → Nat) : ∀ k s, s < k → ordT p ah k s = WN p ah s
  | 0, s, h => by omega
  | k + 1, s, h => by
    by_cases e : s = k
    · subst e
      rfl
    · rw [ordT, if_neg e]
      exact ordT_st p ah k s (by omega)
theorem andn_lt {s n : Nat} (h : s.testBit n = true) : andn s (2 ^ n) < s := by
  have h1 := andn_le s (2 ^ n)
  rcases Nat.lt_or_ge (andn s (2 ^ n)) s with q | q
  · exact q
  · have e : andn s (2 ^ n) = s := by omega
    have := andn_bit s (2 ^ n) n
    rw [e, h, Nat.testBit_two_pow_self] at this
    cases this
theorem WN_eq (p : Nat) (ah : Nat → Nat) (s : Nat) : WN p ah s = if s = 0 then 1 else smN (fun n => if s.testBit n && subN (ah n) s then WN p ah (andn s (2 ^ n)) else 0) p := by
  unfold WN
  rw [ordT, if_pos rfl]
  by_cases e : s = 0
  · rw [if_pos e, if_pos e]
  · rw [if_neg e, if_neg e]
    refine smN_cong (fun n hn => ?_)
    cases hb : s.testBit n
    · rw [Bool.false_and, if_neg (by decide), if_neg (by decide)]
    · rw [ordT_st p ah s _ (andn_lt hb)]
      rfl
theorem smN_at {f g : Nat → Nat} {j : Nat} : ∀ {n : Nat}, (∀ i, i < n → i ≠ j → f i = g i) → g j = 0 → j < n → smN f n = smN g n + f j
  | 0, _, _, h => by omega
  | n + 1, h, h0, hj => by
    rw [smN, smN]
    by_cases e : j = n
    · subst e
      rw [smN_cong (fun i hi => h i (by omega) (by omega)), h0]
      omega
    · rw [smN_at (fun i hi => h i (by omega)) h0 (by omega), h n (by omega) (fun q => e q.symm)]
      omega
/-- what the class's row of ways holds, sets below k pushed, and k itself to the news below j -/
def PS (p : Nat) (ah : Nat → Nat) (k j s : Nat) : Nat := (if s = 0 then 1 else 0) + smN (fun n => if s.testBit n && (subN (ah n) s && (decide (andn s (2 ^ n) < k) || (decide (andn s (2 ^ n) = k) && decide (n < j)))) then WN p ah (andn s (2 ^ n)) else 0) p
theorem PS_0 (p : Nat) (ah : Nat → Nat) (s : Nat) : PS p ah 0 0 s = if s = 0 then 1 else 0 := by
  unfold PS
  rw [smN_cong (g := fun _ => 0) (fun n hn => ?_), smN_z, Nat.add_zero]
  rw [if_neg]
  simp
theorem PS_w (p : Nat) (ah : Nat → Nat) {k s : Nat} (h : s ≤ k) : PS p ah k 0 s = WN p ah s := by
  rw [WN_eq]
  unfold PS
  by_cases e : s = 0
  · rw [if_pos e, if_pos e, smN_cong (g := fun _ => 0) (fun n hn => ?_), smN_z]
    rw [e, Nat.zero_testBit]
    rfl
  · rw [if_neg e, if_neg e, Nat.zero_add]
    refine smN_cong (fun n hn => ?_)
    cases hb : s.testBit n
    · rfl
    · have := andn_lt hb
      rw [decide_eq_true (show andn s (2 ^ n) < k by omega), Bool.true_or, Bool.and_true]
theorem PS_p (p : Nat) (ah : Nat → Nat) (k s : Nat) : PS p ah k p s = PS p ah (k + 1) 0 s := by
  unfold PS
  rw [smN_cong (fun n hn => ?_)]
  have e : (decide (andn s (2 ^ n) < k) || (decide (andn s (2 ^ n) = k) && decide (n < p))) = (decide (andn s (2 ^ n) < k + 1) || (decide (andn s (2 ^ n) = k + 1) && decide (n < 0))) := by
    rw [decide_eq_true hn, decide_eq_false (show ¬ n < 0 by omega), Bool.and_true, Bool.and_false, Bool.or_false]
    by_cases c1 : andn s (2 ^ n) < k
    · rw [decide_eq_true c1, decide_eq_true (show andn s (2 ^ n) < k + 1 by omega)]; rfl
    · by_cases c2 : andn s (2 ^ n) = k
      · rw [decide_eq_true c2, decide_eq_true (show andn s (2 ^ n) < k + 1 by omega), Bool.or_true]
      · rw [decide_eq_false c1, decide_eq_false c2, decide_eq_false (show ¬ andn s (2 ^ n) < k + 1 by omega)]; rfl
  rw [e]
theorem dec_ne {i j : Nat} (h : i ≠ j) : decide (i < j + 1) = decide (i < j) := by
  by_cases q : i < j
  · rw [decide_eq_true q, decide_eq_true (show i < j + 1 by omega)]
  · rw [decide_eq_false q, decide_eq_false (show ¬ i < j + 1 by omega)]
theorem PS_s (p : Nat) (ah : Nat → Nat) {k j s : Nat} (hj : j < p) : PS p ah k (j + 1) s = PS p ah k j s + (if s.testBit j && (subN (ah j) s && decide (andn s (2 ^ j) = k)) then WN p ah k else 0) := by
  by_cases c : s.testBit j = true ∧ subN (ah j) s = true ∧ andn s (2 ^ j) = k
  · have hs := smN_at (f := (fun n => if s.testBit n && (subN (ah n) s && (decide (andn s (2 ^ n) < k) || (decide (andn s (2 ^ n) = k) && decide (n < j + 1)))) then WN p ah (andn s (2 ^ n)) else 0)) (g := (fun n => if s.testBit n && (subN (ah n) s && (decide (andn s (2 ^ n) < k) || (decide (andn s (2 ^ n) = k) && decide (n < j)))) then WN p ah (andn s (2 ^ n)) else 0)) (j := j) (n := p) (fun i hi hne => by
      show (if s.testBit i && (subN (ah i) s && (decide (andn s (2 ^ i) < k) || (decide (andn s (2 ^ i) = k) && decide (i < j + 1)))) then WN p ah (andn s (2 ^ i)) else 0) = (if s.testBit i && (subN (ah i) s && (decide (andn s (2 ^ i) < k) || (decide (andn s (2 ^ i) = k) && decide (i < j)))) then WN p ah (andn s (2 ^ i)) else 0)
      rw [dec_ne hne]) (by
      show (if s.testBit j && (subN (ah j) s && (decide (andn s (2 ^ j) < k) || (decide (andn s (2 ^ j) = k) && decide (j < j)))) then WN p ah (andn s (2 ^ j)) else 0) = 0
      rw [c.2.2, decide_eq_false (show ¬ k < k by omega), decide_eq_false (show ¬ j < j by omega), Bool.and_false, Bool.or_false, Bool.and_false, Bool.and_false]
      rfl) hj
    have hfj : (if s.testBit j && (subN (ah j) s && (decide (andn s (2 ^ j) < k) || (decide (andn s (2 ^ j) = k) && decide (j < j + 1)))) then WN p ah (andn s (2 ^ j)) else 0) = WN p ah k := by
      rw [c.1, c.2.1, c.2.2, decide_eq_true (show k = k from rfl), decide_eq_true (show j < j + 1 by omega), decide_eq_false (show ¬ k < k by omega)]
      rfl
    unfold PS
    rw [hs, hfj, c.1, c.2.1, c.2.2, decide_eq_true (show k = k from rfl), show (true && (true && true)) = true from rfl, if_pos (show true = true from rfl)]
    omega
  · have e : (s.testBit j && (subN (ah j) s && decide (andn s (2 ^ j) = k))) = false := by
      cases h1 : s.testBit j
      · rfl
      · cases h2 : subN (ah j) s
        · rfl
        · rw [decide_eq_false (fun h3 => c ⟨h1, h2, h3⟩)]
          rfl
    have hs : smN (fun n => if s.testBit n && (subN (ah n) s && (decide (andn s (2 ^ n) < k) || (decide (andn s (2 ^ n) = k) && decide (n < j + 1)))) then WN p ah (andn s (2 ^ n)) else 0) p = smN (fun n => if s.testBit n && (subN (ah n) s && (decide (andn s (2 ^ n) < k) || (decide (andn s (2 ^ n) = k) && decide (n < j)))) then WN p ah (andn s (2 ^ n)) else 0) p := smN_cong (fun n hn => by
      show (if s.testBit n && (subN (ah n) s && (decide (andn s (2 ^ n) < k) || (decide (andn s (2 ^ n) = k) && decide (n < j + 1)))) then WN p ah (andn s (2 ^ n)) else 0) = (if s.testBit n && (subN (ah n) s && (decide (andn s (2 ^ n) < k) || (decide (andn s (2 ^ n) = k) && decide (n < j)))) then WN p ah (andn s (2 ^ n)) else 0)
      by_cases q : n = j
      · subst q
        cases h1 : s.testBit n
        · rfl
        · cases h2 : subN (ah n) s
          · rfl
          · rw [decide_eq_false (show ¬ andn s (2 ^ n) = k from fun h3 => c ⟨h1, h2, h3⟩), Bool.false_and, Bool.false_and]
      · rw [dec_ne q])
    unfold PS
    rw [hs, e, if_neg (show ¬ false = true by decide), Nat.add_zero]
theorem subN_bit {x s n : Nat} (hx : x < 2 ^ n) : subN x (s ||| 2 ^ n) = subN x s := by
  have e : andn x (s ||| 2 ^ n) = andn x s := by
    apply Nat.eq_of_testBit_eq
    intro i
    rw [andn_bit, andn_bit, Nat.testBit_or]
    by_cases q : i = n
    · subst q
      rw [Nat.testBit_lt_two_pow hx]
      rfl
    · rw [Nat.testBit_two_pow_of_ne (Ne.symm q), Bool.or_false]
  unfold subN
  rw [e]
/-- the one set that k pushes to by j -/
theorem tgt_iff {k j s : Nat} (hk : k.testBit j = false) : (s.testBit j = true ∧ andn s (2 ^ j) = k) ↔ s = k ||| 2 ^ j := by
  constructor
  · rintro ⟨h1, h2⟩
    apply Nat.eq_of_testBit_eq
    intro i
    rw [Nat.testBit_or, ← h2, andn_bit]
    by_cases q : i = j
    · subst q
      rw [h1, Nat.testBit_two_pow_self]; rfl
    · rw [Nat.testBit_two_pow_of_ne (Ne.symm q), Bool.or_false]
      cases s.testBit i <;> rfl
  · rintro rfl
    exact ⟨by rw [Nat.testBit_or, Nat.testBit_two_pow_self, Bool.or_true], or_andn hk⟩
theorem follow_C {a : Nat → Nat → Nat} {σ : St} (I : Inv a) (h : CA a (vw σ 1)) {n s : Nat} (hn : n < a 8 0) (hs : s < 2 ^ 31) : f_X2_canFollow σ (nI n) (nI s) = some (nI (if !s.testBit n && subN (a 10 n) s then 1 else 0)) := by
  have h12 := I.ps
  have hna := na_lt I hn
  have hle := andn_le (a 10 n) s
  unfold f_X2_canFollow
  simp only [has_C0 hs (show n < 31 by omega), ix_nI (show n < 2 ^ 31 by omega), ok2 (show n < 12 by omega) (show n < 2 ^ 31 by omega), if_false, cL_na h n hn, nI_andn, nI_eq0 (show andn (a 10 n) s < 2 ^ 31 by omega)]
  cases hb : s.testBit n
  · rw [if_pos rfl]
    unfold subN
    by_cases e : andn (a 10 n) s = 0
    · rw [if_pos e, e]
      rfl
    · rw [if_neg e, show (andn (a 10 n) s == 0) = false from beq_eq_false_iff_ne.mpr e]
      rfl
  · rw [if_neg (by decide)]
    rfl
theorem fill66 {nw : Nat} (hnw : nw ≤ 4096) : ∀ (k i m : Nat) (σ : St), i + k = nw → k < m → ∃ σ', f_J7_fill_53178_66_h5 nw 0 m (nI i) (nI nw) σ = some σ' ∧ (∀ c, c ≠ 66 → σ'.1 c = σ.1 c) ∧ σ'.2 = σ.2 ∧ (∀ q, i ≤ q → q < nw → σ'.1 66 q = 0) ∧ (∀ q, q < i → σ'.1 66 q = σ.1 66 q) := by
  intro k
  induction k with
  | zero =>
    intro i m σ h1 h2
    obtain ⟨m, rfl⟩ : ∃ m', m = m' + 1 := ⟨m - 1, by omega⟩
    rw [f_J7_fill_53178_66_h5, if_pos (by rw [nI_leE (by omega) (by omega)]; omega)]
    exact ⟨σ, rfl, fun _ _ => rfl, rfl, fun q h3 h4 => by omega, fun _ _ => rfl⟩
  | succ k ih =>
    intro i m σ h1 h2
    obtain ⟨m, rfl⟩ : ∃ m', m = m' + 1 := ⟨m - 1, by omega⟩
    rw [f_J7_fill_53178_66_h5, if_neg (by rw [nI_leE (by omega) (by omega)]; omega)]
    simp only [ix_nI (show i < 2 ^ 31 by omega), ok2 (show i < nw by omega) (show i < 2 ^ 31 by omega), if_false, sq, nI_s]
    obtain ⟨σ', e, e1, e2, e3, e4⟩ := ih (i + 1) m (wr σ 66 i 0) (by omega) (by omega)
    refine ⟨σ', e, fun c hc => by rw [e1 c hc, wr_ne hc], e2, fun q h3 h4 => ?_, fun q h3 => ?_⟩
    · by_cases h5 : q = i
      · subst h5
        rw [e4 q (by omega), wr_get, if_pos rfl, if_pos rfl]
      · exact e3 q (by omega) h4
    · rw [e4 q (by omega), wr_get, if_pos rfl, if_neg (by omega)]
theorem ci_43 {a : Nat → Nat → Nat} {σ : St} (I : Inv a) (hC : CA a (vw σ 1)) {nw k : Nat} (hnw : nw ≤ 4096) (hp : 2 ^ a 8 0 ≤ nw) (hk : k < 2 ^ a 8 0) (rec26 : Int32 → Int32 → St → Option (Int32 × St)) (v2 : Int32) : ∀ (d j m : Nat) (τ : St), j + d = a 8 0 → d < m → (∀ c, c ≠ 66 → τ.1 c = σ.1 c) → τ.2 = σ.2 → (∀ s, s < 2 ^ a 8 0 → τ.1 66 s = nI (PS (a 8 0) (a 10) k j s)) → ∃ τ', f_X2_countInto_66_h43 rec26 nw m v2 (nI k) (nI j) τ = rec26 v2 (nI (k + 1)) τ' ∧ (∀ c, c ≠ 66 → τ'.1 c = σ.1 c) ∧ τ'.2 = σ.2 ∧ (∀ s, s < 2 ^ a 8 0 → τ'.1 66 s = nI (PS (a 8 0) (a 10) (k + 1) 0 s)) := by
  have h12 := I.ps
  intro d
  induction d with
  | zero =>
    intro j m τ h1 h2 f1 f2 f3
    obtain ⟨m, rfl⟩ : ∃ m', m = m' + 1 := ⟨m - 1, by omega⟩
    have hj : j = a 8 0 := by omega
    subst hj
    rw [f_X2_countInto_66_h43, f1 9 (by decide), cL_ps hC, if_pos (by rw [nI_leE (by omega) (by omega)]; omega)]
    simp only [sq, nI_s]
    exact ⟨τ, rfl, f1, f2, fun s hs => by rw [f3 s hs, PS_p]⟩
  | succ d ih =>
    intro j m τ h1 h2 f1 f2 f3
    obtain ⟨m, rfl⟩ : ∃ m', m = m' + 1 := ⟨m - 1, by omega⟩
    have hj : j < a 8 0 := by omega
    have hCt : CA a (vw τ 1) := hC.cg (fun k hk => f1 (1 + k) (by omega))
    have hah := (I.nw j hj).2.1
    rw [f_X2_countInto_66_h43, f1 9 (by decide), cL_ps hC, if_neg (by rw [nI_leE (by omega) (by omega)]; omega), follow_C I hCt hj (by omega)]
    simp only [bdr, sq, nI_s, b01]
    cases hb : (!k.testBit j && subN (a 10 j) k)
    · rw [if_pos rfl]
      refine ih (j + 1) m τ (by omega) (by omega) f1 f2 (fun s hs => ?_)
      rw [f3 s hs, PS_s _ _ hj, if_neg, Nat.add_zero]
      intro c
      simp only [Bool.and_eq_true, decide_eq_true_eq] at c
      have hkj : k.testBit j = false := by
        rw [← c.2.2, andn_bit, Nat.testBit_two_pow_self]
        simp
      have hs' := (tgt_iff hkj).mp ⟨c.1, c.2.2⟩
      have c2 := c.2.1
      rw [hs', subN_bit hah] at c2
      rw [hkj, c2] at hb
      exact absurd hb (by decide)
    · rw [if_neg (by decide)]
      simp only [Bool.and_eq_true, Bool.not_eq_true'] at hb
      have hor : k ||| 2 ^ j < 2 ^ a 8 0 := Nat.or_lt_two_pow hk (Nat.pow_lt_pow_right (by decide) hj)
      simp only [isl_1 (show j < 31 by omega), nI_or, ix_nI (show k ||| 2 ^ j < 2 ^ 31 by omega), ok2 (show k ||| 2 ^ j < nw by omega) (show k ||| 2 ^ j < 2 ^ 31 by omega), ix_nI (show k < 2 ^ 31 by omega), ok2 (show k < nw by omega) (show k < 2 ^ 31 by omega), if_false]
      refine ih (j + 1) m _ (by omega) (by omega) (fun c hc => by rw [wr_ne hc, f1 c hc]) f2 (fun s hs => ?_)
      have hwk : PS (a 8 0) (a 10) k j k = WN (a 8 0) (a 10) k := by
        have : ∀ q, q ≤ a 8 0 → PS (a 8 0) (a 10) k q k = WN (a 8 0) (a 10) k := by
          intro q
          induction q with
          | zero => intro _; exact PS_w _ _ (Nat.le_refl _)
          | succ q ihq =>
            intro hq
            rw [PS_s _ _ (show q < a 8 0 by omega), ihq (by omega), if_neg, Nat.add_zero]
            intro c
            simp only [Bool.and_eq_true, decide_eq_true_eq] at c
            have := andn_lt c.1
            omega
        exact this j (by omega)
      rw [wr_get, if_pos rfl, f3 _ hor, f3 k hk, hwk, nI_k, PS_s _ _ hj]
      by_cases e : s = k ||| 2 ^ j
      · have t := (tgt_iff hb.1).mpr e
        rw [if_pos e, t.1, t.2, decide_eq_true (show k = k from rfl), e, subN_bit hah, hb.2]
        rfl
      · rw [if_neg e, f3 s hs, if_neg, Nat.add_zero]
        intro c
        simp only [Bool.and_eq_true, decide_eq_true_eq] at c
        exact e ((tgt_iff hb.1).mp ⟨c.1, c.2.2⟩)
theorem PS_zero {p : Nat} {ah : Nat → Nat} {k s : Nat} (h : nI (WN p ah k) = 0) : nI (PS p ah k 0 s) = nI (PS p ah (k + 1) 0 s) := by
  have : ∀ q, q ≤ p → nI (PS p ah k 0 s) = nI (PS p ah k q s) := by
    intro q
    induction q with
    | zero => intro _; rfl
    | succ q ih =>
      intro hq
      rw [PS_s _ _ (show q < p by omega), ih (by omega), ← nI_add]
      split
      · rw [h, Int32.add_zero]
      · exact (nI_p0 _).symm
  rw [this p (Nat.le_refl _), PS_p]
theorem ci_26 {a : Nat → Nat → Nat} {σ : St} (I : Inv a) (hC : CA a (vw σ 1)) {nw : Nat} (hnw : nw ≤ 4096) (hp : 2 ^ a 8 0 ≤ nw) : ∀ (d k m : Nat) (τ : St), k + d = 2 ^ a 8 0 → d < m → (∀ c, c ≠ 66 → τ.1 c = σ.1 c) → τ.2 = σ.2 → (∀ s, s < 2 ^ a 8 0 → τ.1 66 s = nI (PS (a 8 0) (a 10) k 0 s)) → ∃ τ', f_X2_countInto_66_h26 nw m (nI (2 ^ a 8 0)) (nI k) τ = some (nI (ordN (a 8 0) (a 10)), τ') ∧ (∀ c, c ≠ 66 → τ'.1 c = σ.1 c) ∧ τ'.2 = σ.2 := by
  have h12 := I.ps
  have hpos : 0 < 2 ^ a 8 0 := Nat.two_pow_pos _
  intro d
  induction d with
  | zero =>
    intro k m τ h1 h2 f1 f2 f3
    obtain ⟨m, rfl⟩ : ∃ m', m = m' + 1 := ⟨m - 1, by omega⟩
    rw [f_X2_countInto_66_h26, if_pos (by rw [nI_leE (by omega) (by omega)]; omega), show nI (2 ^ a 8 0) - 1 = nI (2 ^ a 8 0 - 1) from nI_m (a := 2 ^ a 8 0) (b := 1) hpos]
    simp only [ix_nI (show 2 ^ a 8 0 - 1 < 2 ^ 31 by omega), ok2 (show 2 ^ a 8 0 - 1 < nw by omega) (show 2 ^ a 8 0 - 1 < 2 ^ 31 by omega), if_false]
    refine ⟨τ, ?_, f1, f2⟩
    rw [f3 _ (by omega), PS_w _ _ (by omega)]
    unfold WN ordN
    rw [show 2 ^ a 8 0 - 1 + 1 = 2 ^ a 8 0 by omega]
  | succ d ih =>
    intro k m τ h1 h2 f1 f2 f3
    obtain ⟨m, rfl⟩ : ∃ m', m = m' + 1 := ⟨m - 1, by omega⟩
    have hk : k < 2 ^ a 8 0 := by omega
    rw [f_X2_countInto_66_h26, if_neg (by rw [nI_leE (by omega) (by omega)]; omega)]
    simp only [ix_nI (show k < 2 ^ 31 by omega), ok2 (show k < nw by omega) (show k < 2 ^ 31 by omega), if_false, sq, nI_s, f3 k hk]
    rw [PS_w _ _ (Nat.le_refl k)]
    by_cases e : nI (WN (a 8 0) (a 10) k) = 0
    · rw [if_pos e]
      exact ih (k + 1) m τ (by omega) (by omega) f1 f2 (fun s hs => by rw [f3 s hs, PS_zero e])
    · rw [if_neg e]
      obtain ⟨τ', t1, t2, t3, t4⟩ := ci_43 I hC hnw hp hk (f_X2_countInto_66_h26 nw m) (nI (2 ^ a 8 0)) (a 8 0) 0 FU τ (by omega) (by unfold FU; omega) f1 f2 f3
      obtain ⟨τ2, s1, s2, s3⟩ := ih (k + 1) m τ' (by omega) (by omega) t2 t3 t4
      exact ⟨τ2, Eq.trans t1 s1, s2, s3⟩
theorem cO2 {a : Nat → Nat → Nat} {σ : St} (I : Inv a) (hC : CA a (vw σ 1)) {nw : Nat} (hnw : nw ≤ 4096) (hp : 2 ^ a 8 0 ≤ nw) : ∃ τ, f_cO2 nw σ = some (nI (ordN (a 8 0) (a 10)), nw, wr τ 9 1 (nI (ordN (a 8 0) (a 10)))) ∧ (∀ c, c ≠ 66 → τ.1 c = σ.1 c) ∧ τ.2 = σ.2 := by
  have h12 := I.ps
  have hpos : 0 < 2 ^ a 8 0 := Nat.two_pow_pos _
  unfold f_cO2 f_X2_countInto_66 f_J7_fill_53178_66
  simp only [sq]
  rw [cL_ps hC, isl_1 (by omega), show Int32.ofNat nw = nI nw from rfl, if_pos (by rw [nI_leE (by omega) (by omega)]; exact hp)]
  obtain ⟨σ1, e, e1, e2, e3, -⟩ := fill66 hnw nw 0 FU σ (by omega) (by unfold FU; omega)
  have e' : f_J7_fill_53178_66_h5 nw 0 FU 0 (nI nw) σ = some σ1 := e
  rw [e']
  simp only [bdr, show ix 0 = 0 by decide]
  rw [if_neg (by rintro (q | q); exact absurd q (by decide); omega)]
  obtain ⟨τ, t1, t2, t3⟩ := ci_26 I hC hnw hp (2 ^ a 8 0) 0 FU (wr σ1 66 0 1) (by omega) (by unfold FU; omega) (fun c hc => by rw [wr_ne hc, e1 c hc]) (by rw [← e2]; rfl) (fun s hs => by
    rw [PS_0, wr_get, if_pos rfl]
    by_cases q : s = 0
    · rw [if_pos q, if_pos q]; rfl
    · rw [if_neg q, if_neg q, e3 s (by omega) (by omega)]; rfl)
  have t1' : f_X2_countInto_66_h26 nw FU (nI (2 ^ a 8 0)) 0 (wr σ1 66 0 1) = some (nI (ordN (a 8 0) (a 10)), τ) := t1
  rw [t1']
  simp only [bdp, wr_at]
  exact ⟨τ, rfl, t2, t3⟩
