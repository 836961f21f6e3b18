theorem m141 (a b : Nat) : (141 : Int32) * nI a + nI b = nI (141 * a + b) := by rw [show (141 : Int32) = nI 141 from rfl, pk_mul, nI_k]
theorem note_52 {v : Nat} (hv : v < 10) : ∀ (k i m : Nat) (μ : St), i + k = 141 → k < m → μ.1 0 17 = nI v → ∃ μ', f_X7_note_h52 m (nI i) μ = some μ' ∧ (∀ c, c ≠ 0 → c ≠ 10 → μ'.1 c = μ.1 c) ∧ (∀ f, f ≠ 17 → μ'.1 0 f = μ.1 0 f) ∧ μ'.2 = μ.2 ∧ μ'.1 0 17 = nI (v + 1) ∧ (∀ q, i ≤ q → q < 141 → μ'.1 10 (141 * v + q) = μ.1 9 q) ∧ (∀ p, p < 141 * v + i → μ'.1 10 p = μ.1 10 p) := by
  intro k
  induction k with
  | zero =>
    intro i m μ h1 h2 hu
    obtain ⟨m, rfl⟩ : ∃ m', m = m' + 1 := ⟨m - 1, by omega⟩
    rw [f_X7_note_h52, if_pos (by rw [show (141 : Int32) = nI 141 from rfl, nI_leE (by omega) (by omega)]; omega)]
    simp only [sq, hu, nI_s]
    refine ⟨_, rfl, fun c c1 c2 => wr_ne c1, fun f hf => ?_, rfl, ?_, fun q h3 h4 => by omega, fun p hp => ?_⟩
    · rw [wr_get, if_pos rfl, if_neg hf]
    · rw [wr_get, if_pos rfl, if_pos rfl]
    · rw [wr_ne (by decide)]
  | succ k ih =>
    intro i m μ h1 h2 hu
    obtain ⟨m, rfl⟩ : ∃ m', m = m' + 1 := ⟨m - 1, by omega⟩
    rw [f_X7_note_h52, if_neg (by rw [show (141 : Int32) = nI 141 from rfl, nI_leE (by omega) (by omega)]; omega)]
    simp only [hu, m141, ix_nI (show i < 2 ^ 31 by omega), ok2 (show i < 141 by omega) (show i < 2 ^ 31 by omega), ix_nI (show 141 * v + i < 2 ^ 31 by omega), ok2 (show 141 * v + i < 1410 by omega) (show 141 * v + i < 2 ^ 31 by omega), if_false, sq, nI_s]
    obtain ⟨μ', e, e1, e2, e3, e4, e5, e6⟩ := ih (i + 1) m (wr μ 10 (141 * v + i) (μ.1 9 i)) (by omega) (by omega) (by rw [wr_ne (by decide), hu])
    refine ⟨μ', e, fun c c1 c2 => by rw [e1 c c1 c2, wr_ne c2], fun f hf => by rw [e2 f hf, wr_ne (by decide)], e3, e4, fun q h3 h4 => ?_, fun p hp => ?_⟩
    · by_cases h5 : q = i
      · subst h5
        rw [e6 _ (by omega), wr_get, if_pos rfl, if_pos rfl]
      · rw [e5 q (by omega) h4, wr_ne (by decide)]
    · rw [e6 p (by omega), wr_get, if_pos rfl, if_neg (by omega)]
theorem note_11 : ∀ (k i m : Nat) (μ : St), i + k = 1269 → k < m → ∃ μ', f_X7_note_h11 m (nI i) μ = f_X7_note_h52 FU 0 (wr μ' 0 17 (μ'.1 0 17 - 1)) ∧ (∀ c, c ≠ 10 → μ'.1 c = μ.1 c) ∧ μ'.2 = μ.2 ∧ (∀ q, i ≤ q → q < 1269 → μ'.1 10 q = μ.1 10 (q + 141)) ∧ (∀ p, (p < i ∨ 1269 ≤ p) → μ'.1 10 p = μ.1 10 p) := by
  intro k
  induction k with
  | zero =>
    intro i m μ h1 h2
    obtain ⟨m, rfl⟩ : ∃ m', m = m' + 1 := ⟨m - 1, by omega⟩
    rw [f_X7_note_h11, if_pos (by rw [show (1269 : Int32) = nI 1269 from rfl, nI_leE (by omega) (by omega)]; omega)]
    exact ⟨μ, rfl, fun _ _ => rfl, rfl, fun q h3 h4 => by omega, fun _ _ => rfl⟩
  | succ k ih =>
    intro i m μ h1 h2
    obtain ⟨m, rfl⟩ : ∃ m', m = m' + 1 := ⟨m - 1, by omega⟩
    rw [f_X7_note_h11, if_neg (by rw [show (1269 : Int32) = nI 1269 from rfl, nI_leE (by omega) (by omega)]; omega)]
    simp only [show nI i + 141 = nI (i + 141) from nI_add i 141, ix_nI (show i < 2 ^ 31 by omega), ok2 (show i < 1410 by omega) (show i < 2 ^ 31 by omega), ix_nI (show i + 141 < 2 ^ 31 by omega), ok2 (show i + 141 < 1410 by omega) (show i + 141 < 2 ^ 31 by omega), if_false, sq, nI_s]
    obtain ⟨μ', e, e1, e2, e3, e4⟩ := ih (i + 1) m (wr μ 10 i (μ.1 10 (i + 141))) (by omega) (by omega)
    refine ⟨μ', e, fun c c1 => by rw [e1 c c1, wr_ne c1], e2, fun q h3 h4 => ?_, fun p hp => ?_⟩
    · by_cases h5 : q = i
      · subst h5
        rw [e4 _ (by omega), wr_get, if_pos rfl, if_pos rfl]
      · rw [e3 q (by omega) h4, wr_get, if_pos rfl, if_neg (by omega)]
    · rw [e4 p (by omega), wr_get, if_pos rfl, if_neg (by omega)]
theorem note_M {a : Nat → Nat → Nat} (I : Inv a) {μ : St} (h : μ.1 0 17 = nI (a 0 9)) : ∃ μ', f_X7_note μ = some μ' ∧ (∀ c, c ≠ 0 → c ≠ 10 → μ'.1 c = μ.1 c) ∧ (∀ f, f ≠ 17 → μ'.1 0 f = μ.1 0 f) ∧ μ'.2 = μ.2 ∧ μ'.1 0 17 = nI (uV a + 1) ∧ (∀ q, q < 141 → μ'.1 10 (141 * uV a + q) = μ.1 9 q) ∧ (∀ j q, j < uV a → q < 141 → μ'.1 10 (141 * j + q) = μ.1 10 (141 * (j + uD a) + q)) := by
  have hu := I.un
  unfold f_X7_note uV uD
  simp only [h, show (10 : Int32) = nI 10 from rfl, nI_eqE (show a 0 9 < 2 ^ 31 by omega) (show 10 < 2 ^ 31 by decide)]
  by_cases q : a 0 9 = 10
  · simp only [q, if_true]
    obtain ⟨μ1, s1, s2, s3, s4, s5⟩ := note_11 1269 0 FU μ (by omega) (by unfold FU; omega)
    have hu1 : μ1.1 0 17 - 1 = nI 9 := by rw [s2 0 (by decide), h, q]; decide
    obtain ⟨μ2, t1, t2, t3, t4, t5, t6, t7⟩ := note_52 (v := 9) (by decide) 141 0 FU (wr μ1 0 17 (μ1.1 0 17 - 1)) (by omega) (by unfold FU; omega) (by rw [wr_get, if_pos rfl, if_pos rfl, hu1])
    refine ⟨μ2, Eq.trans s1 t1, fun c c1 c2 => by rw [t2 c c1 c2, wr_ne c1, s2 c c2], fun f hf => by rw [t3 f hf, wr_get, if_pos rfl, if_neg hf, s2 0 (by decide)], by rw [t4]; exact s3, t5, fun q hq => by rw [t6 q (by omega) hq, wr_ne (by decide), s2 9 (by decide)], fun j q hj hq => ?_⟩
    rw [t7 _ (by omega), wr_ne (by decide), s4 _ (by omega) (by omega), show 141 * j + q + 141 = 141 * (j + 1) + q by omega]
  · simp only [q, if_false]
    obtain ⟨μ2, t1, t2, t3, t4, t5, t6, t7⟩ := note_52 (v := a 0 9) (by omega) 141 0 FU μ (by omega) (by unfold FU; omega) h
    exact ⟨μ2, t1, t2, t3, t4, t5, fun q hq => t6 q (by omega) hq, fun j q hj hq => by rw [t7 _ (by omega)]; rfl⟩
theorem uVD {a : Nat → Nat → Nat} (I : Inv a) : uV a + uD a = a 0 9 ∧ uV a ≤ 9 ∧ uD a ≤ 1 := by
  have hu := I.un
  unfold uV uD
  by_cases q : a 0 9 = 10
  · rw [if_pos q, if_pos q]; omega
  · rw [if_neg q, if_neg q]; omega
/-- the parish behind a reading -/
def aR (a : Nat → Nat → Nat) (n F R : Nat) : Nat → Nat → Nat := fun k =>
  if k = 0 then (fun f => if f = 8 then a 0 8 + 1 else if f = 9 then uV a + 1 else a 0 f)
  else if k = 5 then (fun i => if F.testBit i then a 5 i ||| 2 ^ n else a 5 i)
  else if k = 6 then (fun i => if R.testBit i then a 6 i + 1 else a 6 i)
  else if k = 7 then (fun z => if z % 12 = n ∧ F.testBit (z / 12) = true then a 0 8 else a 7 z)
  else if k = 15 then (fun j => if j = uV a then n else a 15 (j + uD a))
  else if k = 16 then (fun j => if j = uV a then F else a 16 (j + uD a))
  else if k = 17 then (fun j => if j = uV a then R else a 17 (j + uD a))
  else a k
theorem or_andn {x n : Nat} (h : x.testBit n = false) : andn (x ||| 2 ^ n) (2 ^ n) = x := by
  apply Nat.eq_of_testBit_eq
  intro i
  rw [andn_bit, Nat.testBit_or]
  by_cases e : i = n
  · subst e
    rw [h, Nat.testBit_two_pow_self]; rfl
  · rw [Nat.testBit_two_pow_of_ne (Ne.symm e)]
    cases x.testBit i <;> rfl
theorem or_has {x n : Nat} (h : x.testBit n = true) : x ||| 2 ^ n = x := by
  apply Nat.eq_of_testBit_eq
  intro i
  rw [Nat.testBit_or]
  by_cases e : i = n
  · subst e
    rw [h]; rfl
  · rw [Nat.testBit_two_pow_of_ne (Ne.symm e)]
    cases x.testBit i <;> rfl
theorem aR_hd {a : Nat → Nat → Nat} (I : Inv a) {n F R i : Nat} (hF : F.testBit i = true → (a 5 i).testBit n = false) : ∀ t, t ≤ uV a → hdT (aR a n F R) (t + 1) i = hdT a t i
  | 0, _ => by
    show (if ((if uV a + 1 - 1 - 0 = uV a then F else a 16 (uV a + 1 - 1 - 0 + uD a))).testBit i then andn (if F.testBit i then a 5 i ||| 2 ^ n else a 5 i) (2 ^ (if uV a + 1 - 1 - 0 = uV a then n else a 15 (uV a + 1 - 1 - 0 + uD a))) else (if F.testBit i then a 5 i ||| 2 ^ n else a 5 i)) = a 5 i
    rw [if_pos (show uV a + 1 - 1 - 0 = uV a by omega), if_pos (show uV a + 1 - 1 - 0 = uV a by omega)]
    by_cases hb : F.testBit i = true
    · rw [if_pos hb, if_pos hb, or_andn (hF hb)]
    · rw [if_neg hb, if_neg hb]
  | t + 1, ht => by
    have ih := aR_hd I (R := R) hF t (by omega)
    have hu := uVD I
    show (if ((if uV a + 1 - 1 - (t + 1) = uV a then F else a 16 (uV a + 1 - 1 - (t + 1) + uD a))).testBit i then andn (hdT (aR a n F R) (t + 1) i) (2 ^ (if uV a + 1 - 1 - (t + 1) = uV a then n else a 15 (uV a + 1 - 1 - (t + 1) + uD a))) else hdT (aR a n F R) (t + 1) i) = (if (a 16 (a 0 9 - 1 - t)).testBit i then andn (hdT a t i) (2 ^ a 15 (a 0 9 - 1 - t)) else hdT a t i)
    rw [if_neg (show ¬ uV a + 1 - 1 - (t + 1) = uV a by omega), if_neg (show ¬ uV a + 1 - 1 - (t + 1) = uV a by omega), ih, show uV a + 1 - 1 - (t + 1) + uD a = a 0 9 - 1 - t by omega]
theorem aR_wg {a : Nat → Nat → Nat} (I : Inv a) {n F R i : Nat} : ∀ t, t ≤ uV a → wgT (aR a n F R) (t + 1) i = wgT a t i
  | 0, _ => by
    show (if ((if uV a + 1 - 1 - 0 = uV a then R else a 17 (uV a + 1 - 1 - 0 + uD a))).testBit i then (if R.testBit i then a 6 i + 1 else a 6 i) - 1 else (if R.testBit i then a 6 i + 1 else a 6 i)) = a 6 i
    rw [if_pos (show uV a + 1 - 1 - 0 = uV a by omega)]
    by_cases hb : R.testBit i = true
    · rw [if_pos hb, if_pos hb]; omega
    · rw [if_neg hb, if_neg hb]
  | t + 1, ht => by
    have ih := aR_wg I (n := n) (F := F) (R := R) (i := i) t (by omega)
    have hu := uVD I
    show (if ((if uV a + 1 - 1 - (t + 1) = uV a then R else a 17 (uV a + 1 - 1 - (t + 1) + uD a))).testBit i then (wgT (aR a n F R) (t + 1) i) - 1 else wgT (aR a n F R) (t + 1) i) = (if (a 17 (a 0 9 - 1 - t)).testBit i then wgT a t i - 1 else wgT a t i)
    rw [if_neg (show ¬ uV a + 1 - 1 - (t + 1) = uV a by omega), ih, show uV a + 1 - 1 - (t + 1) + uD a = a 0 9 - 1 - t by omega]
