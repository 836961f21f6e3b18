theorem nI_2 (n : Nat) : nI n + 2 = nI (n + 2) := nI_add n 2
theorem nI_3 (n : Nat) : nI n + 3 = nI (n + 3) := nI_add n 3
theorem m3I (n : Nat) : (3 : Int32) * nI n = nI (3 * n) := pk_mul 3 n
theorem m36 (a b : Nat) : (36 : Int32) * nI a + nI b = nI (36 * a + b) := by rw [show (36 : Int32) = nI 36 from rfl, pk_mul, nI_k]
def rdQ (a : Nat → Nat → Nat) (f : Nat → Int64) (p : Nat) : Prop := (0 ≤ (f p).toInt ∧ (f p).toInt < a 0 2) ∧ (0 ≤ (f (p + 1)).toInt ∧ (f (p + 1)).toInt < 36) ∧ (0 ≤ (f (p + 2)).toInt ∧ (f (p + 2)).toInt < a 8 0)
theorem L_of {y : Int64} {n : Nat} (h : 0 ≤ y.toInt ∧ y.toInt < n) (hn : n < 2 ^ 31) : y.toInt32 = nI y.toInt.toNat ∧ y.toInt.toNat < n := by
  refine ⟨Int32.toInt_inj.mp ?_, by omega⟩
  rw [lit_T _ (by omega), Int64.toInt_toInt32, fb_bmod (by omega) (by omega)]
  omega
theorem rd_l {a : Nat → Nat → Nat} {σ μ : St} (I : Inv a) (hC : CA a (vw σ 1)) (hM : MA a (ul μ)) {j l o n : Nat} (hj : j < 4) (ho : o + 3 * n ≤ 36) (a5 : ∀ i, i < 36 → σ.2 (54 + 2 * j) i = μ.2 19 (36 * j + i)) : ∀ (k q m : Nat), q + k = n → k < m → ∃ r, f_X6_refusalOfReadings_h50 σ (nI j) (nI l) (nI o) (nI n) m (nI (o + 3 * q)) = some r ∧ f_X7_lacksReadings_h24 μ (nI j) (nI l) (nI o) (nI n) m 0 (nI (36 * j + o)) (nI q) = some r ∧ ((r = 0 ∧ ∀ u, q ≤ u → u < n → rdQ a (σ.2 (54 + 2 * j)) (o + 3 * u)) ∨ r = -2) := by
  intro k
  induction k with
  | zero =>
    intro q m h1 h2
    obtain ⟨m, rfl⟩ : ∃ m', m = m' + 1 := ⟨m - 1, by omega⟩
    rw [f_X6_refusalOfReadings_h50, f_X7_lacksReadings_h24, m3I, nI_k, if_pos (by rw [nI_leE (by omega) (by omega)]; omega), if_pos (by rw [nI_leE (by omega) (by omega)]; omega)]
    exact ⟨0, rfl, rfl, Or.inl ⟨rfl, fun u h3 h4 => by omega⟩⟩
  | succ k ih =>
    intro q m h1 h2
    obtain ⟨m, rfl⟩ : ∃ m', m = m' + 1 := ⟨m - 1, by omega⟩
    have hle1 : ¬ nI (o + 3 * n) ≤ nI (o + 3 * q) := by rw [nI_leE (by omega) (by omega)]; omega
    have hle2 : ¬ nI n ≤ nI q := by rw [nI_leE (by omega) (by omega)]; omega
    rw [f_X6_refusalOfReadings_h50, f_X7_lacksReadings_h24, m3I n, nI_k, if_neg hle1, if_neg hle2]
    simp only [m3I, nI_k, nI_s, nI_2, nI_3, ix_nI (show j < 2 ^ 31 by omega), ix_nI (show o + 3 * q < 2 ^ 31 by omega), ix_nI (show o + 3 * q + 1 < 2 ^ 31 by omega), ix_nI (show o + 3 * q + 2 < 2 ^ 31 by omega), ix_nI (show 36 * j + o + 3 * q < 2 ^ 31 by omega), ix_nI (show 36 * j + o + 3 * q + 1 < 2 ^ 31 by omega), ix_nI (show 36 * j + o + 3 * q + 2 < 2 ^ 31 by omega), ok2 (show o + 3 * q < 36 by omega) (show o + 3 * q < 2 ^ 31 by omega), ok2 (show o + 3 * q + 1 < 36 by omega) (show o + 3 * q + 1 < 2 ^ 31 by omega), ok2 (show o + 3 * q + 2 < 36 by omega) (show o + 3 * q + 2 < 2 ^ 31 by omega), ok2 (show 36 * j + o + 3 * q < 144 by omega) (show 36 * j + o + 3 * q < 2 ^ 31 by omega), ok2 (show 36 * j + o + 3 * q + 1 < 144 by omega) (show 36 * j + o + 3 * q + 1 < 2 ^ 31 by omega), ok2 (show 36 * j + o + 3 * q + 2 < 144 by omega) (show 36 * j + o + 3 * q + 2 < 2 ^ 31 by omega), if_false, if_true, sq, isReading_C0 I hC, isReading_M0 I hM]
    have e0 : μ.2 19 (36 * j + o + 3 * q) = σ.2 (54 + 2 * j) (o + 3 * q) := by rw [show 36 * j + o + 3 * q = 36 * j + (o + 3 * q) by omega, a5 (o + 3 * q) (by omega)]
    have e1 : μ.2 19 (36 * j + o + 3 * q + 1) = σ.2 (54 + 2 * j) (o + 3 * q + 1) := by rw [show 36 * j + o + 3 * q + 1 = 36 * j + (o + 3 * q + 1) by omega, a5 (o + 3 * q + 1) (by omega)]
    have e2 : μ.2 19 (36 * j + o + 3 * q + 2) = σ.2 (54 + 2 * j) (o + 3 * q + 2) := by rw [show 36 * j + o + 3 * q + 2 = 36 * j + (o + 3 * q + 2) by omega, a5 (o + 3 * q + 2) (by omega)]
    rw [e0, e1, e2]
    by_cases v : rdQ a (σ.2 (54 + 2 * j)) (o + 3 * q)
    · have v' := v
      unfold rdQ at v'
      rw [if_neg (not_not_intro v'), if_neg (not_not_intro v')]
      obtain ⟨r, c, mm, hr⟩ := ih (q + 1) m (by omega) (by omega)
      rw [show o + 3 * q + 3 = o + 3 * (q + 1) by omega]
      refine ⟨r, c, mm, ?_⟩
      rcases hr with ⟨hr, hu⟩ | hr
      · refine Or.inl ⟨hr, fun u h3 h4 => ?_⟩
        by_cases h5 : u = q
        · subst h5
          exact v
        · exact hu u (by omega) h4
      · exact Or.inr hr
    · have v' := v
      unfold rdQ at v'
      rw [if_pos v', if_pos v']
      obtain ⟨m, rfl⟩ : ∃ m', m = m' + 1 := ⟨m - 1, by omega⟩
      refine ⟨-2, rfl, ?_, Or.inr rfl⟩
      rw [f_X7_lacksReadings_h24]
      by_cases w : nI n ≤ nI (q + 1)
      · rw [if_pos w]
      · rw [if_neg w, if_neg (by decide)]
theorem reads_r {a : Nat → Nat → Nat} {σ μ : St} (I : Inv a) (hC : CA a (vw σ 1)) (hM : MA a (ul μ)) {j l n : Nat} (hs : Rsh1 σ μ j) (hj : j < 4) (hl : l < 4) (h1 : 1 ≤ n) (h2 : n ≤ 12) (x : Int32) : ∃ r, f_X6_refusalOfReadings σ (nI j) (nI l) x (nI n) = some r ∧ f_X7_lacksReadings μ (nI j) (nI l) x (nI n) = some r ∧ (r = 0 ∨ r < 0) ∧ (r = 0 → (∀ i, i < 36 → σ.2 (54 + 2 * j) i = μ.2 19 (36 * j + i)) ∧ ∃ o, x = nI o ∧ o + 3 * n ≤ 36 ∧ ∀ u, u < n → rdQ a (σ.2 (54 + 2 * j)) (o + 3 * u)) := by
  unfold f_X6_refusalOfReadings f_X7_lacksReadings
  obtain ⟨r, hc, hm, hr, h0⟩ := refuse hs hj hl (w := 3 * n) (by omega) x
  rw [if_neg (by rw [show (1 : Int32) = nI 1 from rfl, nI_ltE (by omega) (by omega)]; omega), if_pos (by rw [show (12 : Int32) = nI 12 from rfl, nI_leE (by omega) (by omega)]; omega), m3I, hc, hm]
  simp only [bdr, sq]
  by_cases q : r = 0
  · obtain ⟨a1, a2, a3, a4, z, o, hz, a5, a6, rfl, ho⟩ := h0 q
    subst q
    rw [if_pos rfl]
    simp only [ix_nI (show j < 2 ^ 31 by omega), ok2 hj (show j < 2 ^ 31 by omega), if_false, m36]
    obtain ⟨r, c, mm, hr⟩ := rd_l I hC hM (l := l) hj (show o + 3 * n ≤ 36 by omega) a4 n 0 FU (by omega) (by unfold FU; omega)
    refine ⟨r, c, mm, ?_, fun e => ⟨a4, o, rfl, by omega, ?_⟩⟩
    · rcases hr with ⟨hr, -⟩ | hr
      · exact Or.inl hr
      · exact Or.inr (by rw [hr]; decide)
    · rcases hr with ⟨-, hu⟩ | hr
      · exact fun u h3 => hu u (by omega) h3
      · rw [hr] at e
        exact absurd e (by decide)
  · refine ⟨r, by rw [if_neg q], ?_, ?_, fun e => absurd e q⟩
    · rw [show FU = 99999 + 1 from rfl, f_X7_lacksReadings_h24]
      by_cases w : nI n ≤ 0
      · rw [if_pos w]
      · rw [if_neg w, if_neg q]
    · rcases hr with hr | hr | hr | hr
      · exact absurd hr q
      · exact Or.inr (by rw [hr]; decide)
      · exact Or.inr (by rw [hr]; decide)
      · exact Or.inr (by rw [hr]; decide)
theorem reads_bad {σ : St} {x y z w : Int32} (h : ¬ (((0 ≤ x.toInt ∧ x.toInt < 4) ∧ (0 ≤ y.toInt ∧ y.toInt < 4)) ∧ (1 ≤ w.toInt ∧ w.toInt ≤ 12))) : f_X6_refusalOfReadings σ x y z w = some (-1) := by
  unfold f_X6_refusalOfReadings
  simp only [lt_T, le_T, show (1 : Int32).toInt = 1 by decide, show (12 : Int32).toInt = 12 by decide]
  by_cases c1 : w.toInt < 1
  · rw [if_pos c1]
  · rw [if_neg c1]
    by_cases c2 : w.toInt ≤ 12
    · rw [if_pos c2, ref_bad (fun c => h ⟨c, by omega⟩)]
      rfl
    · rw [if_neg c2]
theorem note_C {H w G : Nat} (hH : H < 2 ^ 31) (hw : w < 12) (F : Nat → Nat) : ∀ (k i m : Nat) (σ : St), i + k = 10 → k < m → (∀ g, g < G → σ.1 61 g = nI (if g < i then (if H.testBit g then F g ||| 2 ^ w else F g) else F g)) → G ≤ 10 → ∃ σ', f_X6_noteHeard_61_h2 (nI H) (nI w) m (nI i) σ = some σ' ∧ (∀ c, c ≠ 61 → σ'.1 c = σ.1 c) ∧ σ'.2 = σ.2 ∧ ∀ g, g < G → σ'.1 61 g = nI (if H.testBit g then F g ||| 2 ^ w else F g) := by
  intro k
  induction k with
  | zero =>
    intro i m σ h1 h2 hF hG
    obtain ⟨m, rfl⟩ : ∃ m', m = m' + 1 := ⟨m - 1, by omega⟩
    rw [f_X6_noteHeard_61_h2, if_pos (by rw [show (10 : Int32) = nI 10 from rfl, nI_leE (by omega) (by omega)]; omega)]
    refine ⟨σ, rfl, fun _ _ => rfl, rfl, fun g hg => ?_⟩
    rw [hF g hg, if_pos (by omega)]
  | succ k ih =>
    intro i m σ h1 h2 hF hG
    obtain ⟨m, rfl⟩ : ∃ m', m = m' + 1 := ⟨m - 1, by omega⟩
    rw [f_X6_noteHeard_61_h2, if_neg (by rw [show (10 : Int32) = nI 10 from rfl, nI_leE (by omega) (by omega)]; omega)]
    simp only [has_C0 hH (show i < 31 by omega), ix_nI (show i < 2 ^ 31 by omega), ok2 (show i < 10 by omega) (show i < 2 ^ 31 by omega), if_false, sq, nI_s, isl_1 (show w < 31 by omega)]
    cases hb : H.testBit i
    · rw [if_pos rfl]
      refine ih (i + 1) m σ (by omega) (by omega) (fun g hg => ?_) hG
      rw [hF g hg]
      by_cases e : g = i
      · subst e
        rw [if_neg (by omega), if_pos (by omega), hb]
        rfl
      · by_cases e2 : g < i
        · rw [if_pos e2, if_pos (show g < i + 1 by omega)]
        · rw [if_neg e2, if_neg (show ¬ g < i + 1 by omega)]
    · rw [if_neg (by decide)]
      obtain ⟨σ', c1, c2, c3, c4⟩ := ih (i + 1) m (wr σ 61 i (σ.1 61 i ||| nI (2 ^ w))) (by omega) (by omega) (fun g hg => by
        rw [wr_get, if_pos rfl]
        by_cases e : g = i
        · subst e
          rw [if_pos rfl, if_pos (by omega), hb, if_pos rfl, hF g hg, if_neg (by omega), nI_or]
        · rw [if_neg e, hF g hg]
          by_cases e2 : g < i
          · rw [if_pos e2, if_pos (show g < i + 1 by omega)]
          · rw [if_neg e2, if_neg (show ¬ g < i + 1 by omega)]) hG
      exact ⟨σ', c1, fun c hc => by rw [c2 c hc, wr_ne hc], c3, c4⟩
def tN (f : Nat → Int64) (p : Nat) : Nat := (f p).toInt.toNat
def hrK (a : Nat → Nat → Nat) (f : Nat → Int64) (o k : Nat) : Nat := hearN a (tN f (o + 3 * k)) (tN f (o + 3 * k + 1)) (a 0 4)
/-- what a grave has heard after k readings of a sheet -/
def hdK (a : Nat → Nat → Nat) (f : Nat → Int64) (o : Nat) (b : Nat → Nat) : Nat → Nat → Nat
  | 0, g => b g
  | k + 1, g => if (hrK a f o k).testBit g then hdK a f o b k g ||| 2 ^ tN f (o + 3 * k + 2) else hdK a f o b k g
theorem rdQ.r {a : Nat → Nat → Nat} {f : Nat → Int64} {p : Nat} (I : Inv a) (h : rdQ a f p) : ((f p).toInt32 = nI (tN f p) ∧ tN f p < a 0 2) ∧ ((f (p + 1)).toInt32 = nI (tN f (p + 1)) ∧ tN f (p + 1) < 36) ∧ ((f (p + 2)).toInt32 = nI (tN f (p + 2)) ∧ tN f (p + 2) < a 8 0) := by
  have h4 := I.rd
  have h12 := I.ps
  exact ⟨L_of h.1 (by omega), L_of (n := 36) h.2.1 (by omega), L_of h.2.2 (by omega)⟩
theorem hdK_lt {a : Nat → Nat → Nat} {f : Nat → Int64} {o n : Nat} {b : Nat → Nat} (I : Inv a) (hq : ∀ u, u < n → rdQ a f (o + 3 * u)) {g : Nat} (hb : b g < 4096) : ∀ k, k ≤ n → hdK a f o b k g < 4096
  | 0, _ => hb
  | k + 1, hk => by
    have ih := hdK_lt I hq hb k (by omega)
    have h12 := I.ps
    have h3 := ((hq k (by omega)).r I).2.2.2
    unfold hdK
    split
    · exact Nat.or_lt_two_pow (n := 12) ih (Nat.pow_lt_pow_right (by decide) (by omega))
    · exact ih
theorem RR.scr {σ σ' μ μ' : St} {nw : Nat} (h : RR σ nw μ) (fc : ∀ c, c ≤ 36 → σ'.1 c = σ.1 c) (f37 : σ'.1 37 0 = σ.1 37 0) (f38 : σ'.1 38 = σ.1 38) (fs : ∀ j, j < 4 → σ'.1 (53 + 2 * j) = σ.1 (53 + 2 * j)) (f2 : σ'.2 = σ.2) (g0 : ∀ f, f ≠ 20 → f ≠ 21 → μ'.1 0 f = μ.1 0 f) (gm : ∀ c, 1 ≤ c → c ≤ 11 → μ'.1 c = μ.1 c) (g16 : μ'.1 16 = μ.1 16) (g17 : μ'.1 17 = μ.1 17) (g18 : μ'.1 18 = μ.1 18) (g2 : μ'.2 19 = μ.2 19) : RR σ' nw μ' := by
  obtain ⟨-, -, ht, hs, hn⟩ := id h
  refine h.oth fc (fun f h1 h2 h3 => g0 f h2 h3) (fun c h1 h2 => gm c h1 (by omega)) g16 (ht.fr f37 f38 (g0 19 (by decide) (by decide)) (gm 11 (by decide) (by decide))) (fun j hj => ?_) hn
  exact (hs j hj).fr (fs j hj) (by rw [f2]) (by rw [g17]) (by rw [g18]) (fun i hi => by rw [g2])
