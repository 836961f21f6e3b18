theorem fill61 : ∀ (k i m : Nat) (σ : St), i + k = 10 → k < m → ∃ σ', f_J7_fill_53178_61_h5 0 m (nI i) 10 σ = some σ' ∧ (∀ c, c ≠ 61 → σ'.1 c = σ.1 c) ∧ σ'.2 = σ.2 ∧ (∀ q, i ≤ q → q < 10 → σ'.1 61 q = 0) ∧ (∀ q, q < i → σ'.1 61 q = σ.1 61 q) := by
  intro k
  induction k with
  | zero =>
    intro i m σ h1 h2
    obtain ⟨m, rfl⟩ : ∃ m', m = m' + 1 := ⟨m - 1, by omega⟩
    rw [f_J7_fill_53178_61_h5, if_pos (by rw [show (10 : Int32) = nI 10 from rfl, nI_leE (by omega) (by omega)]; omega)]
    exact ⟨σ, rfl, fun _ _ => rfl, rfl, fun q h3 h4 => by omega, fun _ _ => rfl⟩
  | succ k ih =>
    intro i m σ h1 h2
    obtain ⟨m, rfl⟩ : ∃ m', m = m' + 1 := ⟨m - 1, by omega⟩
    rw [f_J7_fill_53178_61_h5, if_neg (by rw [show (10 : Int32) = nI 10 from rfl, nI_leE (by omega) (by omega)]; omega)]
    simp only [ix_nI (show i < 2 ^ 31 by omega), ok2 (show i < 10 by omega) (show i < 2 ^ 31 by omega), if_false, sq, nI_s]
    obtain ⟨σ', e, e1, e2, e3, e4⟩ := ih (i + 1) m (wr σ 61 i 0) (by omega) (by omega)
    refine ⟨σ', e, fun c hc => by rw [e1 c hc, wr_ne hc], e2, fun q h3 h4 => ?_, fun q h3 => ?_⟩
    · by_cases h5 : q = i
      · subst h5
        rw [e4 q (by omega), wr_get, if_pos rfl, if_pos rfl]
      · exact e3 q (by omega) h4
    · rw [e4 q (by omega), wr_get, if_pos rfl, if_neg (by omega)]
theorem which_C1 {a : Nat → Nat → Nat} {σ : St} (I : Inv a) (hC : CA a (vw σ 1)) {x j l o n : Nat} {b : Nat → Nat} (hj : j < 4) (ho : o + 3 * n ≤ 36) (hq : ∀ u, u < n → rdQ a (σ.2 (54 + 2 * j)) (o + 3 * u)) : ∀ (k q m : Nat) (τ : St), q + k = n → k < m → (∀ c, c ≠ 61 → τ.1 c = σ.1 c) → τ.2 = σ.2 → (∀ g, g < a 1 0 → τ.1 61 g = nI (hdK a (σ.2 (54 + 2 * j)) o b q g)) → ∃ τ', f_X6_which_h52 (nI x) (nI j) (nI l) (nI o) (nI n) m (nI q) τ = f_X6_which_h127 (nI x) (nI j) (nI l) (nI o) (nI n) FU 0 0 τ' ∧ (∀ c, c ≠ 61 → τ'.1 c = σ.1 c) ∧ τ'.2 = σ.2 ∧ (∀ g, g < a 1 0 → τ'.1 61 g = nI (hdK a (σ.2 (54 + 2 * j)) o b n g)) := by
  have h10 := I.gs
  have h12 := I.ps
  have hw := I.wi
  intro k
  induction k with
  | zero =>
    intro q m τ h1 h2 f1 f2 f3
    obtain ⟨m, rfl⟩ : ∃ m', m = m' + 1 := ⟨m - 1, by omega⟩
    rw [f_X6_which_h52, if_pos (by rw [nI_leE (by omega) (by omega)]; omega)]
    have : q = n := by omega
    subst this
    exact ⟨τ, rfl, f1, f2, f3⟩
  | succ k ih =>
    intro q m τ h1 h2 f1 f2 f3
    obtain ⟨m, rfl⟩ : ∃ m', m = m' + 1 := ⟨m - 1, by omega⟩
    have hCt : CA a (vw τ 1) := hC.cg (fun k hk => f1 (1 + k) (by omega))
    obtain ⟨⟨r1, r2⟩, ⟨r3, r4⟩, ⟨r5, r6⟩⟩ := (hq q (by omega)).r I
    rw [f_X6_which_h52, if_neg (by rw [nI_leE (by omega) (by omega)]; omega)]
    simp only [m3I, nI_k, nI_s, nI_2, ix_nI (show j < 2 ^ 31 by omega), ix_nI (show o + 3 * q < 2 ^ 31 by omega), ix_nI (show o + 3 * q + 1 < 2 ^ 31 by omega), ix_nI (show o + 3 * q + 2 < 2 ^ 31 by omega), ok2 (show o + 3 * q < 36 by omega) (show o + 3 * q < 2 ^ 31 by omega), ok2 (show o + 3 * q + 1 < 36 by omega) (show o + 3 * q + 1 < 2 ^ 31 by omega), ok2 (show o + 3 * q + 2 < 36 by omega) (show o + 3 * q + 2 < 2 ^ 31 by omega), if_false, sq, f2, r1, r3, r5, cL_wi hCt, hearers_C I hCt r2 r4 (show a 0 4 < 5 by omega), bdr]
    obtain ⟨τ', c1, c2, c3, c4⟩ := note_C (H := hearN a (tN (σ.2 (54 + 2 * j)) (o + 3 * q)) (tN (σ.2 (54 + 2 * j)) (o + 3 * q + 1)) (a 0 4)) (w := tN (σ.2 (54 + 2 * j)) (o + 3 * q + 2)) (G := a 1 0) (by have := hearN_lt I (tN (σ.2 (54 + 2 * j)) (o + 3 * q)) (tN (σ.2 (54 + 2 * j)) (o + 3 * q + 1)) (a 0 4); omega) (by omega) (hdK a (σ.2 (54 + 2 * j)) o b q) 10 0 FU τ (by omega) (by unfold FU; omega) (fun g hg => by rw [if_neg (by omega)]; exact f3 g hg) h10
    have c1' : f_X6_noteHeard_61 τ (nI (hearN a (tN (σ.2 (54 + 2 * j)) (o + 3 * q)) (tN (σ.2 (54 + 2 * j)) (o + 3 * q + 1)) (a 0 4))) (nI (tN (σ.2 (54 + 2 * j)) (o + 3 * q + 2))) = some τ' := c1
    rw [c1']
    exact ih (q + 1) m τ' (by omega) (by omega) (fun c hc => by rw [c2 c hc, f1 c hc]) (by rw [c3, f2]) c4
theorem which_C2 {a : Nat → Nat → Nat} (I : Inv a) {x : Nat} {F : Nat → Nat} (hx : x < 4096) (hF : ∀ g, g < a 1 0 → F g < 4096) (x2 x3 x4 x5 : Int32) {τ : St} (hC : CA a (vw τ 1)) (hf : ∀ g, g < a 1 0 → τ.1 61 g = nI (F g)) : f_X6_which_h127 (nI x) x2 x3 x4 x5 FU 0 0 τ = some (nI (bsN (fun g => decide (F g = x)) (a 1 0)), τ) := by
  have h10 := I.gs
  have key : ∀ (k i m : Nat), i + k = a 1 0 → k < m → f_X6_which_h127 (nI x) x2 x3 x4 x5 m (nI (bsN (fun g => decide (F g = x)) i)) (nI i) τ = some (nI (bsN (fun g => decide (F g = x)) (a 1 0)), τ) := by
    intro k
    induction k with
    | zero =>
      intro i m h1 h2
      obtain ⟨m, rfl⟩ : ∃ m', m = m' + 1 := ⟨m - 1, by omega⟩
      rw [f_X6_which_h127, cL_gs hC, if_pos (by rw [nI_leE (by omega) (by omega)]; omega)]
      have : i = a 1 0 := by omega
      subst this
      rfl
    | succ k ih =>
      intro i m h1 h2
      obtain ⟨m, rfl⟩ : ∃ m', m = m' + 1 := ⟨m - 1, by omega⟩
      have hi : i < a 1 0 := by omega
      have e := ih (i + 1) m (by omega) (by omega)
      rw [f_X6_which_h127, cL_gs hC, if_neg (by rw [nI_leE (by omega) (by omega)]; omega)]
      simp only [ix_nI (show i < 2 ^ 31 by omega), ok2 (show i < 10 by omega) (show i < 2 ^ 31 by omega), if_false, sq, nI_s, hf i hi, nI_eqE (show F i < 2 ^ 31 by have := hF i hi; omega) (show x < 2 ^ 31 by omega)]
      by_cases hb : F i = x
      · rw [if_pos hb, bsN_t (fun g => decide (F g = x)) (by omega) (decide_eq_true hb)]
        exact e
      · rw [if_neg hb]
        rw [bsN_f (fun g => decide (F g = x)) (decide_eq_false hb)] at e
        exact e
  exact key (a 1 0) 0 FU (by omega) (by unfold FU; omega)
theorem which_M1 {a : Nat → Nat → Nat} {μ : St} (I : Inv a) (hM : MA a (ul μ)) {x j l o n g : Nat} {f : Nat → Int64} (hx : x < 4096) (hg : g < a 1 0) (hj : j < 4) (ho : o + 3 * n ≤ 36) (a5 : ∀ i, i < 36 → f i = μ.2 19 (36 * j + i)) (hq : ∀ u, u < n → rdQ a f (o + 3 * u)) (rec76 : Int32 → Int32 → Int32 → Option Int32) (v8 : Int32) : ∀ (k q m : Nat), q + k = n → k < m → f_X7_which_h91 rec76 μ (nI x) (nI j) (nI l) (nI o) (nI n) m (nI (36 * j + o)) v8 (nI g) (nI (hdK a f o (fun _ => 0) q g)) (nI q) = rec76 (nI (36 * j + o)) (v8 ||| (if hdK a f o (fun _ => 0) n g = x then isl 1 (nI g) else 0)) (nI (g + 1)) := by
  have h10 := I.gs
  have h12 := I.ps
  have hw := I.wi
  intro k
  induction k with
  | zero =>
    intro q m h1 h2
    obtain ⟨m, rfl⟩ : ∃ m', m = m' + 1 := ⟨m - 1, by omega⟩
    have : q = n := by omega
    subst this
    have hl := hdK_lt I hq (g := g) (b := fun _ => 0) (by decide) q (by omega)
    rw [f_X7_which_h91, if_pos (by rw [nI_leE (by omega) (by omega)]; omega)]
    simp only [f_X7_which_b194, sq, nI_s, nI_eqE (show hdK a f o (fun _ => 0) q g < 2 ^ 31 by omega) (show x < 2 ^ 31 by omega)]
    by_cases e : hdK a f o (fun _ => 0) q g = x
    · rw [if_pos e, if_pos e]
    · rw [if_neg e, if_neg e]
  | succ k ih =>
    intro q m h1 h2
    obtain ⟨m, rfl⟩ : ∃ m', m = m' + 1 := ⟨m - 1, by omega⟩
    obtain ⟨⟨r1, r2⟩, ⟨r3, r4⟩, ⟨r5, r6⟩⟩ := (hq q (by omega)).r I
    have e0 : μ.2 19 (36 * j + o + 3 * q) = f (o + 3 * q) := by rw [show 36 * j + o + 3 * q = 36 * j + (o + 3 * q) by omega, a5 (o + 3 * q) (by omega)]
    have e1 : μ.2 19 (36 * j + o + 3 * q + 1) = f (o + 3 * q + 1) := by rw [show 36 * j + o + 3 * q + 1 = 36 * j + (o + 3 * q + 1) by omega, a5 (o + 3 * q + 1) (by omega)]
    have e2 : μ.2 19 (36 * j + o + 3 * q + 2) = f (o + 3 * q + 2) := by rw [show 36 * j + o + 3 * q + 2 = 36 * j + (o + 3 * q + 2) by omega, a5 (o + 3 * q + 2) (by omega)]
    have hl := hearN_lt I (tN f (o + 3 * q)) (tN f (o + 3 * q + 1)) (a 0 4)
    have e := ih (q + 1) m (by omega) (by omega)
    rw [f_X7_which_h91, if_neg (by rw [nI_leE (by omega) (by omega)]; omega)]
    simp only [m3I, nI_k, nI_s, nI_2, ix_nI (show 36 * j + o + 3 * q < 2 ^ 31 by omega), ix_nI (show 36 * j + o + 3 * q + 1 < 2 ^ 31 by omega), ix_nI (show 36 * j + o + 3 * q + 2 < 2 ^ 31 by omega), ok2 (show 36 * j + o + 3 * q < 144 by omega) (show 36 * j + o + 3 * q < 2 ^ 31 by omega), ok2 (show 36 * j + o + 3 * q + 1 < 144 by omega) (show 36 * j + o + 3 * q + 1 < 2 ^ 31 by omega), ok2 (show 36 * j + o + 3 * q + 2 < 144 by omega) (show 36 * j + o + 3 * q + 2 < 2 ^ 31 by omega), if_false, sq, e0, e1, e2, r1, r3, r5, mL_wi hM, hearers_M I hM r2 r4 (show a 0 4 < 5 by omega), bdr, has_M0 (show hearN a (tN f (o + 3 * q)) (tN f (o + 3 * q + 1)) (a 0 4) < 2 ^ 31 by omega) (show g < 31 by omega), f_X7_which_b169, isl_1 (show tN f (o + 3 * q + 2) < 31 by omega), or_z, nI_or]
    rw [hdK] at e
    unfold hrK at e
    cases hb : (hearN a (tN f (o + 3 * q)) (tN f (o + 3 * q + 1)) (a 0 4)).testBit g
    · rw [hb, if_neg (by decide)] at e
      rw [if_pos rfl]
      exact e
    · rw [hb, if_pos rfl] at e
      rw [if_neg (by decide)]
      exact e
theorem which_M2 {a : Nat → Nat → Nat} {μ : St} (I : Inv a) (hM : MA a (ul μ)) {x j l o n : Nat} {f : Nat → Int64} (hx : x < 4096) (hj : j < 4) (ho : o + 3 * n ≤ 36) (a5 : ∀ i, i < 36 → f i = μ.2 19 (36 * j + i)) (hq : ∀ u, u < n → rdQ a f (o + 3 * u)) : f_X7_which_h76 μ (nI x) (nI j) (nI l) (nI o) (nI n) FU (nI (36 * j + o)) 0 0 = some (nI (bsN (fun g => decide (hdK a f o (fun _ => 0) n g = x)) (a 1 0))) := by
  have h10 := I.gs
  have key : ∀ (k i m : Nat), i + k = a 1 0 → k < m → f_X7_which_h76 μ (nI x) (nI j) (nI l) (nI o) (nI n) m (nI (36 * j + o)) (nI (bsN (fun g => decide (hdK a f o (fun _ => 0) n g = x)) i)) (nI i) = some (nI (bsN (fun g => decide (hdK a f o (fun _ => 0) n g = x)) (a 1 0))) := by
    intro k
    induction k with
    | zero =>
      intro i m h1 h2
      obtain ⟨m, rfl⟩ : ∃ m', m = m' + 1 := ⟨m - 1, by omega⟩
      rw [f_X7_which_h76, mL_gs hM, if_pos (by rw [nI_leE (by omega) (by omega)]; omega)]
      have : i = a 1 0 := by omega
      subst this
      rfl
    | succ k ih =>
      intro i m h1 h2
      obtain ⟨m, rfl⟩ : ∃ m', m = m' + 1 := ⟨m - 1, by omega⟩
      have hi : i < a 1 0 := by omega
      have e := ih (i + 1) m (by omega) (by omega)
      rw [f_X7_which_h76, mL_gs hM, if_neg (by rw [nI_leE (by omega) (by omega)]; omega)]
      have w := which_M1 I hM (l := l) hx hi hj ho a5 hq (f_X7_which_h76 μ (nI x) (nI j) (nI l) (nI o) (nI n) m) (nI (bsN (fun g => decide (hdK a f o (fun _ => 0) n g = x)) i)) n 0 FU (by omega) (by unfold FU; omega)
      refine Eq.trans w ?_
      by_cases hb : hdK a f o (fun _ => 0) n i = x
      · rw [if_pos hb, bsN_t (fun g => decide (hdK a f o (fun _ => 0) n g = x)) (by omega) (decide_eq_true hb)]
        exact e
      · rw [if_neg hb, or_z]
        rw [bsN_f (fun g => decide (hdK a f o (fun _ => 0) n g = x)) (decide_eq_false hb)] at e
        exact e
  exact key (a 1 0) 0 FU (by omega) (by unfold FU; omega)
theorem op33 : Op33 RR := by
  intro σ nw μ hR x1 x2 x3 x4 x5
  obtain ⟨⟨a, I, hC, hM⟩, -, -, hs, -⟩ := id hR
  have h10 := I.gs
  have h12 := I.ps
  have hp := pow12 I.ps
  have eM : (f_X7_in x1.toInt64 0 ((isl 1 (μ.1 0 8) - 1).toInt64) = 0) = ¬ (0 ≤ x1.toInt ∧ x1.toInt < (2 ^ a 8 0 : Nat)) := by
    rw [mL_ps hM, isl_1 (by omega), cnt_M0 (by omega), toL_T]
  have e5 : (f_X7_in x5.toInt64 1 12 = 0) = ¬ (1 ≤ x5.toInt ∧ x5.toInt ≤ 12) := by
    rw [in_0, toL_T, show (1 : Int64).toInt = 1 by decide, show (12 : Int64).toInt = 12 by decide]
  unfold f_X6_which f_X7_which
  simp only [isNewsSet_C0 I hC, eM, isSheet_M0, e5]
  by_cases v1 : 0 ≤ x1.toInt ∧ x1.toInt < (2 ^ a 8 0 : Nat)
  · rw [if_neg (not_not_intro v1), if_neg (not_not_intro v1)]
    by_cases v : ((0 ≤ x2.toInt ∧ x2.toInt < 4) ∧ (0 ≤ x3.toInt ∧ x3.toInt < 4)) ∧ (1 ≤ x5.toInt ∧ x5.toInt ≤ 12)
    · rw [if_neg (not_not_intro v.1), if_neg (not_not_intro v.2)]
      obtain ⟨x, hx, rfl⟩ := nI_ofR (n := 2 ^ a 8 0) v1 (by omega)
      obtain ⟨j, hj, rfl⟩ := nI_ofR (n := 4) v.1.1 (by decide)
      obtain ⟨l, hl, rfl⟩ := nI_ofR (n := 4) v.1.2 (by decide)
      obtain ⟨n, hn, rfl⟩ := nI_ofR (n := 13) (x := x5) ⟨by omega, by omega⟩ (by decide)
      rw [lit_T n (by omega)] at v
      obtain ⟨r, c1, m1, hr, h0⟩ := reads_r I hC hM (hs j hj) hj hl (n := n) (by omega) (by omega) x4
      rw [c1, m1]
      simp only [bdr]
      by_cases q : r = 0
      · obtain ⟨a5, o, rfl, ho, hq⟩ := h0 q
        subst q
        rw [if_pos rfl]
        simp only [ix_nI (show j < 2 ^ 31 by omega), ok2 hj (show j < 2 ^ 31 by omega), if_false, sq, m36]
        rw [if_pos (show (0 : Int32) ≤ 0 by decide)]
        obtain ⟨σ1, s1, s2, s3, s4, -⟩ := fill61 10 0 FU σ (by omega) (by unfold FU; omega)
        have s1' : f_J7_fill_53178_61 σ 0 = some σ1 := s1
        rw [s1']
        simp only []
        obtain ⟨τ, t1, t2, t3, t4⟩ := which_C1 I hC (x := x) (l := l) (b := fun _ => 0) hj ho hq n 0 FU σ1 (by omega) (by unfold FU; omega) s2 s3 (fun g hg => s4 g (by omega) (by omega))
        have t1' : f_X6_which_h52 (nI x) (nI j) (nI l) (nI o) (nI n) FU 0 σ1 = f_X6_which_h127 (nI x) (nI j) (nI l) (nI o) (nI n) FU 0 0 τ := t1
        rw [t1', which_C2 I (F := hdK a (σ.2 (54 + 2 * j)) o (fun _ => 0) n) (by omega) (fun g hg => hdK_lt I hq (by decide) n (by omega)) (nI j) (nI l) (nI o) (nI n) (hC.cg (fun k hk => t2 (1 + k) (by omega))) t4, which_M2 I hM (by omega) hj ho a5 hq]
        exact ⟨_, τ, rfl, rfl, hR.scr (fun c hc => t2 c (by omega)) (by rw [t2 37 (by decide)]) (t2 38 (by decide)) (fun j hj => t2 _ (by omega)) t3 (fun _ _ _ => rfl) (fun _ _ _ => rfl) rfl rfl rfl rfl⟩
      · rw [if_neg q, if_neg (by rcases hr with hr | hr; exact absurd hr q; rw [le_T, T_0]; rw [lt_T, T_0] at hr; omega)]
        exact ⟨r, σ, rfl, rfl, hR⟩
    · rw [reads_bad v]
      refine ⟨-1, σ, rfl, ?_, hR⟩
      by_cases c1 : (0 ≤ x2.toInt ∧ x2.toInt < 4) ∧ (0 ≤ x3.toInt ∧ x3.toInt < 4)
      · rw [if_neg (not_not_intro c1), if_pos (fun c2 => v ⟨c1, c2⟩)]
      · rw [if_pos c1]
  · rw [if_pos v1, if_pos v1]
    exact ⟨-1, σ, rfl, rfl, hR⟩
