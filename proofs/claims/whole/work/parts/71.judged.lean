theorem jd_45 (x y z w : Int32) : ∀ (k i m : Nat) (μ : St), i + k = 141 → k < m → ∃ μ', f_X7_judged_h45 x y z w m (nI i) μ = f_X7_judged_h88 x y z w FU (36 * x + z) (-4) 0 μ' ∧ (∀ c, c ≠ 20 → μ'.1 c = μ.1 c) ∧ μ'.2 = μ.2 ∧ (∀ q, i ≤ q → q < 141 → μ'.1 20 q = μ.1 9 q) ∧ (∀ q, q < i → μ'.1 20 q = μ.1 20 q) := by
  intro k
  induction k with
  | zero =>
    intro i m μ h1 h2
    obtain ⟨m, rfl⟩ : ∃ m', m = m' + 1 := ⟨m - 1, by omega⟩
    rw [f_X7_judged_h45, if_pos (by rw [show (141 : Int32) = nI 141 from rfl, nI_leE (by omega) (by omega)]; omega)]
    exact ⟨μ, rfl, fun _ _ => rfl, rfl, fun q h3 h4 => by omega, fun _ _ => rfl⟩
  | succ k ih =>
    intro i m μ h1 h2
    obtain ⟨m, rfl⟩ : ∃ m', m = m' + 1 := ⟨m - 1, by omega⟩
    rw [f_X7_judged_h45, if_neg (by rw [show (141 : Int32) = nI 141 from rfl, nI_leE (by omega) (by omega)]; omega)]
    simp only [ix_nI (show i < 2 ^ 31 by omega), ok2 (show i < 141 by omega) (show i < 2 ^ 31 by omega), if_false, sq, nI_s]
    obtain ⟨μ', e, e1, e2, e3, e4⟩ := ih (i + 1) m (wr μ 20 i (μ.1 9 i)) (by omega) (by omega)
    refine ⟨μ', e, fun c hc => by rw [e1 c hc, wr_ne hc], e2, fun q h3 h4 => ?_, fun q h3 => ?_⟩
    · by_cases h5 : q = i
      · subst h5
        rw [e4 q (by omega), wr_get, if_pos rfl, if_pos rfl]
      · rw [e3 q (by omega) h4, wr_ne (by decide)]
    · rw [e4 q (by omega), wr_get, if_pos rfl, if_neg (by omega)]
theorem jd_190 (x y z w r : Int32) : ∀ (k i m : Nat) (μ : St), i + k = 141 → k < m → ∃ μ', f_X7_judged_h190 x y z w m r (nI i) μ = some (r, μ') ∧ (∀ c, c ≠ 9 → μ'.1 c = μ.1 c) ∧ μ'.2 = μ.2 ∧ (∀ q, i ≤ q → q < 141 → μ'.1 9 q = μ.1 20 q) ∧ (∀ q, (q < i ∨ 141 ≤ q) → μ'.1 9 q = μ.1 9 q) := by
  intro k
  induction k with
  | zero =>
    intro i m μ h1 h2
    obtain ⟨m, rfl⟩ : ∃ m', m = m' + 1 := ⟨m - 1, by omega⟩
    rw [f_X7_judged_h190, if_pos (by rw [show (141 : Int32) = nI 141 from rfl, nI_leE (by omega) (by omega)]; omega)]
    exact ⟨μ, rfl, fun _ _ => rfl, rfl, fun q h3 h4 => by omega, fun _ _ => rfl⟩
  | succ k ih =>
    intro i m μ h1 h2
    obtain ⟨m, rfl⟩ : ∃ m', m = m' + 1 := ⟨m - 1, by omega⟩
    rw [f_X7_judged_h190, if_neg (by rw [show (141 : Int32) = nI 141 from rfl, nI_leE (by omega) (by omega)]; omega)]
    simp only [ix_nI (show i < 2 ^ 31 by omega), ok2 (show i < 141 by omega) (show i < 2 ^ 31 by omega), if_false, sq, nI_s]
    obtain ⟨μ', e, e1, e2, e3, e4⟩ := ih (i + 1) m (wr μ 9 i (μ.1 20 i)) (by omega) (by omega)
    refine ⟨μ', e, fun c hc => by rw [e1 c hc, wr_ne hc], e2, fun q h3 h4 => ?_, fun q h3 => ?_⟩
    · by_cases h5 : q = i
      · subst h5
        rw [e4 q (by omega), wr_get, if_pos rfl, if_pos rfl]
      · rw [e3 q (by omega) h4, wr_ne (by decide)]
    · rw [e4 q (by omega), wr_get, if_pos rfl, if_neg (by omega)]
theorem judged_l {a : Nat → Nat → Nat} {σ μ : St} (I : Inv a) (hC : CA a (vw σ 1)) (hM : MA a (ul μ)) {j l o n : Nat} (hj : j < 4) (ho : o + 3 * n ≤ 36) (a5 : ∀ i, i < 36 → σ.2 (54 + 2 * j) i = μ.2 19 (36 * j + i)) (hq : ∀ u, u < n → rdQ a (σ.2 (54 + 2 * j)) (o + 3 * u)) : ∀ (k q m : Nat) (τ ν : St), q + k = n → k < m → (∀ c, c ≠ 61 → τ.1 c = σ.1 c) → τ.2 = σ.2 → (∀ g, g < a 1 0 → τ.1 61 g = nI (hdK a (σ.2 (54 + 2 * j)) o (a 5) q g)) → (∀ c, c ≠ 9 → c ≠ 20 → ν.1 c = μ.1 c) → ν.2 = μ.2 → (∀ g, g < a 1 0 → ν.1 9 g = nI (hdK a (σ.2 (54 + 2 * j)) o (a 5) q g)) → (∀ p, 141 ≤ p → ν.1 9 p = μ.1 9 p) → ∃ r τ' ν', f_X6_judged_h54 (nI j) (nI l) (nI o) (nI n) m (nI q) τ = some (r, τ') ∧ f_X7_judged_h88 (nI j) (nI l) (nI o) (nI n) m (nI (36 * j + o)) (-4) (nI q) ν = f_X7_judged_h190 (nI j) (nI l) (nI o) (nI n) FU r 0 ν' ∧ (∀ c, c ≠ 61 → τ'.1 c = σ.1 c) ∧ τ'.2 = σ.2 ∧ (∀ c, c ≠ 9 → ν'.1 c = ν.1 c) ∧ ν'.2 = μ.2 ∧ (∀ p, 141 ≤ p → ν'.1 9 p = μ.1 9 p) := by
  have h10 := I.gs
  have h12 := I.ps
  have hw := I.wi
  intro k
  induction k with
  | zero =>
    intro q m τ ν h1 h2 f1 f2 f3 g1 g2 g3 g4
    obtain ⟨m, rfl⟩ : ∃ m', m = m' + 1 := ⟨m - 1, by omega⟩
    have hle : nI n ≤ nI q := by rw [nI_leE (by omega) (by omega)]; omega
    rw [f_X6_judged_h54, f_X7_judged_h88, if_pos hle, if_pos hle]
    exact ⟨_, τ, ν, rfl, rfl, f1, f2, fun _ _ => rfl, g2, g4⟩
  | succ k ih =>
    intro q m τ ν h1 h2 f1 f2 f3 g1 g2 g3 g4
    obtain ⟨m, rfl⟩ : ∃ m', m = m' + 1 := ⟨m - 1, by omega⟩
    have hCt : CA a (vw τ 1) := hC.cg (fun k hk => f1 (1 + k) (by omega))
    have he9 : ∀ c, c < 9 → ν.1 c = μ.1 c := fun c hc => g1 c (by omega) (by omega)
    have hlt : ∀ i, i < a 1 0 → hdK a (σ.2 (54 + 2 * j)) o (a 5) q i < 4096 := fun i hi => hdK_lt I hq (I.hw i (by omega)).1 q (by omega)
    obtain ⟨⟨r1, r2⟩, ⟨r3, r4⟩, ⟨r5, r6⟩⟩ := (hq q (by omega)).r I
    have e0 : μ.2 19 (36 * j + o + 3 * q) = σ.2 (54 + 2 * j) (o + 3 * q) := by rw [show 36 * j + o + 3 * q = 36 * j + (o + 3 * q) by omega, a5 (o + 3 * q) (by omega)]
    have e1 : μ.2 19 (36 * j + o + 3 * q + 1) = σ.2 (54 + 2 * j) (o + 3 * q + 1) := by rw [show 36 * j + o + 3 * q + 1 = 36 * j + (o + 3 * q + 1) by omega, a5 (o + 3 * q + 1) (by omega)]
    have e2 : μ.2 19 (36 * j + o + 3 * q + 2) = σ.2 (54 + 2 * j) (o + 3 * q + 2) := by rw [show 36 * j + o + 3 * q + 2 = 36 * j + (o + 3 * q + 2) by omega, a5 (o + 3 * q + 2) (by omega)]
    have hle : ¬ nI n ≤ nI q := by rw [nI_leE (by omega) (by omega)]; omega
    have hHl := hearN_lt I (tN (σ.2 (54 + 2 * j)) (o + 3 * q)) (tN (σ.2 (54 + 2 * j)) (o + 3 * q + 1)) (a 0 4)
    rw [f_X6_judged_h54, f_X7_judged_h88, if_neg hle, if_neg hle]
    simp only [m3I, nI_k, nI_s, nI_2, ix_nI (show j < 2 ^ 31 by omega), ix_nI (show o + 3 * q < 2 ^ 31 by omega), ix_nI (show o + 3 * q + 1 < 2 ^ 31 by omega), ix_nI (show o + 3 * q + 2 < 2 ^ 31 by omega), ok2 (show o + 3 * q < 36 by omega) (show o + 3 * q < 2 ^ 31 by omega), ok2 (show o + 3 * q + 1 < 36 by omega) (show o + 3 * q + 1 < 2 ^ 31 by omega), ok2 (show o + 3 * q + 2 < 36 by omega) (show o + 3 * q + 2 < 2 ^ 31 by omega), ix_nI (show 36 * j + o + 3 * q < 2 ^ 31 by omega), ix_nI (show 36 * j + o + 3 * q + 1 < 2 ^ 31 by omega), ix_nI (show 36 * j + o + 3 * q + 2 < 2 ^ 31 by omega), ok2 (show 36 * j + o + 3 * q < 144 by omega) (show 36 * j + o + 3 * q < 2 ^ 31 by omega), ok2 (show 36 * j + o + 3 * q + 1 < 144 by omega) (show 36 * j + o + 3 * q + 1 < 2 ^ 31 by omega), ok2 (show 36 * j + o + 3 * q + 2 < 144 by omega) (show 36 * j + o + 3 * q + 2 < 2 ^ 31 by omega), if_false, sq, f2, g2, e0, e1, e2, r1, r3, r5, cL_wi hCt, hearers_C I hCt r2 r4 (show a 0 4 < 5 by omega), bdr, wrongedOf61_C I hCt (H := hearN a (tN (σ.2 (54 + 2 * j)) (o + 3 * q)) (tN (σ.2 (54 + 2 * j)) (o + 3 * q + 1)) (a 0 4)) r6 (by omega) f3 hlt, wrongedBy_Mg I hM he9 g3 hlt r2 r4 r6, f_X7_judged_b169]
    rw [if_neg (show ¬ (0 : Int32) ≤ -4 by decide)]
    obtain ⟨ν1, t1, t2, t3, t4, t5, t6, t7, t8⟩ := tell_M I hM he9 g3 hlt r2 r4 r6
    simp only [t1]
    generalize hW : wrN a (hearN a (tN (σ.2 (54 + 2 * j)) (o + 3 * q)) (tN (σ.2 (54 + 2 * j)) (o + 3 * q + 1)) (a 0 4)) (fun i => hdK a (σ.2 (54 + 2 * j)) o (a 5) q i) (tN (σ.2 (54 + 2 * j)) (o + 3 * q + 2)) = W
    by_cases w : nI W = 0
    · rw [if_pos w, if_pos w]
      obtain ⟨τ', c1, c2, c3, c4⟩ := note_C (H := hearN a (tN (σ.2 (54 + 2 * j)) (o + 3 * q)) (tN (σ.2 (54 + 2 * j)) (o + 3 * q + 1)) (a 0 4)) (w := tN (σ.2 (54 + 2 * j)) (o + 3 * q + 2)) (G := a 1 0) (by omega) (by omega) (hdK a (σ.2 (54 + 2 * j)) o (a 5) q) 10 0 FU τ (by omega) (by unfold FU; omega) (fun g hg => by rw [if_neg (by omega)]; exact f3 g hg) h10
      have c1' : f_X6_noteHeard_61 τ (nI (hearN a (tN (σ.2 (54 + 2 * j)) (o + 3 * q)) (tN (σ.2 (54 + 2 * j)) (o + 3 * q + 1)) (a 0 4))) (nI (tN (σ.2 (54 + 2 * j)) (o + 3 * q + 2))) = some τ' := c1
      rw [c1']
      obtain ⟨r, τ2, ν2, p1, p2, p3, p4, p5, p6, p7⟩ := ih (q + 1) m τ' ν1 (by omega) (by omega) (fun c hc => by rw [c2 c hc, f1 c hc]) (by rw [c3, f2]) c4 (fun c h3 h4 => by rw [t2 c h3, g1 c h3 h4]) (by rw [t3, g2]) (fun g hg => by
        rw [t5 g (by omega)]
        rw [show hdK a (σ.2 (54 + 2 * j)) o (a 5) (q + 1) g = if (hearN a (tN (σ.2 (54 + 2 * j)) (o + 3 * q)) (tN (σ.2 (54 + 2 * j)) (o + 3 * q + 1)) (a 0 4)).testBit g then hdK a (σ.2 (54 + 2 * j)) o (a 5) q g ||| 2 ^ tN (σ.2 (54 + 2 * j)) (o + 3 * q + 2) else hdK a (σ.2 (54 + 2 * j)) o (a 5) q g from rfl]
        by_cases hb : (hearN a (tN (σ.2 (54 + 2 * j)) (o + 3 * q)) (tN (σ.2 (54 + 2 * j)) (o + 3 * q + 1)) (a 0 4)).testBit g = true
        · rw [if_pos ⟨by omega, hg, hb⟩, if_pos hb]
        · rw [if_neg (fun c => hb c.2.2), if_neg hb, g3 g hg]) (fun p hp => by rw [t8 p hp, g4 p hp])
      exact ⟨r, τ2, ν2, p1, p2, p3, p4, fun c hc => by rw [p5 c hc, t2 c hc], p6, p7⟩
    · rw [if_neg w, if_neg w]
      refine ⟨nI q, τ, ν1, rfl, ?_, f1, f2, t2, by rw [t3, g2], fun p hp => by rw [t8 p hp, g4 p hp]⟩
      obtain ⟨m, rfl⟩ : ∃ m', m = m' + 1 := ⟨m - 1, by omega⟩
      rw [f_X7_judged_h88]
      by_cases w2 : nI n ≤ nI (q + 1)
      · rw [if_pos w2]
      · rw [if_neg w2, if_pos (nI_pos' (by omega))]
theorem op34 : Op34 RR := by
  intro σ nw μ hR x2 x3 x4 x5
  obtain ⟨⟨a, I, hC, hM⟩, -, -, hs, -⟩ := id hR
  have h10 := I.gs
  have h12 := I.ps
  have e5 : (f_X7_in x5.toInt64 1 12 = 0) = ¬ (1 ≤ x5.toInt ∧ x5.toInt ≤ 12) := by
    rw [in_0, toL_T, show (1 : Int64).toInt = 1 by decide, show (12 : Int64).toInt = 12 by decide]
  unfold f_X6_judged f_X7_judged
  simp only [isSheet_M0, e5]
  by_cases v : ((0 ≤ x2.toInt ∧ x2.toInt < 4) ∧ (0 ≤ x3.toInt ∧ x3.toInt < 4)) ∧ (1 ≤ x5.toInt ∧ x5.toInt ≤ 12)
  · rw [if_neg (not_not_intro v.1), if_neg (not_not_intro v.2)]
    obtain ⟨j, hj, rfl⟩ := nI_ofR (n := 4) v.1.1 (by decide)
    obtain ⟨l, hl, rfl⟩ := nI_ofR (n := 4) v.1.2 (by decide)
    obtain ⟨n, hn, rfl⟩ := nI_ofR (n := 13) (x := x5) ⟨by omega, by omega⟩ (by decide)
    rw [lit_T n (by omega)] at v
    obtain ⟨r, c1, m1, hr, h0⟩ := reads_r I hC hM (hs j hj) hj hl (n := n) (by omega) (by omega) x4
    rw [c1, m1]
    simp only [bdr]
    by_cases q : r = 0
    · obtain ⟨a5, o, rfl, ho, hq⟩ := h0 q
      subst q
      rw [if_pos rfl]
      simp only [ix_nI (show j < 2 ^ 31 by omega), ok2 hj (show j < 2 ^ 31 by omega), if_false, sq]
      rw [if_neg (by decide), if_pos (show (0 : Int32) ≤ 0 by decide)]
      obtain ⟨μ1, s1, s2, s3, s4, -⟩ := jd_45 (nI j) (nI l) (nI o) (nI n) 141 0 FU μ (by omega) (by unfold FU; omega)
      rw [m36] at s1
      have hs61 : ∀ g, g < a 1 0 → (wrow σ 61 (va_cpy (σ.1 6) (σ.1 61) (ix 0) (ix 0) (ix 10))).1 61 g = nI (a 5 g) := fun g hg => by
        show (if (61 : Nat) = 61 then va_cpy (σ.1 6) (σ.1 61) (ix 0) (ix 0) (ix 10) else σ.1 61) g = _
        rw [if_pos rfl, show ix 0 = 0 by decide, show ix 10 = 10 by decide]
        unfold va_cpy
        rw [if_pos (by omega), show 0 + (g - 0) = g by omega]
        exact cL_he hC g hg
      obtain ⟨r, τ, ν, t1, t2, t3, t4, t5, t6, t7⟩ := judged_l I hC hM (l := l) hj ho a5 hq n 0 FU (wrow σ 61 (va_cpy (σ.1 6) (σ.1 61) (ix 0) (ix 0) (ix 10))) μ1 (by omega) (by unfold FU; omega) (fun c hc => by unfold wrow; simp only [hc, if_false]) rfl hs61 (fun c _ h4 => s2 c h4) s3 (fun g hg => by rw [s2 9 (by decide)]; exact mL_he hM g (by omega)) (fun p hp => by rw [s2 9 (by decide)])
      obtain ⟨μ2, p1, p2, p3, p4, p5⟩ := jd_190 (nI j) (nI l) (nI o) (nI n) r 141 0 FU ν (by omega) (by unfold FU; omega)
      have q1 : f_X6_judged_h54 (nI j) (nI l) (nI o) (nI n) FU 0 (wrow σ 61 (va_cpy (σ.1 6) (σ.1 61) (ix 0) (ix 0) (ix 10))) = some (r, τ) := t1
      have q2 : f_X7_judged_h45 (nI j) (nI l) (nI o) (nI n) FU 0 μ = some (r, μ2) := Eq.trans s1 (Eq.trans t2 p1)
      have q9 : μ2.1 9 = μ.1 9 := by
        funext p
        by_cases hp : p < 141
        · rw [p4 p (by omega) hp, t5 20 (by decide), s4 p (by omega) hp]
        · rw [p5 p (by omega), t7 p (by omega)]
      have qc : ∀ c, c ≠ 20 → μ2.1 c = μ.1 c := fun c hc => by
        by_cases h9 : c = 9
        · rw [h9, q9]
        · rw [p2 c h9, t5 c h9, s2 c hc]
      refine ⟨r, τ, μ2, q1, q2, hR.scr (fun c hc => t3 c (by omega)) (by rw [t3 37 (by decide)]) (t3 38 (by decide)) (fun j hj => t3 _ (by omega)) t4 (fun _ _ _ => by rw [qc 0 (by decide)]) (fun c _ _ => qc c (by omega)) (qc 16 (by decide)) (qc 17 (by decide)) (qc 18 (by decide)) (by rw [p3, t6])⟩
    · rw [if_neg q, if_neg (by rcases hr with hr | hr; exact absurd hr q; rw [le_T, T_0]; rw [lt_T, T_0] at hr; omega)]
      exact ⟨r, σ, μ, rfl, rfl, hR⟩
  · rw [reads_bad v]
    refine ⟨-1, σ, μ, rfl, ?_, hR⟩
    by_cases c1 : (0 ≤ x2.toInt ∧ x2.toInt < 4) ∧ (0 ≤ x3.toInt ∧ x3.toInt < 4)
    · rw [if_neg (not_not_intro c1), if_pos (fun c2 => v ⟨c1, c2⟩)]
    · rw [if_pos c1]
