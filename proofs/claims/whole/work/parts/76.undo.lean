theorem op17 : Op17 RR := by
  intro σ nw μ hR x y z
  obtain ⟨⟨a, I, hC, hM⟩, -⟩ := id hR
  have h4 := I.rd
  have h12 := I.ps
  have h8 := I.rg
  have hw := I.wi
  unfold f_X6_read f_X7_read
  simp only [isReading_C0 I hC, isReading_M0 I hM, toL_T]
  by_cases v : (0 ≤ x.toInt ∧ x.toInt < a 0 2) ∧ (0 ≤ y.toInt ∧ y.toInt < 36) ∧ (0 ≤ z.toInt ∧ z.toInt < a 8 0)
  · rw [if_neg (not_not_intro v), if_neg (not_not_intro v)]
    obtain ⟨r, hr, rfl⟩ := nI_ofR (n := a 0 2) v.1 (by omega)
    obtain ⟨s, hs, rfl⟩ := nI_ofR (n := 36) v.2.1 (by omega)
    obtain ⟨n, hn, rfl⟩ := nI_ofR (n := a 8 0) v.2.2 (by omega)
    rw [cL_rg hC, show ix 140 = 140 by decide, mL_rg hM, show (9999 : Int32) = nI 9999 from rfl]
    by_cases q : a 0 8 < 9999
    · obtain ⟨F, R, σ', μ', e1, e2, I', hC', hM', f1, f2, g1, g2, g3⟩ := read_R I hC hM hr hs hn q
      refine ⟨nI (hearN a r s (a 0 4)), σ', μ', ?_, ?_, hR.par ⟨_, I', hC', hM'⟩ f1 f2 g1 (g2 19 (by decide)) (g2 26 (by decide)) g3⟩
      · rw [if_pos (by rw [nI_ltE (by omega) (by omega)]; exact q), e1]
        simp only [bdp]
        have e3 := hearers_C I' hC' (r := r) (s := s) (w := a 0 4) hr hs (by omega)
        rw [show σ'.1 1 4 = nI (a 0 4) from cL_wi (a := aR a n F R) hC', e3]
        rfl
      · rw [if_neg (by decide), if_neg (by rw [nI_eqE (by omega) (by omega)]; omega), e2]
        rfl
    · refine ⟨-3, σ, μ, ?_, ?_, hR⟩
      · rw [if_neg (by rw [nI_ltE (by omega) (by omega)]; exact q)]
      · rw [if_neg (by decide), if_pos (by rw [nI_eqE (by omega) (by omega)]; omega)]
  · rw [if_pos v, if_pos v]
    exact ⟨-1, σ, μ, rfl, rfl, hR⟩
theorem unhold_l {n F R u G : Nat} {hd wg : Nat → Nat} (hn : n < 12) (hF : F < 2 ^ 31) (hR : R < 2 ^ 31) (hu : u < 10) (hG : G ≤ 10) (hr : ∀ q, R.testBit q = true → q < G → 1 ≤ wg q) : ∀ (k i m : Nat) (σ : St), i + k = G → k < m → σ.1 2 0 = nI G → σ.1 1 9 = nI u → σ.1 16 u = nI n → σ.1 17 u = nI F → σ.1 18 u = nI R → (∀ q, i ≤ q → q < G → σ.1 6 q = nI (hd q) ∧ σ.1 7 q = nI (wg q)) → ∃ σ', f_X3_unhold_h30 m (nI i) σ = some σ' ∧ (∀ c, c ≠ 6 → c ≠ 7 → σ'.1 c = σ.1 c) ∧ σ'.2 = σ.2 ∧ (∀ q, q < G → σ'.1 6 q = if i ≤ q ∧ F.testBit q = true then nI (andn (hd q) (2 ^ n)) else σ.1 6 q) ∧ (∀ q, q < G → σ'.1 7 q = if i ≤ q ∧ R.testBit q = true then nI (wg q - 1) else σ.1 7 q) := by
  intro k
  induction k with
  | zero =>
    intro i m σ h1 h2 hg h9 h16 h17 h18 hv
    obtain ⟨m, rfl⟩ : ∃ m', m = m' + 1 := ⟨m - 1, by omega⟩
    rw [f_X3_unhold_h30, hg, if_pos (by rw [nI_leE (by omega) (by omega)]; omega)]
    exact ⟨σ, rfl, fun _ _ _ => rfl, rfl, fun q hq => by rw [if_neg (by omega)], fun q hq => by rw [if_neg (by omega)]⟩
  | succ k ih =>
    intro i m σ h1 h2 hg h9 h16 h17 h18 hv
    obtain ⟨m, rfl⟩ : ∃ m', m = m' + 1 := ⟨m - 1, by omega⟩
    have hi : i < G := by omega
    obtain ⟨v6, v7⟩ := hv i (Nat.le_refl _) hi
    have fin : ∀ σ1 : St, (∀ c, c ≠ 6 → σ1.1 c = σ.1 c) → σ1.2 = σ.2 → (∀ q, σ1.1 6 q = if q = i ∧ F.testBit i = true then nI (andn (hd i) (2 ^ n)) else σ.1 6 q) → ∃ σ', f_X3_unhold_b82 (f_X3_unhold_h30 m) (nI i) σ1 = some σ' ∧ (∀ c, c ≠ 6 → c ≠ 7 → σ'.1 c = σ.1 c) ∧ σ'.2 = σ.2 ∧ (∀ q, q < G → σ'.1 6 q = if i ≤ q ∧ F.testBit q = true then nI (andn (hd q) (2 ^ n)) else σ.1 6 q) ∧ (∀ q, q < G → σ'.1 7 q = if i ≤ q ∧ R.testBit q = true then nI (wg q - 1) else σ.1 7 q) := by
      intro σ1 c1 c2 c3
      have nxt : ∀ σ2 : St, (∀ c, c ≠ 6 → c ≠ 7 → σ2.1 c = σ.1 c) → σ2.2 = σ.2 → (∀ q, σ2.1 6 q = if q = i ∧ F.testBit i = true then nI (andn (hd i) (2 ^ n)) else σ.1 6 q) → (∀ q, σ2.1 7 q = if q = i ∧ R.testBit i = true then nI (wg i - 1) else σ.1 7 q) → ∃ σ', f_X3_unhold_h30 m (nI (i + 1)) σ2 = some σ' ∧ (∀ c, c ≠ 6 → c ≠ 7 → σ'.1 c = σ.1 c) ∧ σ'.2 = σ.2 ∧ (∀ q, q < G → σ'.1 6 q = if i ≤ q ∧ F.testBit q = true then nI (andn (hd q) (2 ^ n)) else σ.1 6 q) ∧ (∀ q, q < G → σ'.1 7 q = if i ≤ q ∧ R.testBit q = true then nI (wg q - 1) else σ.1 7 q) := by
        intro σ2 d1 d2 d3 d4
        obtain ⟨σ', e1, e2, e3, e4, e5⟩ := ih (i + 1) m σ2 (by omega) (by omega) (by rw [d1 2 (by decide) (by decide), hg]) (by rw [d1 1 (by decide) (by decide), h9]) (by rw [d1 16 (by decide) (by decide), h16]) (by rw [d1 17 (by decide) (by decide), h17]) (by rw [d1 18 (by decide) (by decide), h18]) (fun q h3 h4 => ⟨by rw [d3, if_neg (fun c => by omega)]; exact (hv q (by omega) h4).1, by rw [d4, if_neg (fun c => by omega)]; exact (hv q (by omega) h4).2⟩)
        refine ⟨σ', e1, fun c h3 h4 => by rw [e2 c h3 h4, d1 c h3 h4], by rw [e3, d2], fun q hq => ?_, fun q hq => ?_⟩
        · rw [e4 q hq]
          by_cases e : q = i
          · subst e
            rw [if_neg (by omega), d3]
            by_cases c : F.testBit q = true
            · rw [if_pos ⟨rfl, c⟩, if_pos ⟨Nat.le_refl _, c⟩]
            · rw [if_neg (fun d => c d.2), if_neg (fun d => c d.2)]
          · rw [ite_ne _ _ e, d3, if_neg (show ¬ (q = i ∧ F.testBit i = true) from fun c => e c.1)]
        · rw [e5 q hq]
          by_cases e : q = i
          · subst e
            rw [if_neg (by omega), d4]
            by_cases c : R.testBit q = true
            · rw [if_pos ⟨rfl, c⟩, if_pos ⟨Nat.le_refl _, c⟩]
            · rw [if_neg (fun d => c d.2), if_neg (fun d => c d.2)]
          · rw [ite_ne _ _ e, d4, if_neg (show ¬ (q = i ∧ R.testBit i = true) from fun c => e c.1)]
      unfold f_X3_unhold_b82
      rw [c1 1 (by decide), h9, c1 18 (by decide), c1 7 (by decide)]
      simp only [ix_nI (show u < 2 ^ 31 by omega), ok2 hu (show u < 2 ^ 31 by omega), if_false, h18, has_C0 hR (show i < 31 by omega), ix_nI (show i < 2 ^ 31 by omega), ok2 (show i < 10 by omega) (show i < 2 ^ 31 by omega), sq, nI_s, v7]
      cases hb : R.testBit i
      · rw [if_pos rfl]
        exact nxt σ1 (fun c h3 _ => c1 c h3) c2 c3 (fun q => by rw [if_neg (fun c => by rw [hb] at c; exact absurd c.2 (by decide)), c1 7 (by decide)])
      · have h1 := hr i hb hi
        rw [if_neg (by decide), show nI (wg i) - 1 = nI (wg i - 1) from nI_m (a := wg i) (b := 1) h1]
        refine nxt _ (fun c h3 h4 => by rw [wr_ne h4, c1 c h3]) c2 (fun q => by rw [wr_ne (by decide), c3 q]) (fun q => ?_)
        rw [wr_get, if_pos rfl]
        by_cases e : q = i
        · rw [if_pos e, if_pos ⟨e, hb⟩]
        · rw [if_neg e, if_neg (fun c => e c.1), c1 7 (by decide)]
    rw [f_X3_unhold_h30, hg, if_neg (by rw [nI_leE (by omega) (by omega)]; omega)]
    simp only [h9, ix_nI (show u < 2 ^ 31 by omega), ok2 hu (show u < 2 ^ 31 by omega), if_false, h17, h16, has_C0 hF (show i < 31 by omega), ix_nI (show i < 2 ^ 31 by omega), ok2 (show i < 10 by omega) (show i < 2 ^ 31 by omega), sq, v6, isl_1 (show n < 31 by omega), nI_andn]
    cases hb : F.testBit i
    · rw [if_pos rfl]
      exact fin σ (fun _ _ => rfl) rfl (fun q => by rw [if_neg (fun c => by rw [hb] at c; exact absurd c.2 (by decide))])
    · rw [if_neg (by decide)]
      refine fin _ (fun c h3 => wr_ne h3) rfl (fun q => ?_)
      rw [wr_get, if_pos rfl]
      by_cases e : q = i
      · rw [if_pos e, if_pos ⟨e, hb⟩]
      · rw [if_neg e, if_neg (fun c => e c.1)]
theorem undo_22 {u : Nat} (hu : u < 10) : ∀ (k i m : Nat) (μ : St), i + k = 141 → k < m → μ.1 0 17 = nI u → ∃ μ', f_X7_undo_h22 m (nI i) μ = some (nI u, μ') ∧ (∀ c, c ≠ 9 → μ'.1 c = μ.1 c) ∧ μ'.2 = μ.2 ∧ (∀ q, i ≤ q → q < 141 → μ'.1 9 q = μ.1 10 (141 * u + q)) ∧ (∀ q, q < i → μ'.1 9 q = μ.1 9 q) := by
  intro k
  induction k with
  | zero =>
    intro i m μ h1 h2 h9
    obtain ⟨m, rfl⟩ : ∃ m', m = m' + 1 := ⟨m - 1, by omega⟩
    rw [f_X7_undo_h22, if_pos (by rw [show (141 : Int32) = nI 141 from rfl, nI_leE (by omega) (by omega)]; omega), h9]
    exact ⟨μ, rfl, fun _ _ => rfl, rfl, fun q h3 h4 => by omega, fun _ _ => rfl⟩
  | succ k ih =>
    intro i m μ h1 h2 h9
    obtain ⟨m, rfl⟩ : ∃ m', m = m' + 1 := ⟨m - 1, by omega⟩
    rw [f_X7_undo_h22, if_neg (by rw [show (141 : Int32) = nI 141 from rfl, nI_leE (by omega) (by omega)]; omega)]
    simp only [h9, m141, ix_nI (show i < 2 ^ 31 by omega), ok2 (show i < 141 by omega) (show i < 2 ^ 31 by omega), ix_nI (show 141 * u + i < 2 ^ 31 by omega), ok2 (show 141 * u + i < 1410 by omega) (show 141 * u + i < 2 ^ 31 by omega), if_false, sq, nI_s]
    obtain ⟨μ', e, e1, e2, e3, e4⟩ := ih (i + 1) m (wr μ 9 i (μ.1 10 (141 * u + i))) (by omega) (by omega) (by rw [wr_ne (by decide), h9])
    refine ⟨μ', e, fun c hc => by rw [e1 c hc, wr_ne hc], e2, fun q h3 h4 => ?_, fun q h3 => ?_⟩
    · by_cases h5 : q = i
      · subst h5
        rw [e4 q (by omega), wr_get, if_pos rfl, if_pos rfl]
      · rw [e3 q (by omega) h4, wr_ne (by decide)]
    · rw [e4 q (by omega), wr_get, if_pos rfl, if_neg (by omega)]
/-- the parish with its latest reading undone -/
def aU (a : Nat → Nat → Nat) : Nat → Nat → Nat := fun k =>
  if k = 0 then (fun f => if f = 8 then a 0 8 - 1 else if f = 9 then a 0 9 - 1 else a 0 f)
  else if k = 5 then (fun i => hdT a 1 i)
  else if k = 6 then (fun i => wgT a 1 i)
  else a k
theorem aU_hd {a : Nat → Nat → Nat} {i : Nat} : ∀ t, t < a 0 9 → hdT (aU a) t i = hdT a (t + 1) i
  | 0, _ => rfl
  | t + 1, ht => by
    have ih := aU_hd (a := a) (i := i) t (by omega)
    show (if (a 16 (a 0 9 - 1 - 1 - t)).testBit i then andn (hdT (aU a) t i) (2 ^ a 15 (a 0 9 - 1 - 1 - t)) else hdT (aU a) t i) = (if (a 16 (a 0 9 - 1 - (t + 1))).testBit i then andn (hdT a (t + 1) i) (2 ^ a 15 (a 0 9 - 1 - (t + 1))) else hdT a (t + 1) i)
    rw [ih, show a 0 9 - 1 - 1 - t = a 0 9 - 1 - (t + 1) by omega]
theorem aU_wg {a : Nat → Nat → Nat} {i : Nat} : ∀ t, t < a 0 9 → wgT (aU a) t i = wgT a (t + 1) i
  | 0, _ => rfl
  | t + 1, ht => by
    have ih := aU_wg (a := a) (i := i) t (by omega)
    show (if (a 17 (a 0 9 - 1 - 1 - t)).testBit i then wgT (aU a) t i - 1 else wgT (aU a) t i) = (if (a 17 (a 0 9 - 1 - (t + 1))).testBit i then wgT a (t + 1) i - 1 else wgT a (t + 1) i)
    rw [ih, show a 0 9 - 1 - 1 - t = a 0 9 - 1 - (t + 1) by omega]
theorem hdT_1 (a : Nat → Nat → Nat) (i : Nat) : hdT a 1 i = if (a 16 (a 0 9 - 1)).testBit i then andn (a 5 i) (2 ^ a 15 (a 0 9 - 1)) else a 5 i := rfl
theorem wgT_1 (a : Nat → Nat → Nat) (i : Nat) : wgT a 1 i = if (a 17 (a 0 9 - 1)).testBit i then a 6 i - 1 else a 6 i := rfl
theorem aU_inv {a : Nat → Nat → Nat} (I : Inv a) (h9 : 0 < a 0 9) : Inv (aU a) := by
  have hun := I.un
  have hur := I.ur
  have hrg := I.rg
  refine ⟨I.gs, I.ps, I.rd, I.wi, I.no, I.dr, (by show a 0 8 - 1 ≤ 9999; omega), (by show a 0 9 - 1 ≤ 10; omega), (by show a 0 9 - 1 ≤ a 0 8 - 1; omega), I.gr, ?_, ?_, I.si, I.nw, I.rc, I.wt, ?_, ?_, I.sh, I.sb⟩
  · intro i hi
    obtain ⟨q1, q2⟩ := I.hw i hi
    refine ⟨?_, ?_⟩
    · show hdT a 1 i < 4096
      rw [hdT_1]
      have := andn_le (a 5 i) (2 ^ a 15 (a 0 9 - 1))
      split <;> omega
    · show wgT a 1 i ≤ 99
      rw [wgT_1]
      split <;> omega
  · intro i hi hg
    obtain ⟨q1, q2⟩ := I.hz i hi hg
    refine ⟨hdT_0 q1 1, ?_⟩
    show wgT a 1 i = 0
    rw [wgT_1]
    split <;> omega
  · intro j hj
    have hj : j < a 0 9 - 1 := hj
    exact I.ud j (by omega)
  · intro t ht i hi hb
    have ht : t < a 0 9 - 1 := ht
    have hb : (a 17 (a 0 9 - 1 - 1 - t)).testBit i = true := hb
    rw [aU_wg t (by omega)]
    rw [show a 0 9 - 1 - 1 - t = a 0 9 - 1 - (t + 1) by omega] at hb
    exact I.uw (t + 1) (by omega) i hi hb
theorem op18 : Op18 RR := by
  intro σ nw μ hR
  obtain ⟨⟨a, I, hC, hM⟩, -⟩ := id hR
  have h10 := I.gs
  have hun := I.un
  have hur := I.ur
  have hrg := I.rg
  unfold f_X6_undo f_X7_undo f_X3_unhold
  rw [cL_un hC, mL_un hM]
  by_cases q : a 0 9 = 0
  · refine ⟨-4, σ, μ, ?_, ?_, hR⟩
    · rw [if_pos (by rw [q]; rfl)]
    · rw [if_pos (by rw [q]; rfl)]
  · obtain ⟨u1, u2, u3⟩ := I.ud (a 0 9 - 1) (by omega)
    have w0 := I.uw 0 (by omega)
    have d1 : nI (a 0 9) - 1 = nI (a 0 9 - 1) := nI_m (a := a 0 9) (b := 1) (by omega)
    have d2 : nI (a 0 8) - 1 = nI (a 0 8 - 1) := nI_m (a := a 0 8) (b := 1) (by omega)
    have d3 : (wr σ 1 9 (nI (a 0 9 - 1))).1 1 8 = nI (a 0 8) := by rw [wr_get, if_pos rfl, if_neg (by decide)]; exact cL_rg hC
    obtain ⟨σ1, s1, s2, s3, s4, s5⟩ := unhold_l (n := a 15 (a 0 9 - 1)) (F := a 16 (a 0 9 - 1)) (R := a 17 (a 0 9 - 1)) (u := a 0 9 - 1) (G := a 1 0) (hd := a 5) (wg := a 6) u1 (by omega) (by omega) (by omega) h10 (fun i hb hi => w0 i (by omega) hb) (a 1 0) 0 FU (wr (wr σ 1 9 (nI (a 0 9 - 1))) 1 8 (nI (a 0 8 - 1))) (by omega) (by unfold FU; omega) (by rw [wr_ne (by decide), wr_ne (by decide)]; exact cL_gs hC) (by rw [wr_get, if_pos rfl, if_neg (by decide), wr_get, if_pos rfl, if_pos rfl]) (by rw [wr_ne (by decide), wr_ne (by decide)]; exact cL_u1 hC _ (by omega)) (by rw [wr_ne (by decide), wr_ne (by decide)]; exact cL_u2 hC _ (by omega)) (by rw [wr_ne (by decide), wr_ne (by decide)]; exact cL_u3 hC _ (by omega)) (fun i _ hi => ⟨by rw [wr_ne (by decide), wr_ne (by decide)]; exact cL_he hC i hi, by rw [wr_ne (by decide), wr_ne (by decide)]; exact cL_wg hC i hi⟩)
    obtain ⟨μ1, t1, t2, t3, t4, -⟩ := undo_22 (u := a 0 9 - 1) (by omega) 141 0 FU (wr μ 0 17 (nI (a 0 9 - 1))) (by omega) (by unfold FU; omega) (by rw [wr_get, if_pos rfl, if_pos rfl])
    have kc : ∀ c, c ≠ 1 → c ≠ 6 → c ≠ 7 → σ1.1 c = σ.1 c := fun c c1 c6 c7 => by rw [s2 c c6 c7, wr_ne c1, wr_ne c1]
    have kf : ∀ f, f ≠ 8 → f ≠ 9 → σ1.1 1 f = σ.1 1 f := fun f f8 f9 => by rw [s2 1 (by decide) (by decide), wr_get, if_pos rfl, if_neg f8, wr_get, if_pos rfl, if_neg f9]
    have k8 : σ1.1 1 8 = nI (a 0 8 - 1) := by rw [s2 1 (by decide) (by decide), wr_get, if_pos rfl, if_pos rfl]
    have k9 : σ1.1 1 9 = nI (a 0 9 - 1) := by rw [s2 1 (by decide) (by decide), wr_get, if_pos rfl, if_neg (by decide), wr_get, if_pos rfl, if_pos rfl]
    have mc : ∀ c, c ≠ 0 → c ≠ 9 → μ1.1 c = μ.1 c := fun c c0 c9 => by rw [t2 c c9, wr_ne c0]
    have mf : ∀ f, f ≠ 17 → μ1.1 0 f = μ.1 0 f := fun f hf => by rw [t2 0 (by decide), wr_get, if_pos rfl, if_neg hf]
    have m17 : μ1.1 0 17 = nI (a 0 9 - 1) := by rw [t2 0 (by decide), wr_get, if_pos rfl, if_pos rfl]
    have m9 : ∀ q, q < 141 → μ1.1 9 q = μ.1 10 (141 * (a 0 9 - 1) + q) := fun q hq => by rw [t4 q (by omega) hq, wr_ne (by decide)]
    have kg6 : ∀ i, i < a 1 0 → σ1.1 6 i = nI (hdT a 1 i) := fun i hi => by
      rw [s4 i hi, hdT_1]
      by_cases hb : (a 16 (a 0 9 - 1)).testBit i = true
      · rw [if_pos ⟨by omega, hb⟩, if_pos hb]
      · rw [if_neg (fun c => hb c.2), if_neg hb, wr_ne (by decide), wr_ne (by decide)]
        exact cL_he hC i hi
    have kg7 : ∀ i, i < a 1 0 → σ1.1 7 i = nI (wgT a 1 i) := fun i hi => by
      rw [s5 i hi, wgT_1]
      by_cases hb : (a 17 (a 0 9 - 1)).testBit i = true
      · rw [if_pos ⟨by omega, hb⟩, if_pos hb]
      · rw [if_neg (fun c => hb c.2), if_neg hb, wr_ne (by decide), wr_ne (by decide)]
        exact cL_wg hC i hi
    refine ⟨nI (a 0 9 - 1), σ1, μ1, ?_, ?_, hR.par ⟨aU a, aU_inv I (by omega), ?_, ?_⟩ (fun c hc => kc c (by omega) (by omega) (by omega)) (by rw [s3]; rfl) (fun c hc => mc c (by omega) (by omega)) (mf 19 (by decide)) (mf 26 (by decide)) (by rw [t3]; rfl)⟩
    · rw [if_neg (by rw [nI_eq0 (by omega)]; exact q), if_pos (by rw [show (0 : Int32) = nI 0 from rfl, nI_ltE (by omega) (by omega)]; omega)]
      simp only [sq, d1, d3, d2]
      have s1' : f_X3_unhold_h30 FU 0 (wr (wr σ 1 9 (nI (a 0 9 - 1))) 1 8 (nI (a 0 8 - 1))) = some σ1 := s1
      rw [s1']
      simp only [bdr, k9]
    · rw [if_neg (by rw [nI_eq0 (by omega)]; exact q)]
      simp only [sq, d1]
      exact t1
    · refine ⟨(kf 2 (by decide) (by decide)).trans (cL_rd (a := a) hC), (kf 4 (by decide) (by decide)).trans (cL_wi (a := a) hC), (kf 6 (by decide) (by decide)).trans (cL_no (a := a) hC), (kf 7 (by decide) (by decide)).trans (cL_dr (a := a) hC), k8, k9, ?_, ?_, ?_, ?_, ?_, ?_, kg6, kg7, ?_, ?_, ?_, ?_, ?_, ?_, ?_, ?_, ?_, ?_⟩
      · show σ1.1 2 0 = nI (a 1 0); rw [kc 2 (by decide) (by decide) (by decide)]; exact cL_gs hC
      · show σ1.1 9 0 = nI (a 8 0); rw [kc 9 (by decide) (by decide) (by decide)]; exact cL_ps hC
      · show σ1.1 9 1 = 0 ∨ σ1.1 9 1 = nI (ordN (a 8 0) (a 10)); rw [kc 9 (by decide) (by decide) (by decide)]; exact cL_od hC
      · intro i hi; show σ1.1 3 i = nI (a 2 i); rw [kc 3 (by decide) (by decide) (by decide)]; exact cL_ki hC i hi
      · intro i hi; show σ1.1 4 i = nI (a 3 i); rw [kc 4 (by decide) (by decide) (by decide)]; exact cL_pl hC i hi
      · intro i hi; show σ1.1 5 i = nI (a 4 i); rw [kc 5 (by decide) (by decide) (by decide)]; exact cL_ye hC i hi
      · intro i p hi hp hb; show σ1.1 8 (12 * i + p) = nI (a 7 (12 * i + p)); rw [kc 8 (by decide) (by decide) (by decide)]; exact cL_si hC i p hi hp (hdT_sub a i p 1 hb)
      · intro i hi; show σ1.1 10 i = nI (a 9 i); rw [kc 10 (by decide) (by decide) (by decide)]; exact cL_ny hC i hi
      · intro i hi; show σ1.1 11 i = nI (a 10 i); rw [kc 11 (by decide) (by decide) (by decide)]; exact cL_na hC i hi
      · intro i hi; show σ1.1 12 i = nI (a 11 i); rw [kc 12 (by decide) (by decide) (by decide)]; exact cL_nb hC i hi
      · intro i hi; show σ1.1 13 i = nI (a 12 i); rw [kc 13 (by decide) (by decide) (by decide)]; exact cL_ns hC i hi
      · intro i hi; show σ1.1 14 i = nI (a 13 i); rw [kc 14 (by decide) (by decide) (by decide)]; exact cL_rc hC i hi
      · intro i hi; show σ1.1 15 i = nI (a 14 i); rw [kc 15 (by decide) (by decide) (by decide)]; exact cL_wt hC i hi
      · intro j hj; have hj : j < a 0 9 - 1 := hj; show σ1.1 16 j = nI (a 15 j); rw [kc 16 (by decide) (by decide) (by decide)]; exact cL_u1 hC j (by omega)
      · intro j hj; have hj : j < a 0 9 - 1 := hj; show σ1.1 17 j = nI (a 16 j); rw [kc 17 (by decide) (by decide) (by decide)]; exact cL_u2 hC j (by omega)
      · intro j hj; have hj : j < a 0 9 - 1 := hj; show σ1.1 18 j = nI (a 17 j); rw [kc 18 (by decide) (by decide) (by decide)]; exact cL_u3 hC j (by omega)
    · refine ⟨(mf 3 (by decide)).trans (mL_gs (a := a) hM), (mf 8 (by decide)).trans (mL_ps (a := a) hM), (mf 10 (by decide)).trans (mL_rd (a := a) hM), (mf 7 (by decide)).trans (mL_sh (a := a) hM), (mf 11 (by decide)).trans (mL_wi (a := a) hM), (mf 13 (by decide)).trans (mL_no (a := a) hM), (mf 14 (by decide)).trans (mL_dr (a := a) hM), m17, ?_, ?_, ?_, ?_, ?_, ?_, ?_, ?_, ?_, ?_, ?_, ?_, ?_, ?_, ?_, ?_⟩
      · show μ1.1 9 140 = nI (a 0 8 - 1); rw [m9 140 (by decide)]; exact mL_u3 hM 1 (by omega) (by omega)
      · intro i hi; show μ1.1 1 i = nI (a 2 i); rw [mc 1 (by decide) (by decide)]; exact mL_ki hM i hi
      · intro i hi; show μ1.1 2 i = nI (a 3 i); rw [mc 2 (by decide) (by decide)]; exact mL_pl hM i hi
      · intro i hi; show μ1.1 3 i = nI (a 4 i); rw [mc 3 (by decide) (by decide)]; exact mL_ye hM i hi
      · intro i hi; show μ1.1 9 i = nI (hdT a 1 i); rw [m9 i (by omega)]; exact mL_u1 hM 1 (by omega) (by omega) i hi
      · intro i hi; show μ1.1 9 (10 + i) = nI (wgT a 1 i); rw [m9 (10 + i) (by omega)]; exact mL_u2 hM 1 (by omega) (by omega) i hi
      · intro i p hi hp hb; have hi : i < a 1 0 := hi; show μ1.1 9 (20 + (12 * i + p)) = nI (a 7 (12 * i + p)); rw [m9 _ (by omega)]; exact mL_u4 hM 1 (by omega) (by omega) i p hi hp hb
      · intro i hi; show μ1.1 4 i = nI (a 9 i); rw [mc 4 (by decide) (by decide)]; exact mL_ny hM i hi
      · intro i hi; show μ1.1 5 i = nI (a 10 i); rw [mc 5 (by decide) (by decide)]; exact mL_na hM i hi
      · intro i hi; show μ1.1 6 i = nI (a 11 i); rw [mc 6 (by decide) (by decide)]; exact mL_nb hM i hi
      · intro i hi; show μ1.1 7 i = nI (a 13 i); rw [mc 7 (by decide) (by decide)]; exact mL_rc hM i hi
      · intro i hi; show μ1.1 8 i = nI (a 14 i); rw [mc 8 (by decide) (by decide)]; exact mL_wt hM i hi
      · intro t h1 h2 i hi
        have h2 : t ≤ a 0 9 - 1 := h2
        show μ1.1 10 (141 * (a 0 9 - 1 - t) + i) = nI (hdT (aU a) t i)
        rw [mc 10 (by decide) (by decide), aU_hd t (by omega), show a 0 9 - 1 - t = a 0 9 - (t + 1) by omega]
        exact mL_u1 hM (t + 1) (by omega) (by omega) i hi
      · intro t h1 h2 i hi
        have h2 : t ≤ a 0 9 - 1 := h2
        show μ1.1 10 (141 * (a 0 9 - 1 - t) + (10 + i)) = nI (wgT (aU a) t i)
        rw [mc 10 (by decide) (by decide), aU_wg t (by omega), show a 0 9 - 1 - t = a 0 9 - (t + 1) by omega]
        exact mL_u2 hM (t + 1) (by omega) (by omega) i hi
      · intro t h1 h2
        have h2 : t ≤ a 0 9 - 1 := h2
        show μ1.1 10 (141 * (a 0 9 - 1 - t) + 140) = nI (a 0 8 - 1 - t)
        rw [mc 10 (by decide) (by decide), show a 0 9 - 1 - t = a 0 9 - (t + 1) by omega, show a 0 8 - 1 - t = a 0 8 - (t + 1) by omega]
        exact mL_u3 hM (t + 1) (by omega) (by omega)
      · intro t h1 h2 i p hi hp hb
        have h2 : t ≤ a 0 9 - 1 := h2
        show μ1.1 10 (141 * (a 0 9 - 1 - t) + (20 + (12 * i + p))) = nI (a 7 (12 * i + p))
        rw [aU_hd t (by omega)] at hb
        rw [mc 10 (by decide) (by decide), show a 0 9 - 1 - t = a 0 9 - (t + 1) by omega]
        exact mL_u4 hM (t + 1) (by omega) (by omega) i p hi hp hb
