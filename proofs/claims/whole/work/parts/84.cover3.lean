def covF (x3 : Int32) : Int32 → St → Option (Int32 × St) := fun r6 s7 => if r6 = 0 then (some ((-4), s7)) else (if x3 = ((-1)) then (some (s7.1 62 3, s7)) else (if (s7.1 62 3) ≤ x3 then (some ((-4), s7)) else (if x3 < 0 ∨ 3 ≤ ix x3 then none else some (s7.1 65 (ix x3), s7))))
theorem add_cv {h : Nat → Nat} {τ : St} {pl : Nat → Nat} {sz : Nat} (L : LstC h τ pl sz) (hs : sz < 36) (x y : Int32) : f_X0_add τ x y = some (wr (wr (wr τ 63 sz x) 64 sz y) 62 0 (nI (sz + 1))) := by
  unfold f_X0_add
  have e1 : (wr τ 63 sz x).1 62 0 = nI sz := by rw [wr_ne (by decide)]; exact L.1
  have e2 : (wr (wr τ 63 sz x) 64 sz y).1 62 0 = nI sz := by rw [wr_ne (by decide), e1]
  simp only [sq, L.1, ix_nI (show sz < 2 ^ 31 by omega), ok2 hs (show sz < 2 ^ 31 by omega), if_false, e1, e2, nI_s]
  rw [if_pos (by rw [show (36 : Int32) = nI 36 from rfl, nI_ltE (by omega) (by omega)]; exact hs)]
theorem cov_b {a : Nat → Nat → Nat} {σ : St} (I : Inv a) (hC : CA a (vw σ 1)) {r n z : Nat} (hr : r < a 0 2) (hn : n < a 8 0) (hz : z < 1024) (x3 : Int32) : ∀ (k i m sz : Nat) (pl : Nat → Nat) (τ : St), i + k = 36 → k < m → (∀ c, c ≠ 62 → c ≠ 63 → c ≠ 64 → τ.1 c = σ.1 c) → τ.2 = σ.2 → LstC (fun p => hearN a r p (a 0 4)) τ pl sz → sz ≤ i → (∀ u, u < sz → pl u < i ∧ QL (fun p => hearN a r p (a 0 4)) (fun p => decide (wrN a (hearN a r p (a 0 4)) (a 5) n = 0)) z (pl u)) → (∀ u v, u < v → v < sz → pl u < pl v) → (∀ p, p < i → QL (fun p => hearN a r p (a 0 4)) (fun p => decide (wrN a (hearN a r p (a 0 4)) (a 5) n = 0)) z p → ∃ u, u < sz ∧ pl u = p) → ∃ (sz' : Nat) (pl' : Nat → Nat) (τ' : St), f_X6_cover_h50 (nI r) (nI n) x3 m (nI z) (nI i) τ = bdp (f_X0_search τ' (nI z)) (covF x3) ∧ (∀ c, c ≠ 62 → c ≠ 63 → c ≠ 64 → τ'.1 c = σ.1 c) ∧ τ'.2 = σ.2 ∧ LstC (fun p => hearN a r p (a 0 4)) τ' pl' sz' ∧ (∀ u, u < sz' → pl' u < 36 ∧ QL (fun p => hearN a r p (a 0 4)) (fun p => decide (wrN a (hearN a r p (a 0 4)) (a 5) n = 0)) z (pl' u)) ∧ (∀ u v, u < v → v < sz' → pl' u < pl' v) ∧ (∀ p, p < 36 → QL (fun p => hearN a r p (a 0 4)) (fun p => decide (wrN a (hearN a r p (a 0 4)) (a 5) n = 0)) z p → ∃ u, u < sz' ∧ pl' u = p) := by
  have h12 := I.ps
  have hw := I.wi
  intro k
  induction k with
  | zero =>
    intro i m sz pl τ h1 h2 f1 f2 L l1 l2 l3 l4
    obtain ⟨m, rfl⟩ : ∃ m', m = m' + 1 := ⟨m - 1, by omega⟩
    have hi : i = 36 := by omega
    subst hi
    refine ⟨sz, pl, τ, ?_, f1, f2, L, l2, l3, l4⟩
    rw [f_X6_cover_h50, if_pos (by decide)]
    rfl
  | succ k ih =>
    intro i m sz pl τ h1 h2 f1 f2 L l1 l2 l3 l4
    obtain ⟨m, rfl⟩ : ∃ m', m = m' + 1 := ⟨m - 1, by omega⟩
    have hi : i < 36 := by omega
    have hCt : CA a (vw τ 1) := hC.cg (fun k hk => f1 (1 + k) (by omega) (by omega) (by omega))
    have hl := hearN_lt I r i (a 0 4)
    have hWl := wrN_lt I (hearN a r i (a 0 4)) (a 5) n
    have hal : hearN a r i (a 0 4) &&& z ≤ hearN a r i (a 0 4) := Nat.and_le_left
    rw [f_X6_cover_h50, if_neg (by rw [show (36 : Int32) = nI 36 from rfl, nI_leE (by omega) (by omega)]; omega), cL_wi hCt, hearers_C I hCt hr hi (by omega)]
    simp only [bdr, nI_and, sq, nI_s, nI_eq0 (show hearN a r i (a 0 4) &&& z < 2 ^ 31 by omega), wrongedOf_C I hCt (H := hearN a r i (a 0 4)) hn (by omega), nI_eq0 (show wrN a (hearN a r i (a 0 4)) (a 5) n < 2 ^ 31 by omega)]
    have skip : ¬ QL (fun p => hearN a r p (a 0 4)) (fun p => decide (wrN a (hearN a r p (a 0 4)) (a 5) n = 0)) z i → ∃ (sz' : Nat) (pl' : Nat → Nat) (τ' : St), f_X6_cover_h50 (nI r) (nI n) x3 m (nI z) (nI (i + 1)) τ = bdp (f_X0_search τ' (nI z)) (covF x3) ∧ (∀ c, c ≠ 62 → c ≠ 63 → c ≠ 64 → τ'.1 c = σ.1 c) ∧ τ'.2 = σ.2 ∧ LstC (fun p => hearN a r p (a 0 4)) τ' pl' sz' ∧ (∀ u, u < sz' → pl' u < 36 ∧ QL (fun p => hearN a r p (a 0 4)) (fun p => decide (wrN a (hearN a r p (a 0 4)) (a 5) n = 0)) z (pl' u)) ∧ (∀ u v, u < v → v < sz' → pl' u < pl' v) ∧ (∀ p, p < 36 → QL (fun p => hearN a r p (a 0 4)) (fun p => decide (wrN a (hearN a r p (a 0 4)) (a 5) n = 0)) z p → ∃ u, u < sz' ∧ pl' u = p) := fun hq => ih (i + 1) m sz pl τ (by omega) (by omega) f1 f2 L (by omega) (fun u hu => ⟨by have := (l2 u hu).1; omega, (l2 u hu).2⟩) l3 (fun p hp hp2 => by
      by_cases e : p = i
      · rw [e] at hp2; exact absurd hp2 hq
      · exact l4 p (by omega) hp2)
    by_cases c1 : hearN a r i (a 0 4) &&& z = 0
    · rw [if_pos c1]
      exact skip (fun d => d.2 c1)
    · rw [if_neg c1]
      by_cases c2 : wrN a (hearN a r i (a 0 4)) (a 5) n = 0
      · rw [if_pos c2, add_cv L (by omega)]
        simp only []
        refine ih (i + 1) m (sz + 1) (fun u => if u = sz then i else pl u) _ (by omega) (by omega) (fun c h62 h63 h64 => by rw [wr_ne h62, wr_ne h64, wr_ne h63, f1 c h62 h63 h64]) f2 ⟨?_, by omega, fun u hu => ?_⟩ (by omega) (fun u hu => ?_) (fun u v huv hv => ?_) (fun p hp hp2 => ?_)
        · rw [wr_at]
        · show _ = nI (if u = sz then i else pl u) ∧ _ = nI (hearN a r (if u = sz then i else pl u) (a 0 4))
          rw [wr_ne (by decide), wr_ne (by decide), wr_get, if_pos rfl, wr_ne (by decide), wr_get, if_pos rfl, wr_ne (by decide)]
          by_cases e : u = sz
          · rw [if_pos e, if_pos e, if_pos e]
            exact ⟨rfl, rfl⟩
          · rw [if_neg e, if_neg e, if_neg e]
            exact L.2.2 u (by omega)
        · show (if u = sz then i else pl u) < i + 1 ∧ QL _ _ z (if u = sz then i else pl u)
          by_cases e : u = sz
          · rw [if_pos e]
            exact ⟨by omega, decide_eq_true c2, c1⟩
          · rw [if_neg e]
            have := l2 u (by omega)
            exact ⟨by omega, this.2⟩
        · show (if u = sz then i else pl u) < (if v = sz then i else pl v)
          rw [if_neg (by omega)]
          by_cases e : v = sz
          · rw [if_pos e]
            exact (l2 u (by omega)).1
          · rw [if_neg e]
            exact l3 u v huv (by omega)
        · by_cases e : p = i
          · exact ⟨sz, by omega, by show (if sz = sz then i else pl sz) = p; rw [if_pos rfl, e]⟩
          · obtain ⟨u, hu, hu2⟩ := l4 p (by omega) hp2
            exact ⟨u, by omega, by show (if u = sz then i else pl u) = p; rw [if_neg (by omega), hu2]⟩
      · rw [if_neg c2]
        exact skip (fun d => c2 (of_decide_eq_true d.1))
theorem fc_15 {a : Nat → Nat → Nat} {μ : St} (I : Inv a) (hM : MA a (ul μ)) {r n : Nat} (hr : r < a 0 2) (hn : n < a 8 0) (v3 : Int32) : ∀ (k i m : Nat) (ν : St), i + k = 36 → k < m → (∀ c, c ≠ 13 → ν.1 c = μ.1 c) → ν.2 = μ.2 → (∀ p, p < i → ν.1 13 p = if (fun p => decide (wrN a (hearN a r p (a 0 4)) (a 5) n = 0)) p = true then nI (hearN a r p (a 0 4)) else -1) → ∃ ν', f_X7_findCover_h15 (nI r) (nI n) m v3 (nI i) ν = f_X7_findCover_h64 (nI r) (nI n) FU v3 0 ν' ∧ (∀ c, c ≠ 13 → ν'.1 c = μ.1 c) ∧ ν'.2 = μ.2 ∧ EarsM (fun p => hearN a r p (a 0 4)) (fun p => decide (wrN a (hearN a r p (a 0 4)) (a 5) n = 0)) ν' := by
  have hw := I.wi
  intro k
  induction k with
  | zero =>
    intro i m ν h1 h2 f1 f2 f3
    obtain ⟨m, rfl⟩ : ∃ m', m = m' + 1 := ⟨m - 1, by omega⟩
    rw [f_X7_findCover_h15, if_pos (by rw [show (36 : Int32) = nI 36 from rfl, nI_leE (by omega) (by omega)]; omega)]
    exact ⟨ν, rfl, f1, f2, fun p hp => f3 p (by omega)⟩
  | succ k ih =>
    intro i m ν h1 h2 f1 f2 f3
    obtain ⟨m, rfl⟩ : ∃ m', m = m' + 1 := ⟨m - 1, by omega⟩
    have hi : i < 36 := by omega
    have hMn : MA a (ul ν) := hM.cg (ul_cg (fun f _ _ _ => by rw [f1 0 (by decide)]) (fun c h3 h4 => f1 c (by omega)))
    have hWl := wrN_lt I (hearN a r i (a 0 4)) (a 5) n
    rw [f_X7_findCover_h15, if_neg (by rw [show (36 : Int32) = nI 36 from rfl, nI_leE (by omega) (by omega)]; omega), wrongedBy_M I hMn hr hi hn, mL_wi hMn, hearers_M I hMn hr hi (by omega)]
    simp only [bdr, ix_nI (show i < 2 ^ 31 by omega), ok2 hi (show i < 2 ^ 31 by omega), if_false, sq, nI_s, nI_eq0 (show wrN a (hearN a r i (a 0 4)) (a 5) n < 2 ^ 31 by omega)]
    have go : ∀ x, x = (if (fun p => decide (wrN a (hearN a r p (a 0 4)) (a 5) n = 0)) i = true then nI (hearN a r i (a 0 4)) else -1) → ∃ ν', f_X7_findCover_h15 (nI r) (nI n) m v3 (nI (i + 1)) (wr ν 13 i x) = f_X7_findCover_h64 (nI r) (nI n) FU v3 0 ν' ∧ (∀ c, c ≠ 13 → ν'.1 c = μ.1 c) ∧ ν'.2 = μ.2 ∧ EarsM (fun p => hearN a r p (a 0 4)) (fun p => decide (wrN a (hearN a r p (a 0 4)) (a 5) n = 0)) ν' := fun x hx => ih (i + 1) m _ (by omega) (by omega) (fun c hc => by rw [wr_ne hc, f1 c hc]) f2 (fun p hp => by
      rw [wr_get, if_pos rfl]
      by_cases e : p = i
      · rw [if_pos e, hx, e]
      · rw [if_neg e]
        exact f3 p (by omega))
    by_cases c : wrN a (hearN a r i (a 0 4)) (a 5) n = 0
    · rw [if_pos c]
      exact go _ (by rw [if_pos (decide_eq_true c)])
    · rw [if_neg c]
      exact go _ (by rw [if_neg (fun d => c (of_decide_eq_true d))])
theorem mono_le {pl : Nat → Nat} {sz : Nat} (hm : ∀ u v, u < v → v < sz → pl u < pl v) {u v : Nat} (hu : u < sz) (h : pl u < pl v) : u < v := by
  rcases Nat.lt_trichotomy u v with q | q | q
  · exact q
  · subst q; omega
  · have := hm v u q hu
    omega
theorem cover_res {h : Nat → Nat} {ok : Nat → Bool} {z : Nat} {τ ν : St} {pl : Nat → Nat} {sz : Nat} (hz0 : z ≠ 0) (hz : z < 1024) (hh : ∀ p, h p < 1024) (E : EarsM h ok ν) (L : LstC h τ pl sz) (l2 : ∀ u, u < sz → pl u < 36 ∧ QL h ok z (pl u)) (l3 : ∀ u v, u < v → v < sz → pl u < pl v) (l4 : ∀ p, p < 36 → QL h ok z p → ∃ u, u < sz ∧ pl u = p) (x y : Int32) : ∃ (rC rM : Int32) (τ' ν' : St), f_X0_search τ (nI z) = some (rC, τ') ∧ f_X7_findCover_h64 x y FU (nI z) 0 ν = some (rM, ν') ∧ ((rC = 0 ∧ rM = -4) ∨ ∃ c, c ≤ 3 ∧ rC = 1 ∧ rM = nI c ∧ τ'.1 62 3 = nI c ∧ ∀ q, q < c → τ'.1 65 q = ν'.1 14 q) ∧ (∀ c, c ≠ 62 → c ≠ 65 → τ'.1 c = τ.1 c) ∧ τ'.2 = τ.2 ∧ (∀ c, c ≠ 14 → ν'.1 c = ν.1 c) ∧ ν'.2 = ν.2 := by
  have hok : ∀ u, u < sz → ok (pl u) = true := fun u hu => (l2 u hu).2.1
  have hs := L.2.1
  unfold f_X0_search f_X0_searchOne f_X0_searchTwo f_X0_searchThree
  rw [if_neg (by rw [nI_eq0 (by omega)]; exact hz0)]
  rcases fc_one E hh hz x y 36 0 FU (by omega) (by unfold FU; omega) (fun p hp => by omega) with ⟨p, p1, p2, p3, p4⟩ | ⟨n1, n2⟩
  · have p4' : f_X7_findCover_h64 x y FU (nI z) 0 ν = some (1, wr ν 14 0 (nI p)) := p4
    obtain ⟨u0, hu0, hu1⟩ := l4 p p1 (p2.L hz0)
    rcases sc_one L hok hh hz sz 0 FU (by omega) (by unfold FU; omega) with ⟨u, a1, a2, a3, a4, a5⟩ | ⟨a1, a2⟩
    · have a5' : f_X0_searchOne_h2 (nI z) FU 0 τ = some (1, fd1 τ (pl u)) := a5
      have e : pl u = p := by
        have w1 : ¬ u0 < u := fun w => a4 u0 (by omega) w (by rw [hu1]; exact p2)
        have w2 : ¬ pl u < p := fun w => p3 _ w a3
        rcases Nat.lt_trichotomy u u0 with q | q | q
        · have := l3 u u0 q hu0
          omega
        · rw [q, hu1]
        · omega
      rw [p4', a5']
      simp only [bdp]
      rw [if_neg (by decide)]
      refine ⟨1, 1, fd1 τ (pl u), wr ν 14 0 (nI p), rfl, rfl, Or.inr ⟨1, by decide, rfl, rfl, ?_, fun q hq => ?_⟩, fun c c1 c2 => ?_, rfl, fun c hc => wr_ne hc, rfl⟩
      · unfold fd1; rw [wr_ne (by decide), wr_at]; rfl
      · have : q = 0 := by omega
        subst this
        unfold fd1
        rw [wr_at, wr_at, e]
      · unfold fd1; rw [wr_ne c2, wr_ne c1]
    · exact absurd (by rw [hu1]; exact p2) (a1 u0 (by omega) hu0)
  · have n2' : f_X7_findCover_h64 x y FU (nI z) 0 ν = f_X7_findCover_h114 x y FU (nI z) 0 ν := n2
    rcases sc_one L hok hh hz sz 0 FU (by omega) (by unfold FU; omega) with ⟨u, a1, a2, a3, a4, a5⟩ | ⟨-, a2⟩
    · exact absurd a3 (n1 _ (l2 u a2).1)
    have a2' : f_X0_searchOne_h2 (nI z) FU 0 τ = some (0, τ) := a2
    rw [n2', a2']
    simp only [bdp]
    rw [if_pos trivial]
    rcases fc_two E hh hz x y 1296 0 FU (by omega) (by unfold FU; omega) (fun p hp => by omega) with ⟨p, p1, p2, p3, p4⟩ | ⟨m1, m2⟩
    · have p4' : f_X7_findCover_h114 x y FU (nI z) 0 ν = some (2, wr (wr ν 14 0 (nI (p / 36))) 14 1 (nI (p % 36))) := p4
      have hx : p / 36 < 36 := by omega
      have hy : p % 36 < 36 := by omega
      have first : ∀ s t, t < 36 → Q2 h ok z s t → p ≤ 36 * s + t := fun s t ht w => by
        rcases Nat.lt_or_ge (36 * s + t) p with q | q
        · refine absurd ?_ (p3 _ q)
          rw [show (36 * s + t) / 36 = s by omega, show (36 * s + t) % 36 = t by omega]
          exact w
        · exact q
      have hxy := p2.ne (n1 _ hy)
      have hlt : p / 36 < p % 36 := by
        have := first _ _ hx p2.sy
        omega
      obtain ⟨u0, hu0, hu1⟩ := l4 _ hx (p2.La (n1 _ hy))
      obtain ⟨v0, hv0, hv1⟩ := l4 _ hy (p2.sy.La (n1 _ hx))
      have huv : u0 < v0 := mono_le l3 hu0 (by omega)
      rcases sc_two L hok hh hz sz 0 FU (by omega) (by unfold FU; omega) with ⟨u, v, a1, a2, a3, a4, a5, a6⟩ | ⟨a1, a2⟩
      · have a6' : f_X0_searchTwo_h2 (nI z) FU 0 τ = some (1, fd2 τ (pl u) (pl v)) := a6
        have w1 : ¬ (u0 < u ∨ (u0 = u ∧ v0 < v)) := fun w => a5 u0 v0 (by omega) huv hv0 w (by rw [hu1, hv1]; exact p2)
        have w2 := first _ _ (l2 v a3).1 a4
        have hb := (l2 v a3).1
        have e1 : u = u0 := by
          rcases Nat.lt_trichotomy u u0 with q | q | q
          · have := l3 u u0 q hu0
            omega
          · exact q
          · omega
        subst e1
        have e2 : v = v0 := by
          rcases Nat.lt_trichotomy v v0 with q | q | q
          · have := l3 v v0 q hv0
            omega
          · exact q
          · omega
        subst e2
        rw [p4', a6']
        simp only []
        rw [if_neg (by decide)]
        refine ⟨1, 2, fd2 τ (pl u) (pl v), _, rfl, rfl, Or.inr ⟨2, by decide, rfl, rfl, ?_, fun q hq => ?_⟩, fun c c1 c2 => ?_, rfl, fun c hc => by rw [wr_ne hc, wr_ne hc], rfl⟩
        · unfold fd2; rw [wr_ne (by decide), wr_ne (by decide), wr_at]; rfl
        · unfold fd2
          rw [wr_get, if_pos rfl, wr_get, if_pos rfl, wr_ne (show (65 : Nat) ≠ 62 by decide), wr_get, if_pos rfl, wr_get, if_pos rfl, hu1, hv1]
          by_cases q1 : q = 1
          · rw [if_pos q1, if_pos q1]
          · have : q = 0 := by omega
            rw [if_neg q1, if_neg q1, if_pos this, if_pos this]
        · unfold fd2; rw [wr_ne c2, wr_ne c2, wr_ne c1]
      · exact absurd (by rw [hu1, hv1]; exact p2) (a1 u0 v0 (by omega) huv hv0)
    · have m2' : f_X7_findCover_h114 x y FU (nI z) 0 ν = f_X7_findCover_h202 x y FU (nI z) 0 ν := m2
      have k2 : ∀ s t, s < 36 → t < 36 → ¬ Q2 h ok z s t := fun s t hs ht w => by
        refine absurd ?_ (m1 (36 * s + t) (by omega))
        rw [show (36 * s + t) / 36 = s by omega, show (36 * s + t) % 36 = t by omega]
        exact w
      rcases sc_two L hok hh hz sz 0 FU (by omega) (by unfold FU; omega) with ⟨u, v, a1, a2, a3, a4, a5, a6⟩ | ⟨-, a2⟩
      · exact absurd a4 (k2 _ _ (l2 u (by omega)).1 (l2 v a3).1)
      have a2' : f_X0_searchTwo_h2 (nI z) FU 0 τ = some (0, τ) := a2
      rw [m2', a2']
      simp only []
      rw [if_pos trivial]
      rcases fc_three E hh hz x y 46656 0 FU (by omega) (by unfold FU; omega) (fun p hp => by omega) with ⟨p, p1, p2, p3, p4⟩ | ⟨o1, o2⟩
      · have p4' : f_X7_findCover_h202 x y FU (nI z) 0 ν = some (3, wr (wr (wr ν 14 0 (nI (p / 36 / 36))) 14 1 (nI (p / 36 % 36))) 14 2 (nI (p % 36))) := p4
        have hx : p / 36 / 36 < 36 := by omega
        have hy : p / 36 % 36 < 36 := by omega
        have hw : p % 36 < 36 := by omega
        have hp : p = 36 * (36 * (p / 36 / 36) + p / 36 % 36) + p % 36 := by omega
        have first : ∀ s t w, t < 36 → w < 36 → Q3 h ok z s t w → p ≤ 36 * (36 * s + t) + w := fun s t w ht hw q3 => by
          rcases Nat.lt_or_ge (36 * (36 * s + t) + w) p with q | q
          · refine absurd ?_ (p3 _ q)
            rw [show (36 * (36 * s + t) + w) / 36 / 36 = s by omega, show (36 * (36 * s + t) + w) / 36 % 36 = t by omega, show (36 * (36 * s + t) + w) % 36 = w by omega]
            exact q3
          · exact q
        generalize hX : p / 36 / 36 = X at *
        generalize hY : p / 36 % 36 = Y at *
        generalize hZ : p % 36 = Z at *
        have lx := p2.La (k2 _ _ hy hw)
        have ly := p2.s1.La (k2 _ _ hx hw)
        have lz := p2.s2.s1.La (k2 _ _ hx hy)
        have nxy : X ≠ Y := fun e => by
          have := p2.1.2.2
          rw [← e] at this
          exact lx.ap this
        have nyz : Y ≠ Z := fun e => by
          have := p2.2.2.1.2.2
          rw [← e] at this
          exact ly.ap this
        have hlt1 : X < Y := by
          have := first _ _ _ hx hw p2.s1
          omega
        have hlt2 : Y < Z := by
          have := first _ _ _ hw hy p2.s2
          omega
        obtain ⟨u0, hu0, hu1⟩ := l4 _ hx lx
        obtain ⟨v0, hv0, hv1⟩ := l4 _ hy ly
        obtain ⟨w0, hw0, hw1⟩ := l4 _ hw lz
        have huv : u0 < v0 := mono_le l3 hu0 (by omega)
        have hvw : v0 < w0 := mono_le l3 hv0 (by omega)
        rcases sc_three L hok hh hz sz 0 FU (by omega) (by unfold FU; omega) with ⟨u, v, w, b1, b2, b3, b4, b5, b6, b7⟩ | ⟨b1, b2⟩
        · have b7' : f_X0_searchThree_h2 (nI z) FU 0 τ = some (1, fd3 τ (pl u) (pl v) (pl w)) := b7
          have z1 : ¬ (u0 < u ∨ (u0 = u ∧ (v0 < v ∨ (v0 = v ∧ w0 < w)))) := fun q => b6 u0 v0 w0 (by omega) huv hvw hw0 q (by rw [hu1, hv1, hw1]; exact p2)
          have hbv := (l2 v (by omega)).1
          have hbw := (l2 w b4).1
          have z2 := first _ _ _ hbv hbw b5
          have e1 : u = u0 := by
            rcases Nat.lt_trichotomy u u0 with q | q | q
            · have := l3 u u0 q hu0
              omega
            · exact q
            · omega
          subst e1
          have e2 : v = v0 := by
            rcases Nat.lt_trichotomy v v0 with q | q | q
            · have := l3 v v0 q hv0
              omega
            · exact q
            · omega
          subst e2
          have e3 : w = w0 := by
            rcases Nat.lt_trichotomy w w0 with q | q | q
            · have := l3 w w0 q hw0
              omega
            · exact q
            · omega
          subst e3
          rw [p4', b7']
          simp only []
          rw [if_neg (by decide)]
          refine ⟨1, 3, fd3 τ (pl u) (pl v) (pl w), _, rfl, rfl, Or.inr ⟨3, by decide, rfl, rfl, ?_, fun q hq => ?_⟩, fun c c1 c2 => ?_, rfl, fun c hc => by rw [wr_ne hc, wr_ne hc, wr_ne hc], rfl⟩
          · unfold fd3; rw [wr_ne (by decide), wr_ne (by decide), wr_ne (by decide), wr_at]; rfl
          · unfold fd3
            rw [wr_get, if_pos rfl, wr_get, if_pos rfl, wr_get, if_pos rfl, wr_ne (show (65 : Nat) ≠ 62 by decide), wr_get, if_pos rfl, wr_get, if_pos rfl, wr_get, if_pos rfl, hu1, hv1, hw1]
            by_cases q2 : q = 2
            · rw [if_pos q2, if_pos q2]
            · rw [if_neg q2, if_neg q2]
              by_cases q1 : q = 1
              · rw [if_pos q1, if_pos q1]
              · have : q = 0 := by omega
                rw [if_neg q1, if_neg q1, if_pos this, if_pos this]
          · unfold fd3; rw [wr_ne c2, wr_ne c2, wr_ne c2, wr_ne c1]
        · exact absurd (by rw [hu1, hv1, hw1]; exact p2) (b1 u0 v0 w0 (by omega) huv hvw hw0)
      · have o2' : f_X7_findCover_h202 x y FU (nI z) 0 ν = some (-4, ν) := o2
        rcases sc_three L hok hh hz sz 0 FU (by omega) (by unfold FU; omega) with ⟨u, v, w, b1, b2, b3, b4, b5, b6, b7⟩ | ⟨-, b2⟩
        · refine absurd ?_ (o1 (36 * (36 * pl u + pl v) + pl w) (by have := (l2 u (by omega)).1; have := (l2 v (by omega)).1; have := (l2 w b4).1; omega))
          have q1 := (l2 v (by omega)).1
          have q2 := (l2 w b4).1
          rw [show (36 * (36 * pl u + pl v) + pl w) / 36 / 36 = pl u by omega, show (36 * (36 * pl u + pl v) + pl w) / 36 % 36 = pl v by omega, show (36 * (36 * pl u + pl v) + pl w) % 36 = pl w by omega]
          exact b5
        · have b2' : f_X0_searchThree_h2 (nI z) FU 0 τ = some (0, τ) := b2
          rw [o2', b2']
          simp only []
          rw [if_pos trivial]
          exact ⟨0, -4, τ, ν, rfl, rfl, Or.inl ⟨rfl, rfl⟩, fun _ _ _ => rfl, rfl, fun _ _ => rfl, rfl⟩
