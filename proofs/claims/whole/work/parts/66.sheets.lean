theorem Rsh.up1 {σ σ' μ μ' : St} {j : Nat} (h : Rsh σ μ) (f1 : ∀ k, k < 4 → k ≠ j → σ'.1 (53 + 2 * k) = σ.1 (53 + 2 * k)) (f2 : ∀ k, k < 4 → k ≠ j → σ'.2 (54 + 2 * k) = σ.2 (54 + 2 * k)) (g17 : ∀ k, k ≠ j → μ'.1 17 k = μ.1 17 k) (g18 : ∀ k, k ≠ j → μ'.1 18 k = μ.1 18 k) (g19 : ∀ k i, k < 4 → k ≠ j → i < 36 → μ'.2 19 (36 * k + i) = μ.2 19 (36 * k + i)) (hn : Rsh1 σ' μ' j) : Rsh σ' μ' := by
  intro k hk
  by_cases e : k = j
  · subst e
    exact hn
  · exact (h k hk).fr (f1 k hk e) (f2 k hk e) (g17 k e) (g18 k e) (fun i hi => g19 k i hk e hi)
theorem op37 : Op37 RR := by
  intro σ nw μ hR x
  obtain ⟨-, -, -, hs, -⟩ := id hR
  unfold f_X6_drop f_X7_drop
  simp only [isSheet_C0, in03]
  by_cases v : 0 ≤ x.toInt ∧ x.toInt < 4
  · obtain ⟨j, hj, rfl⟩ := nI_ofR (n := 4) v (by decide)
    rw [if_neg (not_not_intro v), if_neg (not_not_intro v)]
    simp only [ix_nI (show j < 2 ^ 31 by omega), ok2 hj (show j < 2 ^ 31 by omega), if_false, sq]
    rcases hs j hj with ⟨h1, h2⟩ | ⟨h1, l, n, hl, hn, a1, a2, a3, a4, a5⟩
    · rw [h1, h2, if_pos rfl, if_neg (by decide)]
      exact ⟨-11, σ, μ, rfl, rfl, hR⟩
    · rw [h1, a2, if_neg (by decide), if_pos (by rw [nI_ge0 (show l < 2 ^ 31 by omega)]; trivial)]
      refine ⟨nI n, wr σ (53 + 2 * j) 0 0, wr μ 17 j (-1), ?_, ?_, hR.shs (fun c hc => wr_ne (by omega)) (fun c hc => wr_ne (by omega)) ?_⟩
      · rw [show (wr σ (53 + 2 * j) 0 0).1 (53 + 2 * j) 2 = nI n by rw [wr_get, if_pos rfl, if_neg (by decide), a3]]
      · rw [show (wr μ 17 j (-1)).1 18 j = nI n by rw [wr_ne (by decide), a4]]
      · refine hs.up1 (j := j) (fun k _ e => wr_ne (by omega)) (fun k _ e => rfl) (fun k e => ?_) (fun k e => ?_) (fun k i _ e _ => rfl) (Or.inl ⟨?_, ?_⟩)
        · rw [wr_get, if_pos rfl, if_neg e]
        · rw [wr_ne (by decide)]
        · rw [wr_get, if_pos rfl, if_pos rfl]
        · rw [wr_get, if_pos rfl, if_pos rfl]
  · rw [if_pos v, if_pos v]
    exact ⟨-1, σ, μ, rfl, rfl, hR⟩
theorem fill_it (j : Nat) : ∀ (k i m : Nat) (σ : St), i + k = 36 → k < m → ∃ σ', f_J7_fill_d0a16_it_h6 j 0 m (nI i) 36 σ = some σ' ∧ σ'.1 = σ.1 ∧ (∀ d, d ≠ 54 + 2 * j → σ'.2 d = σ.2 d) ∧ (∀ q, i ≤ q → q < 36 → σ'.2 (54 + 2 * j) q = 0) ∧ (∀ q, q < i → σ'.2 (54 + 2 * j) q = σ.2 (54 + 2 * j) q) := by
  intro k
  induction k with
  | zero =>
    intro i m σ h1 h2
    obtain ⟨m, rfl⟩ : ∃ m', m = m' + 1 := ⟨m - 1, by omega⟩
    rw [f_J7_fill_d0a16_it_h6, show (36 : Int32) = nI 36 from rfl, if_pos (by rw [nI_leE (by omega) (by omega)]; omega)]
    exact ⟨σ, rfl, rfl, fun _ _ => rfl, fun q h3 h4 => by omega, fun _ _ => rfl⟩
  | succ k ih =>
    intro i m σ h1 h2
    obtain ⟨m, rfl⟩ : ∃ m', m = m' + 1 := ⟨m - 1, by omega⟩
    rw [f_J7_fill_d0a16_it_h6, show (36 : Int32) = nI 36 from rfl, if_neg (by rw [nI_leE (by omega) (by omega)]; omega)]
    simp only [ix_nI (show i < 2 ^ 31 by omega), ok2 (show i < 36 by omega) (show i < 2 ^ 31 by omega), if_false, sq, nI_s]
    obtain ⟨σ', e, e1, e2, e3, e4⟩ := ih (i + 1) m (wl σ (54 + 2 * j) i 0) (by omega) (by omega)
    refine ⟨σ', e, e1, fun d hd => by rw [e2 d hd, wl_ne hd], fun q h3 h4 => ?_, fun q h3 => ?_⟩
    · by_cases h5 : q = i
      · subst h5
        rw [e4 q (by omega), wl_get, if_pos rfl, if_pos rfl]
      · exact e3 q (by omega) h4
    · rw [e4 q (by omega), wl_get, if_pos rfl, if_neg (by omega)]
theorem sheet_M {j : Nat} (hj : j < 4) (x y : Int32) : ∀ (k i m : Nat) (μ : St), i + k = 36 → k < m → ∃ μ', f_X7_sheet_h40 (nI j) x y m (nI i) μ = some (y, μ') ∧ μ'.1 = μ.1 ∧ (∀ q, i ≤ q → q < 36 → μ'.2 19 (36 * j + q) = 0) ∧ (∀ p, (p < 36 * j + i ∨ 36 * j + 36 ≤ p) → μ'.2 19 p = μ.2 19 p) := by
  intro k
  induction k with
  | zero =>
    intro i m μ h1 h2
    obtain ⟨m, rfl⟩ : ∃ m', m = m' + 1 := ⟨m - 1, by omega⟩
    rw [f_X7_sheet_h40, if_pos (by rw [show (36 : Int32) = nI 36 from rfl, nI_leE (by omega) (by omega)]; omega)]
    exact ⟨μ, rfl, rfl, fun q h3 h4 => by omega, fun _ _ => rfl⟩
  | succ k ih =>
    intro i m μ h1 h2
    obtain ⟨m, rfl⟩ : ∃ m', m = m' + 1 := ⟨m - 1, by omega⟩
    rw [f_X7_sheet_h40, if_neg (by rw [show (36 : Int32) = nI 36 from rfl, nI_leE (by omega) (by omega)]; omega)]
    simp only [show (36 : Int32) * nI j + nI i = nI (36 * j + i) by rw [show (36 : Int32) = nI 36 from rfl, pk_mul, nI_k], ix_nI (show 36 * j + i < 2 ^ 31 by omega), ok2 (show 36 * j + i < 144 by omega) (show 36 * j + i < 2 ^ 31 by omega), if_false, sq, nI_s]
    obtain ⟨μ', e, e1, e3, e4⟩ := ih (i + 1) m (wl μ 19 (36 * j + i) 0) (by omega) (by omega)
    refine ⟨μ', e, e1, fun q h3 h4 => ?_, fun p h3 => ?_⟩
    · by_cases h5 : q = i
      · subst h5
        rw [e4 _ (by omega), wl_get, if_pos rfl, if_pos rfl]
      · exact e3 q (by omega) h4
    · rw [e4 p (by omega), wl_get, if_pos rfl, if_neg (by omega)]
theorem op36 : Op36 RR := by
  intro σ nw μ hR x y z
  obtain ⟨-, -, -, hs, -⟩ := id hR
  unfold f_X6_sheet f_X7_sheet
  simp only [isSheet_C0, isLane_C0, isSheet_M0]
  by_cases v : (0 ≤ x.toInt ∧ x.toInt < 4) ∧ (0 ≤ y.toInt ∧ y.toInt < 4)
  · rw [if_neg (not_not_intro v.1), if_neg (not_not_intro v.2), if_neg (not_not_intro v)]
    obtain ⟨j, hj, rfl⟩ := nI_ofR (n := 4) v.1 (by decide)
    obtain ⟨l, hl, rfl⟩ := nI_ofR (n := 4) v.2 (by decide)
    by_cases h1 : z ≤ 36
    · rw [if_pos h1, if_pos h1]
      by_cases h2 : 0 ≤ z
      · rw [if_pos h2, if_pos h2]
        rw [le_T, show (36 : Int32).toInt = 36 by decide] at h1
        rw [le_T, T_0] at h2
        obtain ⟨n, hn, rfl⟩ := nI_ofR (n := 37) (x := z) ⟨h2, by omega⟩ (by decide)
        simp only [ix_nI (show j < 2 ^ 31 by omega), ok2 hj (show j < 2 ^ 31 by omega), if_false, sq, f_X4_renew_sh, f_J7_fill_d0a16_it]
        obtain ⟨σ', c1, c2, c3, c4, -⟩ := fill_it j 36 0 FU (wr (wr (wr σ (53 + 2 * j) 0 1) (53 + 2 * j) 1 (nI l)) (53 + 2 * j) 2 (nI n)) (by omega) (by unfold FU; omega)
        obtain ⟨μ', m1, m2, m3, m4⟩ := sheet_M hj (nI l) (nI n) 36 0 FU (wr (wr μ 17 j (nI l)) 18 j (nI n)) (by omega) (by unfold FU; omega)
        have c1' : f_J7_fill_d0a16_it_h6 j 0 FU 0 36 (wr (wr (wr σ (53 + 2 * j) 0 1) (53 + 2 * j) 1 (nI l)) (53 + 2 * j) 2 (nI n)) = some σ' := c1
        have m1' : f_X7_sheet_h40 (nI j) (nI l) (nI n) FU 0 (wr (wr μ 17 j (nI l)) 18 j (nI n)) = some (nI n, μ') := m1
        rw [c1', m1']
        refine ⟨nI n, σ', μ', rfl, rfl, hR.shs (fun c hc => ?_) (fun c hc => ?_) ?_⟩
        · rw [c2, wr_ne (by omega), wr_ne (by omega), wr_ne (by omega)]
        · rw [m2, wr_ne (by omega), wr_ne (by omega)]
        · refine hs.up1 (j := j) (fun k _ e => ?_) (fun k _ e => ?_) (fun k e => ?_) (fun k e => ?_) (fun k i hk e hi => ?_) (Or.inr ⟨?_, l, n, hl, by omega, ?_, ?_, ?_, ?_, fun i hi => ?_⟩)
          · rw [c2, wr_ne (by omega), wr_ne (by omega), wr_ne (by omega)]
          · rw [c3 _ (by omega)]; rfl
          · rw [m2, wr_ne (by decide), wr_get, if_pos rfl, if_neg e]
          · rw [m2, wr_get, if_pos rfl, if_neg e, wr_ne (by decide)]
          · rw [m4 _ (by omega)]; rfl
          · rw [c2, wr_get, if_pos rfl, if_neg (by decide), wr_get, if_pos rfl, if_neg (by decide), wr_get, if_pos rfl, if_pos rfl]
          · rw [c2, wr_get, if_pos rfl, if_neg (by decide), wr_get, if_pos rfl, if_pos rfl]
          · rw [m2, wr_ne (by decide), wr_get, if_pos rfl, if_pos rfl]
          · rw [c2, wr_get, if_pos rfl, if_pos rfl]
          · rw [m2, wr_get, if_pos rfl, if_pos rfl]
          · rw [c4 i (by omega) hi, m3 i (by omega) hi]
      · rw [if_neg h2, if_neg h2]
        exact ⟨-14, σ, μ, rfl, rfl, hR⟩
    · rw [if_neg h1, if_neg h1]
      exact ⟨-1, σ, μ, rfl, rfl, hR⟩
  · rw [if_pos v]
    refine ⟨-1, σ, μ, ?_, rfl, hR⟩
    by_cases c1 : 0 ≤ x.toInt ∧ x.toInt < 4
    · rw [if_neg (not_not_intro c1), if_pos (fun c2 => v ⟨c1, c2⟩)]
    · rw [if_pos c1]
theorem Rsh.put {σ μ : St} (h : Rsh σ μ) {j q : Nat} (hj : j < 4) (hq : q < 36) (c : Int64) : Rsh (wl σ (54 + 2 * j) q c) (wl μ 19 (36 * j + q) c) := by
  intro k hk
  have := h k hk
  unfold Rsh1 at this ⊢
  rw [wl_1, wl_1]
  rcases this with h | ⟨h1, l, n, hl, hn, a1, a2, a3, a4, a5⟩
  · exact Or.inl h
  · refine Or.inr ⟨h1, l, n, hl, hn, a1, a2, a3, a4, fun i hi => ?_⟩
    rw [wl_get, wl_get, if_pos rfl]
    by_cases e : k = j
    · subst e
      rw [if_pos rfl]
      by_cases e2 : i = q
      · rw [if_pos e2, if_pos (by omega)]
      · rw [if_neg e2, if_neg (by omega)]
        exact a5 i hi
    · rw [if_neg (by omega), if_neg (by omega)]
      exact a5 i hi
theorem put_C {σ : St} {j l n o : Nat} (hl : l < 4) (ho : o < n) (hn : n ≤ 36) (h1 : σ.1 (53 + 2 * j) 1 = nI l) (h2 : σ.1 (53 + 2 * j) 2 = nI n) (c : Int64) : f_X4_put_sh σ j (nI o) c = some (wl σ (54 + 2 * j) o (f_X7_asLane (nI l) c)) := by
  unfold f_X4_put_sh
  rw [h2, if_neg (nI_pos (by omega)), if_pos (by rw [nI_ltE (by omega) (by omega)]; omega), cut_as hl h1]
  simp only [ix_nI (show o < 2 ^ 31 by omega), ok2 (show o < 36 by omega) (show o < 2 ^ 31 by omega), if_false, sq]
theorem op38 : Op38 RR := by
  intro σ nw μ hR x y z c
  obtain ⟨-, -, -, hs, -⟩ := id hR
  unfold f_X6_item f_X7_item
  simp only [isSheet_M0]
  by_cases v : (0 ≤ x.toInt ∧ x.toInt < 4) ∧ (0 ≤ y.toInt ∧ y.toInt < 4)
  · rw [if_neg (not_not_intro v)]
    obtain ⟨j, hj, rfl⟩ := nI_ofR (n := 4) v.1 (by decide)
    obtain ⟨l, hl, rfl⟩ := nI_ofR (n := 4) v.2 (by decide)
    obtain ⟨r, hc, hm, hr, h0⟩ := refuse (hs j hj) hj hl (w := 1) (by decide) z
    have hc' : f_X6_refusalOfItems σ (nI j) (nI l) z 1 = some r := hc
    have hm' : f_X7_lacksRow μ (nI j) (nI l) z 1 = some r := hm
    rw [hc', hm']
    simp only [bdr]
    by_cases q : r = 0
    · obtain ⟨a1, a2, a3, a4, n, o, hn, a5, a6, rfl, ho⟩ := h0 q
      subst q
      rw [if_pos rfl]
      simp only [ix_nI (show j < 2 ^ 31 by omega), ok2 hj (show j < 2 ^ 31 by omega), if_false, put_C hl (show o < n by omega) hn a2 a5, show (36 : Int32) * nI j + nI o = nI (36 * j + o) by rw [show (36 : Int32) = nI 36 from rfl, pk_mul, nI_k], ix_nI (show 36 * j + o < 2 ^ 31 by omega), ok2 (show 36 * j + o < 144 by omega) (show 36 * j + o < 2 ^ 31 by omega), sq]
      rw [if_pos (by decide)]
      exact ⟨1, _, _, rfl, rfl, hR.shs (fun c hc => rfl) (fun c hc => rfl) (hs.put hj (by omega) _)⟩
    · rw [if_neg q, if_neg (by rcases hr with hr | hr | hr | hr <;> first | exact absurd hr q | (rw [hr]; decide))]
      exact ⟨r, σ, μ, rfl, rfl, hR⟩
  · rw [if_pos v, ref_bad v]
    exact ⟨-1, σ, μ, rfl, rfl, hR⟩
