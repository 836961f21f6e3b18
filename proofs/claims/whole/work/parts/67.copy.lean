theorem reach_0 {σ : St} {j n : Nat} (h : σ.1 (53 + 2 * j) 2 = nI n) (hn : n ≤ 36) (x y : Int32) : (f_X4_reaches_sh σ j x y = 0) = ¬ (0 ≤ x.toInt ∧ 0 ≤ y.toInt ∧ x.toInt + y.toInt ≤ (n : Int)) := by
  unfold f_X4_reaches_sh
  rw [h]
  simp only [lt_T, T_0]
  by_cases hy : y.toInt < 0
  · rw [if_pos hy]
    by_cases hx : x.toInt < 0
    · rw [if_pos hx]; exact propext ⟨fun _ => by omega, fun _ => rfl⟩
    · rw [if_neg hx]; exact propext ⟨fun _ => by omega, fun _ => rfl⟩
  · have hr := fb_rng y
    have e : (nI n - y).toInt = (n : Int) - y.toInt := by rw [fb_subI (by rw [lit_T n (by omega)]; omega) (by rw [lit_T n (by omega)]; omega), lit_T n (by omega)]
    rw [if_neg hy, e]
    by_cases hx : x.toInt < 0
    · rw [if_pos hx]; exact propext ⟨fun _ => by omega, fun _ => rfl⟩
    · rw [if_neg hx]
      by_cases q : (n : Int) - y.toInt < x.toInt
      · rw [if_pos q]; exact propext ⟨fun _ => by omega, fun _ => rfl⟩
      · rw [if_neg q]; exact propext ⟨fun w => absurd w (by decide), fun w => by omega⟩
theorem inL_0 {n : Nat} (hn : n ≤ 36) (x y : Int32) : (f_X7_in x.toInt64 0 ((nI n).toInt64 - y.toInt64) = 0) = ¬ (0 ≤ x.toInt ∧ x.toInt + y.toInt ≤ (n : Int)) := by
  have hr := fb_rng y
  have e : ((nI n).toInt64 - y.toInt64).toInt = (n : Int) - y.toInt := by
    rw [fb_subL (by rw [toL_T, toL_T, lit_T n (by omega)]; omega) (by rw [toL_T, toL_T, lit_T n (by omega)]; omega), toL_T, toL_T, lit_T n (by omega)]
  rw [in_0, toL_T, e, show (0 : Int64).toInt = 0 by decide]
  exact propext ⟨fun h => by omega, fun h => by omega⟩
theorem ix3 (a b c : Nat) : (36 : Int32) * nI a + nI b + nI c = nI (36 * a + b + c) := by rw [show (36 : Int32) = nI 36 from rfl, pk_mul, nI_k, nI_k]
theorem copy_1 {s i t j n : Nat} (hs : s < 4) (hi : i + n ≤ 36) : ∀ (k q m : Nat) (μ : St), q + k = n → k < m → ∃ μ', f_X7_copy_h117 (nI s) (nI i) (nI t) (nI j) (nI n) m (nI q) μ = f_X7_copy_h154 (nI s) (nI i) (nI t) (nI j) (nI n) FU 0 μ' ∧ μ'.1 = μ.1 ∧ μ'.2 19 = μ.2 19 ∧ (∀ p, q ≤ p → p < n → μ'.2 21 p = μ.2 19 (36 * s + i + p)) ∧ (∀ p, p < q → μ'.2 21 p = μ.2 21 p) := by
  intro k
  induction k with
  | zero =>
    intro q m μ h1 h2
    obtain ⟨m, rfl⟩ : ∃ m', m = m' + 1 := ⟨m - 1, by omega⟩
    rw [f_X7_copy_h117, if_pos (by rw [nI_leE (by omega) (by omega)]; omega)]
    exact ⟨μ, rfl, rfl, rfl, fun p h3 h4 => by omega, fun _ _ => rfl⟩
  | succ k ih =>
    intro q m μ h1 h2
    obtain ⟨m, rfl⟩ : ∃ m', m = m' + 1 := ⟨m - 1, by omega⟩
    rw [f_X7_copy_h117, if_neg (by rw [nI_leE (by omega) (by omega)]; omega)]
    simp only [ix3, ix_nI (show 36 * s + i + q < 2 ^ 31 by omega), ok2 (show 36 * s + i + q < 144 by omega) (show 36 * s + i + q < 2 ^ 31 by omega), ix_nI (show q < 2 ^ 31 by omega), ok2 (show q < 36 by omega) (show q < 2 ^ 31 by omega), if_false, sq, nI_s]
    obtain ⟨μ', e, e1, e2, e3, e4⟩ := ih (q + 1) m (wl μ 21 q (μ.2 19 (36 * s + i + q))) (by omega) (by omega)
    refine ⟨μ', e, e1, by rw [e2, wl_ne (by decide)], fun p h3 h4 => ?_, fun p h3 => ?_⟩
    · by_cases h5 : p = q
      · subst h5
        rw [e4 p (by omega), wl_get, if_pos rfl, if_pos rfl]
      · rw [e3 p (by omega) h4, wl_ne (by decide)]
    · rw [e4 p (by omega), wl_get, if_pos rfl, if_neg (by omega)]
theorem copy_2 {s i t j n : Nat} (ht : t < 4) (hj : j + n ≤ 36) : ∀ (k q m : Nat) (μ : St), q + k = n → k < m → ∃ μ', f_X7_copy_h154 (nI s) (nI i) (nI t) (nI j) (nI n) m (nI q) μ = some (nI n, μ') ∧ μ'.1 = μ.1 ∧ (∀ p, q ≤ p → p < n → μ'.2 19 (36 * t + j + p) = μ.2 21 p) ∧ (∀ p, (p < 36 * t + j + q ∨ 36 * t + j + n ≤ p) → μ'.2 19 p = μ.2 19 p) := by
  intro k
  induction k with
  | zero =>
    intro q m μ h1 h2
    obtain ⟨m, rfl⟩ : ∃ m', m = m' + 1 := ⟨m - 1, by omega⟩
    rw [f_X7_copy_h154, if_pos (by rw [nI_leE (by omega) (by omega)]; omega)]
    exact ⟨μ, rfl, rfl, fun p h3 h4 => by omega, fun _ _ => rfl⟩
  | succ k ih =>
    intro q m μ h1 h2
    obtain ⟨m, rfl⟩ : ∃ m', m = m' + 1 := ⟨m - 1, by omega⟩
    rw [f_X7_copy_h154, if_neg (by rw [nI_leE (by omega) (by omega)]; omega)]
    simp only [ix3, ix_nI (show 36 * t + j + q < 2 ^ 31 by omega), ok2 (show 36 * t + j + q < 144 by omega) (show 36 * t + j + q < 2 ^ 31 by omega), ix_nI (show q < 2 ^ 31 by omega), ok2 (show q < 36 by omega) (show q < 2 ^ 31 by omega), if_false, sq, nI_s]
    obtain ⟨μ', e, e1, e3, e4⟩ := ih (q + 1) m (wl μ 19 (36 * t + j + q) (μ.2 21 q)) (by omega) (by omega)
    refine ⟨μ', e, e1, fun p h3 h4 => ?_, fun p h3 => ?_⟩
    · by_cases h5 : p = q
      · subst h5
        rw [e4 _ (by omega), wl_get, if_pos rfl, if_pos rfl]
      · rw [e3 p (by omega) h4, wl_ne (by decide)]
    · rw [e4 p (by omega), wl_get, if_pos rfl, if_neg (by omega)]
theorem op39 : Op39 RR := by
  intro σ nw μ hR x1 x2 x3 x4 x5
  obtain ⟨-, -, -, hs, -⟩ := id hR
  unfold f_X6_copy f_X7_copy
  simp only [isSheet_C0, in03]
  by_cases v1 : 0 ≤ x1.toInt ∧ x1.toInt < 4
  · by_cases v3 : 0 ≤ x3.toInt ∧ x3.toInt < 4
    · rw [if_neg (not_not_intro v1), if_neg (not_not_intro v3), if_neg (not_not_intro v1), if_neg (not_not_intro v3)]
      obtain ⟨s, hs1, rfl⟩ := nI_ofR (n := 4) v1 (by decide)
      obtain ⟨t, ht1, rfl⟩ := nI_ofR (n := 4) v3 (by decide)
      simp only [ix_nI (show s < 2 ^ 31 by omega), ok2 hs1 (show s < 2 ^ 31 by omega), ix_nI (show t < 2 ^ 31 by omega), ok2 ht1 (show t < 2 ^ 31 by omega), if_false, sq]
      rcases hs s hs1 with ⟨h1, h2⟩ | ⟨h1, l, n, hl, hn, a1, a2, a3, a4, a5⟩
      · refine ⟨-11, σ, μ, ?_, ?_, hR⟩
        · rw [h1, if_pos rfl]
        · rw [h2, if_pos (by decide)]
      · rcases hs t ht1 with ⟨h3, h4⟩ | ⟨h3, l', n', hl', hn', b1, b2, b3, b4, b5⟩
        · refine ⟨-11, σ, μ, ?_, ?_, hR⟩
          · rw [h1, h3, if_neg (by decide), if_pos rfl]
          · rw [a2, h4, if_neg (nI_pos (by omega)), if_neg (by decide)]
        · by_cases q : l = l'
          · subst q
            by_cases c : 0 ≤ x5.toInt ∧ (0 ≤ x2.toInt ∧ x2.toInt + x5.toInt ≤ (n : Int)) ∧ (0 ≤ x4.toInt ∧ x4.toInt + x5.toInt ≤ (n' : Int))
            · obtain ⟨k, hk, rfl⟩ := nI_ofR (n := 37) (x := x5) ⟨c.1, by omega⟩ (by decide)
              obtain ⟨i, hi, rfl⟩ := nI_ofR (n := 37) (x := x2) ⟨c.2.1.1, by omega⟩ (by decide)
              obtain ⟨j, hj, rfl⟩ := nI_ofR (n := 37) (x := x4) ⟨c.2.2.1, by omega⟩ (by decide)
              have ek := lit_T k (show k < 2 ^ 31 by omega)
              have ei := lit_T i (show i < 2 ^ 31 by omega)
              have ej := lit_T j (show j < 2 ^ 31 by omega)
              rw [ek, ei, ej] at c
              obtain ⟨μ1, m1, m2, m3, m4, -⟩ := copy_1 (s := s) (i := i) (t := t) (j := j) (n := k) hs1 (by omega) k 0 FU μ (by omega) (by unfold FU; omega)
              obtain ⟨μ2, p1, p2, p3, p4⟩ := copy_2 (s := s) (i := i) (t := t) (j := j) (n := k) ht1 (by omega) k 0 FU μ1 (by omega) (by unfold FU; omega)
              have m1' : f_X7_copy_h117 (nI s) (nI i) (nI t) (nI j) (nI k) FU 0 μ = f_X7_copy_h154 (nI s) (nI i) (nI t) (nI j) (nI k) FU 0 μ1 := m1
              have p1' : f_X7_copy_h154 (nI s) (nI i) (nI t) (nI j) (nI k) FU 0 μ1 = some (nI k, μ2) := p1
              refine ⟨nI k, wrol σ (54 + 2 * t) (va_cpy (σ.2 (54 + 2 * s)) (σ.2 (54 + 2 * t)) i j k), μ2, ?_, ?_, hR.shs (fun c hc => rfl) (fun c hc => by rw [p2, m2]) ?_⟩
              · rw [h1, h3, a1, b1, if_neg (by decide), if_neg (by decide), if_pos rfl, if_neg (by rw [reach_0 a3 hn, ei, ek]; omega), if_neg (by rw [reach_0 b3 hn', ej, ek]; omega)]
                simp only [ix_nI (show i < 2 ^ 31 by omega), ix_nI (show j < 2 ^ 31 by omega), ix_nI (show k < 2 ^ 31 by omega)]
                rw [if_neg]
                rintro (w | w | w | w | w)
                · exact nI_pos (by omega) w
                · exact nI_pos (by omega) w
                · exact nI_pos (by omega) w
                · omega
                · omega
              · rw [a2, b2, a4, b4, if_neg (nI_pos (by omega)), if_pos (nI_pos' (by omega)), if_pos rfl, if_neg (nI_pos (by omega)), if_neg (by rw [inL_0 hn, ei, ek]; omega), if_neg (by rw [inL_0 hn', ej, ek]; omega), m1', p1']
              · refine hs.up1 (j := t) (fun k _ e => rfl) (fun q _ e => ?_) (fun k e => by rw [p2, m2]) (fun k e => by rw [p2, m2]) (fun q u hq e hu => ?_) (Or.inr ⟨h3, l, n', hl, hn', b1, by rw [p2, m2, b2], b3, by rw [p2, m2, b4], fun u hu => ?_⟩)
                · unfold wrol
                  simp only [show (54 + 2 * q = 54 + 2 * t) = False from eq_false (by omega), if_false]
                · rw [p4 _ (by omega), m3]
                · show (if 54 + 2 * t = 54 + 2 * t then va_cpy (σ.2 (54 + 2 * s)) (σ.2 (54 + 2 * t)) i j k else σ.2 (54 + 2 * t)) u = _
                  rw [if_pos rfl]
                  unfold va_cpy
                  by_cases w : j ≤ u ∧ u < j + k
                  · rw [if_pos w, a5 _ (by omega)]
                    have e1 := p3 (u - j) (by omega) (by omega)
                    have e2 := m4 (u - j) (by omega) (by omega)
                    rw [show 36 * t + u = 36 * t + j + (u - j) by omega, e1, e2, show 36 * s + (i + (u - j)) = 36 * s + i + (u - j) by omega]
                  · rw [if_neg w, b5 u hu, p4 _ (by omega), m3]
            · refine ⟨-13, σ, μ, ?_, ?_, hR⟩
              · rw [h1, h3, a1, b1, if_neg (by decide), if_neg (by decide), if_pos rfl]
                simp only [reach_0 a3 hn, reach_0 b3 hn']
                by_cases w1 : 0 ≤ x2.toInt ∧ 0 ≤ x5.toInt ∧ x2.toInt + x5.toInt ≤ (n : Int)
                · rw [if_neg (not_not_intro w1), if_pos (by omega)]
                · rw [if_pos w1]
              · rw [a2, b2, a4, b4, if_neg (nI_pos (by omega)), if_pos (nI_pos' (by omega)), if_pos rfl]
                simp only [lt_T, T_0, inL_0 hn, inL_0 hn']
                by_cases w0 : x5.toInt < 0
                · rw [if_pos w0]
                · rw [if_neg w0]
                  by_cases w1 : 0 ≤ x2.toInt ∧ x2.toInt + x5.toInt ≤ (n : Int)
                  · rw [if_neg (not_not_intro w1), if_pos (by omega)]
                  · rw [if_pos w1]
          · have ne : ¬ nI l = nI l' := by rw [nI_eqE (by omega) (by omega)]; exact q
            refine ⟨-12, σ, μ, ?_, ?_, hR⟩
            · rw [h1, h3, a1, b1, if_neg (by decide), if_neg (by decide), if_neg ne]
            · rw [a2, b2, if_neg (nI_pos (by omega)), if_pos (nI_pos' (by omega)), if_neg ne]
    · rw [if_neg (not_not_intro v1), if_pos v3, if_neg (not_not_intro v1), if_pos v3]
      exact ⟨-1, σ, μ, rfl, rfl, hR⟩
  · rw [if_pos v1, if_pos v1]
    exact ⟨-1, σ, μ, rfl, rfl, hR⟩
theorem film_l {a : Nat → Nat → Nat} (I : Inv a) {j l n o : Nat} (hj : j < 4) (hl : l < 4) (hn : n ≤ 36) (ho : o + a 1 0 ≤ n) : ∀ (k g m : Nat) (σ μ : St), g + k = a 1 0 → k < m → CA a (vw σ 1) → MA a (ul μ) → σ.1 (53 + 2 * j) 1 = nI l → σ.1 (53 + 2 * j) 2 = nI n → Rsh σ μ → ∃ σ' μ', f_X6_film_h30 (nI j) (nI l) (nI o) m (nI g) σ = some (nI (a 1 0), σ') ∧ f_X7_film_h34 (nI j) (nI l) (nI o) m (nI g) μ = some (nI (a 1 0), μ') ∧ σ'.1 = σ.1 ∧ μ'.1 = μ.1 ∧ Rsh σ' μ' := by
  have h10 := I.gs
  intro k
  induction k with
  | zero =>
    intro g m σ μ h1 h2 hC hM s1 s2 hs
    obtain ⟨m, rfl⟩ : ∃ m', m = m' + 1 := ⟨m - 1, by omega⟩
    rw [f_X6_film_h30, f_X7_film_h34, cL_gs hC, mL_gs hM, if_pos (by rw [nI_leE (by omega) (by omega)]; omega), if_pos (by rw [nI_leE (by omega) (by omega)]; omega)]
    exact ⟨σ, μ, rfl, rfl, rfl, rfl, hs⟩
  | succ k ih =>
    intro g m σ μ h1 h2 hC hM s1 s2 hs
    obtain ⟨m, rfl⟩ : ∃ m', m = m' + 1 := ⟨m - 1, by omega⟩
    have hg : g < a 1 0 := by omega
    have hle : ¬ nI (a 1 0) ≤ nI g := by rw [nI_leE (by omega) (by omega)]; omega
    rw [f_X6_film_h30, f_X7_film_h34, cL_gs hC, mL_gs hM, if_neg hle, if_neg hle]
    simp only [arrears_C I hC hg, arrears_M I hM hg, bdr, ix_nI (show j < 2 ^ 31 by omega), ok2 hj (show j < 2 ^ 31 by omega), if_false, nI_k, put_C hl (show o + g < n by omega) hn s1 s2, ix3, ix_nI (show 36 * j + o + g < 2 ^ 31 by omega), ok2 (show 36 * j + o + g < 144 by omega) (show 36 * j + o + g < 2 ^ 31 by omega), sq, nI_s]
    obtain ⟨σ', μ', e1, e2, e3, e4, e5⟩ := ih (g + 1) m (wl σ (54 + 2 * j) (o + g) (f_X7_asLane (nI l) (nI (arrN a g)).toInt64)) (wl μ 19 (36 * j + o + g) (f_X7_asLane (nI l) (nI (arrN a g)).toInt64)) (by omega) (by omega) hC hM s1 s2 (by rw [Nat.add_assoc]; exact hs.put hj (by omega) _)
    exact ⟨σ', μ', e1, e2, e3, e4, e5⟩
theorem op35 : Op35 RR := by
  intro σ nw μ hR x y z
  obtain ⟨⟨a, I, hC, hM⟩, -, -, hs, -⟩ := id hR
  have h10 := I.gs
  unfold f_X6_film f_X7_film
  rw [cL_gs hC, mL_gs hM]
  simp only [isSheet_M0]
  by_cases v : (0 ≤ x.toInt ∧ x.toInt < 4) ∧ (0 ≤ y.toInt ∧ y.toInt < 4)
  · rw [if_neg (not_not_intro v)]
    obtain ⟨j, hj, rfl⟩ := nI_ofR (n := 4) v.1 (by decide)
    obtain ⟨l, hl, rfl⟩ := nI_ofR (n := 4) v.2 (by decide)
    obtain ⟨r, hc, hm, hr, h0⟩ := refuse (hs j hj) hj hl (w := a 1 0) (by omega) z
    rw [hc, hm]
    simp only [bdr]
    by_cases q : r = 0
    · obtain ⟨a1, a2, a3, a4, n, o, hn, a5, a6, rfl, ho⟩ := h0 q
      subst q
      rw [if_pos rfl, if_pos (by decide)]
      obtain ⟨σ', μ', e1, e2, e3, e4, e5⟩ := film_l I hj hl hn ho (a 1 0) 0 FU σ μ (by omega) (by unfold FU; omega) hC hM a2 a5 hs
      exact ⟨nI (a 1 0), σ', μ', e1, e2, hR.shs (fun c _ => by rw [e3]) (fun c _ => by rw [e4]) e5⟩
    · rw [if_neg q, if_neg (by rcases hr with hr | hr | hr | hr <;> first | exact absurd hr q | (rw [hr]; decide))]
      exact ⟨r, σ, μ, rfl, rfl, hR⟩
  · rw [if_pos v, ref_bad v]
    exact ⟨-1, σ, μ, rfl, rfl, hR⟩
