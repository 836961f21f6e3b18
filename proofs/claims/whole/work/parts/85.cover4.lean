theorem op22 : Op22 RR := by
  intro σ nw μ hR x1 x2 x3
  obtain ⟨⟨a, I, hC, hM⟩, -⟩ := id hR
  have h4 := I.rd
  have h12 := I.ps
  have e3 : (f_X7_in x3.toInt64 (-1) 2 = 0) = ¬ (-1 ≤ x3.toInt ∧ x3.toInt ≤ 2) := by
    rw [in_0, toL_T, show (-1 : Int64).toInt = -1 by decide, show (2 : Int64).toInt = 2 by decide]
  unfold f_X6_cover f_X7_cover
  simp only [isReader_C0 I hC, isReader_M0 I hM, isNews_C0 I hC, isNews_M0 I hM, toL_T, e3, lt_T, show (-1 : Int32).toInt = -1 by decide, show (3 : Int32).toInt = 3 by decide]
  by_cases v1 : 0 ≤ x1.toInt ∧ x1.toInt < a 0 2
  · rw [if_neg (not_not_intro v1), if_neg (not_not_intro v1)]
    by_cases v2 : 0 ≤ x2.toInt ∧ x2.toInt < a 8 0
    · rw [if_neg (not_not_intro v2), if_neg (not_not_intro v2)]
      by_cases v3 : -1 ≤ x3.toInt ∧ x3.toInt ≤ 2
      · rw [if_neg (show ¬ x3.toInt < -1 by omega), if_pos (show x3.toInt < 3 by omega), if_neg (not_not_intro v3)]
        obtain ⟨r, hr, rfl⟩ := nI_ofR (n := a 0 2) v1 (by omega)
        obtain ⟨n, hn, rfl⟩ := nI_ofR (n := a 8 0) v2 (by omega)
        have hzl := lack_lt I n
        unfold f_X7_findCover
        rw [lack_C I hC hn, lack_M I hM hn]
        simp only [bdr, f_X0_clear, sq]
        obtain ⟨sz, pl, τ, t1, t2, t3, t4, t5, t6, t7⟩ := cov_b I hC hr hn hzl x3 36 0 FU 0 (fun _ => 0) (wr σ 62 0 0) (by omega) (by unfold FU; omega) (fun c c1 _ _ => wr_ne c1) rfl ⟨by rw [wr_at]; rfl, by decide, fun u hu => by omega⟩ (by omega) (fun u hu => by omega) (fun u w _ hw => by omega) (fun p hp => by omega)
        have t1' : f_X6_cover_h50 (nI r) (nI n) x3 FU (nI (lackN a n)) 0 (wr σ 62 0 0) = bdp (f_X0_search τ (nI (lackN a n))) (covF x3) := t1
        rw [t1']
        have hfin : ∃ (rC rM : Int32) (τ' ν' : St), f_X0_search τ (nI (lackN a n)) = some (rC, τ') ∧ (if nI (lackN a n) = 0 then some ((0 : Int32), μ) else f_X7_findCover_h15 (nI r) (nI n) FU (nI (lackN a n)) 0 μ) = some (rM, ν') ∧ ((rC = 0 ∧ rM = -4) ∨ ∃ c, c ≤ 3 ∧ rC = 1 ∧ rM = nI c ∧ τ'.1 62 3 = nI c ∧ ∀ q, q < c → τ'.1 65 q = ν'.1 14 q) ∧ (∀ c, c ≠ 62 → c ≠ 63 → c ≠ 64 → c ≠ 65 → τ'.1 c = σ.1 c) ∧ τ'.2 = σ.2 ∧ (∀ c, c ≠ 13 → c ≠ 14 → ν'.1 c = μ.1 c) ∧ ν'.2 = μ.2 := by
          by_cases z0 : lackN a n = 0
          · refine ⟨1, 0, fd0 τ, μ, ?_, ?_, Or.inr ⟨0, by decide, rfl, rfl, by unfold fd0; rw [wr_at]; rfl, fun q hq => by omega⟩, fun c c1 c2 c3 c4 => by unfold fd0; rw [wr_ne c1, t2 c c1 c2 c3], t3, fun _ _ _ => rfl, rfl⟩
            · unfold f_X0_search
              rw [if_pos (by rw [z0]; rfl), found0]
              simp only [bdp]
              rw [if_neg n11]
            · rw [if_pos (by rw [z0]; rfl)]
          · obtain ⟨ν, s1, s2, s3, s4⟩ := fc_15 I hM hr hn (nI (lackN a n)) 36 0 FU μ (by omega) (by unfold FU; omega) (fun _ _ => rfl) rfl (fun p hp => by omega)
            have s1' : f_X7_findCover_h15 (nI r) (nI n) FU (nI (lackN a n)) 0 μ = f_X7_findCover_h64 (nI r) (nI n) FU (nI (lackN a n)) 0 ν := s1
            obtain ⟨rC, rM, τ', ν', c1, c2, c3, c4, c5, c6, c7⟩ := cover_res z0 hzl (fun p => hearN_lt I r p (a 0 4)) s4 t4 t5 t6 t7 (nI r) (nI n)
            refine ⟨rC, rM, τ', ν', c1, ?_, c3, fun c d1 d2 d3 d4 => by rw [c4 c d1 d4, t2 c d1 d2 d3], by rw [c5, t3], fun c d1 d2 => by rw [c6 c d2, s2 c d1], by rw [c7, s3]⟩
            rw [if_neg (by rw [nI_eq0 (by omega)]; exact z0), s1', c2]
        obtain ⟨rC, rM, τ', ν', c1, c2, c3, c4, c5, c6, c7⟩ := hfin
        rw [c1, c2]
        simp only [bdp]
        have hRn : RR τ' nw ν' := hR.scr (fun c hc => c4 c (by omega) (by omega) (by omega) (by omega)) (by rw [c4 37 (by decide) (by decide) (by decide) (by decide)]) (c4 38 (by decide) (by decide) (by decide) (by decide)) (fun j hj => c4 _ (by omega) (by omega) (by omega) (by omega)) c5 (fun _ _ _ => by rw [c6 0 (by decide) (by decide)]) (fun c _ _ => c6 c (by omega) (by omega)) (c6 16 (by decide) (by decide)) (c6 17 (by decide) (by decide)) (c6 18 (by decide) (by decide)) (by rw [c7])
        unfold covF
        rcases c3 with ⟨q1, q2⟩ | ⟨c, hc, q1, q2, q3, q4⟩
        · rw [q1, q2, if_pos rfl, if_pos (by decide)]
          exact ⟨-4, τ', ν', rfl, rfl, hRn⟩
        · rw [q1, q2, q3, if_neg (show ¬ (1 : Int32) = 0 by decide), if_neg (show ¬ (nI c).toInt < (0 : Int32).toInt by rw [lit_T c (by omega), T_0]; omega)]
          by_cases w : 0 ≤ x3
          · have w' : 0 ≤ x3.toInt := by rw [le_T, T_0] at w; exact w
            obtain ⟨q, hq, rfl⟩ := nI_ofR (n := 3) (x := x3) ⟨w', by omega⟩ (by decide)
            rw [if_neg (show ¬ nI q = -1 from fun e => nI_pos (show q < 2 ^ 31 by omega) (by rw [e]; decide)), if_pos w]
            by_cases w2 : c ≤ q
            · have : nI c ≤ nI q := by rw [nI_leE (by omega) (by omega)]; exact w2
              rw [if_pos this, if_pos this]
              exact ⟨-4, τ', ν', rfl, rfl, hRn⟩
            · have : ¬ nI c ≤ nI q := by rw [nI_leE (by omega) (by omega)]; exact w2
              rw [if_neg this, if_neg this]
              have gd : ¬ (nI q < 0 ∨ 3 ≤ ix (nI q)) := by
                rw [ix_nI (by omega)]
                rintro (g | g)
                · exact nI_pos (by omega) g
                · omega
              have gd2 : ¬ ((nI q).toInt < (0 : Int32).toInt ∨ 3 ≤ ix (nI q)) := by
                rw [← lt_T]
                exact gd
              rw [if_neg gd, if_neg gd2, ix_nI (by omega), q4 q (by omega)]
              exact ⟨_, τ', ν', rfl, rfl, hRn⟩
          · have : x3 = -1 := by
              refine Int32.toInt_inj.mp ?_
              rw [show (-1 : Int32).toInt = -1 by decide]
              rw [le_T, T_0] at w
              omega
            rw [if_pos this, if_neg w]
            exact ⟨_, τ', ν', rfl, rfl, hRn⟩
      · rw [if_pos v3]
        refine ⟨-1, σ, μ, ?_, rfl, hR⟩
        by_cases c1 : x3.toInt < -1
        · rw [if_pos c1]
        · rw [if_neg c1, if_neg (by omega)]
    · rw [if_pos v2, if_pos v2]
      exact ⟨-1, σ, μ, rfl, rfl, hR⟩
  · rw [if_pos v1, if_pos v1]
    exact ⟨-1, σ, μ, rfl, rfl, hR⟩
