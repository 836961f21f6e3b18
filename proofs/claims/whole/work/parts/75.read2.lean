set_option maxHeartbeats 4000000 in
theorem read_R {a : Nat → Nat → Nat} {σ μ : St} (I : Inv a) (hC : CA a (vw σ 1)) (hM : MA a (ul μ)) {r s n : Nat} (hr : r < a 0 2) (hs : s < 36) (hn : n < a 8 0) (h8 : a 0 8 < 9999) : ∃ F R σ' μ', f_X3_hold σ (nI r) (nI s) (nI n) = some (nI (if wrN a (hearN a r s (a 0 4)) (a 5) n = 0 then 1 else 0), σ') ∧ f_X7_readNow μ (nI r) (nI s) (nI n) = some (nI (hearN a r s (a 0 4)), μ') ∧ Inv (aR a n F R) ∧ CA (aR a n F R) (vw σ' 1) ∧ MA (aR a n F R) (ul μ') ∧ (∀ c, (c = 0 ∨ 19 ≤ c) → σ'.1 c = σ.1 c) ∧ σ'.2 = σ.2 ∧ (∀ c, 11 ≤ c → μ'.1 c = μ.1 c) ∧ (∀ f, f ≠ 17 → μ'.1 0 f = μ.1 0 f) ∧ μ'.2 = μ.2 := by
  have h10 := I.gs
  have h12 := I.ps
  have hw := I.wi
  have hu := uVD I
  have hHl := hearN_lt I r s (a 0 4)
  have hWl := wrN_lt I (hearN a r s (a 0 4)) (a 5) n
  have hWH : ∀ i, (wrN a (hearN a r s (a 0 4)) (a 5) n).testBit i = true → (hearN a r s (a 0 4)).testBit i = true := fun i hb => by
    unfold wrN at hb
    rw [bsN_bit] at hb
    cases q : (hearN a r s (a 0 4)).testBit i
    · rw [q] at hb
      simp at hb
    · rfl
  unfold f_X3_hold f_X7_readNow
  rw [cL_wi hC, hearers_C I hC hr hs (by omega)]
  simp only [bdr]
  rw [wrongedOf_C I hC hn (by omega)]
  simp only []
  obtain ⟨μ1, p1, p2, p3, p4, p5, p6, p7⟩ := note_M I (mL_un hM)
  rw [p1]
  simp only []
  obtain ⟨μ2, q1, q2, q3, q4, q5, q6, q7, q8⟩ := tell_U I hM p3 (fun c h1 h2 => p2 c (by omega) (by omega)) (hd := a 5) (fun i hi => by rw [p2 9 (by decide) (by decide)]; exact mL_he hM i (by omega)) (fun i hi => (I.hw i (by omega)).1) hr hs hn
  rw [q1]
  simp only []
  rw [q2 0 (by decide), p3 11 (by decide), mL_wi hM, hearers_U I hM (fun f hf => by rw [q2 0 (by decide), p3 f hf]) (fun c h1 h2 => by rw [q2 c (by omega), p2 c (by omega) (by omega)]) hr hs (by omega)]
  simp only []
  generalize hearN a r s (a 0 4) = H at hHl hWl hWH q5 q6 q7 ⊢
  generalize wrN a H (a 5) n = W at hWl hWH q6 ⊢
  obtain ⟨σ1, t1, t2, t3, t4, t5, t6⟩ := hold_l (H := H) (W := W) (n := n) (G := a 1 0) (hd := a 5) (wg := a 6) (by omega) (by omega) (by omega) h10 (fun q hq => (I.hw q (by omega)).1) (fun q hq => (I.hw q (by omega)).2) (nI r) (nI s) (F := fun q => H.testBit q && !(a 5 q).testBit n) (R := fun q => W.testBit q && decide (a 6 q < 99)) (fun q => rfl) (fun q => rfl) (a 1 0) 0 FU σ (by omega) (by unfold FU; omega) (cL_gs hC) (fun q _ hq => ⟨cL_he hC q hq, cL_wg hC q hq⟩)
  have hFG : ∀ i, i < a 1 0 → (bsN (fun q => H.testBit q && !(a 5 q).testBit n) (a 1 0)).testBit i = (H.testBit i && !(a 5 i).testBit n) := fun i hi => by rw [bsN_bit, decide_eq_true hi, Bool.true_and]
  have hRG : ∀ i, i < a 1 0 → (bsN (fun q => W.testBit q && decide (a 6 q < 99)) (a 1 0)).testBit i = (W.testBit i && decide (a 6 i < 99)) := fun i hi => by rw [bsN_bit, decide_eq_true hi, Bool.true_and]
  have hFO : ∀ i, ¬ i < a 1 0 → (bsN (fun q => H.testBit q && !(a 5 q).testBit n) (a 1 0)).testBit i = false := fun i hi => by rw [bsN_bit, decide_eq_false hi, Bool.false_and]
  have hRO : ∀ i, ¬ i < a 1 0 → (bsN (fun q => W.testBit q && decide (a 6 q < 99)) (a 1 0)).testBit i = false := fun i hi => by rw [bsN_bit, decide_eq_false hi, Bool.false_and]
  have hF1 := bs10 I (fun q => H.testBit q && !(a 5 q).testBit n)
  have hR1 := bs10 I (fun q => W.testBit q && decide (a 6 q < 99))
  generalize bsN (fun q => H.testBit q && !(a 5 q).testBit n) (a 1 0) = F at t1 hFG hFO hF1
  generalize bsN (fun q => W.testBit q && decide (a 6 q < 99)) (a 1 0) = R at t1 hRG hRO hR1
  have hFp : ∀ i, F.testBit i = true → i < a 1 0 ∧ H.testBit i = true ∧ (a 5 i).testBit n = false := fun i hb => by
    by_cases hi : i < a 1 0
    · rw [hFG i hi] at hb
      simp only [Bool.and_eq_true, Bool.not_eq_true'] at hb
      exact ⟨hi, hb.1, hb.2⟩
    · rw [hFO i hi] at hb
      cases hb
  have hRp : ∀ i, R.testBit i = true → i < a 1 0 ∧ W.testBit i = true ∧ a 6 i < 99 := fun i hb => by
    by_cases hi : i < a 1 0
    · rw [hRG i hi] at hb
      simp only [Bool.and_eq_true, decide_eq_true_eq] at hb
      exact ⟨hi, hb.1, hb.2⟩
    · rw [hRO i hi] at hb
      cases hb
  obtain ⟨σ2, k1, k2, k3, k4, k5, ⟨k6, k7, k8⟩, k9⟩ := keep_C I (nI n) (nI F) (nI R) (σ := wr σ1 1 8 (σ1.1 1 8 + 1)) (by rw [wr_get, if_pos rfl, if_neg (by decide), t2 1 (by decide) (by decide) (by decide)]; exact cL_un hC)
  have hx : f_X3_hold_h37 (nI r) (nI s) (nI n) FU (nI H) (nI W) 0 0 0 σ = some (nI (if W = 0 then 1 else 0), σ2) := by
    refine Eq.trans t1 ?_
    rw [k1]
    show (if nI W = 0 then some ((1 : Int32), σ2) else some (0, σ2)) = _
    by_cases w : W = 0
    · rw [if_pos (by rw [w]; rfl), if_pos w]; rfl
    · rw [if_neg (by rw [nI_eq0 (by omega)]; exact w), if_neg w]; rfl
  have kc : ∀ c, c ≠ 1 → c ≠ 6 → c ≠ 7 → c ≠ 8 → c ≠ 16 → c ≠ 17 → c ≠ 18 → σ2.1 c = σ.1 c := fun c c1 c6 c7 c8 c16 c17 c18 => by rw [k2 c c1 c16 c17 c18, wr_ne c1, t2 c c6 c7 c8]
  have kf : ∀ f, f ≠ 8 → f ≠ 9 → σ2.1 1 f = σ.1 1 f := fun f f8 f9 => by rw [k3 f f9, wr_get, if_pos rfl, if_neg f8, t2 1 (by decide) (by decide) (by decide)]
  have kf8 : σ2.1 1 8 = nI (a 0 8 + 1) := by rw [k3 8 (by decide), wr_get, if_pos rfl, if_pos rfl, t2 1 (by decide) (by decide) (by decide), cL_rg hC, nI_s]
  have kg6 : ∀ i, i < a 1 0 → σ2.1 6 i = nI (if F.testBit i then a 5 i ||| 2 ^ n else a 5 i) := fun i hi => by
    rw [k2 6 (by decide) (by decide) (by decide) (by decide), wr_ne (by decide), t4 i hi, hFG i hi]
    by_cases hb : (H.testBit i && !(a 5 i).testBit n) = true
    · rw [if_pos ⟨by omega, hb⟩, if_pos hb]
    · rw [if_neg (fun c => hb c.2), if_neg hb, cL_he hC i hi]
  have kg7 : ∀ i, i < a 1 0 → σ2.1 7 i = nI (if R.testBit i then a 6 i + 1 else a 6 i) := fun i hi => by
    rw [k2 7 (by decide) (by decide) (by decide) (by decide), wr_ne (by decide), t5 i hi, hRG i hi]
    by_cases hb : (W.testBit i && decide (a 6 i < 99)) = true
    · rw [if_pos ⟨by omega, hb⟩, if_pos hb]
    · rw [if_neg (fun c => hb c.2), if_neg hb, cL_wg hC i hi]
  have bit5 : ∀ i p, (if F.testBit i then a 5 i ||| 2 ^ n else a 5 i).testBit p = true → ¬ (p = n ∧ F.testBit i = true) → (a 5 i).testBit p = true := fun i p hb hc => by
    by_cases hf : F.testBit i = true
    · rw [if_pos hf, Nat.testBit_or, Nat.testBit_two_pow_of_ne (fun e => hc ⟨e.symm, hf⟩), Bool.or_false] at hb
      exact hb
    · rw [if_neg hf] at hb
      exact hb
  have dm : ∀ i p, p < 12 → (12 * i + p) % 12 = p ∧ (12 * i + p) / 12 = i := fun i p hp => by omega
  have kg8 : ∀ i p, i < a 1 0 → p < 12 → (if F.testBit i then a 5 i ||| 2 ^ n else a 5 i).testBit p = true → σ2.1 8 (12 * i + p) = nI (if (12 * i + p) % 12 = n ∧ F.testBit ((12 * i + p) / 12) = true then a 0 8 else a 7 (12 * i + p)) := fun i p hi hp hb => by
    rw [k2 8 (by decide) (by decide) (by decide) (by decide), wr_ne (by decide), t6 i p hi hp, (dm i p hp).1, (dm i p hp).2]
    by_cases hc : p = n ∧ F.testBit i = true
    · rw [if_pos ⟨by omega, hc.1, by rw [← hFG i hi]; exact hc.2⟩, if_pos hc, cL_rg hC]
    · rw [if_neg (fun d => hc ⟨d.2.1, by rw [hFG i hi]; exact d.2.2⟩), if_neg hc]
      exact cL_si hC i p hi hp (bit5 i p hb hc)
  have mc : ∀ c, c ≠ 0 → c ≠ 9 → c ≠ 10 → μ2.1 c = μ.1 c := fun c c0 c9 c10 => by rw [q2 c c9, p2 c c0 c10]
  have mf : ∀ f, f ≠ 17 → μ2.1 0 f = μ.1 0 f := fun f hf => by rw [q2 0 (by decide), p3 f hf]
  have m17 : μ2.1 0 17 = nI (uV a + 1) := by rw [q2 0 (by decide), p5]
  have e9 : μ1.1 9 = μ.1 9 := p2 9 (by decide) (by decide)
  rw [e9] at q4 q5 q6 q7
  have m140 : μ2.1 9 140 = nI (a 0 8 + 1) := by rw [q4, mL_rg hM, nI_s]
  have m9 : ∀ i, i < 10 → μ2.1 9 i = nI (if F.testBit i then a 5 i ||| 2 ^ n else a 5 i) := fun i hi => by
    rw [q5 i hi]
    by_cases hg : i < a 1 0
    · rw [hFG i hg]
      cases hb : H.testBit i
      · rw [if_neg (fun c => absurd c.2.2 (by decide)), if_neg (by simp), mL_he hM i hi]
      · rw [if_pos ⟨by omega, hg, rfl⟩]
        cases hc : (a 5 i).testBit n
        · rw [if_pos (by rfl)]
        · rw [if_neg (by decide), or_has hc]
    · rw [if_neg (fun c => hg c.2.1), hFO i hg, if_neg (by decide), mL_he hM i hi]
  have m99 : (99 : Int32).toInt = 99 := by decide
  have m10 : ∀ i, i < 10 → μ2.1 9 (10 + i) = nI (if R.testBit i then a 6 i + 1 else a 6 i) := fun i hi => by
    have h6 := (I.hw i hi).2
    rw [q6 i hi, mL_wg hM i hi]
    simp only [lt_T, lit_T (a 6 i) (show a 6 i < 2 ^ 31 by omega), m99, nI_s]
    by_cases hb : R.testBit i = true
    · obtain ⟨g1, g2, g3⟩ := hRp i hb
      rw [if_pos ⟨by omega, g1, hWH i g2, g2, by omega⟩, if_pos hb]
    · rw [if_neg (fun c => hb (by rw [hRG i c.2.1, c.2.2.2.1, decide_eq_true (by omega)]; rfl)), if_neg hb]
  have m20 : ∀ i p, i < a 1 0 → p < 12 → (if F.testBit i then a 5 i ||| 2 ^ n else a 5 i).testBit p = true → μ2.1 9 (20 + (12 * i + p)) = nI (if (12 * i + p) % 12 = n ∧ F.testBit ((12 * i + p) / 12) = true then a 0 8 else a 7 (12 * i + p)) := fun i p hi hp hb => by
    rw [q7 i p (by omega) hp, (dm i p hp).1, (dm i p hp).2]
    by_cases hc : p = n ∧ F.testBit i = true
    · obtain ⟨g1, g2, g3⟩ := hFp i hc.2
      rw [if_pos ⟨by omega, hi, g2, hc.1, g3⟩, if_pos hc, mL_rg hM]
    · rw [if_neg (fun d => hc ⟨d.2.2.2.1, by rw [hFG i hi, d.2.2.1, d.2.2.2.2]; rfl⟩), if_neg hc]
      exact mL_si hM i p hi hp (bit5 i p hb hc)
  have r10 : ∀ t, 1 ≤ t → t ≤ uV a + 1 → ∀ q, q < 141 → μ2.1 10 (141 * (uV a + 1 - t) + q) = if t = 1 then μ.1 9 q else μ.1 10 (141 * (a 0 9 - (t - 1)) + q) := fun t h1 h2 q hq => by
    rw [q2 10 (by decide)]
    by_cases e : t = 1
    · rw [if_pos e, e, show uV a + 1 - 1 = uV a by omega, p6 q hq]
    · rw [if_neg e, p7 _ q (by omega) hq, show uV a + 1 - t + uD a = a 0 9 - (t - 1) by omega]
  refine ⟨F, R, σ2, μ2, hx, rfl, aR_inv I (by omega) h8 hF1 hR1 (fun i hb => ⟨(hFp i hb).1, (hFp i hb).2.2⟩) (fun i hb => ⟨(hRp i hb).1, (hRp i hb).2.2⟩), ?_, ?_, ?_, ?_, ?_, mf, ?_⟩
  · refine ⟨(kf 2 (by decide) (by decide)).trans (cL_rd (a := a) hC), (kf 4 (by decide) (by decide)).trans (cL_wi (a := a) hC), (kf 6 (by decide) (by decide)).trans (cL_no (a := a) hC), (kf 7 (by decide) (by decide)).trans (cL_dr (a := a) hC), kf8, k5, ?_, ?_, ?_, ?_, ?_, ?_, kg6, kg7, kg8, ?_, ?_, ?_, ?_, ?_, ?_, ?_, ?_, ?_⟩
    · show σ2.1 2 0 = nI (a 1 0); rw [kc 2 (by decide) (by decide) (by decide) (by decide) (by decide) (by decide) (by decide)]; exact cL_gs hC
    · show σ2.1 9 0 = nI (a 8 0); rw [kc 9 (by decide) (by decide) (by decide) (by decide) (by decide) (by decide) (by decide)]; exact cL_ps hC
    · show σ2.1 9 1 = 0 ∨ σ2.1 9 1 = nI (ordN (a 8 0) (a 10)); rw [kc 9 (by decide) (by decide) (by decide) (by decide) (by decide) (by decide) (by decide)]; exact cL_od hC
    · intro i hi; show σ2.1 3 i = nI (a 2 i); rw [kc 3 (by decide) (by decide) (by decide) (by decide) (by decide) (by decide) (by decide)]; exact cL_ki hC i hi
    · intro i hi; show σ2.1 4 i = nI (a 3 i); rw [kc 4 (by decide) (by decide) (by decide) (by decide) (by decide) (by decide) (by decide)]; exact cL_pl hC i hi
    · intro i hi; show σ2.1 5 i = nI (a 4 i); rw [kc 5 (by decide) (by decide) (by decide) (by decide) (by decide) (by decide) (by decide)]; exact cL_ye hC i hi
    · intro i hi; show σ2.1 10 i = nI (a 9 i); rw [kc 10 (by decide) (by decide) (by decide) (by decide) (by decide) (by decide) (by decide)]; exact cL_ny hC i hi
    · intro i hi; show σ2.1 11 i = nI (a 10 i); rw [kc 11 (by decide) (by decide) (by decide) (by decide) (by decide) (by decide) (by decide)]; exact cL_na hC i hi
    · intro i hi; show σ2.1 12 i = nI (a 11 i); rw [kc 12 (by decide) (by decide) (by decide) (by decide) (by decide) (by decide) (by decide)]; exact cL_nb hC i hi
    · intro i hi; show σ2.1 13 i = nI (a 12 i); rw [kc 13 (by decide) (by decide) (by decide) (by decide) (by decide) (by decide) (by decide)]; exact cL_ns hC i hi
    · intro i hi; show σ2.1 14 i = nI (a 13 i); rw [kc 14 (by decide) (by decide) (by decide) (by decide) (by decide) (by decide) (by decide)]; exact cL_rc hC i hi
    · intro i hi; show σ2.1 15 i = nI (a 14 i); rw [kc 15 (by decide) (by decide) (by decide) (by decide) (by decide) (by decide) (by decide)]; exact cL_wt hC i hi
    · intro j hj
      have hj : j < uV a + 1 := hj
      show σ2.1 16 j = nI (if j = uV a then n else a 15 (j + uD a))
      by_cases e : j = uV a
      · rw [if_pos e, e, k6]
      · rw [if_neg e, (k9 j (by omega)).1, wr_ne (by decide), t2 16 (by decide) (by decide) (by decide)]
        exact cL_u1 hC (j + uD a) (by omega)
    · intro j hj
      have hj : j < uV a + 1 := hj
      show σ2.1 17 j = nI (if j = uV a then F else a 16 (j + uD a))
      by_cases e : j = uV a
      · rw [if_pos e, e, k7]
      · rw [if_neg e, (k9 j (by omega)).2.1, wr_ne (by decide), t2 17 (by decide) (by decide) (by decide)]
        exact cL_u2 hC (j + uD a) (by omega)
    · intro j hj
      have hj : j < uV a + 1 := hj
      show σ2.1 18 j = nI (if j = uV a then R else a 17 (j + uD a))
      by_cases e : j = uV a
      · rw [if_pos e, e, k8]
      · rw [if_neg e, (k9 j (by omega)).2.2, wr_ne (by decide), t2 18 (by decide) (by decide) (by decide)]
        exact cL_u3 hC (j + uD a) (by omega)
  · refine ⟨(mf 3 (by decide)).trans (mL_gs (a := a) hM), (mf 8 (by decide)).trans (mL_ps (a := a) hM), (mf 10 (by decide)).trans (mL_rd (a := a) hM), (mf 7 (by decide)).trans (mL_sh (a := a) hM), (mf 11 (by decide)).trans (mL_wi (a := a) hM), (mf 13 (by decide)).trans (mL_no (a := a) hM), (mf 14 (by decide)).trans (mL_dr (a := a) hM), m17, m140, ?_, ?_, ?_, m9, m10, m20, ?_, ?_, ?_, ?_, ?_, ?_, ?_, ?_, ?_⟩
    · intro i hi; show μ2.1 1 i = nI (a 2 i); rw [mc 1 (by decide) (by decide) (by decide)]; exact mL_ki hM i hi
    · intro i hi; show μ2.1 2 i = nI (a 3 i); rw [mc 2 (by decide) (by decide) (by decide)]; exact mL_pl hM i hi
    · intro i hi; show μ2.1 3 i = nI (a 4 i); rw [mc 3 (by decide) (by decide) (by decide)]; exact mL_ye hM i hi
    · intro i hi; show μ2.1 4 i = nI (a 9 i); rw [mc 4 (by decide) (by decide) (by decide)]; exact mL_ny hM i hi
    · intro i hi; show μ2.1 5 i = nI (a 10 i); rw [mc 5 (by decide) (by decide) (by decide)]; exact mL_na hM i hi
    · intro i hi; show μ2.1 6 i = nI (a 11 i); rw [mc 6 (by decide) (by decide) (by decide)]; exact mL_nb hM i hi
    · intro i hi; show μ2.1 7 i = nI (a 13 i); rw [mc 7 (by decide) (by decide) (by decide)]; exact mL_rc hM i hi
    · intro i hi; show μ2.1 8 i = nI (a 14 i); rw [mc 8 (by decide) (by decide) (by decide)]; exact mL_wt hM i hi
    · intro t h1 h2 i hi
      have h2 : t ≤ uV a + 1 := h2
      show μ2.1 10 (141 * (uV a + 1 - t) + i) = nI (hdT (aR a n F R) t i)
      obtain ⟨t, rfl⟩ : ∃ t', t = t' + 1 := ⟨t - 1, by omega⟩
      rw [r10 _ h1 h2 i (by omega), aR_hd I (fun hb => (hFp i hb).2.2) t (by omega)]
      cases t with
      | zero => rw [if_pos rfl]; exact mL_he hM i hi
      | succ t => rw [if_neg (by omega)]; exact mL_u1 hM (t + 1) (by omega) (by omega) i hi
    · intro t h1 h2 i hi
      have h2 : t ≤ uV a + 1 := h2
      show μ2.1 10 (141 * (uV a + 1 - t) + (10 + i)) = nI (wgT (aR a n F R) t i)
      obtain ⟨t, rfl⟩ : ∃ t', t = t' + 1 := ⟨t - 1, by omega⟩
      rw [r10 _ h1 h2 (10 + i) (by omega), aR_wg I t (by omega)]
      cases t with
      | zero => rw [if_pos rfl]; exact mL_wg hM i hi
      | succ t => rw [if_neg (by omega)]; exact mL_u2 hM (t + 1) (by omega) (by omega) i hi
    · intro t h1 h2
      have h2 : t ≤ uV a + 1 := h2
      show μ2.1 10 (141 * (uV a + 1 - t) + 140) = nI (a 0 8 + 1 - t)
      obtain ⟨t, rfl⟩ : ∃ t', t = t' + 1 := ⟨t - 1, by omega⟩
      rw [r10 _ h1 h2 140 (by omega)]
      cases t with
      | zero => rw [if_pos rfl, mL_rg hM]; rfl
      | succ t => rw [if_neg (by omega), show a 0 8 + 1 - (t + 1 + 1) = a 0 8 - (t + 1) by omega]; exact mL_u3 hM (t + 1) (by omega) (by omega)
    · intro t h1 h2 i p hi hp hb
      have h2 : t ≤ uV a + 1 := h2
      have hi : i < a 1 0 := hi
      show μ2.1 10 (141 * (uV a + 1 - t) + (20 + (12 * i + p))) = nI (if (12 * i + p) % 12 = n ∧ F.testBit ((12 * i + p) / 12) = true then a 0 8 else a 7 (12 * i + p))
      obtain ⟨t, rfl⟩ : ∃ t', t = t' + 1 := ⟨t - 1, by omega⟩
      rw [aR_hd I (fun hb => (hFp i hb).2.2) t (by omega)] at hb
      have hb5 := hdT_sub a i p t hb
      rw [r10 _ h1 h2 (20 + (12 * i + p)) (by omega), (dm i p hp).1, (dm i p hp).2, if_neg (show ¬ (p = n ∧ F.testBit i = true) from fun c => by rw [c.1] at hb5; have := (hFp i c.2).2.2; rw [hb5] at this; cases this)]
      cases t with
      | zero => rw [if_pos rfl]; exact mL_si hM i p hi hp hb5
      | succ t => rw [if_neg (by omega)]; exact mL_u4 hM (t + 1) (by omega) (by omega) i p hi hp hb
  · intro c hc
    exact kc c (by omega) (by omega) (by omega) (by omega) (by omega) (by omega) (by omega)
  · rw [k4]; exact t3
  · intro c hc
    exact mc c (by omega) (by omega) (by omega)
  · rw [q3, p4]
