/-- the parish with the graves that were typed -/
def aY (a : Nat → Nat → Nat) (n : Nat) (kd pl yr : Nat → Nat) : Nat → Nat → Nat := fun k =>
  if k = 0 then (fun f => if f = 9 then 0 else a 0 f)
  else if k = 1 then (fun _ => n)
  else if k = 2 then kd
  else if k = 3 then pl
  else if k = 4 then yr
  else if k = 5 then (fun _ => 0)
  else if k = 6 then (fun _ => 0)
  else a k
theorem m20 (q : Nat) (hq : q ≤ 160) : ¬ 0 ≤ (-20 : Int32) - nI q := by
  rw [le_T, T_0, fb_subI (by rw [lit_T q (by omega), show (-20 : Int32).toInt = -20 by decide]; omega) (by rw [lit_T q (by omega), show (-20 : Int32).toInt = -20 by decide]; omega), lit_T q (by omega), show (-20 : Int32).toInt = -20 by decide]
  omega
theorem tape_T {σ μ : St} (h : Rtape σ μ) : ∃ t T, TC σ t T ∧ TM μ t T := by
  obtain ⟨t, ht, t1, t2, t3⟩ := h
  have e : ∀ i, i < t → 32 ≤ ix (σ.1 38 i) ∧ ix (σ.1 38 i) ≤ 126 ∧ σ.1 38 i = nI (ix (σ.1 38 i)) ∧ μ.1 11 i = nI (ix (σ.1 38 i)) := fun i hi => by
    obtain ⟨c, c1, c2, c3, c4⟩ := t3 i hi
    rw [c3, ix_nI (by omega)]
    exact ⟨c1, c2, rfl, c4⟩
  exact ⟨t, fun i => ix (σ.1 38 i), ⟨ht, t1, fun i hi => ⟨(e i hi).1, (e i hi).2.1, (e i hi).2.2.1⟩⟩, ⟨ht, t2, fun i hi => ⟨(e i hi).1, (e i hi).2.1, (e i hi).2.2.2⟩⟩⟩
/-- a fault: the tape is empty, the rest stands -/
theorem fault_R {σ μ σ' μ' : St} {nw q : Nat} (hR : RR σ nw μ) (f1 : ∀ c, c ≤ 36 → σ'.1 c = σ.1 c) (f2 : ∀ c, 53 ≤ c → σ'.1 c = σ.1 c) (f3 : σ'.2 = σ.2) (g1 : ∀ c, c ≠ 0 → c ≠ 12 → μ'.1 c = μ.1 c) (g2 : ∀ f, f ≠ 21 → μ'.1 0 f = μ.1 0 f) (g3 : μ'.2 = μ.2) : RR (PC (wr σ' 37 0 0) q) nw (PM (wr μ' 0 19 0) q) := by
  obtain ⟨-, -, -, hs, hn⟩ := id hR
  refine hR.oth (fun c hc => ?_) (fun f h1 h2 h3 => ?_) (fun c h1 h2 => ?_) ?_ ⟨0, by decide, ?_, ?_, fun i hi => by omega⟩ (hs.fr (fun c hc => ?_) f3 ?_ ?_ g3) hn
  · rw [PC_n _ _ (by omega), wr_ne (by omega), f1 c hc]
  · rw [PM_o _ _ h2, wr_get, if_pos rfl, if_neg h1, g2 f h3]
  · rw [PM_n _ _ (by omega), wr_ne (by omega), g1 c (by omega) (by omega)]
  · rw [PM_n _ _ (by decide), wr_ne (by decide), g1 16 (by decide) (by decide)]
  · rw [PC_o _ _ (by decide), wr_at]; rfl
  · rw [PM_o _ _ (by decide), wr_at]; rfl
  · rw [PC_n _ _ (by omega), wr_ne (by omega), f2 c hc]
  · rw [PM_n _ _ (by decide), wr_ne (by decide), g1 17 (by decide) (by decide)]
  · rw [PM_n _ _ (by decide), wr_ne (by decide), g1 18 (by decide) (by decide)]
theorem end_M0 {μ : St} {t : Nat} {T : Nat → Nat} (hM : TM μ t T) {q : Nat} (hq : q ≤ t) (h : nx T t q = q) : f_X7_end (PM μ q) 0 = some (-20 - nI q, PM (wr μ 0 19 0) q) := by
  unfold f_X7_end f_X7_end_b9
  rw [if_pos rfl, next_M hM hq, h]
  simp only [bdp, sq]
  rw [if_pos trivial, PM_f μ q _ (by decide), PM_1]
theorem end_M1 (μ : St) (q : Nat) : f_X7_end (PM μ q) 1 = some (0, PM (wr μ 0 19 0) q) := by
  unfold f_X7_end f_X7_end_b9
  rw [if_neg (by decide)]
  simp only [sq]
  rw [if_neg (by decide), PM_f μ q _ (by decide)]
set_option maxHeartbeats 1000000 in
theorem op11 : Op11 RR := by
  intro σ nw μ hR
  obtain ⟨⟨a, I, hC, hM⟩, hkp, htp, hs, hnw⟩ := id hR
  obtain ⟨t, T, tC, tM⟩ := tape_T htp
  have ht := tC.1
  unfold f_X6_yard f_X7_yard f_X5_takeYard_39 f_X7_readAll
  simp only [sq]
  have eC : wr (wr σ 37 1 0) 39 0 0 = PC (wr σ 39 0 0) 0 := PC_c σ 0 0 (by decide)
  have eM : wr (wr μ 0 20 0) 0 21 0 = PM (wr μ 0 21 0) 0 := PM_f μ 0 0 (by decide)
  rw [eC, eM, if_pos trivial]
  obtain ⟨r, σ1, μ1, q, b1, b2, b3, b4, b5, b6, b7, b8, b9⟩ := yard_l (t := t) (T := T) 10 0 FU (wr σ 39 0 0) (wr μ 0 21 0) 0 (by omega) (by omega) (by unfold FU; omega) (tC.fr (by rw [wr_ne (by decide)]) (wr_ne (by decide))) (tM.fr (by rw [wr_get, if_pos rfl, if_neg (by decide)]) (wr_ne (by decide))) (fun u hu => by omega) (wr_at _ _ _ _) (wr_at _ _ _ _) (by omega)
  have b1' : f_X5_takeYard_39_h12 FU 0 (PC (wr σ 39 0 0) 0) = some (r, PC σ1 q) := b1
  rw [b1', b2]
  simp only [bdp]
  have fc : ∀ c, (c < 39 ∨ 44 < c) → σ1.1 c = σ.1 c := fun c hc => by rw [b3 c hc, wr_ne (by omega)]
  have gc : ∀ c, c ≠ 0 → c ≠ 12 → μ1.1 c = μ.1 c := fun c d0 d12 => by rw [b5 c d0 d12, wr_ne d0]
  have gf : ∀ f, f ≠ 21 → μ1.1 0 f = μ.1 0 f := fun f hf => by rw [b6 f hf, wr_get, if_pos rfl, if_neg hf]
  rw [PC_f σ1 q _ (by decide)]
  rcases b9 with ⟨rfl, b9⟩ | ⟨rfl, n, hn, hG, h39, h21⟩
  · have tM1 : TM μ1 t T := tM.fr (gf 19 (by decide)) (gc 11 (by decide) (by decide))
    rw [if_pos rfl, end_M0 tM1 b8 b9]
    simp only [f_X5_faultHere]
    rw [if_neg (m20 q (by omega)), PC_1]
    exact ⟨_, _, _, rfl, rfl, fault_R hR (fun c hc => fc c (by omega)) (fun c hc => fc c (by omega)) b4 gc gf b7⟩
  · rw [if_neg (by decide), end_M1]
    simp only []
    rw [if_pos (by decide)]
    -- the class
    obtain ⟨σ2, c0, c1, c2, -, c3, c4, c5, c6, c7, c8, c9⟩ := bg_39 (PC (wr σ1 37 0 0) q)
    rw [c0]
    simp only [bdr]
    have sc : ∀ c, c ≠ 37 → (c < 2 ∨ 8 < c) → σ2.1 c = σ1.1 c := fun c d hc => by rw [c1 c hc, PC_n _ _ d, wr_ne d]
    have sg : ∀ c, 39 ≤ c → (PC (wr σ1 37 0 0) q).1 c = σ1.1 c := fun c hc => by rw [PC_n _ _ (by omega), wr_ne (by omega)]
    -- the model
    obtain ⟨μ2, f0, f1, f2, f3, f4, f5, f6, -⟩ := forget_l 10 0 FU (wr (PM (wr μ1 0 19 0) q) 0 3 0) (by omega) (by unfold FU; omega)
    have f0' : f_X7_forget (wr (PM (wr μ1 0 19 0) q) 0 3 0) = some μ2 := f0
    rw [f0']
    simp only []
    have pf : ∀ f, f ≠ 3 → f ≠ 19 → f ≠ 20 → (wr (PM (wr μ1 0 19 0) q) 0 3 0).1 0 f = μ1.1 0 f := fun f d3 d19 d20 => by rw [wr_get, if_pos rfl, if_neg d3, PM_o _ _ d20, wr_get, if_pos rfl, if_neg d19]
    have pc : ∀ c, c ≠ 0 → (wr (PM (wr μ1 0 19 0) q) 0 3 0).1 c = μ1.1 c := fun c d0 => by rw [wr_ne d0, PM_n _ _ d0, wr_ne d0]
    have z9 : ∀ u, u < 20 → μ2.1 9 u = 0 := fun u hu => by
      by_cases c : u < 10
      · exact (f5 u (by omega) c).1
      · have := (f5 (u - 10) (by omega) (by omega)).2
        rw [show 10 + (u - 10) = u by omega] at this
        exact this
    obtain ⟨μ3, y0, y1, y2, y3, y4, y5, -⟩ := yard_27 hn n 0 FU μ2 (by omega) (by unfold FU; omega) (by rw [f2 21 (by decide), pf 21 (by decide) (by decide) (by decide), h21]) (by rw [f2 3 (by decide), wr_at]; rfl) z9
    have y0' : f_X7_yard_h27 FU 0 μ2 = some (nI n, μ3) := y0
    rw [y0']
    -- both
    have kk : ∀ u, u < n → ix (σ1.1 40 u) < 6 ∧ ix (σ1.1 41 u) < 36 ∧ ix (σ1.1 42 u) < 90 ∧ (σ1.1 40 u = nI (ix (σ1.1 40 u)) ∧ σ1.1 41 u = nI (ix (σ1.1 41 u)) ∧ σ1.1 42 u = nI (ix (σ1.1 42 u)) ∧ σ1.1 43 u = 0 ∧ σ1.1 44 u = 0) ∧ (μ1.1 12 (3 * u) = nI (ix (σ1.1 40 u)) ∧ μ1.1 12 (3 * u + 1) = nI (ix (σ1.1 41 u)) ∧ μ1.1 12 (3 * u + 2) = nI (ix (σ1.1 42 u))) := fun u hu => by
      obtain ⟨kd, pl, yr, k1, k2, k3, ⟨k4, k5, k6, k7, k8⟩, k9⟩ := hG u hu
      rw [k4, k5, k6, ix_nI (by omega), ix_nI (by omega), ix_nI (by omega)]
      exact ⟨k1, k2, k3, ⟨rfl, rfl, rfl, k7, k8⟩, k9⟩
    have cs : ∀ c, c ≠ 1 → (wr σ2 1 9 0).1 c = σ2.1 c := fun c hc => wr_ne hc
    have cf : ∀ f, f ≠ 9 → (wr σ2 1 9 0).1 1 f = σ.1 1 f := fun f hf => by rw [wr_get, if_pos rfl, if_neg hf, sc 1 (by decide) (by decide), fc 1 (by decide)]
    have c12 : (wr σ2 1 9 0).1 2 0 = nI n := by rw [cs 2 (by decide), c3, sg 39 (by decide), h39]
    have cP : ∀ c, 9 ≤ c → c ≤ 18 → (wr σ2 1 9 0).1 c = σ.1 c := fun c h1 h2 => by rw [cs c (by omega), sc c (by omega) (by omega), fc c (by omega)]
    have mP : ∀ c, 4 ≤ c → c ≠ 9 → c ≠ 12 → μ3.1 c = μ.1 c := fun c h1 h2 h3 => by rw [y1 c (by omega) (by omega) (by omega) (by omega), f1 c (by omega) h2, pc c (by omega), gc c (by omega) h3]
    have mF : ∀ f, f ≠ 3 → f ≠ 17 → f ≠ 19 → f ≠ 20 → f ≠ 21 → μ3.1 0 f = μ.1 0 f := fun f d3 d17 d19 d20 d21 => by rw [y2 f d3, f2 f d17, pf f d3 d19 d20, gf f d21]
    have m9 : ∀ u, u < 20 → μ3.1 9 u = 0 := fun u hu => by rw [y1 9 (by decide) (by decide) (by decide) (by decide)]; exact z9 u hu
    have m940 : μ3.1 9 140 = μ.1 9 140 := by rw [y1 9 (by decide) (by decide) (by decide) (by decide), f6 140 (by decide), pc 9 (by decide), gc 9 (by decide) (by decide)]
    have m12 : μ2.1 12 = μ1.1 12 := by rw [f1 12 (by decide) (by decide), pc 12 (by decide)]
    have iv : Inv (aY a n (fun u => ix (σ1.1 40 u)) (fun u => ix (σ1.1 41 u)) (fun u => ix (σ1.1 42 u))) := by
      refine ⟨hn, I.ps, I.rd, I.wi, I.no, I.dr, I.rg, Nat.zero_le _, Nat.zero_le _, fun i hi => ?_, fun i hi => ⟨by show 0 < 4096; decide, by show 0 ≤ 99; decide⟩, fun i hi _ => ⟨rfl, rfl⟩, I.si, I.nw, I.rc, I.wt, fun j hj => absurd hj (Nat.not_lt_zero _), fun u hu => absurd hu (Nat.not_lt_zero _), I.sh, I.sb⟩
      have := kk i hi
      exact ⟨by show ix (σ1.1 40 i) ≤ 5; omega, this.2.1, by show ix (σ1.1 42 i) ≤ 89; omega⟩
    have cv : CA (aY a n (fun u => ix (σ1.1 40 u)) (fun u => ix (σ1.1 41 u)) (fun u => ix (σ1.1 42 u))) (vw (wr σ2 1 9 0) 1) := by
      refine ⟨(cf 2 (by decide)).trans (cL_rd (a := a) hC), (cf 4 (by decide)).trans (cL_wi (a := a) hC), (cf 6 (by decide)).trans (cL_no (a := a) hC), (cf 7 (by decide)).trans (cL_dr (a := a) hC), (cf 8 (by decide)).trans (cL_rg (a := a) hC), wr_at _ _ _ _, c12, ?_, ?_, fun i hi => ?_, fun i hi => ?_, fun i hi => ?_, fun i hi => ?_, fun i hi => ?_, fun i p hi hp hb => ?_, fun i hi => ?_, fun i hi => ?_, fun i hi => ?_, fun i hi => ?_, fun i hi => ?_, fun i hi => ?_, fun j hj => absurd hj (Nat.not_lt_zero _), fun j hj => absurd hj (Nat.not_lt_zero _), fun j hj => absurd hj (Nat.not_lt_zero _)⟩
      · show (wr σ2 1 9 0).1 9 0 = nI (a 8 0); rw [cP 9 (by decide) (by decide)]; exact cL_ps hC
      · show (wr σ2 1 9 0).1 9 1 = 0 ∨ (wr σ2 1 9 0).1 9 1 = nI (ordN (a 8 0) (a 10)); rw [cP 9 (by decide) (by decide)]; exact cL_od hC
      · have hi : i < n := hi
        show (wr σ2 1 9 0).1 3 i = nI (ix (σ1.1 40 i)); rw [cs 3 (by decide), c4 i (by omega), sg 40 (by decide)]; exact (kk i hi).2.2.2.1.1
      · have hi : i < n := hi
        show (wr σ2 1 9 0).1 4 i = nI (ix (σ1.1 41 i)); rw [cs 4 (by decide), c5 i (by omega), sg 41 (by decide)]; exact (kk i hi).2.2.2.1.2.1
      · have hi : i < n := hi
        show (wr σ2 1 9 0).1 5 i = nI (ix (σ1.1 42 i)); rw [cs 5 (by decide), c6 i (by omega), sg 42 (by decide)]; exact (kk i hi).2.2.2.1.2.2.1
      · have hi : i < n := hi
        show (wr σ2 1 9 0).1 6 i = nI 0; rw [cs 6 (by decide), c7 i (by omega), sg 43 (by decide), (kk i hi).2.2.2.1.2.2.2.1]; rfl
      · have hi : i < n := hi
        show (wr σ2 1 9 0).1 7 i = nI 0; rw [cs 7 (by decide), c8 i (by omega), sg 44 (by decide), (kk i hi).2.2.2.1.2.2.2.2]; rfl
      · have hb : (0 : Nat).testBit p = true := hb
        rw [Nat.zero_testBit] at hb
        cases hb
      · show (wr σ2 1 9 0).1 10 i = nI (a 9 i); rw [cP 10 (by decide) (by decide)]; exact cL_ny hC i hi
      · show (wr σ2 1 9 0).1 11 i = nI (a 10 i); rw [cP 11 (by decide) (by decide)]; exact cL_na hC i hi
      · show (wr σ2 1 9 0).1 12 i = nI (a 11 i); rw [cP 12 (by decide) (by decide)]; exact cL_nb hC i hi
      · show (wr σ2 1 9 0).1 13 i = nI (a 12 i); rw [cP 13 (by decide) (by decide)]; exact cL_ns hC i hi
      · show (wr σ2 1 9 0).1 14 i = nI (a 13 i); rw [cP 14 (by decide) (by decide)]; exact cL_rc hC i hi
      · show (wr σ2 1 9 0).1 15 i = nI (a 14 i); rw [cP 15 (by decide) (by decide)]; exact cL_wt hC i hi
    have mv : MA (aY a n (fun u => ix (σ1.1 40 u)) (fun u => ix (σ1.1 41 u)) (fun u => ix (σ1.1 42 u))) (ul μ3) := by
      refine ⟨y3, (mF 8 (by decide) (by decide) (by decide) (by decide) (by decide)).trans (mL_ps (a := a) hM), (mF 10 (by decide) (by decide) (by decide) (by decide) (by decide)).trans (mL_rd (a := a) hM), (mF 7 (by decide) (by decide) (by decide) (by decide) (by decide)).trans (mL_sh (a := a) hM), (mF 11 (by decide) (by decide) (by decide) (by decide) (by decide)).trans (mL_wi (a := a) hM), (mF 13 (by decide) (by decide) (by decide) (by decide) (by decide)).trans (mL_no (a := a) hM), (mF 14 (by decide) (by decide) (by decide) (by decide) (by decide)).trans (mL_dr (a := a) hM), ?_, m940.trans (mL_rg (a := a) hM), fun i hi => ?_, fun i hi => ?_, fun i hi => ?_, fun i hi => m9 i (by omega), fun i hi => m9 (10 + i) (by omega), fun i p hi hp hb => ?_, fun i hi => ?_, fun i hi => ?_, fun i hi => ?_, fun i hi => ?_, fun i hi => ?_, fun u h1 h2 => ?_, fun u h1 h2 => ?_, fun u h1 h2 => ?_, fun u h1 h2 => ?_⟩
      · show μ3.1 0 17 = nI 0; rw [y2 17 (by decide), f4]; rfl
      · have hi : i < n := hi
        show μ3.1 1 i = nI (ix (σ1.1 40 i)); rw [(y5 i (by omega) hi).1, m12]; exact (kk i hi).2.2.2.2.1
      · have hi : i < n := hi
        show μ3.1 2 i = nI (ix (σ1.1 41 i)); rw [(y5 i (by omega) hi).2.1, m12]; exact (kk i hi).2.2.2.2.2.1
      · have hi : i < n := hi
        show μ3.1 3 i = nI (ix (σ1.1 42 i)); rw [(y5 i (by omega) hi).2.2, m12]; exact (kk i hi).2.2.2.2.2.2
      · have hb : (0 : Nat).testBit p = true := hb
        rw [Nat.zero_testBit] at hb
        cases hb
      · show μ3.1 4 i = nI (a 9 i); rw [mP 4 (by decide) (by decide) (by decide)]; exact mL_ny hM i hi
      · show μ3.1 5 i = nI (a 10 i); rw [mP 5 (by decide) (by decide) (by decide)]; exact mL_na hM i hi
      · show μ3.1 6 i = nI (a 11 i); rw [mP 6 (by decide) (by decide) (by decide)]; exact mL_nb hM i hi
      · show μ3.1 7 i = nI (a 13 i); rw [mP 7 (by decide) (by decide) (by decide)]; exact mL_rc hM i hi
      · show μ3.1 8 i = nI (a 14 i); rw [mP 8 (by decide) (by decide) (by decide)]; exact mL_wt hM i hi
      · have h2 : u ≤ 0 := h2; omega
      · have h2 : u ≤ 0 := h2; omega
      · have h2 : u ≤ 0 := h2; omega
      · have h2 : u ≤ 0 := h2; omega
    have hk9 : ∀ c, 19 ≤ c → c ≠ 37 → (c < 39 ∨ 44 < c) → (wr σ2 1 9 0).1 c = σ.1 c := fun c h1 h2 h3 => by rw [cs c (by omega), sc c h2 (by omega), fc c h3]
    have h0 : (wr σ2 1 9 0).1 0 = σ.1 0 := by rw [cs 0 (by decide), sc 0 (by decide) (by decide), fc 0 (by decide)]
    refine ⟨nI n, wr σ2 1 9 0, μ3, by rw [c12], rfl, ⟨_, iv, cv, mv⟩, ?_, ⟨0, by decide, ?_, ?_, fun i hi => by omega⟩, hs.fr (fun c hc => hk9 c (by omega) (by omega) (by omega)) (by show σ2.2 = σ.2; rw [c2]; exact b4) (mP 17 (by decide) (by decide) (by decide)) (mP 18 (by decide) (by decide) (by decide)) (by rw [y4, f3]; exact b7), hnw⟩
    · have e1 : vw (wr σ2 1 9 0) 19 = vw (wr σ2 1 9 0) 19 := rfl
      unfold Rkept at hkp ⊢
      rw [h0, mF 26 (by decide) (by decide) (by decide) (by decide) (by decide)]
      rcases hkp with hkp | ⟨k1, k2, b, J, hC', hM'⟩
      · exact Or.inl hkp
      · refine Or.inr ⟨k1, k2, b, J, hC'.cg (fun k hk => hk9 (19 + k) (by omega) (by omega) (by omega)), hM'.cg (fun k _ => ?_)⟩
        funext i
        unfold uk
        rw [mP 16 (by decide) (by decide) (by decide)]
    · show (wr σ2 1 9 0).1 37 0 = nI 0
      rw [cs 37 (by decide), c1 37 (by decide), PC_o _ _ (by decide), wr_at]; rfl
    · show μ3.1 0 19 = nI 0
      rw [y2 19 (by decide), f2 19 (by decide), wr_get, if_pos rfl, if_neg (by decide), PM_o _ _ (by decide), wr_at]; rfl
