/-- the parish with the news that were typed -/
def aP (a : Nat → Nat → Nat) (n o : Nat) (ys ss bs hs : Nat → Nat) : Nat → Nat → Nat := fun k =>
  if k = 0 then (fun f => if f = 9 then 0 else a 0 f)
  else if k = 5 then (fun _ => 0)
  else if k = 6 then (fun _ => 0)
  else if k = 8 then (fun _ => n)
  else if k = 9 then ys
  else if k = 10 then ss
  else if k = 11 then bs
  else if k = 12 then hs
  else if k = 18 then (fun _ => o)
  else a k
set_option maxHeartbeats 1000000 in
theorem op12 : Op12 RR := by
  intro σ nw μ hR
  obtain ⟨⟨a, I, hC, hM⟩, hkp, htp, hs, hnw⟩ := id hR
  obtain ⟨t, T, tC, tM⟩ := tape_T htp
  have ht := tC.1
  have h10 := I.gs
  unfold f_X6_paper f_X7_paper f_X5_takePaper_46 f_X7_readAll f_X2_clear_46
  simp only [sq, bdr]
  have eC : wr (wr (wr σ 37 1 0) 46 0 0) 46 1 0 = PC (wr (wr σ 46 0 0) 46 1 0) 0 := by
    have e1 : wr (wr σ 37 1 0) 46 0 0 = PC (wr σ 46 0 0) 0 := PC_c σ 0 0 (by decide)
    rw [e1]
    exact PC_c _ 0 0 (by decide)
  have eM : wr (wr μ 0 20 0) 0 21 0 = PM (wr μ 0 21 0) 0 := PM_f μ 0 0 (by decide)
  rw [eC, eM, if_neg (show ¬ (1 : Int32) = 0 by decide), if_pos trivial]
  obtain ⟨r, σ1, μ1, q, b1, b2, b3, b4, b5, b6, b7, b8, b9⟩ := paper_l (t := t) (T := T) 12 0 FU (wr (wr σ 46 0 0) 46 1 0) (wr μ 0 21 0) 0 (by omega) (by omega) (by unfold FU; omega) (tC.fr (by rw [wr_ne (by decide), wr_ne (by decide)]) (by rw [wr_ne (by decide), wr_ne (by decide)])) (tM.fr (by rw [wr_get, if_pos rfl, if_neg (by decide)]) (wr_ne (by decide))) (fun u hu => by omega) (by rw [wr_get, if_pos rfl, if_neg (by decide), wr_at]; rfl) (wr_at _ _ _ _) (by omega)
  have b1' : f_X5_takePaper_46_h11 FU 0 (PC (wr (wr σ 46 0 0) 46 1 0) 0) = some (r, PC σ1 q) := b1
  rw [b1', b2]
  simp only [bdp]
  have fc : ∀ c, (c < 46 ∨ 50 < c) → σ1.1 c = σ.1 c := fun c hc => by rw [b3 c hc, wr_ne (by omega), wr_ne (by omega)]
  have gc : ∀ c, c ≠ 0 → c ≠ 12 → μ1.1 c = μ.1 c := fun c d0 d12 => by rw [b5 c d0 d12, wr_ne d0]
  have gf : ∀ f, f ≠ 21 → μ1.1 0 f = μ.1 0 f := fun f hf => by rw [b6 f hf, wr_get, if_pos rfl, if_neg hf]
  rw [PC_f σ1 q _ (by decide)]
  rcases b9 with ⟨rfl, b9⟩ | ⟨rfl, n, hn, hG, h46, h461, h21⟩
  · have tM1 : TM μ1 t T := tM.fr (gf 19 (by decide)) (gc 11 (by decide) (by decide))
    rw [if_pos rfl, end_M0 tM1 b8 b9]
    simp only [f_X5_faultHere]
    rw [if_neg (m20 q (by omega)), PC_1]
    exact ⟨_, _, _, rfl, rfl, fault_R hR (fun c hc => fc c (by omega)) (fun c hc => fc c (by omega)) b4 gc gf b7⟩
  · rw [if_neg (by decide), end_M1]
    simp only []
    rw [if_pos (by decide)]
    -- the class
    obtain ⟨σ2, c0, c1, c2, -, c3, c4, c5, c6, c7, c8⟩ := bp_46 (PC (wr σ1 37 0 0) q)
    rw [c0]
    simp only []
    obtain ⟨σ3, d0, d1, d2, d3⟩ := forget_C σ2
    rw [d0]
    simp only []
    have sg : ∀ c, 39 ≤ c → (PC (wr σ1 37 0 0) q).1 c = σ1.1 c := fun c hc => by rw [PC_n _ _ (by omega), wr_ne (by omega)]
    have sc : ∀ c, c ≠ 37 → c ≠ 6 → c ≠ 7 → (c < 9 ∨ 13 < c) → σ3.1 c = σ1.1 c := fun c e37 e6 e7 hc => by rw [d1 c e6 e7, c1 c hc, PC_n _ _ e37, wr_ne e37]
    -- the model
    obtain ⟨μ2, f0, f1, f2, f3, f4, f5, f6, -⟩ := forget_l 10 0 FU (wr (PM (wr μ1 0 19 0) q) 0 8 0) (by omega) (by unfold FU; omega)
    have f0' : f_X7_forget (wr (PM (wr μ1 0 19 0) q) 0 8 0) = some μ2 := f0
    rw [f0']
    simp only []
    have pf : ∀ f, f ≠ 8 → f ≠ 19 → f ≠ 20 → (wr (PM (wr μ1 0 19 0) q) 0 8 0).1 0 f = μ1.1 0 f := fun f e8 e19 e20 => by rw [wr_get, if_pos rfl, if_neg e8, PM_o _ _ e20, wr_get, if_pos rfl, if_neg e19]
    have pc : ∀ c, c ≠ 0 → (wr (PM (wr μ1 0 19 0) q) 0 8 0).1 c = μ1.1 c := fun c e0 => by rw [wr_ne e0, PM_n _ _ e0, wr_ne e0]
    have z9 : ∀ u, u < 20 → μ2.1 9 u = 0 := fun u hu => by
      by_cases c : u < 10
      · exact (f5 u (by omega) c).1
      · have := (f5 (u - 10) (by omega) (by omega)).2
        rw [show 10 + (u - 10) = u by omega] at this
        exact this
    have m12 : μ2.1 12 = μ1.1 12 := by rw [f1 12 (by decide) (by decide), pc 12 (by decide)]
    have kk : ∀ u, u < n → ix (σ1.1 47 u) < 100 ∧ ix (σ1.1 48 u) < 2 ^ u ∧ ix (σ1.1 49 u) < 1024 ∧ ix (σ1.1 50 u) ≤ 1 ∧ (σ1.1 47 u = nI (ix (σ1.1 47 u)) ∧ σ1.1 48 u = nI (ix (σ1.1 48 u)) ∧ σ1.1 49 u = nI (ix (σ1.1 49 u)) ∧ σ1.1 50 u = nI (ix (σ1.1 50 u))) ∧ (μ1.1 12 (4 * u) = nI (ix (σ1.1 47 u)) ∧ μ1.1 12 (4 * u + 1) = nI (ix (σ1.1 48 u)) ∧ μ1.1 12 (4 * u + 2) = nI (ix (σ1.1 49 u)) ∧ μ1.1 12 (4 * u + 3) = nI (ix (σ1.1 50 u))) := fun u hu => by
      obtain ⟨y, s, b, h, k1, k2, k3, k4, ⟨k5, k6, k7, k8⟩, k9⟩ := hG u hu
      have := pow12 (p := u) (by omega)
      rw [k5, k6, k7, k8, ix_nI (by omega), ix_nI (by omega), ix_nI (by omega), ix_nI (by omega)]
      exact ⟨k1, k2, k3, k4, ⟨rfl, rfl, rfl, rfl⟩, k9⟩
    have hsh := I.sh
    obtain ⟨μ3, o, y0, y1, y2, y3, y4, y5, y6, y7, y8, -⟩ := paper_27 (hh := fun u => ix (σ1.1 50 u)) hn n 0 FU (a 18 0) μ2 (by omega) (by unfold FU; omega) (by rw [f2 21 (by decide), pf 21 (by decide) (by decide) (by decide), h21]) (by rw [f2 8 (by decide), wr_at]; rfl) hsh (by rw [f2 7 (by decide), pf 7 (by decide) (by decide) (by decide), gf 7 (by decide)]; exact mL_sh hM) (fun u hu => by omega) (fun u hu => by rw [m12]; exact ⟨(kk u hu).2.2.2.2.2.2.2.2, (kk u hu).2.2.2.1⟩)
    have y0' : f_X7_paper_h27 FU 0 μ2 = some (nI n, μ3) := y0
    rw [y0']
    -- both
    have cs : ∀ c, c ≠ 1 → (wr σ3 1 9 0).1 c = σ3.1 c := fun c hc => wr_ne hc
    have cf : ∀ f, f ≠ 9 → (wr σ3 1 9 0).1 1 f = σ.1 1 f := fun f hf => by rw [wr_get, if_pos rfl, if_neg hf, sc 1 (by decide) (by decide) (by decide) (by decide), fc 1 (by decide)]
    have c90 : (wr σ3 1 9 0).1 9 0 = nI n := by rw [cs 9 (by decide), d1 9 (by decide) (by decide), c3, sg 46 (by decide), h46]
    have c91 : (wr σ3 1 9 0).1 9 1 = 0 := by rw [cs 9 (by decide), d1 9 (by decide) (by decide), c4, sg 46 (by decide), h461]
    have cP : ∀ c, 2 ≤ c → c ≠ 6 → c ≠ 7 → (c < 9 ∨ 13 < c) → c ≤ 36 → (wr σ3 1 9 0).1 c = σ.1 c := fun c e2 e6 e7 hc h36 => by rw [cs c (by omega), sc c (by omega) e6 e7 hc, fc c (by omega)]
    have mP : ∀ c, c ≠ 0 → c ≠ 4 → c ≠ 5 → c ≠ 6 → c ≠ 9 → c ≠ 12 → μ3.1 c = μ.1 c := fun c e0 e4 e5 e6 e9 e12 => by rw [y1 c e0 e4 e5 e6, f1 c e0 e9, pc c e0, gc c e0 e12]
    have mF : ∀ f, f ≠ 7 → f ≠ 8 → f ≠ 17 → f ≠ 19 → f ≠ 20 → f ≠ 21 → μ3.1 0 f = μ.1 0 f := fun f e7 e8 e17 e19 e20 e21 => by rw [y2 f e7 e8, f2 f e17, pf f e8 e19 e20, gf f e21]
    have m9 : ∀ u, u < 20 → μ3.1 9 u = 0 := fun u hu => by rw [y1 9 (by decide) (by decide) (by decide) (by decide)]; exact z9 u hu
    have m940 : μ3.1 9 140 = μ.1 9 140 := by rw [y1 9 (by decide) (by decide) (by decide) (by decide), f6 140 (by decide), pc 9 (by decide), gc 9 (by decide) (by decide)]
    have iv : Inv (aP a n o (fun u => ix (σ1.1 47 u)) (fun u => ix (σ1.1 48 u)) (fun u => ix (σ1.1 49 u)) (fun u => ix (σ1.1 50 u))) := by
      refine ⟨I.gs, hn, I.rd, I.wi, I.no, I.dr, I.rg, Nat.zero_le _, Nat.zero_le _, I.gr, fun i hi => ⟨by show 0 < 4096; decide, by show 0 ≤ 99; decide⟩, fun i hi _ => ⟨rfl, rfl⟩, I.si, fun u hu => ?_, I.rc, I.wt, fun j hj => absurd hj (Nat.not_lt_zero _), fun u hu => absurd hu (Nat.not_lt_zero _), y5, fun u hu => y6 u hu⟩
      have := kk u hu
      exact ⟨by show ix (σ1.1 47 u) ≤ 99; omega, this.2.1, this.2.2.1, this.2.2.2.1⟩
    have cv : CA (aP a n o (fun u => ix (σ1.1 47 u)) (fun u => ix (σ1.1 48 u)) (fun u => ix (σ1.1 49 u)) (fun u => ix (σ1.1 50 u))) (vw (wr σ3 1 9 0) 1) := by
      refine ⟨(cf 2 (by decide)).trans (cL_rd (a := a) hC), (cf 4 (by decide)).trans (cL_wi (a := a) hC), (cf 6 (by decide)).trans (cL_no (a := a) hC), (cf 7 (by decide)).trans (cL_dr (a := a) hC), (cf 8 (by decide)).trans (cL_rg (a := a) hC), wr_at _ _ _ _, ?_, c90, Or.inl c91, fun i hi => ?_, fun i hi => ?_, fun i hi => ?_, fun i hi => ?_, fun i hi => ?_, fun i p hi hp hb => ?_, fun i hi => ?_, fun i hi => ?_, fun i hi => ?_, fun i hi => ?_, fun i hi => ?_, fun i hi => ?_, fun j hj => absurd hj (Nat.not_lt_zero _), fun j hj => absurd hj (Nat.not_lt_zero _), fun j hj => absurd hj (Nat.not_lt_zero _)⟩
      · show (wr σ3 1 9 0).1 2 0 = nI (a 1 0); rw [cP 2 (by decide) (by decide) (by decide) (by decide) (by decide)]; exact cL_gs hC
      · show (wr σ3 1 9 0).1 3 i = nI (a 2 i); rw [cP 3 (by decide) (by decide) (by decide) (by decide) (by decide)]; exact cL_ki hC i hi
      · show (wr σ3 1 9 0).1 4 i = nI (a 3 i); rw [cP 4 (by decide) (by decide) (by decide) (by decide) (by decide)]; exact cL_pl hC i hi
      · show (wr σ3 1 9 0).1 5 i = nI (a 4 i); rw [cP 5 (by decide) (by decide) (by decide) (by decide) (by decide)]; exact cL_ye hC i hi
      · have hi : i < a 1 0 := hi
        show (wr σ3 1 9 0).1 6 i = nI 0; rw [cs 6 (by decide), (d3 i (by omega)).1]; rfl
      · have hi : i < a 1 0 := hi
        show (wr σ3 1 9 0).1 7 i = nI 0; rw [cs 7 (by decide), (d3 i (by omega)).2]; rfl
      · have hb : (0 : Nat).testBit p = true := hb
        rw [Nat.zero_testBit] at hb
        cases hb
      · have hi : i < n := hi
        show (wr σ3 1 9 0).1 10 i = nI (ix (σ1.1 47 i)); rw [cs 10 (by decide), d1 10 (by decide) (by decide), c5 i (by omega), sg 47 (by decide)]; exact (kk i hi).2.2.2.2.1.1
      · have hi : i < n := hi
        show (wr σ3 1 9 0).1 11 i = nI (ix (σ1.1 48 i)); rw [cs 11 (by decide), d1 11 (by decide) (by decide), c6 i (by omega), sg 48 (by decide)]; exact (kk i hi).2.2.2.2.1.2.1
      · have hi : i < n := hi
        show (wr σ3 1 9 0).1 12 i = nI (ix (σ1.1 49 i)); rw [cs 12 (by decide), d1 12 (by decide) (by decide), c7 i (by omega), sg 49 (by decide)]; exact (kk i hi).2.2.2.2.1.2.2.1
      · have hi : i < n := hi
        show (wr σ3 1 9 0).1 13 i = nI (ix (σ1.1 50 i)); rw [cs 13 (by decide), d1 13 (by decide) (by decide), c8 i (by omega), sg 50 (by decide)]; exact (kk i hi).2.2.2.2.1.2.2.2
      · show (wr σ3 1 9 0).1 14 i = nI (a 13 i); rw [cP 14 (by decide) (by decide) (by decide) (by decide) (by decide)]; exact cL_rc hC i hi
      · show (wr σ3 1 9 0).1 15 i = nI (a 14 i); rw [cP 15 (by decide) (by decide) (by decide) (by decide) (by decide)]; exact cL_wt hC i hi
    have mv : MA (aP a n o (fun u => ix (σ1.1 47 u)) (fun u => ix (σ1.1 48 u)) (fun u => ix (σ1.1 49 u)) (fun u => ix (σ1.1 50 u))) (ul μ3) := by
      refine ⟨(mF 3 (by decide) (by decide) (by decide) (by decide) (by decide) (by decide)).trans (mL_gs (a := a) hM), y3, (mF 10 (by decide) (by decide) (by decide) (by decide) (by decide) (by decide)).trans (mL_rd (a := a) hM), y4, (mF 11 (by decide) (by decide) (by decide) (by decide) (by decide) (by decide)).trans (mL_wi (a := a) hM), (mF 13 (by decide) (by decide) (by decide) (by decide) (by decide) (by decide)).trans (mL_no (a := a) hM), (mF 14 (by decide) (by decide) (by decide) (by decide) (by decide) (by decide)).trans (mL_dr (a := a) hM), ?_, m940.trans (mL_rg (a := a) hM), fun i hi => ?_, fun i hi => ?_, fun i hi => ?_, fun i hi => m9 i (by omega), fun i hi => m9 (10 + i) (by omega), fun i p hi hp hb => ?_, fun i hi => ?_, fun i hi => ?_, fun i hi => ?_, fun i hi => ?_, fun i hi => ?_, fun u h1 h2 => ?_, fun u h1 h2 => ?_, fun u h1 h2 => ?_, fun u h1 h2 => ?_⟩
      · show μ3.1 0 17 = nI 0; rw [y2 17 (by decide) (by decide), f4]; rfl
      · show μ3.1 1 i = nI (a 2 i); rw [mP 1 (by decide) (by decide) (by decide) (by decide) (by decide) (by decide)]; exact mL_ki hM i hi
      · show μ3.1 2 i = nI (a 3 i); rw [mP 2 (by decide) (by decide) (by decide) (by decide) (by decide) (by decide)]; exact mL_pl hM i hi
      · show μ3.1 3 i = nI (a 4 i); rw [mP 3 (by decide) (by decide) (by decide) (by decide) (by decide) (by decide)]; exact mL_ye hM i hi
      · have hb : (0 : Nat).testBit p = true := hb
        rw [Nat.zero_testBit] at hb
        cases hb
      · have hi : i < n := hi
        show μ3.1 4 i = nI (ix (σ1.1 47 i)); rw [(y8 i (by omega) hi).1, m12]; exact (kk i hi).2.2.2.2.2.1
      · have hi : i < n := hi
        show μ3.1 5 i = nI (ix (σ1.1 48 i)); rw [(y8 i (by omega) hi).2.1, m12]; exact (kk i hi).2.2.2.2.2.2.1
      · have hi : i < n := hi
        show μ3.1 6 i = nI (ix (σ1.1 49 i)); rw [(y8 i (by omega) hi).2.2, m12]; exact (kk i hi).2.2.2.2.2.2.2.1
      · show μ3.1 7 i = nI (a 13 i); rw [mP 7 (by decide) (by decide) (by decide) (by decide) (by decide) (by decide)]; exact mL_rc hM i hi
      · show μ3.1 8 i = nI (a 14 i); rw [mP 8 (by decide) (by decide) (by decide) (by decide) (by decide) (by decide)]; exact mL_wt hM i hi
      · have h2 : u ≤ 0 := h2; omega
      · have h2 : u ≤ 0 := h2; omega
      · have h2 : u ≤ 0 := h2; omega
      · have h2 : u ≤ 0 := h2; omega
    have hk9 : ∀ c, 19 ≤ c → c ≠ 37 → (c < 46 ∨ 50 < c) → (wr σ3 1 9 0).1 c = σ.1 c := fun c h1 h2 h3 => by rw [cs c (by omega), sc c h2 (by omega) (by omega) (by omega), fc c h3]
    have h0 : (wr σ3 1 9 0).1 0 = σ.1 0 := by rw [cs 0 (by decide), sc 0 (by decide) (by decide) (by decide) (by decide), fc 0 (by decide)]
    refine ⟨nI n, wr σ3 1 9 0, μ3, by rw [c90], rfl, ⟨_, iv, cv, mv⟩, ?_, ⟨0, by decide, ?_, ?_, fun i hi => by omega⟩, hs.fr (fun c hc => hk9 c (by omega) (by omega) (by omega)) (by show σ3.2 = σ.2; rw [d2, c2]; exact b4) (mP 17 (by decide) (by decide) (by decide) (by decide) (by decide) (by decide)) (mP 18 (by decide) (by decide) (by decide) (by decide) (by decide) (by decide)) (by rw [y7, f3]; exact b7), hnw⟩
    · unfold Rkept at hkp ⊢
      rw [h0, mF 26 (by decide) (by decide) (by decide) (by decide) (by decide) (by decide)]
      rcases hkp with hkp | ⟨k1, k2, b, J, hC', hM'⟩
      · exact Or.inl hkp
      · refine Or.inr ⟨k1, k2, b, J, hC'.cg (fun k hk => hk9 (19 + k) (by omega) (by omega) (by omega)), hM'.cg (fun k _ => ?_)⟩
        funext i
        unfold uk
        rw [mP 16 (by decide) (by decide) (by decide) (by decide) (by decide) (by decide)]
    · show (wr σ3 1 9 0).1 37 0 = nI 0
      rw [cs 37 (by decide), d1 37 (by decide) (by decide), c1 37 (by decide), PC_o _ _ (by decide), wr_at]; rfl
    · show μ3.1 0 19 = nI 0
      rw [y2 19 (by decide) (by decide), f2 19 (by decide), wr_get, if_pos rfl, if_neg (by decide), PM_o _ _ (by decide), wr_at]; rfl
