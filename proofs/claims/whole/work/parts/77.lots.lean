def dwN (d : Nat) : Nat := (d * 1103515245 + 12345) % 2 ^ 31
theorem dwN_lt (d : Nat) : dwN d < 2 ^ 31 := Nat.mod_lt _ (by decide)
theorem dw_C (d : Nat) : (nI d * 1103515245 + 12345) &&& 2147483647 = nI (dwN d) := by
  rw [show (1103515245 : Int32) = nI 1103515245 from rfl, show (12345 : Int32) = nI 12345 from rfl, show (2147483647 : Int32) = nI (2 ^ 31 - 1) from rfl, pk_mul, nI_k, fa_mask]
  rfl
theorem dw_M {d : Nat} (h : d < 2 ^ 31) : (((nI d).toInt64 * 1103515245 + 12345) &&& 2147483647).toInt32 = nI (dwN d) := by
  rw [nI_l h, show (1103515245 : Int64) = lN 1103515245 from rfl, show (12345 : Int64) = lN 12345 from rfl, show (2147483647 : Int64) = lN (2 ^ 31 - 1) from rfl, lN_mul, lN_add, fb_maskL, lN_i]
  rfl
theorem seed_par {a : Nat → Nat → Nat} {σ μ : St} {nw : Nat} (hR : RR σ nw μ) (I : Inv a) (hC : CA a (vw σ 1)) (hM : MA a (ul μ)) {k : Nat} (hk : k < 2 ^ 31) : RR (wr σ 1 7 (nI k)) nw (wr μ 0 14 (nI k)) ∧ Inv (uA a 0 7 k) ∧ CA (uA a 0 7 k) (vw (wr σ 1 7 (nI k)) 1) ∧ MA (uA a 0 7 k) (ul (wr μ 0 14 (nI k))) := by
  have i1 : Inv (uA a 0 7 k) := ⟨I.gs, I.ps, I.rd, I.wi, I.no, hk, I.rg, I.un, I.ur, I.gr, I.hw, I.hz, I.si, I.nw, I.rc, I.wt, I.ud, I.uwc rfl rfl rfl, I.sh, I.sb⟩
  have c1 : CA (uA a 0 7 k) (vw (wr σ 1 7 (nI k)) 1) := ⟨hC.rd, hC.wi, hC.no, rfl, hC.rg, hC.un, hC.gs, hC.ps, hC.od, hC.ki, hC.pl, hC.ye, hC.he, hC.wg, hC.si, hC.ny, hC.na, hC.nb, hC.ns, hC.rc, hC.wt, hC.u1, hC.u2, hC.u3⟩
  have m1 : MA (uA a 0 7 k) (ul (wr μ 0 14 (nI k))) := ⟨hM.gs, hM.ps, hM.rd, hM.sh, hM.wi, hM.no, rfl, hM.un, hM.rg, hM.ki, hM.pl, hM.ye, hM.he, hM.wg, hM.si, hM.ny, hM.na, hM.nb, hM.rc, hM.wt, hM.u1c rfl rfl rfl rfl rfl, hM.u2c rfl rfl rfl rfl, hM.u3, hM.u4c rfl rfl rfl rfl rfl rfl (Or.inl (Nat.le_refl _))⟩
  exact ⟨hR.par ⟨_, i1, c1, m1⟩ (fun c hc => wr_ne (by omega)) rfl (fun c hc => wr_ne (by omega)) rfl rfl rfl, i1, c1, m1⟩
theorem wind_par {a : Nat → Nat → Nat} {σ μ : St} {nw : Nat} (hR : RR σ nw μ) (I : Inv a) (hC : CA a (vw σ 1)) (hM : MA a (ul μ)) {k : Nat} (hk : k ≤ 4) : RR (wr σ 1 4 (nI k)) nw (wr μ 0 11 (nI k)) ∧ Inv (uA a 0 4 k) ∧ CA (uA a 0 4 k) (vw (wr σ 1 4 (nI k)) 1) ∧ MA (uA a 0 4 k) (ul (wr μ 0 11 (nI k))) := by
  have i1 : Inv (uA a 0 4 k) := ⟨I.gs, I.ps, I.rd, hk, I.no, I.dr, I.rg, I.un, I.ur, I.gr, I.hw, I.hz, I.si, I.nw, I.rc, I.wt, I.ud, I.uwc rfl rfl rfl, I.sh, I.sb⟩
  have c1 : CA (uA a 0 4 k) (vw (wr σ 1 4 (nI k)) 1) := ⟨hC.rd, rfl, hC.no, hC.dr, hC.rg, hC.un, hC.gs, hC.ps, hC.od, hC.ki, hC.pl, hC.ye, hC.he, hC.wg, hC.si, hC.ny, hC.na, hC.nb, hC.ns, hC.rc, hC.wt, hC.u1, hC.u2, hC.u3⟩
  have m1 : MA (uA a 0 4 k) (ul (wr μ 0 11 (nI k))) := ⟨hM.gs, hM.ps, hM.rd, hM.sh, rfl, hM.no, hM.dr, hM.un, hM.rg, hM.ki, hM.pl, hM.ye, hM.he, hM.wg, hM.si, hM.ny, hM.na, hM.nb, hM.rc, hM.wt, hM.u1c rfl rfl rfl rfl rfl, hM.u2c rfl rfl rfl rfl, hM.u3, hM.u4c rfl rfl rfl rfl rfl rfl (Or.inl (Nat.le_refl _))⟩
  exact ⟨hR.par ⟨_, i1, c1, m1⟩ (fun c hc => wr_ne (by omega)) rfl (fun c hc => wr_ne (by omega)) rfl rfl rfl, i1, c1, m1⟩
/-- one draw -/
theorem draw_R {a : Nat → Nat → Nat} {σ μ : St} {nw : Nat} (hR : RR σ nw μ) (I : Inv a) (hC : CA a (vw σ 1)) (hM : MA a (ul μ)) {b : Nat} (hb : 0 < b) (hb2 : b < 100) : ∃ (v : Nat) (σ' μ' : St), v < b ∧ f_X3_drawn σ (nI b) = some (nI v, σ') ∧ f_X7_nextDraw μ (nI b) = some (nI v, μ') ∧ RR σ' nw μ' ∧ ∃ b' : Nat → Nat → Nat, Inv b' ∧ CA b' (vw σ' 1) ∧ MA b' (ul μ') ∧ b' 0 8 = a 0 8 ∧ b' 0 2 = a 0 2 ∧ b' 8 0 = a 8 0 := by
  obtain ⟨r1, r2, r3, r4⟩ := seed_par hR I hC hM (dwN_lt (a 0 7))
  have hd := dwN_lt (a 0 7)
  refine ⟨dwN (a 0 7) / 65536 % b, _, _, Nat.mod_lt _ hb, ?_, ?_, r1, _, r2, r3, r4, rfl, rfl, rfl⟩
  · unfold f_X3_drawn
    rw [cL_dr hC, dw_C]
    simp only [sq]
    rw [if_neg (by rw [show (0 : Int32) = nI 0 from rfl, nI_leE (by omega) (by omega)]; omega), if_neg (by rw [nI_eq0 (by omega)]; omega), show (wr σ 1 7 (nI (dwN (a 0 7)))).1 1 7 = nI (dwN (a 0 7)) by rw [wr_get, if_pos rfl, if_pos rfl], show (16 : Int32) = nI 16 from rfl, isr_n hd (by decide), irm_n (by omega) hb (by omega)]
  · unfold f_X7_nextDraw
    rw [mL_dr hM, dw_M I.dr]
    simp only [sq]
    rw [if_neg (by rw [nI_eq0 (by omega)]; omega), show (wr μ 0 14 (nI (dwN (a 0 7)))).1 0 14 = nI (dwN (a 0 7)) by rw [wr_get, if_pos rfl, if_pos rfl], show (65536 : Int32) = nI 65536 from rfl, pk_div hd (by decide) (by decide), irm_n (by omega) hb (by omega)]
theorem lots_l {nw N : Nat} (hN : N ≤ 30) : ∀ (k i m c : Nat) (a : Nat → Nat → Nat) (σ μ : St), i + k = N → k < m → RR σ nw μ → Inv a → CA a (vw σ 1) → MA a (ul μ) → a 0 8 + k ≤ 9999 → 0 < a 0 2 → 0 < a 8 0 → ∃ (r : Int32) (σ' μ' : St), f_X6_lots_h61 (nI N) m (nI c) (nI i) σ = some (r, σ') ∧ f_X7_lots_h54 (nI N) m (nI c) (nI i) μ = some (r, μ') ∧ RR σ' nw μ' := by
  intro k
  induction k with
  | zero =>
    intro i m c a σ μ h1 h2 hR I hC hM h8 hr hp
    obtain ⟨m, rfl⟩ : ∃ m', m = m' + 1 := ⟨m - 1, by omega⟩
    have hle : nI N ≤ nI i := by rw [nI_leE (by omega) (by omega)]; omega
    rw [f_X6_lots_h61, f_X7_lots_h54, if_pos hle, if_pos hle]
    exact ⟨_, σ, μ, rfl, rfl, hR⟩
  | succ k ih =>
    intro i m c a σ μ h1 h2 hR I hC hM h8 hr hp
    obtain ⟨m, rfl⟩ : ∃ m', m = m' + 1 := ⟨m - 1, by omega⟩
    have h4 := I.rd
    have h12 := I.ps
    have hle : ¬ nI N ≤ nI i := by rw [nI_leE (by omega) (by omega)]; omega
    rw [f_X6_lots_h61, f_X7_lots_h54, if_neg hle, if_neg hle]
    obtain ⟨w, σ1, μ1, w1, w2, w3, w4, a1, w5, w6, w7, a18, a12, a1p⟩ := draw_R hR I hC hM (b := 5) (by decide) (by decide)
    have w2' : f_X3_drawn σ 5 = some (nI w, σ1) := w2
    have w3' : f_X7_nextDraw μ 5 = some (nI w, μ1) := w3
    rw [w2', w3']
    simp only [bdp, sq]
    obtain ⟨x1, x2, x3, x4⟩ := wind_par w4 w5 w6 w7 (k := w) (by omega)
    obtain ⟨a2, ha2⟩ : ∃ a2, a2 = uA a1 0 4 w := ⟨_, rfl⟩
    have a28 : a2 0 8 = a1 0 8 := by rw [ha2]; rfl
    have a22 : a2 0 2 = a1 0 2 := by rw [ha2]; rfl
    have a2p : a2 8 0 = a1 8 0 := by rw [ha2]; rfl
    rw [← ha2] at x2 x3 x4
    obtain ⟨r, σ2, μ2, r1, r2, r3, r4, a3, r5, r6, r7, a38, a32, a3p⟩ := draw_R x1 x2 x3 x4 (b := a 0 2) hr (by omega)
    have y1 := cL_rd x3
    have y2 := mL_rd x4
    rw [a22, a12] at y1 y2
    rw [y1, y2, r2, r3]
    simp only []
    obtain ⟨s, σ3, μ3, s1, s2, s3, s4, a4, s5, s6, s7, a48, a42, a4p⟩ := draw_R r4 r5 r6 r7 (b := 36) (by decide) (by decide)
    have s2' : f_X3_drawn σ2 36 = some (nI s, σ3) := s2
    have s3' : f_X7_nextDraw μ2 36 = some (nI s, μ3) := s3
    rw [s2', s3']
    simp only []
    obtain ⟨n, σ4, μ4, n1, n2, n3, n4, b, n5, n6, n7, a58, a52, a5p⟩ := draw_R s4 s5 s6 s7 (b := a 8 0) hp (by omega)
    have y3 := cL_ps s6
    have y4 := mL_ps s7
    rw [a4p, a3p, a2p, a1p] at y3 y4
    rw [y3, y4, n2, n3]
    simp only []
    have hR4 := n4
    have b8 : b 0 8 = a 0 8 := by omega
    have b2 : b 0 2 = a 0 2 := by omega
    have bp : b 8 0 = a 8 0 := by omega
    obtain ⟨F, R, σ5, μ5, e1, e2, I', hC', hM', f1, f2, g1, g2, g3⟩ := read_R n5 n6 n7 (r := r) (s := s) (n := n) (by omega) s1 (by omega) (by omega)
    rw [wrongedBy_M n5 n7 (r := r) (s := s) (n := n) (by omega) s1 (by omega), e1]
    simp only [bdr, f_X7_lots_b115, e2, bdp, sq, nI_s]
    have hR5 : RR σ5 nw μ5 := hR4.par ⟨_, I', hC', hM'⟩ f1 f2 g1 (g2 19 (by decide)) (g2 26 (by decide)) g3
    have hWl := wrN_lt n5 (hearN b r s (b 0 4)) (b 5) n
    have nx := fun c' => ih (i + 1) m c' (aR b n F R) σ5 μ5 (by omega) (by omega) hR5 I' hC' hM' (by show b 0 8 + 1 + k ≤ 9999; omega) (by show 0 < b 0 2; omega) (by show 0 < b 8 0; omega)
    by_cases q : wrN b (hearN b r s (b 0 4)) (b 5) n = 0
    · rw [if_pos q, if_neg (show ¬ nI 1 = 0 by decide), if_pos (by rw [q]; rfl)]
      exact nx (c + 1)
    · rw [if_neg q, if_pos (show nI 0 = 0 by decide), if_neg (by rw [nI_eq0 (by omega)]; exact q), nI_p0]
      exact nx c
theorem op19 : Op19 RR := by
  intro σ nw μ hR x
  obtain ⟨⟨a, I, hC, hM⟩, -⟩ := id hR
  have h4 := I.rd
  have h12 := I.ps
  have h8 := I.rg
  have e5 : (f_X7_in x.toInt64 1 30 = 0) = ¬ (1 ≤ x.toInt ∧ x.toInt ≤ 30) := by
    rw [in_0, toL_T, show (1 : Int64).toInt = 1 by decide, show (30 : Int64).toInt = 30 by decide]
  unfold f_X6_lots f_X7_lots
  simp only [e5]
  rw [cL_rd hC, cL_ps hC, cL_rg hC, mL_rd hM, mL_ps hM, show ix 140 = 140 by decide, mL_rg hM]
  by_cases v : 1 ≤ x.toInt ∧ x.toInt ≤ 30
  · obtain ⟨N, hN, rfl⟩ := nI_ofR (n := 31) (x := x) ⟨by omega, by omega⟩ (by decide)
    rw [lit_T N (by omega)] at v
    have c1 : ¬ nI N < 1 := by rw [show (1 : Int32) = nI 1 from rfl, nI_ltE (by omega) (by omega)]; omega
    have c2 : nI N ≤ 30 := by rw [show (30 : Int32) = nI 30 from rfl, nI_leE (by omega) (by omega)]; omega
    rw [if_neg c1, if_pos c2, if_neg (show ¬ ¬ (1 ≤ (nI N).toInt ∧ (nI N).toInt ≤ 30) by rw [lit_T N (by omega)]; omega)]
    simp only [nI_eq0 (show a 0 2 < 2 ^ 31 by omega), nI_eq0 (show a 8 0 < 2 ^ 31 by omega), nI_k, show (9999 : Int32) = nI 9999 from rfl, nI_leE (show a 0 8 + N < 2 ^ 31 by omega) (show 9999 < 2 ^ 31 by decide)]
    by_cases q1 : a 0 2 = 0
    · rw [if_pos q1, if_pos q1]
      exact ⟨-2, σ, μ, rfl, rfl, hR⟩
    · rw [if_neg q1, if_neg q1]
      by_cases q2 : a 8 0 = 0
      · rw [if_pos q2, if_pos q2]
        exact ⟨-2, σ, μ, rfl, rfl, hR⟩
      · rw [if_neg q2, if_neg q2]
        by_cases q3 : a 0 8 + N ≤ 9999
        · rw [if_pos q3, if_neg (by decide), if_pos q3]
          exact lots_l (by omega) N 0 FU 0 a σ μ (by omega) (by unfold FU; omega) hR I hC hM q3 (by omega) (by omega)
        · rw [if_neg q3, if_neg (by decide), if_neg q3]
          exact ⟨-3, σ, μ, rfl, rfl, hR⟩
  · rw [if_pos v]
    refine ⟨-1, σ, μ, ?_, rfl, hR⟩
    simp only [lt_T, le_T, show (1 : Int32).toInt = 1 by decide, show (30 : Int32).toInt = 30 by decide]
    by_cases c1 : x.toInt < 1
    · rw [if_pos c1]
    · rw [if_neg c1, if_neg (by omega)]
