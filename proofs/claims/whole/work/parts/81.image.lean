theorem CA.cgp {a : Nat → Nat → Nat} {V V' : Nat → Nat → Int32} (I : Inv a) (h : CA a V) (x2 : V' 0 2 = V 0 2) (x4 : V' 0 4 = V 0 4) (x6 : V' 0 6 = V 0 6) (x7 : V' 0 7 = V 0 7) (x8 : V' 0 8 = V 0 8) (x9 : V' 0 9 = V 0 9) (g0 : V' 1 0 = V 1 0) (p0 : V' 8 0 = V 8 0) (p1 : V' 8 1 = V 8 1) (g1 : ∀ i, i < 10 → V' 2 i = V 2 i) (g2 : ∀ i, i < 10 → V' 3 i = V 3 i) (g3 : ∀ i, i < 10 → V' 4 i = V 4 i) (g4 : ∀ i, i < 10 → V' 5 i = V 5 i) (g5 : ∀ i, i < 10 → V' 6 i = V 6 i) (g6 : ∀ i, i < 120 → V' 7 i = V 7 i) (q1 : ∀ i, i < 12 → V' 9 i = V 9 i) (q2 : ∀ i, i < 12 → V' 10 i = V 10 i) (q3 : ∀ i, i < 12 → V' 11 i = V 11 i) (q4 : ∀ i, i < 12 → V' 12 i = V 12 i) (r1 : ∀ i, i < 4 → V' 13 i = V 13 i) (r2 : ∀ i, i < 5 → V' 14 i = V 14 i) (u1 : ∀ i, i < 10 → V' 15 i = V 15 i) (u2 : ∀ i, i < 10 → V' 16 i = V 16 i) (u3 : ∀ i, i < 10 → V' 17 i = V 17 i) : CA a V' := by
  have h10 := I.gs
  have h12 := I.ps
  have h4 := I.rd
  have hu := I.un
  exact ⟨x2.trans h.rd, x4.trans h.wi, x6.trans h.no, x7.trans h.dr, x8.trans h.rg, x9.trans h.un, g0.trans h.gs, p0.trans h.ps, by rw [p1]; exact h.od, fun i hi => (g1 i (by omega)).trans (h.ki i hi), fun i hi => (g2 i (by omega)).trans (h.pl i hi), fun i hi => (g3 i (by omega)).trans (h.ye i hi), fun i hi => (g4 i (by omega)).trans (h.he i hi), fun i hi => (g5 i (by omega)).trans (h.wg i hi), fun i n hi hn hb => (g6 _ (by omega)).trans (h.si i n hi hn hb), fun i hi => (q1 i (by omega)).trans (h.ny i hi), fun i hi => (q2 i (by omega)).trans (h.na i hi), fun i hi => (q3 i (by omega)).trans (h.nb i hi), fun i hi => (q4 i (by omega)).trans (h.ns i hi), fun i hi => (r1 i (by omega)).trans (h.rc i hi), fun i hi => (r2 i (by omega)).trans (h.wt i hi), fun i hi => (u1 i (by omega)).trans (h.u1 i hi), fun i hi => (u2 i (by omega)).trans (h.u2 i hi), fun i hi => (u3 i (by omega)).trans (h.u3 i hi)⟩
theorem MA.cgp {a : Nat → Nat → Nat} {U U' : Nat → Nat → Int32} (I : Inv a) (h : MA a U) (e0 : ∀ i, i < 8 → U' 0 i = U 0 i) (e1 : ∀ i, i < 10 → U' 1 i = U 1 i) (e2 : ∀ i, i < 10 → U' 2 i = U 2 i) (e3 : ∀ i, i < 10 → U' 3 i = U 3 i) (e4 : ∀ i, i < 12 → U' 4 i = U 4 i) (e5 : ∀ i, i < 12 → U' 5 i = U 5 i) (e6 : ∀ i, i < 12 → U' 6 i = U 6 i) (e7 : ∀ i, i < 4 → U' 7 i = U 7 i) (e8 : ∀ i, i < 5 → U' 8 i = U 8 i) (e9 : ∀ i, i < 141 → U' 9 i = U 9 i) (e10 : ∀ i, i < 1410 → U' 10 i = U 10 i) : MA a U' := by
  have h10 := I.gs
  have h12 := I.ps
  have h4 := I.rd
  have hu := I.un
  exact ⟨(e0 0 (by decide)).trans h.gs, (e0 1 (by decide)).trans h.ps, (e0 2 (by decide)).trans h.rd, (e0 3 (by decide)).trans h.sh, (e0 4 (by decide)).trans h.wi, (e0 5 (by decide)).trans h.no, (e0 6 (by decide)).trans h.dr, (e0 7 (by decide)).trans h.un, (e9 140 (by decide)).trans h.rg, fun i hi => (e1 i (by omega)).trans (h.ki i hi), fun i hi => (e2 i (by omega)).trans (h.pl i hi), fun i hi => (e3 i (by omega)).trans (h.ye i hi), fun i hi => (e9 i (by omega)).trans (h.he i hi), fun i hi => (e9 _ (by omega)).trans (h.wg i hi), fun i n hi hn hb => (e9 _ (by omega)).trans (h.si i n hi hn hb), fun i hi => (e4 i (by omega)).trans (h.ny i hi), fun i hi => (e5 i (by omega)).trans (h.na i hi), fun i hi => (e6 i (by omega)).trans (h.nb i hi), fun i hi => (e7 i (by omega)).trans (h.rc i hi), fun i hi => (e8 i (by omega)).trans (h.wt i hi), fun t h1 h2 i hi => (e10 _ (by omega)).trans (h.u1 t h1 h2 i hi), fun t h1 h2 i hi => (e10 _ (by omega)).trans (h.u2 t h1 h2 i hi), fun t h1 h2 => (e10 _ (by omega)).trans (h.u3 t h1 h2), fun t h1 h2 i n hi hn hb => (e10 _ (by omega)).trans (h.u4 t h1 h2 i n hi hn hb)⟩
theorem lc_le (k : Nat) : lcN k ≤ 10 := by
  unfold lcN
  (repeat' split) <;> omega
theorem lo_f {k : Nat} (hk : k < 1634) (h : lcN k = 0) : liN k ≠ 19 ∧ liN k ≠ 26 := by
  by_cases h10 : k < 10
  · rw [(lo_0 (by omega) h10).1] at h
    exact absurd h (by decide)
  by_cases h20 : k < 20
  · rw [(lo_10 (by omega) h20).1] at h
    exact absurd h (by decide)
  by_cases h30 : k < 30
  · rw [(lo_20 (by omega) h30).1] at h
    exact absurd h (by decide)
  by_cases h42 : k < 42
  · rw [(lo_30 (by omega) h42).1] at h
    exact absurd h (by decide)
  by_cases h54 : k < 54
  · rw [(lo_42 (by omega) h54).1] at h
    exact absurd h (by decide)
  by_cases h66 : k < 66
  · rw [(lo_54 (by omega) h66).1] at h
    exact absurd h (by decide)
  by_cases h70 : k < 70
  · rw [(lo_66 (by omega) h70).1] at h
    exact absurd h (by decide)
  by_cases h75 : k < 75
  · rw [(lo_70 (by omega) h75).1] at h
    exact absurd h (by decide)
  by_cases h216 : k < 216
  · rw [(lo_75 (by omega) h216).1] at h
    exact absurd h (by decide)
  by_cases h1626 : k < 1626
  · rw [(lo_216 (by omega) h1626).1] at h
    exact absurd h (by decide)
  have e : k = 1626 ∨ k = 1627 ∨ k = 1628 ∨ k = 1629 ∨ k = 1630 ∨ k = 1631 ∨ k = 1632 ∨ k = 1633 := by omega
  rcases e with e | e | e | e | e | e | e | e <;> subst e <;> decide
theorem loU_0 {i : Nat} (hi : i < 8) (ν : St) : ν.1 (lcN (1626 + i)) (liN (1626 + i)) = ul ν 0 i := by
  have e : i = 0 ∨ i = 1 ∨ i = 2 ∨ i = 3 ∨ i = 4 ∨ i = 5 ∨ i = 6 ∨ i = 7 := by omega
  rcases e with e | e | e | e | e | e | e | e <;> subst e
  · rw [show lcN (1626 + 0) = 0 by decide, show liN (1626 + 0) = 3 by decide]; rfl
  · rw [show lcN (1626 + 1) = 0 by decide, show liN (1626 + 1) = 8 by decide]; rfl
  · rw [show lcN (1626 + 2) = 0 by decide, show liN (1626 + 2) = 10 by decide]; rfl
  · rw [show lcN (1626 + 3) = 0 by decide, show liN (1626 + 3) = 7 by decide]; rfl
  · rw [show lcN (1626 + 4) = 0 by decide, show liN (1626 + 4) = 11 by decide]; rfl
  · rw [show lcN (1626 + 5) = 0 by decide, show liN (1626 + 5) = 13 by decide]; rfl
  · rw [show lcN (1626 + 6) = 0 by decide, show liN (1626 + 6) = 14 by decide]; rfl
  · rw [show lcN (1626 + 7) = 0 by decide, show liN (1626 + 7) = 17 by decide]; rfl
theorem loU_1 {i : Nat} (hi : i < 10) (ν : St) : ν.1 (lcN (0 + i)) (liN (0 + i)) = ul ν 1 i := by
  rw [(lo_0 (k := 0 + i) (by omega) (by omega)).1, (lo_0 (k := 0 + i) (by omega) (by omega)).2, Nat.zero_add]
  rfl
theorem loU_2 {i : Nat} (hi : i < 10) (ν : St) : ν.1 (lcN (10 + i)) (liN (10 + i)) = ul ν 2 i := by
  rw [(lo_10 (k := 10 + i) (by omega) (by omega)).1, (lo_10 (k := 10 + i) (by omega) (by omega)).2, show 10 + i - 10 = i by omega]
  rfl
theorem loU_3 {i : Nat} (hi : i < 10) (ν : St) : ν.1 (lcN (20 + i)) (liN (20 + i)) = ul ν 3 i := by
  rw [(lo_20 (k := 20 + i) (by omega) (by omega)).1, (lo_20 (k := 20 + i) (by omega) (by omega)).2, show 20 + i - 20 = i by omega]
  rfl
theorem loU_4 {i : Nat} (hi : i < 12) (ν : St) : ν.1 (lcN (30 + i)) (liN (30 + i)) = ul ν 4 i := by
  rw [(lo_30 (k := 30 + i) (by omega) (by omega)).1, (lo_30 (k := 30 + i) (by omega) (by omega)).2, show 30 + i - 30 = i by omega]
  rfl
theorem loU_5 {i : Nat} (hi : i < 12) (ν : St) : ν.1 (lcN (42 + i)) (liN (42 + i)) = ul ν 5 i := by
  rw [(lo_42 (k := 42 + i) (by omega) (by omega)).1, (lo_42 (k := 42 + i) (by omega) (by omega)).2, show 42 + i - 42 = i by omega]
  rfl
theorem loU_6 {i : Nat} (hi : i < 12) (ν : St) : ν.1 (lcN (54 + i)) (liN (54 + i)) = ul ν 6 i := by
  rw [(lo_54 (k := 54 + i) (by omega) (by omega)).1, (lo_54 (k := 54 + i) (by omega) (by omega)).2, show 54 + i - 54 = i by omega]
  rfl
theorem loU_7 {i : Nat} (hi : i < 4) (ν : St) : ν.1 (lcN (66 + i)) (liN (66 + i)) = ul ν 7 i := by
  rw [(lo_66 (k := 66 + i) (by omega) (by omega)).1, (lo_66 (k := 66 + i) (by omega) (by omega)).2, show 66 + i - 66 = i by omega]
  rfl
theorem loU_8 {i : Nat} (hi : i < 5) (ν : St) : ν.1 (lcN (70 + i)) (liN (70 + i)) = ul ν 8 i := by
  rw [(lo_70 (k := 70 + i) (by omega) (by omega)).1, (lo_70 (k := 70 + i) (by omega) (by omega)).2, show 70 + i - 70 = i by omega]
  rfl
theorem loU_9 {i : Nat} (hi : i < 141) (ν : St) : ν.1 (lcN (75 + i)) (liN (75 + i)) = ul ν 9 i := by
  rw [(lo_75 (k := 75 + i) (by omega) (by omega)).1, (lo_75 (k := 75 + i) (by omega) (by omega)).2, show 75 + i - 75 = i by omega]
  rfl
theorem loU_10 {i : Nat} (hi : i < 1410) (ν : St) : ν.1 (lcN (216 + i)) (liN (216 + i)) = ul ν 10 i := by
  rw [(lo_216 (k := 216 + i) (by omega) (by omega)).1, (lo_216 (k := 216 + i) (by omega) (by omega)).2, show 216 + i - 216 = i by omega]
  rfl
theorem im_l : ∀ (k i m : Nat) (μ : St), i + k = 1634 → k < m → ∃ μ', f_X7_image_h2 m (nI i) μ = some (1, μ') ∧ (∀ c, c ≠ 0 → c ≠ 16 → μ'.1 c = μ.1 c) ∧ (∀ f, f ≠ 26 → μ'.1 0 f = μ.1 0 f) ∧ μ'.2 = μ.2 ∧ μ'.1 0 26 = 1 ∧ (∀ q, i ≤ q → q < 1634 → μ'.1 16 q = μ.1 (lcN q) (liN q)) ∧ (∀ q, q < i → μ'.1 16 q = μ.1 16 q) := by
  intro k
  induction k with
  | zero =>
    intro i m μ h1 h2
    obtain ⟨m, rfl⟩ : ∃ m', m = m' + 1 := ⟨m - 1, by omega⟩
    rw [f_X7_image_h2, if_pos (by rw [show (1634 : Int32) = nI 1634 from rfl, nI_leE (by omega) (by omega)]; omega)]
    simp only [sq]
    refine ⟨_, rfl, fun c c0 _ => wr_ne c0, fun f hf => ?_, rfl, ?_, fun q h3 h4 => by omega, fun q _ => ?_⟩
    · rw [wr_get, if_pos rfl, if_neg hf]
    · rw [wr_get, if_pos rfl, if_pos rfl]
    · rw [wr_ne (by decide)]
  | succ k ih =>
    intro i m μ h1 h2
    obtain ⟨m, rfl⟩ : ∃ m', m = m' + 1 := ⟨m - 1, by omega⟩
    rw [f_X7_image_h2, if_neg (by rw [show (1634 : Int32) = nI 1634 from rfl, nI_leE (by omega) (by omega)]; omega), cf_all (by omega)]
    simp only [bdp, ix_nI (show i < 2 ^ 31 by omega), ok2 (show i < 1650 by omega) (show i < 2 ^ 31 by omega), if_false, sq, nI_s]
    obtain ⟨μ', e, e1, e2, e3, e4, e5, e6⟩ := ih (i + 1) m (wr μ 16 i (μ.1 (lcN i) (liN i))) (by omega) (by omega)
    refine ⟨μ', e, fun c c0 c16 => by rw [e1 c c0 c16, wr_ne c16], fun f hf => by rw [e2 f hf, wr_ne (by decide)], e3, e4, fun q h3 h4 => ?_, fun q h3 => ?_⟩
    · by_cases h5 : q = i
      · subst h5
        rw [e6 q (by omega), wr_get, if_pos rfl, if_pos rfl]
      · have := lc_le q
        rw [e5 q (by omega) h4, wr_ne (by omega)]
    · rw [e6 q (by omega), wr_get, if_pos rfl, if_neg (by omega)]
theorem rs_l : ∀ (k i m : Nat) (μ : St), i + k = 1634 → k < m → ∃ μ', f_X7_restore_h12 m (nI i) μ = some (1, μ') ∧ (∀ c, 11 ≤ c → μ'.1 c = μ.1 c) ∧ μ'.2 = μ.2 ∧ (∀ f, (f = 19 ∨ f = 26) → μ'.1 0 f = μ.1 0 f) ∧ (∀ q, i ≤ q → q < 1634 → μ'.1 (lcN q) (liN q) = μ.1 16 q) ∧ (∀ q, q < i → μ'.1 (lcN q) (liN q) = μ.1 (lcN q) (liN q)) := by
  intro k
  induction k with
  | zero =>
    intro i m μ h1 h2
    obtain ⟨m, rfl⟩ : ∃ m', m = m' + 1 := ⟨m - 1, by omega⟩
    rw [f_X7_restore_h12, if_pos (by rw [show (1634 : Int32) = nI 1634 from rfl, nI_leE (by omega) (by omega)]; omega)]
    exact ⟨μ, rfl, fun _ _ => rfl, rfl, fun _ _ => rfl, fun q h3 h4 => by omega, fun _ _ => rfl⟩
  | succ k ih =>
    intro i m μ h1 h2
    obtain ⟨m, rfl⟩ : ∃ m', m = m' + 1 := ⟨m - 1, by omega⟩
    have hc := lc_le i
    rw [f_X7_restore_h12, if_neg (by rw [show (1634 : Int32) = nI 1634 from rfl, nI_leE (by omega) (by omega)]; omega)]
    simp only [ix_nI (show i < 2 ^ 31 by omega), ok2 (show i < 1650 by omega) (show i < 2 ^ 31 by omega), if_false]
    rw [ct_all (by omega)]
    simp only [bdp, sq, nI_s]
    obtain ⟨μ', e, e1, e2, e3, e4, e5⟩ := ih (i + 1) m (wr μ (lcN i) (liN i) (μ.1 16 i)) (by omega) (by omega)
    have gt : ∀ q, q < 1634 → q ≠ i → (wr μ (lcN i) (liN i) (μ.1 16 i)).1 (lcN q) (liN q) = μ.1 (lcN q) (liN q) := fun q hq hne => by
      rw [wr_get]
      by_cases c1 : lcN q = lcN i
      · rw [if_pos c1, if_neg (fun c2 => hne (lo_inj hq (by omega) c1 c2))]
      · rw [if_neg c1]
    refine ⟨μ', e, fun c c1 => by rw [e1 c c1, wr_ne (by omega)], e2, fun f hf => ?_, fun q h3 h4 => ?_, fun q h3 => ?_⟩
    · rw [e3 f hf, wr_get]
      by_cases c0 : 0 = lcN i
      · have := lo_f (by omega) c0.symm
        rw [if_pos c0, if_neg (by omega)]
      · rw [if_neg c0]
    · by_cases h5 : q = i
      · subst h5
        rw [e5 q (by omega), wr_at]
      · rw [e4 q (by omega) h4, wr_ne (by omega)]
    · rw [e5 q (by omega), gt q (by omega) (by omega)]
theorem ul0 {μ μ' : St} (h : ∀ f, f ≠ 19 → f ≠ 26 → μ'.1 0 f = μ.1 0 f) : ul μ' 0 = ul μ 0 := by
  unfold ul
  rw [if_pos rfl, if_pos rfl]
  funext i
  simp only [h 3 (by decide) (by decide), h 8 (by decide) (by decide), h 10 (by decide) (by decide), h 7 (by decide) (by decide), h 11 (by decide) (by decide), h 13 (by decide) (by decide), h 14 (by decide) (by decide), h 17 (by decide) (by decide)]
theorem op31 : Op31 RR := by
  intro σ nw μ hR
  obtain ⟨⟨a, I, hC, hM⟩, -, ht, hs, hn⟩ := id hR
  unfold f_X6_image f_X7_image
  obtain ⟨σ1, e, fr, z, ff, g0, g1, g2, g3, g4, g5, g6, p0, p1, q1, q2, q3, q4, f2, r1, f4, r2, f6, f7, f8, f9, u1, u2, u3⟩ := bk_1 σ
  obtain ⟨μ1, m1, m2, m3, m4, m5, m6, -⟩ := im_l 1634 0 FU μ (by omega) (by unfold FU; omega)
  have m1' : f_X7_image_h2 FU 0 μ = some (1, μ1) := m1
  rw [e, m1']
  simp only [bdr, sq]
  have sc : ∀ c, c ≠ 0 → (c < 19 ∨ 36 < c) → (wr σ1 0 2 1).1 c = σ.1 c := fun c c0 hc => by rw [wr_ne c0, fr c hc]
  have k26 : (wr σ1 0 2 1).1 0 2 = 1 := wr_at _ _ _ _
  obtain ⟨τ, hτ⟩ : ∃ τ, τ = wr σ1 0 2 1 := ⟨_, rfl⟩
  have kc : ∀ c, c ≠ 0 → τ.1 c = σ1.1 c := fun c c0 => by rw [hτ, wr_ne c0]
  have kz : τ.2 = σ.2 := by rw [hτ]; exact z
  rw [← hτ] at sc k26 ⊢
  have ml : MA a (ul μ1) := hM.cg (fun k hk => by
    by_cases k0 : k = 0
    · subst k0
      exact ul0 (fun f _ h2 => m3 f h2)
    · unfold ul
      rw [if_neg k0, if_neg k0]
      exact m2 k (by omega) (by omega))
  have mk : MA a (uk μ1) := hM.cgp I (fun i hi => (m6 (1626 + i) (by omega) (by omega)).trans (loU_0 hi μ)) (fun i hi => (m6 (0 + i) (by omega) (by omega)).trans (loU_1 hi μ)) (fun i hi => (m6 (10 + i) (by omega) (by omega)).trans (loU_2 hi μ)) (fun i hi => (m6 (20 + i) (by omega) (by omega)).trans (loU_3 hi μ)) (fun i hi => (m6 (30 + i) (by omega) (by omega)).trans (loU_4 hi μ)) (fun i hi => (m6 (42 + i) (by omega) (by omega)).trans (loU_5 hi μ)) (fun i hi => (m6 (54 + i) (by omega) (by omega)).trans (loU_6 hi μ)) (fun i hi => (m6 (66 + i) (by omega) (by omega)).trans (loU_7 hi μ)) (fun i hi => (m6 (70 + i) (by omega) (by omega)).trans (loU_8 hi μ)) (fun i hi => (m6 (75 + i) (by omega) (by omega)).trans (loU_9 hi μ)) (fun i hi => (m6 (216 + i) (by omega) (by omega)).trans (loU_10 hi μ))
  have cL : CA a (vw τ 1) := hC.cg (fun k hk => sc (1 + k) (by omega) (by omega))
  have cK : CA a (vw τ 19) := by
    have hC1 : CA a (vw σ 1) := hC
    refine hC1.cgp I ?_ ?_ ?_ ?_ ?_ ?_ ?_ ?_ ?_ ?_ ?_ ?_ ?_ ?_ ?_ ?_ ?_ ?_ ?_ ?_ ?_ ?_ ?_ ?_
    · show τ.1 19 2 = σ.1 1 2; rw [kc 19 (by decide)]; exact f2
    · show τ.1 19 4 = σ.1 1 4; rw [kc 19 (by decide)]; exact f4
    · show τ.1 19 6 = σ.1 1 6; rw [kc 19 (by decide)]; exact f6
    · show τ.1 19 7 = σ.1 1 7; rw [kc 19 (by decide)]; exact f7
    · show τ.1 19 8 = σ.1 1 8; rw [kc 19 (by decide)]; exact f8
    · show τ.1 19 9 = σ.1 1 9; rw [kc 19 (by decide)]; exact f9
    · show τ.1 20 0 = σ.1 2 0; rw [kc 20 (by decide)]; exact g0
    · show τ.1 27 0 = σ.1 9 0; rw [kc 27 (by decide)]; exact p0
    · show τ.1 27 1 = σ.1 9 1; rw [kc 27 (by decide)]; exact p1
    · intro i hi; show τ.1 21 i = σ.1 3 i; rw [kc 21 (by decide)]; exact g1 i hi
    · intro i hi; show τ.1 22 i = σ.1 4 i; rw [kc 22 (by decide)]; exact g2 i hi
    · intro i hi; show τ.1 23 i = σ.1 5 i; rw [kc 23 (by decide)]; exact g3 i hi
    · intro i hi; show τ.1 24 i = σ.1 6 i; rw [kc 24 (by decide)]; exact g4 i hi
    · intro i hi; show τ.1 25 i = σ.1 7 i; rw [kc 25 (by decide)]; exact g5 i hi
    · intro i hi; show τ.1 26 i = σ.1 8 i; rw [kc 26 (by decide)]; exact g6 i hi
    · intro i hi; show τ.1 28 i = σ.1 10 i; rw [kc 28 (by decide)]; exact q1 i hi
    · intro i hi; show τ.1 29 i = σ.1 11 i; rw [kc 29 (by decide)]; exact q2 i hi
    · intro i hi; show τ.1 30 i = σ.1 12 i; rw [kc 30 (by decide)]; exact q3 i hi
    · intro i hi; show τ.1 31 i = σ.1 13 i; rw [kc 31 (by decide)]; exact q4 i hi
    · intro i hi; show τ.1 32 i = σ.1 14 i; rw [kc 32 (by decide)]; exact r1 i hi
    · intro i hi; show τ.1 33 i = σ.1 15 i; rw [kc 33 (by decide)]; exact r2 i hi
    · intro i hi; show τ.1 34 i = σ.1 16 i; rw [kc 34 (by decide)]; exact u1 i hi
    · intro i hi; show τ.1 35 i = σ.1 17 i; rw [kc 35 (by decide)]; exact u2 i hi
    · intro i hi; show τ.1 36 i = σ.1 18 i; rw [kc 36 (by decide)]; exact u3 i hi
  exact ⟨1, τ, μ1, rfl, rfl, ⟨a, I, cL, ml⟩, Or.inr ⟨k26, m5, a, I, cK, mk⟩, ht.fr (by rw [sc 37 (by decide) (by decide)]) (sc 38 (by decide) (by decide)) (m3 19 (by decide)) (m2 11 (by decide) (by decide)), hs.fr (fun c hc => sc c (by omega) (by omega)) kz (m2 17 (by decide) (by decide)) (m2 18 (by decide) (by decide)) m4, hn⟩
theorem op32 : Op32 RR := by
  intro σ nw μ hR
  obtain ⟨-, hk, ht, hs, hn⟩ := id hR
  unfold f_X6_restore f_X7_restore
  rcases hk with ⟨k1, k2⟩ | ⟨k1, k2, a, I, hC, hM⟩
  · rw [k1, k2, if_pos rfl, if_pos rfl]
    exact ⟨-4, σ, μ, rfl, rfl, hR⟩
  · rw [k1, k2, if_neg (by decide), if_neg (by decide)]
    obtain ⟨σ1, e, fr, z, ff, g0, g1, g2, g3, g4, g5, g6, p0, p1, q1, q2, q3, q4, f2, r1, f4, r2, f6, f7, f8, f9, u1, u2, u3⟩ := bk_19 σ
    obtain ⟨μ1, m1, m2, m3, m4, m5, -⟩ := rs_l 1634 0 FU μ (by omega) (by unfold FU; omega)
    have m1' : f_X7_restore_h12 FU 0 μ = some (1, μ1) := m1
    rw [e, m1']
    simp only [bdr]
    have ml : MA a (ul μ1) := hM.cgp I (fun i hi => (loU_0 hi μ1).symm.trans (m5 (1626 + i) (by omega) (by omega))) (fun i hi => (loU_1 hi μ1).symm.trans (m5 (0 + i) (by omega) (by omega))) (fun i hi => (loU_2 hi μ1).symm.trans (m5 (10 + i) (by omega) (by omega))) (fun i hi => (loU_3 hi μ1).symm.trans (m5 (20 + i) (by omega) (by omega))) (fun i hi => (loU_4 hi μ1).symm.trans (m5 (30 + i) (by omega) (by omega))) (fun i hi => (loU_5 hi μ1).symm.trans (m5 (42 + i) (by omega) (by omega))) (fun i hi => (loU_6 hi μ1).symm.trans (m5 (54 + i) (by omega) (by omega))) (fun i hi => (loU_7 hi μ1).symm.trans (m5 (66 + i) (by omega) (by omega))) (fun i hi => (loU_8 hi μ1).symm.trans (m5 (70 + i) (by omega) (by omega))) (fun i hi => (loU_9 hi μ1).symm.trans (m5 (75 + i) (by omega) (by omega))) (fun i hi => (loU_10 hi μ1).symm.trans (m5 (216 + i) (by omega) (by omega)))
    have cL : CA a (vw σ1 1) := hC.cgp I f2 f4 f6 f7 f8 f9 g0 p0 p1 g1 g2 g3 g4 g5 g6 q1 q2 q3 q4 r1 r2 u1 u2 u3
    exact ⟨1, σ1, μ1, rfl, rfl, hR.par ⟨a, I, cL, ml⟩ (fun c hc => fr c (by omega)) z m2 (m4 19 (Or.inl rfl)) (m4 26 (Or.inr rfl)) m3⟩

