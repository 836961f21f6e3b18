/-! ===== the abstract parish changes ===== -/
def uA (a : Nat → Nat → Nat) (k i x : Nat) : Nat → Nat → Nat := fun q => if q = k then (fun j => if j = i then x else a k j) else a q
theorem wr_get (σ : St) (c i : Nat) (x : Int32) (d j : Nat) : (wr σ c i x).1 d j = if d = c then (if j = i then x else σ.1 d j) else σ.1 d j := by
  unfold wr upd
  by_cases h : d = c
  · subst h; simp
  · simp [h]
theorem wr_ne {σ : St} {c i : Nat} {x : Int32} {d : Nat} (h : d ≠ c) : (wr σ c i x).1 d = σ.1 d := by
  unfold wr
  simp [h]
theorem ex1 {f : Nat → Int32} {b : Nat → Nat} {g x : Nat} (h : ∀ i, i < g → f i = nI (b i)) : ∀ i, i < g + 1 → upd f g (nI x) i = nI (if i = g then x else b i) := by
  intro i hi
  unfold upd
  by_cases e : i = g
  · simp [e]
  · simp only [e, if_false]
    exact h i (by omega)
theorem ex2 {f : Nat → Int32} {b : Nat → Nat} {N g x : Nat} (h : ∀ i, i < N → f i = nI (b i)) : ∀ i, i < N → upd f g (nI x) i = nI (if i = g then x else b i) := by
  intro i hi
  unfold upd
  by_cases e : i = g
  · simp [e]
  · simp only [e, if_false]
    exact h i hi
theorem hdT_sub (a : Nat → Nat → Nat) (i n : Nat) : ∀ t, (hdT a t i).testBit n = true → (a 5 i).testBit n = true
  | 0, h => h
  | t + 1, h => by
    unfold hdT at h
    split at h
    · rw [andn_bit] at h
      simp only [Bool.and_eq_true] at h
      exact hdT_sub a i n t h.1
    · exact hdT_sub a i n t h
theorem hdT_cong {a b : Nat → Nat → Nat} (h0 : b 0 9 = a 0 9) (h5 : b 5 = a 5) (h15 : b 15 = a 15) (h16 : b 16 = a 16) : ∀ t i, hdT b t i = hdT a t i
  | 0, i => by unfold hdT; rw [h5]
  | t + 1, i => by unfold hdT; rw [h0, h15, h16, hdT_cong h0 h5 h15 h16 t i]
theorem wgT_cong {a b : Nat → Nat → Nat} (h0 : b 0 9 = a 0 9) (h6 : b 6 = a 6) (h17 : b 17 = a 17) : ∀ t i, wgT b t i = wgT a t i
  | 0, i => by unfold wgT; rw [h6]
  | t + 1, i => by unfold wgT; rw [h0, h17, wgT_cong h0 h6 h17 t i]
theorem hdT_0 {a : Nat → Nat → Nat} {i : Nat} (h : a 5 i = 0) (t : Nat) : hdT a t i = 0 := by
  apply Nat.eq_of_testBit_eq
  intro n
  rw [Nat.zero_testBit]
  cases e : (hdT a t i).testBit n
  · rfl
  · have := hdT_sub a i n t e
    rw [h, Nat.zero_testBit] at this
    exact this.symm
theorem Inv.uwc {a b : Nat → Nat → Nat} (I : Inv a) (h0 : b 0 9 = a 0 9) (h6 : b 6 = a 6) (h17 : b 17 = a 17) : ∀ t, t < b 0 9 → ∀ i, i < 10 → (b 17 (b 0 9 - 1 - t)).testBit i = true → 1 ≤ wgT b t i := by
  rw [h0, h17]
  intro t ht i hi hb
  rw [wgT_cong h0 h6 h17]
  exact I.uw t ht i hi hb
theorem MA.u1c {a b : Nat → Nat → Nat} {U U' : Nat → Nat → Int32} (h : MA a U) (hU : U' 10 = U 10) (h0 : b 0 9 = a 0 9) (h5 : b 5 = a 5) (h15 : b 15 = a 15) (h16 : b 16 = a 16) : ∀ t, 1 ≤ t → t ≤ b 0 9 → ∀ i, i < 10 → U' 10 (141 * (b 0 9 - t) + i) = nI (hdT b t i) := by
  rw [h0, hU]
  intro t h1 h2 i hi
  rw [hdT_cong h0 h5 h15 h16]
  exact h.u1 t h1 h2 i hi
theorem MA.u2c {a b : Nat → Nat → Nat} {U U' : Nat → Nat → Int32} (h : MA a U) (hU : U' 10 = U 10) (h0 : b 0 9 = a 0 9) (h6 : b 6 = a 6) (h17 : b 17 = a 17) : ∀ t, 1 ≤ t → t ≤ b 0 9 → ∀ i, i < 10 → U' 10 (141 * (b 0 9 - t) + (10 + i)) = nI (wgT b t i) := by
  rw [h0, hU]
  intro t h1 h2 i hi
  rw [wgT_cong h0 h6 h17]
  exact h.u2 t h1 h2 i hi
theorem MA.u4c {a b : Nat → Nat → Nat} {U U' : Nat → Nat → Int32} (h : MA a U) (hU : U' 10 = U 10) (h0 : b 0 9 = a 0 9) (h5 : b 5 = a 5) (h15 : b 15 = a 15) (h16 : b 16 = a 16) (h7 : b 7 = a 7) (h1 : b 1 0 ≤ a 1 0 ∨ ∀ i, a 1 0 ≤ i → i < b 1 0 → a 5 i = 0) : ∀ t, 1 ≤ t → t ≤ b 0 9 → ∀ i n, i < b 1 0 → n < 12 → (hdT b t i).testBit n = true → U' 10 (141 * (b 0 9 - t) + (20 + (12 * i + n))) = nI (b 7 (12 * i + n)) := by
  rw [h0, hU, h7]
  intro t ht1 ht2 i n hi hn hb
  rw [hdT_cong h0 h5 h15 h16] at hb
  by_cases q : i < a 1 0
  · exact h.u4 t ht1 ht2 i n q hn hb
  · rcases h1 with h1 | h1
    · omega
    · have := hdT_sub a i n t hb
      rw [h1 i (by omega) hi, Nat.zero_testBit] at this
      cases this
theorem Rsh.fr {σ σ' μ μ' : St} (h : Rsh σ μ) (fc : ∀ c, 53 ≤ c → σ'.1 c = σ.1 c) (f2 : σ'.2 = σ.2) (g17 : μ'.1 17 = μ.1 17) (g18 : μ'.1 18 = μ.1 18) (g2 : μ'.2 = μ.2) : Rsh σ' μ' := by
  intro j hj
  have := h j hj
  unfold Rsh1 at this ⊢
  rw [fc (53 + 2 * j) (by omega), f2, g17, g18, g2]
  exact this
/-- a change within the live parish alone -/
theorem RR.par {σ σ' μ μ' : St} {nw : Nat} (h : RR σ nw μ) (hp : Rpar (vw σ' 1) (ul μ')) (fc : ∀ c, (c = 0 ∨ 19 ≤ c) → σ'.1 c = σ.1 c) (f2 : σ'.2 = σ.2) (gm : ∀ c, 11 ≤ c → μ'.1 c = μ.1 c) (g19 : μ'.1 0 19 = μ.1 0 19) (g26 : μ'.1 0 26 = μ.1 0 26) (g2 : μ'.2 = μ.2) : RR σ' nw μ' := by
  obtain ⟨-, hk, ht, hs, hn⟩ := h
  refine ⟨hp, ?_, ?_, hs.fr (fun c hc => fc c (by omega)) f2 (gm 17 (by omega)) (gm 18 (by omega)) g2, hn⟩
  · have e : vw σ' 19 = vw σ 19 := by
      funext k
      exact fc (19 + k) (by omega)
    have e2 : uk μ' = uk μ := by
      funext k i
      unfold uk
      rw [gm 16 (by omega)]
    unfold Rkept at hk ⊢
    rw [fc 0 (Or.inl rfl), g26, e, e2]
    exact hk
  · unfold Rtape at ht ⊢
    rw [fc 37 (by omega), fc 38 (by omega), g19, gm 11 (by omega)]
    exact ht
theorem op5 : Op5 RR := by
  intro σ nw μ hR x
  obtain ⟨⟨a, I, hC, hM⟩, -⟩ := id hR
  have e0 : (0 : Int64).toInt = 0 := by decide
  have eL : (4 : Int64).toInt = 4 := by decide
  rcases rng x 4 (by decide) with ⟨k, hk1, rfl⟩ | h
  · refine ⟨nI (a 0 4), wr σ 1 4 (nI k), wr μ 0 11 (nI k), ?_, ?_, hR.par ⟨uA a 0 4 k, ?_, ?_, ?_⟩ (fun c hc => wr_ne (by omega)) rfl (fun c hc => wr_ne (by omega)) rfl rfl rfl⟩
    · unfold f_X6_wind
      simp only [f_X6_isWind, nI_lt0 (show k < 2 ^ 31 by omega), if_false, show (5 : Int32) = nI 5 from rfl, nI_leE (show 5 < 2 ^ 31 by decide) (show k < 2 ^ 31 by omega), show ¬ 5 ≤ k by omega, sq, cL_wi hC]
      rfl
    · unfold f_X7_wind
      simp only [in_0, toL_T, lit_T k (by omega), e0, eL, sq, mL_wi hM]
      rw [if_neg (by omega)]
    · exact ⟨I.gs, I.ps, I.rd, hk1, I.no, I.dr, I.rg, I.un, I.ur, I.gr, I.hw, I.hz, I.si, I.nw, I.rc, I.wt, I.ud, I.uwc rfl rfl rfl, I.sh, I.sb⟩
    · exact ⟨hC.rd, rfl, hC.no, hC.dr, hC.rg, hC.un, hC.gs, hC.ps, hC.od, hC.ki, hC.pl, hC.ye, hC.he, hC.wg, hC.si, hC.ny, hC.na, hC.nb, hC.ns, hC.rc, hC.wt, hC.u1, hC.u2, hC.u3⟩
    · exact ⟨hM.gs, hM.ps, hM.rd, hM.sh, rfl, hM.no, hM.dr, hM.un, hM.rg, hM.ki, hM.pl, hM.ye, hM.he, hM.wg, hM.si, hM.ny, hM.na, hM.nb, hM.rc, hM.wt, hM.u1c rfl rfl rfl rfl rfl, hM.u2c rfl rfl rfl rfl, hM.u3, hM.u4c rfl rfl rfl rfl rfl rfl (Or.inl (Nat.le_refl _))⟩
  · refine ⟨-1, σ, μ, ?_, ?_, hR⟩
    · unfold f_X6_wind
      have q : f_X6_isWind x = 0 := by
        unfold f_X6_isWind
        simp only [lt_T, le_T, T_0, show (5 : Int32).toInt = 5 by decide]
        rcases h with h | h
        · rw [if_pos h]
        · rw [if_neg (by omega), if_pos (by omega)]
      rw [if_pos q]
    · unfold f_X7_wind
      simp only [in_0, toL_T, e0, eL]
      rw [if_pos (by omega)]
theorem op7 : Op7 RR := by
  intro σ nw μ hR x
  obtain ⟨⟨a, I, hC, hM⟩, -⟩ := id hR
  have e0 : (0 : Int64).toInt = 0 := by decide
  have eL : (99 : Int64).toInt = 99 := by decide
  rcases rng x 99 (by decide) with ⟨k, hk1, rfl⟩ | h
  · refine ⟨nI (a 0 6), wr σ 1 6 (nI k), wr μ 0 13 (nI k), ?_, ?_, hR.par ⟨uA a 0 6 k, ?_, ?_, ?_⟩ (fun c hc => wr_ne (by omega)) rfl (fun c hc => wr_ne (by omega)) rfl rfl rfl⟩
    · unfold f_X6_now
      simp only [nI_lt0 (show k < 2 ^ 31 by omega), if_false, show (99 : Int32) = nI 99 from rfl, nI_leE (show k < 2 ^ 31 by omega) (show 99 < 2 ^ 31 by decide), hk1, if_true, sq, cL_no hC]
    · unfold f_X7_now
      simp only [in_0, toL_T, lit_T k (by omega), e0, eL, sq, mL_no hM]
      rw [if_neg (by omega)]
    · exact ⟨I.gs, I.ps, I.rd, I.wi, hk1, I.dr, I.rg, I.un, I.ur, I.gr, I.hw, I.hz, I.si, I.nw, I.rc, I.wt, I.ud, I.uwc rfl rfl rfl, I.sh, I.sb⟩
    · exact ⟨hC.rd, hC.wi, rfl, hC.dr, hC.rg, hC.un, hC.gs, hC.ps, hC.od, hC.ki, hC.pl, hC.ye, hC.he, hC.wg, hC.si, hC.ny, hC.na, hC.nb, hC.ns, hC.rc, hC.wt, hC.u1, hC.u2, hC.u3⟩
    · exact ⟨hM.gs, hM.ps, hM.rd, hM.sh, hM.wi, rfl, hM.dr, hM.un, hM.rg, hM.ki, hM.pl, hM.ye, hM.he, hM.wg, hM.si, hM.ny, hM.na, hM.nb, hM.rc, hM.wt, hM.u1c rfl rfl rfl rfl rfl, hM.u2c rfl rfl rfl rfl, hM.u3, hM.u4c rfl rfl rfl rfl rfl rfl (Or.inl (Nat.le_refl _))⟩
  · refine ⟨-1, σ, μ, ?_, ?_, hR⟩
    · unfold f_X6_now
      simp only [lt_T, le_T, T_0, show (99 : Int32).toInt = 99 by decide]
      rcases h with h | h
      · rw [if_pos h]
      · rw [if_neg (by omega), if_neg (by omega)]
    · unfold f_X7_now
      simp only [in_0, toL_T, e0, eL]
      rw [if_pos (by omega)]
theorem op20 : Op20 RR := by
  intro σ nw μ hR x
  obtain ⟨⟨a, I, hC, hM⟩, -⟩ := id hR
  by_cases h : x < 0
  · refine ⟨-1, σ, μ, ?_, ?_, hR⟩
    · unfold f_X6_seed
      rw [if_neg (by rw [le_T, T_0]; rw [lt_T, T_0] at h; omega)]
    · unfold f_X7_seed
      first | rw [if_pos h] | (rw [if_neg (by rw [le_T, T_0]; rw [lt_T, T_0] at h; omega)])
  · obtain ⟨k, hk1, rfl⟩ := nI_of h
    refine ⟨nI (a 0 7), wr σ 1 7 (nI k), wr μ 0 14 (nI k), ?_, ?_, hR.par ⟨uA a 0 7 k, ?_, ?_, ?_⟩ (fun c hc => wr_ne (by omega)) rfl (fun c hc => wr_ne (by omega)) rfl rfl rfl⟩
    · unfold f_X6_seed
      simp only [nI_ge0 hk1, if_true, sq, cL_dr hC]
    · unfold f_X7_seed
      simp only [nI_ge0 hk1, nI_lt0 hk1, if_true, if_false, sq, mL_dr hM]
    · exact ⟨I.gs, I.ps, I.rd, I.wi, I.no, hk1, I.rg, I.un, I.ur, I.gr, I.hw, I.hz, I.si, I.nw, I.rc, I.wt, I.ud, I.uwc rfl rfl rfl, I.sh, I.sb⟩
    · exact ⟨hC.rd, hC.wi, hC.no, rfl, hC.rg, hC.un, hC.gs, hC.ps, hC.od, hC.ki, hC.pl, hC.ye, hC.he, hC.wg, hC.si, hC.ny, hC.na, hC.nb, hC.ns, hC.rc, hC.wt, hC.u1, hC.u2, hC.u3⟩
    · exact ⟨hM.gs, hM.ps, hM.rd, hM.sh, hM.wi, hM.no, rfl, hM.un, hM.rg, hM.ki, hM.pl, hM.ye, hM.he, hM.wg, hM.si, hM.ny, hM.na, hM.nb, hM.rc, hM.wt, hM.u1c rfl rfl rfl rfl rfl, hM.u2c rfl rfl rfl rfl, hM.u3, hM.u4c rfl rfl rfl rfl rfl rfl (Or.inl (Nat.le_refl _))⟩

