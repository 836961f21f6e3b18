theorem nI_ofR {x : Int32} {n : Nat} (h : 0 ≤ x.toInt ∧ x.toInt < n) (hn : n < 2 ^ 31) : ∃ k, k < n ∧ x = nI k := by
  rcases rng x (n - 1) (by omega) with ⟨k, hk, rfl⟩ | q
  · have : 0 < n := by omega
    exact ⟨k, by omega, rfl⟩
  · omega
theorem isPlace_C0 (y : Int64) : (f_X6_isPlace y = 0) = ¬ (0 ≤ y.toInt ∧ y.toInt < 36) := by
  unfold f_X6_isPlace
  simp only [lcmp_lt, lcmp_ge, show (0 : Int64).toInt = 0 by decide, show (36 : Int64).toInt = 36 by decide]
  apply propext
  constructor
  · intro h
    split at h
    · omega
    · split at h
      · omega
      · exact absurd h (by decide)
  · intro h
    split
    · rfl
    · split
      · rfl
      · omega
theorem isPlace_M0 (y : Int64) : (f_X7_isPlace y = 0) = ¬ (0 ≤ y.toInt ∧ y.toInt < 36) := by
  unfold f_X7_isPlace
  simp only [in_0, show (0 : Int64).toInt = 0 by decide, show (35 : Int64).toInt = 35 by decide]
  exact propext ⟨fun h => by omega, fun h => by omega⟩
theorem cnt_C0 {n : Nat} (hn : n < 2 ^ 31) (y : Int64) : ((if (lg_cmp y 0) < 0 then (0 : Int32) else (if 0 ≤ (lg_cmp y ((nI n).toInt64)) then (0) else (1))) = 0) = ¬ (0 ≤ y.toInt ∧ y.toInt < n) := by
  simp only [lcmp_lt, lcmp_ge, show (0 : Int64).toInt = 0 by decide, toL_T, lit_T n hn]
  apply propext
  constructor
  · intro h
    split at h
    · omega
    · split at h
      · omega
      · exact absurd h (by decide)
  · intro h
    split
    · rfl
    · split
      · rfl
      · omega
theorem cnt_M0 {n : Nat} (hn : n < 2 ^ 30) (y : Int64) : (f_X7_in y 0 ((nI n - 1).toInt64) = 0) = ¬ (0 ≤ y.toInt ∧ y.toInt < n) := by
  have e : (nI n - 1).toInt = (n : Int) - 1 := by
    have := pk_sub_toInt (a := n) (b := 1) hn (by decide)
    exact this
  simp only [in_0, toL_T, e, show (0 : Int64).toInt = 0 by decide]
  exact propext ⟨fun h => by omega, fun h => by omega⟩
theorem isNews_C0 {a : Nat → Nat → Nat} {σ : St} (I : Inv a) (h : CA a (vw σ 1)) (y : Int64) : (f_X6_isNews σ y = 0) = ¬ (0 ≤ y.toInt ∧ y.toInt < a 8 0) := by
  unfold f_X6_isNews; rw [cL_ps h]; exact cnt_C0 (by have := I.ps; omega) y
theorem isNews_M0 {a : Nat → Nat → Nat} {μ : St} (I : Inv a) (h : MA a (ul μ)) (y : Int64) : (f_X7_isNews μ y = 0) = ¬ (0 ≤ y.toInt ∧ y.toInt < a 8 0) := by
  unfold f_X7_isNews; rw [mL_ps h]; exact cnt_M0 (by have := I.ps; omega) y
theorem isReader_C0 {a : Nat → Nat → Nat} {σ : St} (I : Inv a) (h : CA a (vw σ 1)) (y : Int64) : (f_X6_isReader σ y = 0) = ¬ (0 ≤ y.toInt ∧ y.toInt < a 0 2) := by
  unfold f_X6_isReader; rw [cL_rd h]; exact cnt_C0 (by have := I.rd; omega) y
theorem isReader_M0 {a : Nat → Nat → Nat} {μ : St} (I : Inv a) (h : MA a (ul μ)) (y : Int64) : (f_X7_isReader μ y = 0) = ¬ (0 ≤ y.toInt ∧ y.toInt < a 0 2) := by
  unfold f_X7_isReader; rw [mL_rd h]; exact cnt_M0 (by have := I.rd; omega) y
theorem set_C0 {n : Nat} (hn : n < 2 ^ 31) (x : Int32) : ((if x < 0 then (0 : Int32) else (if nI n ≤ x then (0) else (1))) = 0) = ¬ (0 ≤ x.toInt ∧ x.toInt < n) := by
  simp only [lt_T, le_T, T_0, lit_T n hn]
  apply propext
  constructor
  · intro h
    split at h
    · omega
    · split at h
      · omega
      · exact absurd h (by decide)
  · intro h
    split
    · rfl
    · split
      · rfl
      · omega
theorem isGrave_C0 {a : Nat → Nat → Nat} {σ : St} (I : Inv a) (h : CA a (vw σ 1)) (x : Int32) : (f_X6_isGrave σ x = 0) = ¬ (0 ≤ x.toInt ∧ x.toInt < a 1 0) := by
  unfold f_X6_isGrave; rw [cL_gs h]; exact set_C0 (by have := I.gs; omega) x
theorem isGrave_M0 {a : Nat → Nat → Nat} {μ : St} (I : Inv a) (h : MA a (ul μ)) (x : Int32) : (f_X7_isGrave μ x = 0) = ¬ (0 ≤ x.toInt ∧ x.toInt < a 1 0) := by
  unfold f_X7_isGrave; rw [mL_gs h, cnt_M0 (by have := I.gs; omega), toL_T]
theorem pow12 {p : Nat} (h : p ≤ 12) : 2 ^ p ≤ 4096 := by
  have : 2 ^ p ≤ 2 ^ 12 := Nat.pow_le_pow_right (by decide) h
  omega
theorem isNewsSet_C0 {a : Nat → Nat → Nat} {σ : St} (I : Inv a) (h : CA a (vw σ 1)) (x : Int32) : (f_X6_isNewsSet σ x = 0) = ¬ (0 ≤ x.toInt ∧ x.toInt < (2 ^ a 8 0 : Nat)) := by
  have h12 := I.ps
  have := pow12 I.ps
  unfold f_X6_isNewsSet; rw [cL_ps h, isl_1 (by omega)]; exact set_C0 (by omega) x
theorem isGraveSet_C0 {a : Nat → Nat → Nat} {σ : St} (I : Inv a) (h : CA a (vw σ 1)) (x : Int32) : (f_X6_isGraveSet σ x = 0) = ¬ (0 ≤ x.toInt ∧ x.toInt < (2 ^ a 1 0 : Nat)) := by
  have h10 := I.gs
  have := pow12 (p := a 1 0) (by omega)
  unfold f_X6_isGraveSet; rw [cL_gs h, isl_1 (by omega)]; exact set_C0 (by omega) x
theorem areGraves_M0 {a : Nat → Nat → Nat} {μ : St} (I : Inv a) (h : MA a (ul μ)) (x : Int32) : (f_X7_areGraves μ x = 0) = ¬ (0 ≤ x.toInt ∧ x.toInt < (2 ^ a 1 0 : Nat)) := by
  have h10 := I.gs
  have := pow12 (p := a 1 0) (by omega)
  unfold f_X7_areGraves; rw [mL_gs h, isl_1 (by omega), cnt_M0 (by omega), toL_T]
theorem op6 : Op6 RR := by
  intro σ nw μ hR x y
  obtain ⟨⟨a, I, hC, hM⟩, -⟩ := id hR
  by_cases v : (0 ≤ x.toInt ∧ x.toInt < 5) ∧ (0 ≤ y.toInt ∧ y.toInt < 10)
  · obtain ⟨i, hi, rfl⟩ := nI_ofR (n := 5) v.1 (by decide)
    obtain ⟨k, hk1, rfl⟩ := nI_ofR (n := 10) v.2 (by decide)
    refine ⟨nI (a 14 i), wr σ 15 i (nI k), wr μ 8 i (nI k), ?_, ?_, hR.par ⟨uA a 14 i k, ?_, ?_, ?_⟩ (fun c hc => wr_ne (by omega)) rfl (fun c hc => wr_ne (by omega)) rfl rfl rfl⟩
    · unfold f_X6_weight f_X6_isWind
      simp only [nI_lt0 (show i < 2 ^ 31 by omega), nI_lt0 (show k < 2 ^ 31 by omega), if_false, show (5 : Int32) = nI 5 from rfl, show (9 : Int32) = nI 9 from rfl, nI_leE (show 5 < 2 ^ 31 by decide) (show i < 2 ^ 31 by omega), nI_leE (show k < 2 ^ 31 by omega) (show 9 < 2 ^ 31 by decide), show ¬ 5 ≤ i by omega, show k ≤ 9 by omega, if_true, ix_nI (show i < 2 ^ 31 by omega), ok2 (show i < 5 by omega) (show i < 2 ^ 31 by omega), sq, cL_wt hC i hi]
      rfl
    · unfold f_X7_weight
      simp only [in_0, toL_T, lit_T i (show i < 2 ^ 31 by omega), lit_T k (show k < 2 ^ 31 by omega), show (0 : Int64).toInt = 0 by decide, show (4 : Int64).toInt = 4 by decide, show (9 : Int64).toInt = 9 by decide, ix_nI (show i < 2 ^ 31 by omega), ok2 (show i < 5 by omega) (show i < 2 ^ 31 by omega), if_false, sq, mL_wt hM i hi]
      rw [if_neg (by omega), if_neg (by omega)]
    · exact ⟨I.gs, I.ps, I.rd, I.wi, I.no, I.dr, I.rg, I.un, I.ur, I.gr, I.hw, I.hz, I.si, I.nw, I.rc, fun j hj => by show (if j = i then k else a 14 j) ≤ 9; split; omega; exact I.wt j hj, I.ud, I.uwc rfl rfl rfl, I.sh, I.sb⟩
    · exact ⟨hC.rd, hC.wi, hC.no, hC.dr, hC.rg, hC.un, hC.gs, hC.ps, hC.od, hC.ki, hC.pl, hC.ye, hC.he, hC.wg, hC.si, hC.ny, hC.na, hC.nb, hC.ns, hC.rc, ex2 hC.wt, hC.u1, hC.u2, hC.u3⟩
    · exact ⟨hM.gs, hM.ps, hM.rd, hM.sh, hM.wi, hM.no, hM.dr, hM.un, hM.rg, hM.ki, hM.pl, hM.ye, hM.he, hM.wg, hM.si, hM.ny, hM.na, hM.nb, hM.rc, ex2 hM.wt, hM.u1c rfl rfl rfl rfl rfl, hM.u2c rfl rfl rfl rfl, hM.u3, hM.u4c rfl rfl rfl rfl rfl rfl (Or.inl (Nat.le_refl _))⟩
  · refine ⟨-1, σ, μ, ?_, ?_, hR⟩
    · unfold f_X6_weight f_X6_isWind
      simp only [lt_T, le_T, T_0, show (5 : Int32).toInt = 5 by decide, show (9 : Int32).toInt = 9 by decide]
      (repeat' split) <;> first | rfl | (exfalso; omega) | (exfalso; simp_all; omega) | contradiction
    · unfold f_X7_weight
      simp only [in_0, toL_T, show (0 : Int64).toInt = 0 by decide, show (4 : Int64).toInt = 4 by decide, show (9 : Int64).toInt = 9 by decide]
      (repeat' split) <;> first | rfl | (exfalso; omega)
theorem op4 : Op4 RR := by
  intro σ nw μ hR x y
  obtain ⟨⟨a, I, hC, hM⟩, -⟩ := id hR
  have h12 := I.ps
  by_cases v : (0 ≤ x.toInt ∧ x.toInt < a 8 0) ∧ (0 ≤ y.toInt ∧ y.toInt < 1024)
  · obtain ⟨n, hn, rfl⟩ := nI_ofR (n := a 8 0) v.1 (by omega)
    obtain ⟨k, hk1, rfl⟩ := nI_ofR (n := 1024) v.2 (by decide)
    refine ⟨nI (a 11 n), wr σ 12 n (nI k), wr μ 6 n (nI k), ?_, ?_, hR.par ⟨uA a 11 n k, ?_, ?_, ?_⟩ (fun c hc => wr_ne (by omega)) rfl (fun c hc => wr_ne (by omega)) rfl rfl rfl⟩
    · unfold f_X6_bar
      simp only [isNews_C0 I hC, toL_T, lit_T n (show n < 2 ^ 31 by omega), nI_lt0 (show k < 2 ^ 31 by omega), if_false, show (1024 : Int32) = nI 1024 from rfl, nI_ltE (show k < 2 ^ 31 by omega) (show 1024 < 2 ^ 31 by decide), hk1, if_true, ix_nI (show n < 2 ^ 31 by omega), ok2 (show n < 12 by omega) (show n < 2 ^ 31 by omega), sq, cL_nb hC n hn]
      rw [if_neg (by omega)]
    · unfold f_X7_bar
      simp only [isNews_M0 I hM, in_0, toL_T, lit_T n (show n < 2 ^ 31 by omega), lit_T k (show k < 2 ^ 31 by omega), show (0 : Int64).toInt = 0 by decide, show (1023 : Int64).toInt = 1023 by decide, ix_nI (show n < 2 ^ 31 by omega), ok2 (show n < 12 by omega) (show n < 2 ^ 31 by omega), if_false, sq, mL_nb hM n hn]
      rw [if_neg (by omega), if_neg (by omega)]
    · exact ⟨I.gs, I.ps, I.rd, I.wi, I.no, I.dr, I.rg, I.un, I.ur, I.gr, I.hw, I.hz, I.si, fun j hj => by obtain ⟨q1, q2, q3, q4⟩ := I.nw j hj; refine ⟨q1, q2, ?_, q4⟩; show (if j = n then k else a 11 j) < 1024; split <;> omega, I.rc, I.wt, I.ud, I.uwc rfl rfl rfl, I.sh, I.sb⟩
    · exact ⟨hC.rd, hC.wi, hC.no, hC.dr, hC.rg, hC.un, hC.gs, hC.ps, hC.od, hC.ki, hC.pl, hC.ye, hC.he, hC.wg, hC.si, hC.ny, hC.na, ex2 hC.nb, hC.ns, hC.rc, hC.wt, hC.u1, hC.u2, hC.u3⟩
    · exact ⟨hM.gs, hM.ps, hM.rd, hM.sh, hM.wi, hM.no, hM.dr, hM.un, hM.rg, hM.ki, hM.pl, hM.ye, hM.he, hM.wg, hM.si, hM.ny, hM.na, ex2 hM.nb, hM.rc, hM.wt, hM.u1c rfl rfl rfl rfl rfl, hM.u2c rfl rfl rfl rfl, hM.u3, hM.u4c rfl rfl rfl rfl rfl rfl (Or.inl (Nat.le_refl _))⟩
  · refine ⟨-1, σ, μ, ?_, ?_, hR⟩
    · unfold f_X6_bar
      simp only [isNews_C0 I hC, toL_T, lt_T, le_T, T_0, show (1024 : Int32).toInt = 1024 by decide]
      (repeat' split) <;> first | rfl | (exfalso; omega)
    · unfold f_X7_bar
      simp only [isNews_M0 I hM, in_0, toL_T, show (0 : Int64).toInt = 0 by decide, show (1023 : Int64).toInt = 1023 by decide]
      (repeat' split) <;> first | rfl | (exfalso; omega)
theorem op2 : Op2 RR := by
  intro σ nw μ hR x
  obtain ⟨⟨a, I, hC, hM⟩, -⟩ := id hR
  have h4 := I.rd
  by_cases v : 0 ≤ x.toInt ∧ x.toInt < 10
  · obtain ⟨k, hk1, rfl⟩ := nI_ofR (n := 10) v (by decide)
    by_cases hf : a 0 2 < 4
    · refine ⟨nI (a 0 2), wr (wr σ 14 (a 0 2) (nI k)) 1 2 (nI (a 0 2 + 1)), wr (wr μ 7 (a 0 2) (nI k)) 0 10 (nI (a 0 2 + 1)), ?_, ?_, hR.par ⟨uA (uA a 13 (a 0 2) k) 0 2 (a 0 2 + 1), ?_, ?_, ?_⟩ (fun c hc => (wr_ne (by omega)).trans (wr_ne (by omega))) rfl (fun c hc => (wr_ne (by omega)).trans (wr_ne (by omega))) rfl rfl rfl⟩
      · unfold f_X6_reader
        simp only [nI_lt0 (show k < 2 ^ 31 by omega), if_false, show (9 : Int32) = nI 9 from rfl, nI_leE (show k < 2 ^ 31 by omega) (show 9 < 2 ^ 31 by decide), show k ≤ 9 by omega, if_true, cL_rd hC, show (4 : Int32) = nI 4 from rfl, nI_ltE (show a 0 2 < 2 ^ 31 by omega) (show 4 < 2 ^ 31 by decide), hf, ix_nI (show a 0 2 < 2 ^ 31 by omega), ok2 (show a 0 2 < 4 by omega) (show a 0 2 < 2 ^ 31 by omega), sq]
        rw [show (wr σ 14 (a 0 2) (nI k)).1 1 2 = nI (a 0 2) from (cL_rd hC : σ.1 1 2 = nI (a 0 2)), nI_s]
        rw [show (wr (wr σ 14 (a 0 2) (nI k)) 1 2 (nI (a 0 2 + 1))).1 1 2 = nI (a 0 2 + 1) from rfl, nI_pred]
      · unfold f_X7_reader
        simp only [in_0, toL_T, lit_T k (show k < 2 ^ 31 by omega), show (0 : Int64).toInt = 0 by decide, show (9 : Int64).toInt = 9 by decide, mL_rd hM, show (4 : Int32) = nI 4 from rfl, nI_eqE (show a 0 2 < 2 ^ 31 by omega) (show 4 < 2 ^ 31 by decide), show ¬ a 0 2 = 4 by omega, if_false, ix_nI (show a 0 2 < 2 ^ 31 by omega), ok2 (show a 0 2 < 4 by omega) (show a 0 2 < 2 ^ 31 by omega), sq]
        rw [if_neg (by omega), show (wr μ 7 (a 0 2) (nI k)).1 0 10 = nI (a 0 2) from (mL_rd hM : μ.1 0 10 = nI (a 0 2)), nI_s]
        rw [show (wr (wr μ 7 (a 0 2) (nI k)) 0 10 (nI (a 0 2 + 1))).1 0 10 = nI (a 0 2 + 1) from rfl, nI_pred]
      · exact ⟨I.gs, I.ps, hf, I.wi, I.no, I.dr, I.rg, I.un, I.ur, I.gr, I.hw, I.hz, I.si, I.nw, fun j hj => by show (if j = a 0 2 then k else a 13 j) ≤ 9; have hj : j < a 0 2 + 1 := hj; split; omega; exact I.rc j (by omega), I.wt, I.ud, I.uwc rfl rfl rfl, I.sh, I.sb⟩
      · exact ⟨rfl, hC.wi, hC.no, hC.dr, hC.rg, hC.un, hC.gs, hC.ps, hC.od, hC.ki, hC.pl, hC.ye, hC.he, hC.wg, hC.si, hC.ny, hC.na, hC.nb, hC.ns, ex1 hC.rc, hC.wt, hC.u1, hC.u2, hC.u3⟩
      · exact ⟨hM.gs, hM.ps, rfl, hM.sh, hM.wi, hM.no, hM.dr, hM.un, hM.rg, hM.ki, hM.pl, hM.ye, hM.he, hM.wg, hM.si, hM.ny, hM.na, hM.nb, ex1 hM.rc, hM.wt, hM.u1c rfl rfl rfl rfl rfl, hM.u2c rfl rfl rfl rfl, hM.u3, hM.u4c rfl rfl rfl rfl rfl rfl (Or.inl (Nat.le_refl _))⟩
    · refine ⟨-3, σ, μ, ?_, ?_, hR⟩
      · unfold f_X6_reader
        simp only [nI_lt0 (show k < 2 ^ 31 by omega), if_false, show (9 : Int32) = nI 9 from rfl, nI_leE (show k < 2 ^ 31 by omega) (show 9 < 2 ^ 31 by decide), show k ≤ 9 by omega, if_true, cL_rd hC, show (4 : Int32) = nI 4 from rfl, nI_ltE (show a 0 2 < 2 ^ 31 by omega) (show 4 < 2 ^ 31 by decide), hf]
      · unfold f_X7_reader
        simp only [in_0, toL_T, lit_T k (show k < 2 ^ 31 by omega), show (0 : Int64).toInt = 0 by decide, show (9 : Int64).toInt = 9 by decide, mL_rd hM, show (4 : Int32) = nI 4 from rfl, nI_eqE (show a 0 2 < 2 ^ 31 by omega) (show 4 < 2 ^ 31 by decide), show a 0 2 = 4 by omega, if_true]
        rw [if_neg (by omega)]
  · refine ⟨-1, σ, μ, ?_, ?_, hR⟩
    · unfold f_X6_reader
      simp only [lt_T, le_T, T_0, show (9 : Int32).toInt = 9 by decide, show (4 : Int32).toInt = 4 by decide]
      (repeat' split) <;> first | rfl | (exfalso; omega)
    · unfold f_X7_reader
      simp only [in_0, toL_T, show (0 : Int64).toInt = 0 by decide, show (9 : Int64).toInt = 9 by decide]
      (repeat' split) <;> first | rfl | (exfalso; omega)

