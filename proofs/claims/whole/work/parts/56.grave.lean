theorem up_eq {f : Nat → Int32} {i : Nat} {x : Int32} : upd f i x i = x := by unfold upd; simp
theorem up_ne {f : Nat → Int32} {i j : Nat} {x : Int32} (h : j ≠ i) : upd f i x j = f j := by unfold upd; simp [h]
theorem add_Ce (σ : St) (x1 x2 x3 : Int32) : f_X1_add σ x1 x2 x3 = if (σ.1 2 0) < 10 then (if (σ.1 2 0) < 0 ∨ 10 ≤ ix (σ.1 2 0) then none else if (σ.1 2 0) < 0 ∨ 10 ≤ ix (σ.1 2 0) then none else if (σ.1 2 0) < 0 ∨ 10 ≤ ix (σ.1 2 0) then none else if (σ.1 2 0) < 0 ∨ 10 ≤ ix (σ.1 2 0) then none else if (σ.1 2 0) < 0 ∨ 10 ≤ ix (σ.1 2 0) then none else some (wr (wr (wr (wr (wr (wr σ 3 (ix (σ.1 2 0)) x1) 4 (ix (σ.1 2 0)) x2) 5 (ix (σ.1 2 0)) x3) 6 (ix (σ.1 2 0)) 0) 7 (ix (σ.1 2 0)) 0) 2 0 ((σ.1 2 0) + 1))) else (some σ) := rfl
theorem add_Me (σ : St) (x1 x2 x3 : Int32) : f_X7_addGrave σ x1 x2 x3 = if (σ.1 0 3) < 0 ∨ 10 ≤ ix (σ.1 0 3) then none else if (σ.1 0 3) < 0 ∨ 10 ≤ ix (σ.1 0 3) then none else if (σ.1 0 3) < 0 ∨ 10 ≤ ix (σ.1 0 3) then none else if (0 + (σ.1 0 3)) < 0 ∨ 141 ≤ ix (0 + (σ.1 0 3)) then none else if (10 + (σ.1 0 3)) < 0 ∨ 141 ≤ ix (10 + (σ.1 0 3)) then none else some (wr (wr (wr (wr (wr (wr σ 1 (ix (σ.1 0 3)) x1) 2 (ix (σ.1 0 3)) x2) 3 (ix (σ.1 0 3)) x3) 9 (ix (0 + (σ.1 0 3))) 0) 9 (ix (10 + (σ.1 0 3))) 0) 0 3 ((σ.1 0 3) + 1)) := rfl
def sgC (σ : St) (g k p y : Nat) : St := wr (wr (wr (wr (wr (wr σ 3 g (nI k)) 4 g (nI p)) 5 g (nI y)) 6 g 0) 7 g 0) 2 0 (nI (g + 1))
def sgM (μ : St) (g k p y : Nat) : St := wr (wr (wr (wr (wr (wr μ 1 g (nI k)) 2 g (nI p)) 3 g (nI y)) 9 g 0) 9 (10 + g) 0) 0 3 (nI (g + 1))
theorem add_C {a : Nat → Nat → Nat} {σ : St} (hC : CA a (vw σ 1)) (hg : a 1 0 < 10) (k p y : Nat) : f_X1_add σ (nI k) (nI p) (nI y) = some (sgC σ (a 1 0) k p y) := by
  rw [add_Ce, cL_gs hC]
  simp only [show (10 : Int32) = nI 10 from rfl, nI_ltE (show a 1 0 < 2 ^ 31 by omega) (show 10 < 2 ^ 31 by decide), hg, if_true, ix_nI (show a 1 0 < 2 ^ 31 by omega), ok2 (show a 1 0 < 10 by omega) (show a 1 0 < 2 ^ 31 by omega), if_false, nI_s]
  rfl
theorem add_M {a : Nat → Nat → Nat} {μ : St} (hM : MA a (ul μ)) (hg : a 1 0 < 10) (k p y : Nat) : f_X7_addGrave μ (nI k) (nI p) (nI y) = some (sgM μ (a 1 0) k p y) := by
  rw [add_Me, mL_gs hM]
  simp only [show (10 : Int32) = nI 10 from rfl, nI_z, nI_k, ix_nI (show a 1 0 < 2 ^ 31 by omega), ix_nI (show 10 + a 1 0 < 2 ^ 31 by omega), ok2 (show a 1 0 < 10 by omega) (show a 1 0 < 2 ^ 31 by omega), ok2 (show a 1 0 < 141 by omega) (show a 1 0 < 2 ^ 31 by omega), ok2 (show 10 + a 1 0 < 141 by omega) (show 10 + a 1 0 < 2 ^ 31 by omega), if_false, nI_s]
  rfl
def aG (a : Nat → Nat → Nat) (k p y : Nat) : Nat → Nat → Nat := uA (uA (uA (uA a 2 (a 1 0) k) 3 (a 1 0) p) 4 (a 1 0) y) 1 0 (a 1 0 + 1)
theorem grave_par {a : Nat → Nat → Nat} {σ μ : St} (I : Inv a) (hC : CA a (vw σ 1)) (hM : MA a (ul μ)) (hg : a 1 0 < 10) {k p y : Nat} (hk : k < 6) (hp : p < 36) (hy : y < 90) : Inv (aG a k p y) ∧ CA (aG a k p y) (vw (sgC σ (a 1 0) k p y) 1) ∧ MA (aG a k p y) (ul (sgM μ (a 1 0) k p y)) := by
  obtain ⟨z5, z6⟩ := I.hz (a 1 0) hg (Nat.le_refl _)
  refine ⟨⟨hg, I.ps, I.rd, I.wi, I.no, I.dr, I.rg, I.un, I.ur, ?_, I.hw, ?_, I.si, I.nw, I.rc, I.wt, I.ud, I.uwc rfl rfl rfl, I.sh, I.sb⟩, ⟨hC.rd, hC.wi, hC.no, hC.dr, hC.rg, hC.un, rfl, hC.ps, hC.od, ex1 hC.ki, ex1 hC.pl, ex1 hC.ye, ?_, ?_, ?_, hC.ny, hC.na, hC.nb, hC.ns, hC.rc, hC.wt, hC.u1, hC.u2, hC.u3⟩, ⟨rfl, hM.ps, hM.rd, hM.sh, hM.wi, hM.no, hM.dr, hM.un, ?_, ex1 hM.ki, ex1 hM.pl, ex1 hM.ye, ?_, ?_, ?_, hM.ny, hM.na, hM.nb, hM.rc, hM.wt, hM.u1c rfl rfl rfl rfl rfl, hM.u2c rfl rfl rfl rfl, hM.u3, hM.u4c rfl rfl rfl rfl rfl rfl (Or.inr (fun i h1 h2 => (I.hz i (by have : i < a 1 0 + 1 := h2; omega) h1).1))⟩⟩
  · intro i hi
    have hi : i < a 1 0 + 1 := hi
    show (if i = a 1 0 then k else a 2 i) ≤ 5 ∧ (if i = a 1 0 then p else a 3 i) < 36 ∧ (if i = a 1 0 then y else a 4 i) ≤ 89
    by_cases e : i = a 1 0
    · simp only [e, if_true]
      omega
    · simp only [e, if_false]
      exact I.gr i (by omega)
  · intro i hi h2
    have h2 : a 1 0 + 1 ≤ i := h2
    exact I.hz i hi (by omega)
  · intro i hi
    have hi : i < a 1 0 + 1 := hi
    show upd (σ.1 6) (a 1 0) 0 i = nI (a 5 i)
    by_cases e : i = a 1 0
    · rw [e, up_eq, z5]; rfl
    · rw [up_ne e]; exact hC.he i (by omega)
  · intro i hi
    have hi : i < a 1 0 + 1 := hi
    show upd (σ.1 7) (a 1 0) 0 i = nI (a 6 i)
    by_cases e : i = a 1 0
    · rw [e, up_eq, z6]; rfl
    · rw [up_ne e]; exact hC.wg i (by omega)
  · intro i n hi hn hb
    have hi : i < a 1 0 + 1 := hi
    have hb : (a 5 i).testBit n = true := hb
    by_cases e : i = a 1 0
    · rw [e, z5, Nat.zero_testBit] at hb; cases hb
    · exact hC.si i n (by omega) hn hb
  · show upd (upd (μ.1 9) (a 1 0) 0) (10 + a 1 0) 0 140 = nI (a 0 8)
    rw [up_ne (by omega), up_ne (by omega)]
    exact hM.rg
  · intro i hi
    show upd (upd (μ.1 9) (a 1 0) 0) (10 + a 1 0) 0 i = nI (a 5 i)
    rw [up_ne (by omega)]
    by_cases e : i = a 1 0
    · rw [e, up_eq, z5]; rfl
    · rw [up_ne e]; exact hM.he i hi
  · intro i hi
    show upd (upd (μ.1 9) (a 1 0) 0) (10 + a 1 0) 0 (10 + i) = nI (a 6 i)
    by_cases e : i = a 1 0
    · rw [e, up_eq, z6]; rfl
    · rw [up_ne (by omega), up_ne (by omega)]; exact hM.wg i hi
  · intro i n hi hn hb
    have hi : i < a 1 0 + 1 := hi
    have hb : (a 5 i).testBit n = true := hb
    show upd (upd (μ.1 9) (a 1 0) 0) (10 + a 1 0) 0 (20 + (12 * i + n)) = nI (a 7 (12 * i + n))
    rw [up_ne (by omega), up_ne (by omega)]
    by_cases e : i = a 1 0
    · rw [e, z5, Nat.zero_testBit] at hb; cases hb
    · exact hM.si i n (by omega) hn hb
theorem op0 : Op0 RR := by
  intro σ nw μ hR x y z
  obtain ⟨⟨a, I, hC, hM⟩, -⟩ := id hR
  have h10 := I.gs
  by_cases v : (0 ≤ x.toInt ∧ x.toInt < 6) ∧ (0 ≤ y.toInt ∧ y.toInt < 36) ∧ (0 ≤ z.toInt ∧ z.toInt < 90)
  · obtain ⟨k, hk, rfl⟩ := nI_ofR (n := 6) v.1 (by decide)
    obtain ⟨p, hp, rfl⟩ := nI_ofR (n := 36) v.2.1 (by decide)
    obtain ⟨q, hq, rfl⟩ := nI_ofR (n := 90) v.2.2 (by decide)
    have cc : ∀ {A : Option (Int32 × St)}, (if nI k < 0 then some ((-1), σ) else (if 5 < nI k then some ((-1), σ) else (if (f_X6_isPlace ((nI p).toInt64)) = 0 then some ((-1), σ) else (if nI q < 0 then some ((-1), σ) else (if nI q ≤ 89 then A else some ((-1), σ)))))) = A := by
      intro A
      simp only [lt_T, le_T, isPlace_C0, toL_T, lit_T k (show k < 2 ^ 31 by omega), lit_T p (show p < 2 ^ 31 by omega), lit_T q (show q < 2 ^ 31 by omega), T_0, show (5 : Int32).toInt = 5 by decide, show (89 : Int32).toInt = 89 by decide]
      rw [if_neg (by omega), if_neg (by omega), if_neg (by omega), if_neg (by omega), if_pos (by omega)]
    have cm : ∀ {A : Option (Int32 × St)}, (if (f_X7_in ((nI k).toInt64) 0 5) = 0 then some ((-1), μ) else (if (f_X7_isPlace ((nI p).toInt64)) = 0 then some ((-1), μ) else (if (f_X7_in ((nI q).toInt64) 0 89) = 0 then some ((-1), μ) else A))) = A := by
      intro A
      simp only [in_0, isPlace_M0, toL_T, lit_T k (show k < 2 ^ 31 by omega), lit_T p (show p < 2 ^ 31 by omega), lit_T q (show q < 2 ^ 31 by omega), show (0 : Int64).toInt = 0 by decide, show (5 : Int64).toInt = 5 by decide, show (89 : Int64).toInt = 89 by decide]
      rw [if_neg (by omega), if_neg (by omega), if_neg (by omega)]
    by_cases hg : a 1 0 < 10
    · refine ⟨nI (a 1 0), sgC σ (a 1 0) k p q, sgM μ (a 1 0) k p q, ?_, ?_, hR.par ⟨_, grave_par I hC hM hg hk hp hq⟩ (fun c hc => (wr_ne (by omega)).trans ((wr_ne (by omega)).trans ((wr_ne (by omega)).trans ((wr_ne (by omega)).trans ((wr_ne (by omega)).trans (wr_ne (by omega))))))) rfl (fun c hc => (wr_ne (by omega)).trans ((wr_ne (by omega)).trans ((wr_ne (by omega)).trans ((wr_ne (by omega)).trans ((wr_ne (by omega)).trans (wr_ne (by omega))))))) rfl rfl rfl⟩
      · unfold f_X6_grave
        rw [cc, cL_gs hC, if_pos (by rw [show (10 : Int32) = nI 10 from rfl, nI_ltE (by omega) (by decide)]; exact hg), add_C hC hg]
        show some (nI (a 1 0 + 1) - 1, _) = _
        rw [nI_pred]
      · unfold f_X7_grave
        rw [cm, mL_gs hM, if_neg (by rw [show (10 : Int32) = nI 10 from rfl, nI_eqE (by omega) (by decide)]; omega), add_M hM hg]
        show some (nI (a 1 0 + 1) - 1, _) = _
        rw [nI_pred]
    · refine ⟨-3, σ, μ, ?_, ?_, hR⟩
      · unfold f_X6_grave
        rw [cc, cL_gs hC, if_neg (by rw [show (10 : Int32) = nI 10 from rfl, nI_ltE (by omega) (by decide)]; exact hg)]
      · unfold f_X7_grave
        rw [cm, mL_gs hM, if_pos (by rw [show (10 : Int32) = nI 10 from rfl, nI_eqE (by omega) (by decide)]; omega)]
  · refine ⟨-1, σ, μ, ?_, ?_, hR⟩
    · unfold f_X6_grave
      simp only [lt_T, le_T, isPlace_C0, toL_T, T_0, show (5 : Int32).toInt = 5 by decide, show (89 : Int32).toInt = 89 by decide, show (10 : Int32).toInt = 10 by decide]
      (repeat' split) <;> first | rfl | (exfalso; omega)
    · unfold f_X7_grave
      simp only [in_0, isPlace_M0, toL_T, show (0 : Int64).toInt = 0 by decide, show (5 : Int64).toInt = 5 by decide, show (89 : Int64).toInt = 89 by decide]
      (repeat' split) <;> first | rfl | (exfalso; omega)
def aO (a : Nat → Nat → Nat) : Nat → Nat → Nat := uA (uA (uA (uA a 1 0 (a 1 0 - 1)) 0 9 0) 5 (a 1 0 - 1) 0) 6 (a 1 0 - 1) 0
theorem op1 : Op1 RR := by
  intro σ nw μ hR
  obtain ⟨⟨a, I, hC, hM⟩, -⟩ := id hR
  have h10 := I.gs
  by_cases hg : a 1 0 = 0
  · refine ⟨-4, σ, μ, ?_, ?_, hR⟩
    · unfold f_X6_out
      rw [cL_gs hC, if_pos (by rw [hg]; rfl)]
    · unfold f_X7_out
      rw [mL_gs hM, if_pos (by rw [hg]; rfl)]
  · obtain ⟨g, e⟩ : ∃ g, a 1 0 = g + 1 := ⟨a 1 0 - 1, by omega⟩
    have e1 : a 1 0 - 1 = g := by omega
    refine ⟨nI g, wr (wr σ 2 0 (nI g)) 1 9 0, wr (wr (wr (wr μ 0 3 (nI g)) 9 g 0) 9 (10 + g) 0) 0 17 0, ?_, ?_, hR.par ⟨aO a, ?_, ?_, ?_⟩ (fun c hc => (wr_ne (by omega)).trans (wr_ne (by omega))) rfl (fun c hc => (wr_ne (by omega)).trans ((wr_ne (by omega)).trans ((wr_ne (by omega)).trans (wr_ne (by omega))))) rfl rfl rfl⟩
    · unfold f_X6_out
      rw [cL_gs hC, if_neg (by rw [nI_eq0 (by omega)]; omega), e, nI_pred]
      rfl
    · have q1 : (wr μ 0 3 (nI g)).1 0 3 = nI g := rfl
      unfold f_X7_out
      rw [mL_gs hM, if_neg (by rw [nI_eq0 (by omega)]; omega), e, nI_pred]
      show (if (0 + nI g) < 0 ∨ 141 ≤ ix (0 + nI g) then none else if (10 + nI g) < 0 ∨ 141 ≤ ix (10 + nI g) then none else some (nI g, wr (wr (wr (wr μ 0 3 (nI g)) 9 (ix (0 + nI g)) 0) 9 (ix (10 + nI g)) 0) 0 17 0)) = _
      simp only [show (10 : Int32) = nI 10 from rfl, nI_z, nI_k, ix_nI (show g < 2 ^ 31 by omega), ix_nI (show 10 + g < 2 ^ 31 by omega), ok2 (show g < 141 by omega) (show g < 2 ^ 31 by omega), ok2 (show 10 + g < 141 by omega) (show 10 + g < 2 ^ 31 by omega), if_false]
    · have b10 : aO a 1 0 = g := e1
      have b5 : ∀ i, aO a 5 i = if i = g then 0 else a 5 i := fun i => by show (if i = a 1 0 - 1 then 0 else a 5 i) = _; rw [e1]
      have b6 : ∀ i, aO a 6 i = if i = g then 0 else a 6 i := fun i => by show (if i = a 1 0 - 1 then 0 else a 6 i) = _; rw [e1]
      refine ⟨?_, I.ps, I.rd, I.wi, I.no, I.dr, I.rg, ?_, ?_, ?_, ?_, ?_, I.si, I.nw, I.rc, I.wt, ?_, ?_, I.sh, I.sb⟩
      · rw [b10]; omega
      · exact Nat.zero_le _
      · exact Nat.zero_le _
      · intro i hi; rw [b10] at hi; exact I.gr i (by omega)
      · intro i hi
        rw [b5, b6]
        have := I.hw i hi
        split <;> omega
      · intro i hi h2
        rw [b10] at h2
        rw [b5, b6]
        split
        · exact ⟨rfl, rfl⟩
        · exact I.hz i hi (by omega)
      · intro j hj; exact absurd hj (Nat.not_lt_zero _)
      · intro j hj; exact absurd hj (Nat.not_lt_zero _)
    · have b10 : aO a 1 0 = g := e1
      have b5 : ∀ i, aO a 5 i = if i = g then 0 else a 5 i := fun i => by show (if i = a 1 0 - 1 then 0 else a 5 i) = _; rw [e1]
      have b6 : ∀ i, aO a 6 i = if i = g then 0 else a 6 i := fun i => by show (if i = a 1 0 - 1 then 0 else a 6 i) = _; rw [e1]
      refine ⟨hC.rd, hC.wi, hC.no, hC.dr, hC.rg, rfl, ?_, hC.ps, hC.od, ?_, ?_, ?_, ?_, ?_, ?_, hC.ny, hC.na, hC.nb, hC.ns, hC.rc, hC.wt, ?_, ?_, ?_⟩
      · rw [b10]; rfl
      · intro i hi; rw [b10] at hi; exact hC.ki i (by omega)
      · intro i hi; rw [b10] at hi; exact hC.pl i (by omega)
      · intro i hi; rw [b10] at hi; exact hC.ye i (by omega)
      · intro i hi; rw [b10] at hi; rw [b5, if_neg (by omega)]; exact hC.he i (by omega)
      · intro i hi; rw [b10] at hi; rw [b6, if_neg (by omega)]; exact hC.wg i (by omega)
      · intro i n hi hn hb; rw [b10] at hi; rw [b5, if_neg (by omega)] at hb; exact hC.si i n (by omega) hn hb
      · intro j hj; exact absurd hj (Nat.not_lt_zero _)
      · intro j hj; exact absurd hj (Nat.not_lt_zero _)
      · intro j hj; exact absurd hj (Nat.not_lt_zero _)
    · have b10 : aO a 1 0 = g := e1
      have b5 : ∀ i, aO a 5 i = if i = g then 0 else a 5 i := fun i => by show (if i = a 1 0 - 1 then 0 else a 5 i) = _; rw [e1]
      have b6 : ∀ i, aO a 6 i = if i = g then 0 else a 6 i := fun i => by show (if i = a 1 0 - 1 then 0 else a 6 i) = _; rw [e1]
      refine ⟨?_, hM.ps, hM.rd, hM.sh, hM.wi, hM.no, hM.dr, rfl, ?_, ?_, ?_, ?_, ?_, ?_, ?_, hM.ny, hM.na, hM.nb, hM.rc, hM.wt, ?_, ?_, ?_, ?_⟩
      · rw [b10]; rfl
      · show upd (upd (μ.1 9) g 0) (10 + g) 0 140 = nI (a 0 8)
        rw [up_ne (by omega), up_ne (by omega)]; exact hM.rg
      · intro i hi; rw [b10] at hi; exact hM.ki i (by omega)
      · intro i hi; rw [b10] at hi; exact hM.pl i (by omega)
      · intro i hi; rw [b10] at hi; exact hM.ye i (by omega)
      · intro i hi
        show upd (upd (μ.1 9) g 0) (10 + g) 0 i = nI (aO a 5 i)
        rw [b5, up_ne (by omega)]
        by_cases q : i = g
        · rw [if_pos q, q, up_eq]; rfl
        · rw [if_neg q, up_ne q]; exact hM.he i hi
      · intro i hi
        show upd (upd (μ.1 9) g 0) (10 + g) 0 (10 + i) = nI (aO a 6 i)
        rw [b6]
        by_cases q : i = g
        · rw [if_pos q, q, up_eq]; rfl
        · rw [if_neg q, up_ne (by omega), up_ne (by omega)]; exact hM.wg i hi
      · intro i n hi hn hb
        rw [b10] at hi
        rw [b5, if_neg (by omega)] at hb
        show upd (upd (μ.1 9) g 0) (10 + g) 0 (20 + (12 * i + n)) = nI (a 7 (12 * i + n))
        rw [up_ne (by omega), up_ne (by omega)]
        exact hM.si i n (by omega) hn hb
      · intro t h1 h2; exact absurd (Nat.le_trans h1 h2) (show ¬ (1 : Nat) ≤ 0 by decide)
      · intro t h1 h2; exact absurd (Nat.le_trans h1 h2) (show ¬ (1 : Nat) ≤ 0 by decide)
      · intro t h1 h2; exact absurd (Nat.le_trans h1 h2) (show ¬ (1 : Nat) ≤ 0 by decide)
      · intro t h1 h2; exact absurd (Nat.le_trans h1 h2) (show ¬ (1 : Nat) ≤ 0 by decide)

