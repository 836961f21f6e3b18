/-! ===== lanes: Int64 by its bits ===== -/
def bL (x : Int64) (i : Nat) : Bool := x.toBitVec.getLsbD i
theorem bL_ext {x y : Int64} (h : ∀ i, i < 64 → bL x i = bL y i) : x = y := Int64.toBitVec_inj.mp (BitVec.eq_of_getLsbD_eq (fun i hi => h i hi))
theorem sL_l : ∀ n, n < 64 → (((nI n).toInt64 &&& 63).toBitVec.smod 64).toNat = n := by decide +kernel
theorem bL_shl {n : Nat} (hn : n < 64) (x : Int64) {i : Nat} (hi : i < 64) : bL (lsl x (nI n)) i = (decide (n ≤ i) && bL x (i - n)) := by
  unfold bL lsl
  rw [Int64.toBitVec_shiftLeft]
  show (x.toBitVec <<< (((nI n).toInt64 &&& 63).toBitVec.smod 64).toNat).getLsbD i = _
  rw [sL_l n hn, BitVec.getLsbD_shiftLeft]
  rcases Nat.lt_or_ge i n with h | h
  · simp [h, Nat.not_le.mpr h]
  · simp [hi, h, Nat.not_lt.mpr h]
theorem bL_shr {n : Nat} (hn : n < 64) (x : Int64) {i : Nat} (hi : i < 64) : bL (lsr x (nI n)) i = if n + i < 64 then bL x (n + i) else bL x 63 := by
  unfold bL lsr
  rw [Int64.toBitVec_shiftRight]
  show (x.toBitVec.sshiftRight (((nI n).toInt64 &&& 63).toBitVec.smod 64).toNat).getLsbD i = _
  rw [sL_l n hn, BitVec.getLsbD_sshiftRight, BitVec.msb_eq_getLsbD_last]
  simp [hi]
theorem bL_cut {n : Nat} (hn : n < 64) (x : Int64) {i : Nat} (hi : i < 64) : bL (lsr (lsl x (nI n)) (nI n)) i = if n + i < 64 then bL x i else bL x (63 - n) := by
  rw [bL_shr hn _ hi]
  by_cases h : n + i < 64
  · rw [if_pos h, if_pos h, bL_shl hn x h, decide_eq_true (by omega), show n + i - n = i by omega, Bool.true_and]
  · rw [if_neg h, if_neg h, bL_shl hn x (by decide), decide_eq_true (by omega), Bool.true_and]
theorem bL_wide (y : Int32) {i : Nat} (hi : i < 64) : bL y.toInt64 i = if i < 32 then y.toBitVec.getLsbD i else y.toBitVec.getLsbD 31 := by
  show (y.toBitVec.signExtend 64).getLsbD i = _
  rw [BitVec.getLsbD_signExtend, BitVec.msb_eq_getLsbD_last, decide_eq_true hi, Bool.true_and]
theorem bt_nar (x : Int64) {i : Nat} (hi : i < 32) : x.toInt32.toBitVec.getLsbD i = bL x i := by
  show (x.toBitVec.signExtend 32).getLsbD i = _
  rw [BitVec.getLsbD_signExtend, decide_eq_true hi, if_pos (by omega), Bool.true_and]
  rfl
theorem bt_b (y : Int32) {i : Nat} (hi : i < 32) : y.toInt8.toInt32.toBitVec.getLsbD i = if i < 8 then y.toBitVec.getLsbD i else y.toBitVec.getLsbD 7 := by
  show ((y.toBitVec.signExtend 8).signExtend 32).getLsbD i = _
  rw [BitVec.getLsbD_signExtend, BitVec.msb_eq_getLsbD_last, decide_eq_true hi, Bool.true_and]
  by_cases h : i < 8
  · rw [if_pos h, if_pos h, BitVec.getLsbD_signExtend, decide_eq_true h, if_pos (by omega), Bool.true_and]
  · rw [if_neg h, if_neg h, BitVec.getLsbD_signExtend, decide_eq_true (by decide), if_pos (by decide), Bool.true_and]
theorem bt_s (y : Int32) {i : Nat} (hi : i < 32) : y.toInt16.toInt32.toBitVec.getLsbD i = if i < 16 then y.toBitVec.getLsbD i else y.toBitVec.getLsbD 15 := by
  show ((y.toBitVec.signExtend 16).signExtend 32).getLsbD i = _
  rw [BitVec.getLsbD_signExtend, BitVec.msb_eq_getLsbD_last, decide_eq_true hi, Bool.true_and]
  by_cases h : i < 16
  · rw [if_pos h, if_pos h, BitVec.getLsbD_signExtend, decide_eq_true h, if_pos (by omega), Bool.true_and]
  · rw [if_neg h, if_neg h, BitVec.getLsbD_signExtend, decide_eq_true (by decide), if_pos (by decide), Bool.true_and]
theorem cut8 (x : Int64) : lsr (lsl x 56) 56 = (x.toInt32.toInt8.toInt32).toInt64 := by
  apply bL_ext
  intro i hi
  rw [show (56 : Int32) = nI 56 from rfl, bL_cut (by decide) x hi, bL_wide _ hi]
  by_cases h : i < 32
  · rw [if_pos h, bt_b _ h]
    by_cases h2 : i < 8
    · rw [if_pos h2, if_pos (by omega), bt_nar x h]
    · rw [if_neg h2, if_neg (by omega), bt_nar x (by decide)]
  · rw [if_neg (show ¬ 56 + i < 64 by omega), if_neg h, bt_b _ (by decide), if_neg (by decide), bt_nar x (by decide)]
theorem cut16 (x : Int64) : lsr (lsl x 48) 48 = (x.toInt32.toInt16.toInt32).toInt64 := by
  apply bL_ext
  intro i hi
  rw [show (48 : Int32) = nI 48 from rfl, bL_cut (by decide) x hi, bL_wide _ hi]
  by_cases h : i < 32
  · rw [if_pos h, bt_s _ h]
    by_cases h2 : i < 16
    · rw [if_pos h2, if_pos (by omega), bt_nar x h]
    · rw [if_neg h2, if_neg (by omega), bt_nar x (by decide)]
  · rw [if_neg (show ¬ 48 + i < 64 by omega), if_neg h, bt_s _ (by decide), if_neg (by decide), bt_nar x (by decide)]
theorem cut32 (x : Int64) : lsr (lsl x 32) 32 = (x.toInt32).toInt64 := by
  apply bL_ext
  intro i hi
  rw [show (32 : Int32) = nI 32 from rfl, bL_cut (by decide) x hi, bL_wide _ hi]
  by_cases h : i < 32
  · rw [if_pos h, if_pos (by omega), bt_nar x h]
  · rw [if_neg h, if_neg (by omega), bt_nar x (by decide)]
theorem cut_as {σ : St} {j l : Nat} (hl : l < 4) (h : σ.1 (53 + 2 * j) 1 = nI l) (v : Int64) : f_X4_cut_sh σ j v = f_X7_asLane (nI l) v := by
  unfold f_X4_cut_sh f_X7_asLane
  rw [h, cut8, cut16, cut32]
/-! ===== the sheets ===== -/
theorem RR.shs {σ σ' μ μ' : St} {nw : Nat} (h : RR σ nw μ) (fc : ∀ c, c < 53 → σ'.1 c = σ.1 c) (gm : ∀ c, c < 17 → μ'.1 c = μ.1 c) (hs : Rsh σ' μ') : RR σ' nw μ' := by
  obtain ⟨-, -, ht, -, hn⟩ := id h
  exact h.oth (fun c hc => fc c (by omega)) (fun f _ _ _ => by rw [gm 0 (by decide)]) (fun c _ _ => gm c (by omega)) (gm 16 (by decide)) (ht.fr (by rw [fc 37 (by decide)]) (fc 38 (by decide)) (by rw [gm 0 (by decide)]) (gm 11 (by decide))) hs hn
theorem Rsh1.fr {σ σ' μ μ' : St} {j : Nat} (h : Rsh1 σ μ j) (f1 : σ'.1 (53 + 2 * j) = σ.1 (53 + 2 * j)) (f2 : σ'.2 (54 + 2 * j) = σ.2 (54 + 2 * j)) (g17 : μ'.1 17 j = μ.1 17 j) (g18 : μ'.1 18 j = μ.1 18 j) (g19 : ∀ i, i < 36 → μ'.2 19 (36 * j + i) = μ.2 19 (36 * j + i)) : Rsh1 σ' μ' j := by
  unfold Rsh1 at h ⊢
  rw [f1, f2, g17, g18]
  rcases h with h | ⟨h1, l, n, hl, hn, a1, a2, a3, a4, a5⟩
  · exact Or.inl h
  · exact Or.inr ⟨h1, l, n, hl, hn, a1, a2, a3, a4, fun i hi => by rw [g19 i hi]; exact a5 i hi⟩
theorem isSheet_C0 (x : Int32) : (f_X6_isSheet x = 0) = ¬ (0 ≤ x.toInt ∧ x.toInt < 4) := set_C0 (n := 4) (by decide) x
theorem isLane_C0 (x : Int32) : (f_X6_isLane x = 0) = ¬ (0 ≤ x.toInt ∧ x.toInt < 4) := set_C0 (n := 4) (by decide) x
theorem in03 (x : Int32) : (f_X7_in x.toInt64 0 3 = 0) = ¬ (0 ≤ x.toInt ∧ x.toInt < 4) := by
  rw [in_0, toL_T, show (0 : Int64).toInt = 0 by decide, show (3 : Int64).toInt = 3 by decide]
  exact propext ⟨fun h => by omega, fun h => by omega⟩
theorem isSheet_M0 (x y : Int32) : (f_X7_isSheet x y = 0) = ¬ ((0 ≤ x.toInt ∧ x.toInt < 4) ∧ (0 ≤ y.toInt ∧ y.toInt < 4)) := by
  unfold f_X7_isSheet
  simp only [in03]
  by_cases c1 : 0 ≤ x.toInt ∧ x.toInt < 4
  · by_cases c2 : 0 ≤ y.toInt ∧ y.toInt < 4
    · simp [c1, c2]
    · simp [c1, c2]
  · simp [c1]
theorem refuse {σ μ : St} {j : Nat} (h : Rsh1 σ μ j) (hj : j < 4) {l w : Nat} (hl : l < 4) (hw : w ≤ 36) (x : Int32) : ∃ r : Int32, f_X6_refusalOfItems σ (nI j) (nI l) x (nI w) = some r ∧ f_X7_lacksRow μ (nI j) (nI l) x (nI w) = some r ∧ (r = 0 ∨ r = -11 ∨ r = -12 ∨ r = -13) ∧ (r = 0 → σ.1 (53 + 2 * j) 0 = 1 ∧ σ.1 (53 + 2 * j) 1 = nI l ∧ μ.1 17 j = nI l ∧ (∀ i, i < 36 → σ.2 (54 + 2 * j) i = μ.2 19 (36 * j + i)) ∧ ∃ n o, n ≤ 36 ∧ σ.1 (53 + 2 * j) 2 = nI n ∧ μ.1 18 j = nI n ∧ x = nI o ∧ o + w ≤ n) := by
  unfold f_X6_refusalOfItems f_X7_lacksRow
  simp only [isSheet_C0, isLane_C0, lit_T j (show j < 2 ^ 31 by omega), lit_T l (show l < 2 ^ 31 by omega), ix_nI (show j < 2 ^ 31 by omega), ok2 hj (show j < 2 ^ 31 by omega), if_false]
  rw [if_neg (by omega), if_neg (by omega)]
  rcases h with ⟨h1, h2⟩ | ⟨h1, l', n, hl', hn, a1, a2, a3, a4, a5⟩
  · rw [h1, h2, if_pos (by rfl), if_neg (show ¬ (-1 : Int32) = nI l from fun e => by
      have := congrArg Int32.toInt e
      rw [lit_T l (by omega), show (-1 : Int32).toInt = -1 by decide] at this
      omega), if_neg (by decide)]
    exact ⟨-11, rfl, rfl, Or.inr (Or.inl rfl), fun e => absurd e (by decide)⟩
  · rw [h1, a1, a2, if_neg (by decide)]
    simp only [nI_eqE (show l' < 2 ^ 31 by omega) (show l < 2 ^ 31 by omega), nI_ge0 (show l' < 2 ^ 31 by omega), if_true]
    by_cases q : l' = l
    · subst q
      rw [if_pos rfl, if_pos rfl, a4]
      unfold f_X4_reaches_sh
      rw [a3]
      have e : (nI n - nI w).toInt = (n : Int) - w := pk_sub_toInt (by omega) (by omega)
      simp only [in_0, toL_T, lt_T, T_0, e, lit_T w (show w < 2 ^ 31 by omega), show (0 : Int64).toInt = 0 by decide]
      by_cases v : 0 ≤ x.toInt ∧ x.toInt ≤ (n : Int) - w
      · rw [if_neg (show ¬ x.toInt < 0 by omega), if_neg (show ¬ (w : Int) < 0 by omega), if_neg (show ¬ (n : Int) - w < x.toInt by omega), if_neg (by decide), if_neg (not_not_intro v)]
        obtain ⟨o, ho, rfl⟩ := nI_ofR (n := 37) (x := x) ⟨v.1, by omega⟩ (by decide)
        rw [lit_T o (by omega)] at v
        exact ⟨0, rfl, rfl, Or.inl rfl, fun _ => ⟨trivial, trivial, trivial, a5, n, o, hn, rfl, rfl, rfl, by omega⟩⟩
      · rw [if_pos v]
        refine ⟨-13, ?_, rfl, Or.inr (Or.inr (Or.inr rfl)), fun e => absurd e (by decide)⟩
        rw [if_pos]
        (repeat' split) <;> first | rfl | (exfalso; omega)
    · rw [if_neg q, if_neg q]
      exact ⟨-12, rfl, rfl, Or.inr (Or.inr (Or.inl rfl)), fun e => absurd e (by decide)⟩
theorem ref_bad {σ : St} {x y z w : Int32} (h : ¬ ((0 ≤ x.toInt ∧ x.toInt < 4) ∧ (0 ≤ y.toInt ∧ y.toInt < 4))) : f_X6_refusalOfItems σ x y z w = some (-1) := by
  unfold f_X6_refusalOfItems
  simp only [isSheet_C0, isLane_C0]
  by_cases c1 : 0 ≤ x.toInt ∧ x.toInt < 4
  · rw [if_neg (not_not_intro c1), if_pos (fun c2 => h ⟨c1, c2⟩)]
  · rw [if_pos c1]

