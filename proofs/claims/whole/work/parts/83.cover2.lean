/-! ===== the class's search ===== -/
def LstC (h : Nat → Nat) (τ : St) (pl : Nat → Nat) (sz : Nat) : Prop := τ.1 62 0 = nI sz ∧ sz ≤ 36 ∧ ∀ u, u < sz → τ.1 63 u = nI (pl u) ∧ τ.1 64 u = nI (h (pl u))
def fd0 (τ : St) : St := wr τ 62 3 0
def fd1 (τ : St) (p : Nat) : St := wr (wr τ 62 3 1) 65 0 (nI p)
def fd2 (τ : St) (p q : Nat) : St := wr (wr (wr τ 62 3 2) 65 0 (nI p)) 65 1 (nI q)
def fd3 (τ : St) (p q r : Nat) : St := wr (wr (wr (wr τ 62 3 3) 65 0 (nI p)) 65 1 (nI q)) 65 2 (nI r)
theorem gd3_0 : ((0 : Int32) < 0 ∨ 3 ≤ ix 0) = False := eq_false (by decide)
theorem gd3_1 : ((1 : Int32) < 0 ∨ 3 ≤ ix 1) = False := eq_false (by decide)
theorem gd3_2 : ((2 : Int32) < 0 ∨ 3 ≤ ix 2) = False := eq_false (by decide)
theorem found0 (τ : St) (x y w : Int32) : f_X0_isFound τ 0 x y w = some (1, fd0 τ) := by
  unfold f_X0_isFound f_X0_isFound_b21 f_X0_isFound_b38
  simp only [sq]
  rw [if_pos (by decide), if_pos (by decide), if_pos (by decide)]
  rfl
theorem found1 {h : Nat → Nat} {τ : St} {pl : Nat → Nat} {sz : Nat} (L : LstC h τ pl sz) {i : Nat} (hi : i < sz) (y w : Int32) : f_X0_isFound τ 1 (nI i) y w = some (1, fd1 τ (pl i)) := by
  have hs := L.2.1
  unfold f_X0_isFound f_X0_isFound_b21 f_X0_isFound_b38
  simp only [sq, gd3_0, ix_nI (show i < 2 ^ 31 by omega), ok2 (show i < 36 by omega) (show i < 2 ^ 31 by omega), if_false]
  rw [if_neg (by decide), if_pos (by decide), if_pos (by decide), wr_ne (by decide), (L.2.2 i hi).1]
  rfl
theorem found2 {h : Nat → Nat} {τ : St} {pl : Nat → Nat} {sz : Nat} (L : LstC h τ pl sz) {i j : Nat} (hi : i < sz) (hj : j < sz) (w : Int32) : f_X0_isFound τ 2 (nI i) (nI j) w = some (1, fd2 τ (pl i) (pl j)) := by
  have hs := L.2.1
  unfold f_X0_isFound f_X0_isFound_b21 f_X0_isFound_b38
  simp only [sq, gd3_0, gd3_1, ix_nI (show i < 2 ^ 31 by omega), ok2 (show i < 36 by omega) (show i < 2 ^ 31 by omega), ix_nI (show j < 2 ^ 31 by omega), ok2 (show j < 36 by omega) (show j < 2 ^ 31 by omega), if_false]
  rw [if_neg (by decide), if_neg (by decide), if_pos (by decide), wr_ne (by decide), (L.2.2 i hi).1, wr_ne (by decide), wr_ne (by decide), (L.2.2 j hj).1]
  rfl
theorem found3 {h : Nat → Nat} {τ : St} {pl : Nat → Nat} {sz : Nat} (L : LstC h τ pl sz) {i j k : Nat} (hi : i < sz) (hj : j < sz) (hk : k < sz) : f_X0_isFound τ 3 (nI i) (nI j) (nI k) = some (1, fd3 τ (pl i) (pl j) (pl k)) := by
  have hs := L.2.1
  unfold f_X0_isFound f_X0_isFound_b21 f_X0_isFound_b38
  simp only [sq, gd3_0, gd3_1, gd3_2, ix_nI (show i < 2 ^ 31 by omega), ok2 (show i < 36 by omega) (show i < 2 ^ 31 by omega), ix_nI (show j < 2 ^ 31 by omega), ok2 (show j < 36 by omega) (show j < 2 ^ 31 by omega), ix_nI (show k < 2 ^ 31 by omega), ok2 (show k < 36 by omega) (show k < 2 ^ 31 by omega), if_false]
  rw [if_neg (by decide), if_neg (by decide), if_neg (by decide), wr_ne (by decide), (L.2.2 i hi).1, wr_ne (by decide), wr_ne (by decide), (L.2.2 j hj).1, wr_ne (by decide), wr_ne (by decide), wr_ne (by decide), (L.2.2 k hk).1]
  rfl
theorem n11 : ¬ ¬ (1 : Int32) &&& 1 = 1 := by decide
theorem sc_one {h : Nat → Nat} {ok : Nat → Bool} {z : Nat} {τ : St} {pl : Nat → Nat} {sz : Nat} (L : LstC h τ pl sz) (hok : ∀ u, u < sz → ok (pl u) = true) (hh : ∀ p, h p < 1024) (hz : z < 1024) : ∀ (k i m : Nat), i + k = sz → k < m → (∃ u, i ≤ u ∧ u < sz ∧ Q1 h ok z (pl u) ∧ (∀ u', i ≤ u' → u' < u → ¬ Q1 h ok z (pl u')) ∧ f_X0_searchOne_h2 (nI z) m (nI i) τ = some (1, fd1 τ (pl u))) ∨ ((∀ u, i ≤ u → u < sz → ¬ Q1 h ok z (pl u)) ∧ f_X0_searchOne_h2 (nI z) m (nI i) τ = some (0, τ)) := by
  have hs := L.2.1
  intro k
  induction k with
  | zero =>
    intro i m h1 h2
    obtain ⟨m, rfl⟩ : ∃ m', m = m' + 1 := ⟨m - 1, by omega⟩
    refine Or.inr ⟨fun u h3 h4 => by omega, ?_⟩
    rw [f_X0_searchOne_h2, L.1, if_pos (by rw [nI_leE (by omega) (by omega)]; omega)]
  | succ k ih =>
    intro i m h1 h2
    obtain ⟨m, rfl⟩ : ∃ m', m = m' + 1 := ⟨m - 1, by omega⟩
    have hi : i < sz := by omega
    have hle := andn_le z (h (pl i))
    rw [f_X0_searchOne_h2, L.1, if_neg (by rw [nI_leE (by omega) (by omega)]; omega)]
    simp only [ix_nI (show i < 2 ^ 31 by omega), ok2 (show i < 36 by omega) (show i < 2 ^ 31 by omega), if_false, (L.2.2 i hi).2, nI_andn, sq, nI_s]
    by_cases e : andn z (h (pl i)) = 0
    · rw [if_pos (by rw [e]; rfl), found1 L hi]
      simp only [bdp]
      rw [if_neg n11]
      exact Or.inl ⟨i, Nat.le_refl _, hi, ⟨hok i hi, e⟩, fun u' h3 h4 => by omega, rfl⟩
    · rw [if_neg (by rw [nI_eq0 (by omega)]; exact e)]
      rcases ih (i + 1) m (by omega) (by omega) with ⟨u, a1, a2, a3, a4, a5⟩ | ⟨a1, a2⟩
      · refine Or.inl ⟨u, by omega, a2, a3, fun u' h3 h4 => ?_, a5⟩
        by_cases q : u' = i
        · rw [q]; exact fun c => e c.2
        · exact a4 u' (by omega) h4
      · refine Or.inr ⟨fun u h3 h4 => ?_, a2⟩
        by_cases q : u = i
        · rw [q]; exact fun c => e c.2
        · exact a1 u (by omega) h4
theorem sc_two1 {h : Nat → Nat} {ok : Nat → Bool} {z : Nat} {τ : St} {pl : Nat → Nat} {sz : Nat} (L : LstC h τ pl sz) (hok : ∀ u, u < sz → ok (pl u) = true) (hh : ∀ p, h p < 1024) (hz : z < 1024) {i : Nat} (hi : i < sz) (rec2 : Int32 → St → Option (Int32 × St)) (x : Int32) : ∀ (k j m : Nat), j + k = sz → k < m → (∃ v, j ≤ v ∧ v < sz ∧ Q2 h ok z (pl i) (pl v) ∧ (∀ v', j ≤ v' → v' < v → ¬ Q2 h ok z (pl i) (pl v')) ∧ f_X0_searchTwo_h26 rec2 x m (nI i) (nI (andn z (h (pl i)))) (nI j) τ = some (1, fd2 τ (pl i) (pl v))) ∨ ((∀ v, j ≤ v → v < sz → ¬ Q2 h ok z (pl i) (pl v)) ∧ f_X0_searchTwo_h26 rec2 x m (nI i) (nI (andn z (h (pl i)))) (nI j) τ = rec2 (nI (i + 1)) τ) := by
  have hs := L.2.1
  intro k
  induction k with
  | zero =>
    intro j m h1 h2
    obtain ⟨m, rfl⟩ : ∃ m', m = m' + 1 := ⟨m - 1, by omega⟩
    refine Or.inr ⟨fun u h3 h4 => by omega, ?_⟩
    rw [f_X0_searchTwo_h26, L.1, if_pos (by rw [nI_leE (by omega) (by omega)]; omega)]
    simp only [sq, nI_s]
  | succ k ih =>
    intro j m h1 h2
    obtain ⟨m, rfl⟩ : ∃ m', m = m' + 1 := ⟨m - 1, by omega⟩
    have hj : j < sz := by omega
    have h3 := hh (pl i)
    have hle := andn_le z (h (pl i))
    have hle2 := andn_le (andn z (h (pl i))) (h (pl j))
    have hle3 : h (pl i) &&& h (pl j) ≤ h (pl i) := Nat.and_le_left
    rw [f_X0_searchTwo_h26, L.1, if_neg (by rw [nI_leE (by omega) (by omega)]; omega)]
    simp only [ix_nI (show i < 2 ^ 31 by omega), ok2 (show i < 36 by omega) (show i < 2 ^ 31 by omega), ix_nI (show j < 2 ^ 31 by omega), ok2 (show j < 36 by omega) (show j < 2 ^ 31 by omega), if_false, (L.2.2 i hi).2, (L.2.2 j hj).2, nI_and, nI_andn, sq, nI_s, nI_eq0 (show h (pl i) &&& h (pl j) < 2 ^ 31 by omega), nI_eq0 (show andn (andn z (h (pl i))) (h (pl j)) < 2 ^ 31 by omega)]
    have go : ¬ Q2 h ok z (pl i) (pl j) → (∃ v, j ≤ v ∧ v < sz ∧ Q2 h ok z (pl i) (pl v) ∧ (∀ v', j ≤ v' → v' < v → ¬ Q2 h ok z (pl i) (pl v')) ∧ f_X0_searchTwo_h26 rec2 x m (nI i) (nI (andn z (h (pl i)))) (nI (j + 1)) τ = some (1, fd2 τ (pl i) (pl v))) ∨ ((∀ v, j ≤ v → v < sz → ¬ Q2 h ok z (pl i) (pl v)) ∧ f_X0_searchTwo_h26 rec2 x m (nI i) (nI (andn z (h (pl i)))) (nI (j + 1)) τ = rec2 (nI (i + 1)) τ) := fun e => by
      rcases ih (j + 1) m (by omega) (by omega) with ⟨u, a1, a2, a3, a4, a5⟩ | ⟨a1, a2⟩
      · refine Or.inl ⟨u, by omega, a2, a3, fun u' h3 h4 => ?_, a5⟩
        by_cases q : u' = j
        · rw [q]; exact e
        · exact a4 u' (by omega) h4
      · refine Or.inr ⟨fun u h3 h4 => ?_, a2⟩
        by_cases q : u = j
        · rw [q]; exact e
        · exact a1 u (by omega) h4
    by_cases c1 : h (pl i) &&& h (pl j) = 0
    · rw [if_pos c1]
      by_cases c2 : andn (andn z (h (pl i))) (h (pl j)) = 0
      · rw [if_pos c2, found2 L hi hj]
        simp only [bdp]
        rw [if_neg n11]
        exact Or.inl ⟨j, Nat.le_refl _, hj, ⟨⟨hok i hi, hok j hj, c1⟩, c2⟩, fun u' h3 h4 => by omega, rfl⟩
      · rw [if_neg c2]
        exact go (fun d => c2 d.2)
    · rw [if_neg c1]
      exact go (fun d => c1 d.1.2.2)
theorem sc_two {h : Nat → Nat} {ok : Nat → Bool} {z : Nat} {τ : St} {pl : Nat → Nat} {sz : Nat} (L : LstC h τ pl sz) (hok : ∀ u, u < sz → ok (pl u) = true) (hh : ∀ p, h p < 1024) (hz : z < 1024) : ∀ (k i m : Nat), i + k = sz → k < m → (∃ u v, i ≤ u ∧ u < v ∧ v < sz ∧ Q2 h ok z (pl u) (pl v) ∧ (∀ u' v', i ≤ u' → u' < v' → v' < sz → (u' < u ∨ (u' = u ∧ v' < v)) → ¬ Q2 h ok z (pl u') (pl v')) ∧ f_X0_searchTwo_h2 (nI z) m (nI i) τ = some (1, fd2 τ (pl u) (pl v))) ∨ ((∀ u v, i ≤ u → u < v → v < sz → ¬ Q2 h ok z (pl u) (pl v)) ∧ f_X0_searchTwo_h2 (nI z) m (nI i) τ = some (0, τ)) := by
  have hs := L.2.1
  intro k
  induction k with
  | zero =>
    intro i m h1 h2
    obtain ⟨m, rfl⟩ : ∃ m', m = m' + 1 := ⟨m - 1, by omega⟩
    refine Or.inr ⟨fun u v h3 h4 h5 => by omega, ?_⟩
    rw [f_X0_searchTwo_h2, L.1, if_pos (by rw [nI_leE (by omega) (by omega)]; omega)]
  | succ k ih =>
    intro i m h1 h2
    obtain ⟨m, rfl⟩ : ∃ m', m = m' + 1 := ⟨m - 1, by omega⟩
    have hi : i < sz := by omega
    rw [f_X0_searchTwo_h2, L.1, if_neg (by rw [nI_leE (by omega) (by omega)]; omega)]
    simp only [ix_nI (show i < 2 ^ 31 by omega), ok2 (show i < 36 by omega) (show i < 2 ^ 31 by omega), if_false, (L.2.2 i hi).2, nI_andn, sq, nI_s]
    rcases sc_two1 L hok hh hz hi (f_X0_searchTwo_h2 (nI z) m) (nI z) k (i + 1) FU (by omega) (by unfold FU; omega) with ⟨v, a1, a2, a3, a4, a5⟩ | ⟨a1, a2⟩
    · refine Or.inl ⟨i, v, Nat.le_refl _, by omega, a2, a3, fun u' v' h3 h4 h5 h6 => ?_, a5⟩
      have : u' = i := by omega
      subst this
      exact a4 v' (by omega) (by omega)
    · rw [a2]
      rcases ih (i + 1) m (by omega) (by omega) with ⟨u, v, b1, b2, b3, b4, b5, b6⟩ | ⟨b1, b2⟩
      · refine Or.inl ⟨u, v, by omega, b2, b3, b4, fun u' v' h3 h4 h5 h6 => ?_, b6⟩
        by_cases q : u' = i
        · rw [q]; exact a1 v' (by omega) h5
        · exact b5 u' v' (by omega) h4 h5 h6
      · refine Or.inr ⟨fun u v h3 h4 h5 => ?_, b2⟩
        by_cases q : u = i
        · rw [q]; exact a1 v (by omega) h5
        · exact b1 u v (by omega) h4 h5
theorem or_and0 {x y w : Nat} : ((x ||| y) &&& w = 0) = (x &&& w = 0 ∧ y &&& w = 0) := by
  apply propext
  constructor
  · intro e
    constructor
    · apply Nat.eq_of_testBit_eq
      intro i
      have e' := congrArg (fun q => q.testBit i) e
      simp only [Nat.testBit_and, Nat.testBit_or, Nat.zero_testBit] at e' ⊢
      cases hx : x.testBit i <;> cases hw : w.testBit i <;> simp [hx, hw] at e' ⊢
    · apply Nat.eq_of_testBit_eq
      intro i
      have e' := congrArg (fun q => q.testBit i) e
      simp only [Nat.testBit_and, Nat.testBit_or, Nat.zero_testBit] at e' ⊢
      cases hy : y.testBit i <;> cases hw : w.testBit i <;> simp [hy, hw] at e' ⊢
  · intro ⟨e1, e2⟩
    apply Nat.eq_of_testBit_eq
    intro i
    have e1' := congrArg (fun q => q.testBit i) e1
    have e2' := congrArg (fun q => q.testBit i) e2
    simp only [Nat.testBit_and, Nat.testBit_or, Nat.zero_testBit] at e1' e2' ⊢
    cases hw : w.testBit i
    · rw [Bool.and_false]
    · rw [hw, Bool.and_true] at e1' e2'
      rw [e1', e2']
      rfl
theorem andn_or (z x y w : Nat) : andn z ((x ||| y) ||| w) = andn (andn (andn z x) y) w := by
  apply Nat.eq_of_testBit_eq
  intro i
  simp only [andn_bit, Nat.testBit_or]
  cases z.testBit i <;> cases x.testBit i <;> cases y.testBit i <;> cases w.testBit i <;> rfl
theorem sc_th1 {h : Nat → Nat} {ok : Nat → Bool} {z : Nat} {τ : St} {pl : Nat → Nat} {sz : Nat} (L : LstC h τ pl sz) (hok : ∀ u, u < sz → ok (pl u) = true) (hh : ∀ p, h p < 1024) (hz : z < 1024) {i j : Nat} (hi : i < sz) (hj : j < sz) (hij : h (pl i) &&& h (pl j) = 0) (rec2 : Int32 → St → Option (Int32 × St)) (rec14 : Int32 → Int32 → St → Option (Int32 × St)) : ∀ (k w m : Nat), w + k = sz → k < m → (∃ v, w ≤ v ∧ v < sz ∧ Q3 h ok z (pl i) (pl j) (pl v) ∧ (∀ v', w ≤ v' → v' < v → ¬ Q3 h ok z (pl i) (pl j) (pl v')) ∧ f_X0_searchThree_h61 rec2 rec14 (nI z) m (nI i) (nI j) (nI (h (pl i) ||| h (pl j))) (nI w) τ = some (1, fd3 τ (pl i) (pl j) (pl v))) ∨ ((∀ v, w ≤ v → v < sz → ¬ Q3 h ok z (pl i) (pl j) (pl v)) ∧ f_X0_searchThree_h61 rec2 rec14 (nI z) m (nI i) (nI j) (nI (h (pl i) ||| h (pl j))) (nI w) τ = rec14 (nI i) (nI (j + 1)) τ) := by
  have hs := L.2.1
  intro k
  induction k with
  | zero =>
    intro w m h1 h2
    obtain ⟨m, rfl⟩ : ∃ m', m = m' + 1 := ⟨m - 1, by omega⟩
    refine Or.inr ⟨fun u h3 h4 => by omega, ?_⟩
    rw [f_X0_searchThree_h61, L.1, if_pos (by rw [nI_leE (by omega) (by omega)]; omega)]
    simp only [sq, nI_s]
  | succ k ih =>
    intro w m h1 h2
    obtain ⟨m, rfl⟩ : ∃ m', m = m' + 1 := ⟨m - 1, by omega⟩
    have hw : w < sz := by omega
    have h3 := hh (pl w)
    have hle := andn_le z ((h (pl i) ||| h (pl j)) ||| h (pl w))
    have hle3 : (h (pl i) ||| h (pl j)) &&& h (pl w) ≤ h (pl w) := Nat.and_le_right
    rw [f_X0_searchThree_h61, L.1, if_neg (by rw [nI_leE (by omega) (by omega)]; omega)]
    simp only [ix_nI (show w < 2 ^ 31 by omega), ok2 (show w < 36 by omega) (show w < 2 ^ 31 by omega), if_false, (L.2.2 w hw).2, nI_and, nI_or, nI_andn, sq, nI_s, nI_eq0 (show (h (pl i) ||| h (pl j)) &&& h (pl w) < 2 ^ 31 by omega), nI_eq0 (show andn z ((h (pl i) ||| h (pl j)) ||| h (pl w)) < 2 ^ 31 by omega)]
    simp only [or_and0, andn_or]
    have go : ¬ Q3 h ok z (pl i) (pl j) (pl w) → (∃ v, w ≤ v ∧ v < sz ∧ Q3 h ok z (pl i) (pl j) (pl v) ∧ (∀ v', w ≤ v' → v' < v → ¬ Q3 h ok z (pl i) (pl j) (pl v')) ∧ f_X0_searchThree_h61 rec2 rec14 (nI z) m (nI i) (nI j) (nI (h (pl i) ||| h (pl j))) (nI (w + 1)) τ = some (1, fd3 τ (pl i) (pl j) (pl v))) ∨ ((∀ v, w ≤ v → v < sz → ¬ Q3 h ok z (pl i) (pl j) (pl v)) ∧ f_X0_searchThree_h61 rec2 rec14 (nI z) m (nI i) (nI j) (nI (h (pl i) ||| h (pl j))) (nI (w + 1)) τ = rec14 (nI i) (nI (j + 1)) τ) := fun e => by
      rcases ih (w + 1) m (by omega) (by omega) with ⟨u, a1, a2, a3, a4, a5⟩ | ⟨a1, a2⟩
      · refine Or.inl ⟨u, by omega, a2, a3, fun u' h3 h4 => ?_, a5⟩
        by_cases q : u' = w
        · rw [q]; exact e
        · exact a4 u' (by omega) h4
      · refine Or.inr ⟨fun u h3 h4 => ?_, a2⟩
        by_cases q : u = w
        · rw [q]; exact e
        · exact a1 u (by omega) h4
    by_cases c1 : h (pl i) &&& h (pl w) = 0 ∧ h (pl j) &&& h (pl w) = 0
    · rw [if_pos c1]
      by_cases c2 : andn (andn (andn z (h (pl i))) (h (pl j))) (h (pl w)) = 0
      · rw [if_pos c2, found3 L hi hj hw]
        simp only [bdp]
        rw [if_neg n11]
        exact Or.inl ⟨w, Nat.le_refl _, hw, ⟨⟨hok i hi, hok j hj, hij⟩, ⟨hok i hi, hok w hw, c1.1⟩, ⟨hok j hj, hok w hw, c1.2⟩, c2⟩, fun u' h3 h4 => by omega, rfl⟩
      · rw [if_neg c2]
        exact go (fun d => c2 d.2.2.2)
    · rw [if_neg c1]
      exact go (fun d => c1 ⟨d.2.1.2.2, d.2.2.1.2.2⟩)
theorem sc_th2 {h : Nat → Nat} {ok : Nat → Bool} {z : Nat} {τ : St} {pl : Nat → Nat} {sz : Nat} (L : LstC h τ pl sz) (hok : ∀ u, u < sz → ok (pl u) = true) (hh : ∀ p, h p < 1024) (hz : z < 1024) {i : Nat} (hi : i < sz) (rec2 : Int32 → St → Option (Int32 × St)) : ∀ (k j m : Nat), j + k = sz → k < m → (∃ v w, j ≤ v ∧ v < w ∧ w < sz ∧ Q3 h ok z (pl i) (pl v) (pl w) ∧ (∀ v' w', j ≤ v' → v' < w' → w' < sz → (v' < v ∨ (v' = v ∧ w' < w)) → ¬ Q3 h ok z (pl i) (pl v') (pl w')) ∧ f_X0_searchThree_h14 rec2 (nI z) m (nI i) (nI j) τ = some (1, fd3 τ (pl i) (pl v) (pl w))) ∨ ((∀ v w, j ≤ v → v < w → w < sz → ¬ Q3 h ok z (pl i) (pl v) (pl w)) ∧ f_X0_searchThree_h14 rec2 (nI z) m (nI i) (nI j) τ = rec2 (nI (i + 1)) τ) := by
  have hs := L.2.1
  intro k
  induction k with
  | zero =>
    intro j m h1 h2
    obtain ⟨m, rfl⟩ : ∃ m', m = m' + 1 := ⟨m - 1, by omega⟩
    refine Or.inr ⟨fun u v h3 h4 h5 => by omega, ?_⟩
    rw [f_X0_searchThree_h14, L.1, if_pos (by rw [nI_leE (by omega) (by omega)]; omega)]
    simp only [sq, nI_s]
  | succ k ih =>
    intro j m h1 h2
    obtain ⟨m, rfl⟩ : ∃ m', m = m' + 1 := ⟨m - 1, by omega⟩
    have hj : j < sz := by omega
    have h3 := hh (pl i)
    have hle3 : h (pl i) &&& h (pl j) ≤ h (pl i) := Nat.and_le_left
    rw [f_X0_searchThree_h14, L.1, if_neg (by rw [nI_leE (by omega) (by omega)]; omega)]
    simp only [ix_nI (show i < 2 ^ 31 by omega), ok2 (show i < 36 by omega) (show i < 2 ^ 31 by omega), ix_nI (show j < 2 ^ 31 by omega), ok2 (show j < 36 by omega) (show j < 2 ^ 31 by omega), if_false, (L.2.2 i hi).2, (L.2.2 j hj).2, nI_and, nI_or, sq, nI_s, nI_eq0 (show h (pl i) &&& h (pl j) < 2 ^ 31 by omega)]
    have go : (∀ w, j < w → w < sz → ¬ Q3 h ok z (pl i) (pl j) (pl w)) → (∃ v w, j ≤ v ∧ v < w ∧ w < sz ∧ Q3 h ok z (pl i) (pl v) (pl w) ∧ (∀ v' w', j ≤ v' → v' < w' → w' < sz → (v' < v ∨ (v' = v ∧ w' < w)) → ¬ Q3 h ok z (pl i) (pl v') (pl w')) ∧ f_X0_searchThree_h14 rec2 (nI z) m (nI i) (nI (j + 1)) τ = some (1, fd3 τ (pl i) (pl v) (pl w))) ∨ ((∀ v w, j ≤ v → v < w → w < sz → ¬ Q3 h ok z (pl i) (pl v) (pl w)) ∧ f_X0_searchThree_h14 rec2 (nI z) m (nI i) (nI (j + 1)) τ = rec2 (nI (i + 1)) τ) := fun a1 => by
      rcases ih (j + 1) m (by omega) (by omega) with ⟨u, v, b1, b2, b3, b4, b5, b6⟩ | ⟨b1, b2⟩
      · refine Or.inl ⟨u, v, by omega, b2, b3, b4, fun u' v' h3 h4 h5 h6 => ?_, b6⟩
        by_cases q : u' = j
        · rw [q]; exact a1 v' (by omega) h5
        · exact b5 u' v' (by omega) h4 h5 h6
      · refine Or.inr ⟨fun u v h3 h4 h5 => ?_, b2⟩
        by_cases q : u = j
        · rw [q]; exact a1 v (by omega) h5
        · exact b1 u v (by omega) h4 h5
    by_cases c1 : h (pl i) &&& h (pl j) = 0
    · rw [if_pos c1]
      rcases sc_th1 L hok hh hz hi hj c1 rec2 (f_X0_searchThree_h14 rec2 (nI z) m) k (j + 1) FU (by omega) (by unfold FU; omega) with ⟨v, a1, a2, a3, a4, a5⟩ | ⟨a1, a2⟩
      · refine Or.inl ⟨j, v, Nat.le_refl _, by omega, a2, a3, fun u' v' h3 h4 h5 h6 => ?_, a5⟩
        have : u' = j := by omega
        subst this
        exact a4 v' (by omega) (by omega)
      · rw [a2]
        exact go (fun w h3 h4 => a1 w (by omega) h4)
    · rw [if_neg c1]
      exact go (fun w _ _ d => c1 d.1.2.2)
theorem sc_three {h : Nat → Nat} {ok : Nat → Bool} {z : Nat} {τ : St} {pl : Nat → Nat} {sz : Nat} (L : LstC h τ pl sz) (hok : ∀ u, u < sz → ok (pl u) = true) (hh : ∀ p, h p < 1024) (hz : z < 1024) : ∀ (k i m : Nat), i + k = sz → k < m → (∃ u v w, i ≤ u ∧ u < v ∧ v < w ∧ w < sz ∧ Q3 h ok z (pl u) (pl v) (pl w) ∧ (∀ u' v' w', i ≤ u' → u' < v' → v' < w' → w' < sz → (u' < u ∨ (u' = u ∧ (v' < v ∨ (v' = v ∧ w' < w)))) → ¬ Q3 h ok z (pl u') (pl v') (pl w')) ∧ f_X0_searchThree_h2 (nI z) m (nI i) τ = some (1, fd3 τ (pl u) (pl v) (pl w))) ∨ ((∀ u v w, i ≤ u → u < v → v < w → w < sz → ¬ Q3 h ok z (pl u) (pl v) (pl w)) ∧ f_X0_searchThree_h2 (nI z) m (nI i) τ = some (0, τ)) := by
  have hs := L.2.1
  intro k
  induction k with
  | zero =>
    intro i m h1 h2
    obtain ⟨m, rfl⟩ : ∃ m', m = m' + 1 := ⟨m - 1, by omega⟩
    refine Or.inr ⟨fun u v w h3 h4 h5 => by omega, ?_⟩
    rw [f_X0_searchThree_h2, L.1, if_pos (by rw [nI_leE (by omega) (by omega)]; omega)]
  | succ k ih =>
    intro i m h1 h2
    obtain ⟨m, rfl⟩ : ∃ m', m = m' + 1 := ⟨m - 1, by omega⟩
    have hi : i < sz := by omega
    rw [f_X0_searchThree_h2, L.1, if_neg (by rw [nI_leE (by omega) (by omega)]; omega)]
    simp only [sq, nI_s]
    rcases sc_th2 L hok hh hz hi (f_X0_searchThree_h2 (nI z) m) k (i + 1) FU (by omega) (by unfold FU; omega) with ⟨v, w, a1, a2, a3, a4, a5, a6⟩ | ⟨a1, a2⟩
    · refine Or.inl ⟨i, v, w, Nat.le_refl _, by omega, a2, a3, a4, fun u' v' w' h3 h4 h5 h6 h7 => ?_, a6⟩
      have : u' = i := by omega
      subst this
      exact a5 v' w' (by omega) h5 h6 (by omega)
    · rw [a2]
      rcases ih (i + 1) m (by omega) (by omega) with ⟨u, v, w, b1, b2, b3, b4, b5, b6, b7⟩ | ⟨b1, b2⟩
      · refine Or.inl ⟨u, v, w, by omega, b2, b3, b4, b5, fun u' v' w' h3 h4 h5 h6 h7 => ?_, b7⟩
        by_cases q : u' = i
        · rw [q]; exact a1 v' w' (by omega) h5 h6
        · exact b6 u' v' w' (by omega) h4 h5 h6 h7
      · refine Or.inr ⟨fun u v w h3 h4 h5 h6 => ?_, b2⟩
        by_cases q : u = i
        · rw [q]; exact a1 v w (by omega) h5 h6
        · exact b1 u v w (by omega) h4 h5 h6
