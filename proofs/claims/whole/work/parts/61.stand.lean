def lackN (a : Nat → Nat → Nat) (n : Nat) : Nat := bsN (fun i => arB a i n) (a 1 0)
theorem lack_lt {a : Nat → Nat → Nat} (I : Inv a) (n : Nat) : lackN a n < 1024 := bs10 I _
theorem lack_M {a : Nat → Nat → Nat} {μ : St} (I : Inv a) (h : MA a (ul μ)) {n : Nat} (hn : n < a 8 0) : f_X7_lacking μ (nI n) = some (nI (lackN a n)) := by
  have h10 := I.gs
  have h12 := I.ps
  have key : ∀ (k i m : Nat), i + k = a 1 0 → k < m → f_X7_lacking_h4 μ (nI n) m (nI (bsN (fun i => arB a i n) i)) (nI i) = some (nI (bsN (fun i => arB a i n) (a 1 0))) := by
    intro k
    induction k with
    | zero =>
      intro i m h1 h2
      obtain ⟨m, rfl⟩ : ∃ m', m = m' + 1 := ⟨m - 1, by omega⟩
      rw [f_X7_lacking_h4]
      rw [mL_gs h, if_pos (by rw [nI_leE (by omega) (by omega)]; omega)]
      have : i = a 1 0 := by omega
      subst this
      rfl
    | succ k ih =>
      intro i m h1 h2
      obtain ⟨m, rfl⟩ : ∃ m', m = m' + 1 := ⟨m - 1, by omega⟩
      rw [f_X7_lacking_h4]
      have hi : i < a 1 0 := by omega
      have hl := arr_lt I i
      rw [mL_gs h, if_neg (by rw [nI_leE (by omega) (by omega)]; omega)]
      have e := ih (i + 1) m (by omega) (by omega)
      simp only [sq, nI_s, bdr, b01, arrears_M I h hi, f_X7_lacking_b32, has_M0 (show arrN a i < 2 ^ 31 by omega) (show n < 31 by omega), arr_bit hn]
      cases hb : arB a i n
      · rw [if_pos rfl, or_z]
        rw [bsN_f (fun i => arB a i n) hb] at e
        exact e
      · rw [if_neg (by decide), bsN_t (fun i => arB a i n) (by omega) hb]
        exact e
  exact key (a 1 0) 0 FU (by omega) (by unfold FU; omega)
theorem lack_C {a : Nat → Nat → Nat} {σ : St} (I : Inv a) (h : CA a (vw σ 1)) {n : Nat} (hn : n < a 8 0) : f_X3_inArrearsOf σ (nI n) = some (nI (lackN a n)) := by
  unfold f_X3_inArrearsOf
  rw [owBy_C I h hn, hdOf_C I h hn]
  simp only [bdr, nI_andn]
  congr 2
  refine andn_bs _ _ _ _ (fun i hi => ?_)
  show (owB a i n && !(a 5 i).testBit n) = (owB a i n && !(hdOfN a n).testBit i)
  unfold hdOfN
  rw [bsN_bit]
  simp [hi]
/-! the first place that has P -/
def fstN (P : Nat → Bool) : Nat → Nat → Int32
  | _, 0 => -4
  | i, k + 1 => if P i then nI i else fstN P (i + 1) k
theorem alone_C {a : Nat → Nat → Nat} {σ : St} (I : Inv a) (h : CA a (vw σ 1)) {r j : Nat} (hr : r < a 0 2) (hj : j < a 1 0) : f_X6_alone_h21 σ (nI r) (nI j) FU 0 = some (fstN (fun s => decide (hearN a r s (a 0 4) = 2 ^ j)) 0 36) := by
  have h10 := I.gs
  have h12 := I.ps
  have hwi := I.wi
  have key : ∀ (k i m : Nat), i + k = 36 → k < m → f_X6_alone_h21 σ (nI r) (nI j) m (nI i) = some (fstN (fun s => decide (hearN a r s (a 0 4) = 2 ^ j)) i k) := by
    intro k
    induction k with
    | zero =>
      intro i m h1 h2
      obtain ⟨m, rfl⟩ : ∃ m', m = m' + 1 := ⟨m - 1, by omega⟩
      rw [f_X6_alone_h21]
      rw [if_pos (by rw [show (36 : Int32) = nI 36 from rfl, nI_leE (by omega) (by omega)]; omega)]
      rfl
    | succ k ih =>
      intro i m h1 h2
      obtain ⟨m, rfl⟩ : ∃ m', m = m' + 1 := ⟨m - 1, by omega⟩
      rw [f_X6_alone_h21]
      rw [if_neg (by rw [show (36 : Int32) = nI 36 from rfl, nI_leE (by omega) (by omega)]; omega), cL_wi h, hearers_C I h hr (show i < 36 by omega) (show a 0 4 < 5 by omega), isl_1 (show j < 31 by omega)]
      have e := ih (i + 1) m (by omega) (by omega)
      have hl := hearN_lt I r i (a 0 4)
      have hp : 2 ^ j < 2 ^ 31 := Nat.pow_lt_pow_right (by decide) (by omega)
      simp only [sq, bdr, nI_s, nI_eqE (show hearN a r i (a 0 4) < 2 ^ 31 by omega) hp, fstN]
      by_cases q : hearN a r i (a 0 4) = 2 ^ j
      · rw [if_pos q, if_pos (by simp [q])]
      · rw [if_neg q, if_neg (by simp [q])]; exact e
  exact key 36 0 FU (by omega) (by unfold FU; omega)
theorem alone_M {a : Nat → Nat → Nat} {μ : St} (I : Inv a) (h : MA a (ul μ)) {r j : Nat} (hr : r < a 0 2) (hj : j < a 1 0) : f_X7_alone_h21 μ (nI r) (nI j) FU 0 = some (fstN (fun s => decide (hearN a r s (a 0 4) = 2 ^ j)) 0 36) := by
  have h10 := I.gs
  have h12 := I.ps
  have hwi := I.wi
  have key : ∀ (k i m : Nat), i + k = 36 → k < m → f_X7_alone_h21 μ (nI r) (nI j) m (nI i) = some (fstN (fun s => decide (hearN a r s (a 0 4) = 2 ^ j)) i k) := by
    intro k
    induction k with
    | zero =>
      intro i m h1 h2
      obtain ⟨m, rfl⟩ : ∃ m', m = m' + 1 := ⟨m - 1, by omega⟩
      rw [f_X7_alone_h21]
      rw [if_pos (by rw [show (36 : Int32) = nI 36 from rfl, nI_leE (by omega) (by omega)]; omega)]
      rfl
    | succ k ih =>
      intro i m h1 h2
      obtain ⟨m, rfl⟩ : ∃ m', m = m' + 1 := ⟨m - 1, by omega⟩
      rw [f_X7_alone_h21]
      rw [if_neg (by rw [show (36 : Int32) = nI 36 from rfl, nI_leE (by omega) (by omega)]; omega), mL_wi h, hearers_M I h hr (show i < 36 by omega) (show a 0 4 < 5 by omega), isl_1 (show j < 31 by omega)]
      have e := ih (i + 1) m (by omega) (by omega)
      have hl := hearN_lt I r i (a 0 4)
      have hp : 2 ^ j < 2 ^ 31 := Nat.pow_lt_pow_right (by decide) (by omega)
      simp only [sq, bdr, nI_s, nI_eqE (show hearN a r i (a 0 4) < 2 ^ 31 by omega) hp, fstN]
      by_cases q : hearN a r i (a 0 4) = 2 ^ j
      · rw [if_pos q, if_pos (by simp [q])]
      · rw [if_neg q, if_neg (by simp [q])]; exact e
  exact key 36 0 FU (by omega) (by unfold FU; omega)
def hidN (b : Nat → Bool) : Nat → Nat → Int64 → Int64
  | _, 0, v => v
  | i, k + 1, v => hidN b (i + 1) k (if b i then v ||| lsl 1 (nI i) else v)
theorem hidden_C {a : Nat → Nat → Nat} {σ : St} (I : Inv a) (h : CA a (vw σ 1)) {r x : Nat} (hr : r < a 0 2) : f_X6_hidden_h26 σ (nI r) (nI x) FU 0 0 = some (hidN (fun s => decide (hearN a r s (a 0 4) &&& x = 0)) 0 36 0) := by
  have h10 := I.gs
  have h12 := I.ps
  have hwi := I.wi
  have key : ∀ (k i m : Nat) (v : Int64), i + k = 36 → k < m → f_X6_hidden_h26 σ (nI r) (nI x) m v (nI i) = some (hidN (fun s => decide (hearN a r s (a 0 4) &&& x = 0)) i k v) := by
    intro k
    induction k with
    | zero =>
      intro i m v h1 h2
      obtain ⟨m, rfl⟩ : ∃ m', m = m' + 1 := ⟨m - 1, by omega⟩
      rw [f_X6_hidden_h26]
      rw [if_pos (by rw [show (36 : Int32) = nI 36 from rfl, nI_leE (by omega) (by omega)]; omega)]
      rfl
    | succ k ih =>
      intro i m v h1 h2
      obtain ⟨m, rfl⟩ : ∃ m', m = m' + 1 := ⟨m - 1, by omega⟩
      rw [f_X6_hidden_h26]
      rw [if_neg (by rw [show (36 : Int32) = nI 36 from rfl, nI_leE (by omega) (by omega)]; omega), cL_wi h, hearers_C I h hr (show i < 36 by omega) (show a 0 4 < 5 by omega)]
      have e := ih (i + 1) m (if decide (hearN a r i (a 0 4) &&& x = 0) then v ||| lsl 1 (nI i) else v) (by omega) (by omega)
      have hl := hearN_lt I r i (a 0 4)
      have hp : hearN a r i (a 0 4) &&& x ≤ hearN a r i (a 0 4) := Nat.and_le_left
      simp only [sq, bdr, nI_s, nI_and, nI_eq0 (show hearN a r i (a 0 4) &&& x < 2 ^ 31 by omega), hidN]
      by_cases q : hearN a r i (a 0 4) &&& x = 0
      · rw [if_pos q]; simp only [q, decide_true, if_true] at e ⊢; exact e
      · rw [if_neg q]; simp only [q, decide_false, if_false, Bool.false_eq_true] at e ⊢; exact e
  exact key 36 0 FU 0 (by omega) (by unfold FU; omega)
theorem hidden_M {a : Nat → Nat → Nat} {μ : St} (I : Inv a) (h : MA a (ul μ)) {r x : Nat} (hr : r < a 0 2) : f_X7_hidden_h26 μ (nI r) (nI x) FU 0 0 = some (hidN (fun s => decide (hearN a r s (a 0 4) &&& x = 0)) 0 36 0) := by
  have h10 := I.gs
  have h12 := I.ps
  have hwi := I.wi
  have key : ∀ (k i m : Nat) (v : Int64), i + k = 36 → k < m → f_X7_hidden_h26 μ (nI r) (nI x) m v (nI i) = some (hidN (fun s => decide (hearN a r s (a 0 4) &&& x = 0)) i k v) := by
    intro k
    induction k with
    | zero =>
      intro i m v h1 h2
      obtain ⟨m, rfl⟩ : ∃ m', m = m' + 1 := ⟨m - 1, by omega⟩
      rw [f_X7_hidden_h26]
      rw [if_pos (by rw [show (36 : Int32) = nI 36 from rfl, nI_leE (by omega) (by omega)]; omega)]
      rfl
    | succ k ih =>
      intro i m v h1 h2
      obtain ⟨m, rfl⟩ : ∃ m', m = m' + 1 := ⟨m - 1, by omega⟩
      rw [f_X7_hidden_h26]
      rw [if_neg (by rw [show (36 : Int32) = nI 36 from rfl, nI_leE (by omega) (by omega)]; omega), mL_wi h, hearers_M I h hr (show i < 36 by omega) (show a 0 4 < 5 by omega)]
      have e := ih (i + 1) m (if decide (hearN a r i (a 0 4) &&& x = 0) then v ||| lsl 1 (nI i) else v) (by omega) (by omega)
      have hl := hearN_lt I r i (a 0 4)
      have hp : hearN a r i (a 0 4) &&& x ≤ hearN a r i (a 0 4) := Nat.and_le_left
      simp only [sq, bdr, nI_s, nI_and, nI_eq0 (show hearN a r i (a 0 4) &&& x < 2 ^ 31 by omega), f_X7_hidden_b58, Int64.or_zero, hidN]
      by_cases q : hearN a r i (a 0 4) &&& x = 0
      · rw [if_pos q]; simp only [q, decide_true, if_true] at e ⊢; exact e
      · rw [if_neg q]; simp only [q, decide_false, if_false, Bool.false_eq_true] at e ⊢; exact e
  exact key 36 0 FU 0 (by omega) (by unfold FU; omega)
theorem op30 : Op30 RR := by
  intro σ nw μ hR x y
  obtain ⟨⟨a, I, hC, hM⟩, -⟩ := id hR
  have hrd := I.rd
  have h10 := I.gs
  unfold f_X6_alone f_X7_alone
  simp only [isReader_C0 I hC, isReader_M0 I hM, isGrave_C0 I hC, isGrave_M0 I hM, toL_T]
  by_cases v1 : 0 ≤ x.toInt ∧ x.toInt < a 0 2
  · by_cases v2 : 0 ≤ y.toInt ∧ y.toInt < a 1 0
    · obtain ⟨r, hr, rfl⟩ := nI_ofR (n := a 0 2) v1 (by omega)
      obtain ⟨j, hj, rfl⟩ := nI_ofR (n := a 1 0) v2 (by omega)
      simp only [not_not_intro v1, not_not_intro v2, if_false, alone_C I hC hr hj, alone_M I hM hr hj]
      exact ⟨_, rfl, rfl, hR⟩
    · simp only [if_pos v2, ite_self]
      exact ⟨_, rfl, rfl, hR⟩
  · simp only [if_pos v1]
    exact ⟨_, rfl, rfl, hR⟩
theorem op29 : Op29 RR := by
  intro σ nw μ hR x y
  obtain ⟨⟨a, I, hC, hM⟩, -⟩ := id hR
  have hrd := I.rd
  have h10 := I.gs
  have hpw : 2 ^ a 1 0 < 2 ^ 31 := Nat.pow_lt_pow_right (by decide) (by omega)
  unfold f_X6_hidden f_X7_hidden
  simp only [isReader_C0 I hC, isReader_M0 I hM, isGraveSet_C0 I hC, areGraves_M0 I hM, toL_T]
  by_cases v1 : 0 ≤ x.toInt ∧ x.toInt < a 0 2
  · by_cases v2 : 0 ≤ y.toInt ∧ y.toInt < (2 ^ a 1 0 : Nat)
    · obtain ⟨r, hr, rfl⟩ := nI_ofR (n := a 0 2) v1 (by omega)
      obtain ⟨z, hz, rfl⟩ := nI_ofR (n := 2 ^ a 1 0) v2 hpw
      simp only [not_not_intro v1, not_not_intro v2, if_false, hidden_C I hC hr, hidden_M I hM hr]
      exact ⟨_, rfl, rfl, hR⟩
    · simp only [if_pos v2, ite_self]
      exact ⟨_, rfl, rfl, hR⟩
  · simp only [if_pos v1]
    exact ⟨_, rfl, rfl, hR⟩
/-! the best place to stand -/
def stN (c : Nat → Nat) (w : Nat → Bool) : Nat → Nat → Int32 → Nat → Int32
  | _, 0, b, _ => b
  | i, k + 1, b, q => if c i ≤ q then stN c w (i + 1) k b q else if w i then stN c w (i + 1) k b q else stN c w (i + 1) k (nI i) (c i)
def stC (a : Nat → Nat → Nat) (r z s : Nat) : Nat := pcN (hearN a r s (a 0 4) &&& z)
def stW (a : Nat → Nat → Nat) (r n s : Nat) : Bool := decide (wrN a (hearN a r s (a 0 4)) (a 5) n ≠ 0)
theorem stand_C {a : Nat → Nat → Nat} {σ : St} (I : Inv a) (h : CA a (vw σ 1)) {r n z : Nat} (hr : r < a 0 2) (hn : n < a 8 0) : f_X6_stand_h39 σ (nI r) (nI n) FU (nI z) (-4) 0 0 = some (stN (stC a r z) (stW a r n) 0 36 (-4) 0) := by
  have h10 := I.gs
  have h12 := I.ps
  have hwi := I.wi
  have key : ∀ (k i m : Nat) (b : Int32) (q : Nat), q < 2 ^ 31 → i + k = 36 → k < m → f_X6_stand_h39 σ (nI r) (nI n) m (nI z) b (nI q) (nI i) = some (stN (stC a r z) (stW a r n) i k b q) := by
    intro k
    induction k with
    | zero =>
      intro i m b q hq h1 h2
      obtain ⟨m, rfl⟩ : ∃ m', m = m' + 1 := ⟨m - 1, by omega⟩
      rw [f_X6_stand_h39]
      rw [if_pos (by rw [show (36 : Int32) = nI 36 from rfl, nI_leE (by omega) (by omega)]; omega)]
      rfl
    | succ k ih =>
      intro i m b q hq h1 h2
      obtain ⟨m, rfl⟩ : ∃ m', m = m' + 1 := ⟨m - 1, by omega⟩
      rw [f_X6_stand_h39]
      have hi : i < 36 := by omega
      have hl := hearN_lt I r i (a 0 4)
      have hp : hearN a r i (a 0 4) &&& z ≤ hearN a r i (a 0 4) := Nat.and_le_left
      have hand : hearN a r i (a 0 4) &&& z < 4096 := by omega
      have hpc : pcN (hearN a r i (a 0 4) &&& z) ≤ 12 := (pc_of hand).2.2
      have hwr : wrN a (hearN a r i (a 0 4)) (a 5) n < 1024 := bs10 I _
      rw [if_neg (by rw [show (36 : Int32) = nI 36 from rfl, nI_leE (by omega) (by omega)]; omega), cL_wi h, hearers_C I h hr hi (show a 0 4 < 5 by omega)]
      simp only [sq, bdr, nI_s, nI_and, (pc_of hand).2.1, wrongedOf_C I h hn (show hearN a r i (a 0 4) < 2 ^ 31 by omega)]
      simp only [nI_leE (show pcN (hearN a r i (a 0 4) &&& z) < 2 ^ 31 by omega) hq, nI_eq0 (show wrN a (hearN a r i (a 0 4)) (a 5) n < 2 ^ 31 by omega), stN]
      by_cases q1 : pcN (hearN a r i (a 0 4) &&& z) ≤ q
      · rw [if_pos q1, if_pos (show stC a r z i ≤ q from q1)]; exact ih (i + 1) m b q hq (by omega) (by omega)
      · rw [if_neg q1, if_neg (show ¬ stC a r z i ≤ q from q1)]
        by_cases q2 : wrN a (hearN a r i (a 0 4)) (a 5) n = 0
        · rw [if_pos q2, if_neg (show ¬ stW a r n i = true by unfold stW; simp [q2])]; exact ih (i + 1) m (nI i) (stC a r z i) (show pcN _ < 2 ^ 31 by omega) (by omega) (by omega)
        · rw [if_neg q2, if_pos (show stW a r n i = true by unfold stW; simp [q2])]; exact ih (i + 1) m b q hq (by omega) (by omega)
  exact key 36 0 FU (-4) 0 (by decide) (by omega) (by unfold FU; omega)
theorem stand_M {a : Nat → Nat → Nat} {μ : St} (I : Inv a) (h : MA a (ul μ)) {r n z : Nat} (hr : r < a 0 2) (hn : n < a 8 0) : f_X7_stand_h36 μ (nI r) (nI n) FU (-4) 0 (nI z) 0 = some (stN (stC a r z) (stW a r n) 0 36 (-4) 0) := by
  have h10 := I.gs
  have h12 := I.ps
  have hwi := I.wi
  have key : ∀ (k i m : Nat) (b : Int32) (q : Nat), q < 2 ^ 31 → i + k = 36 → k < m → f_X7_stand_h36 μ (nI r) (nI n) m b (nI q) (nI z) (nI i) = some (stN (stC a r z) (stW a r n) i k b q) := by
    intro k
    induction k with
    | zero =>
      intro i m b q hq h1 h2
      obtain ⟨m, rfl⟩ : ∃ m', m = m' + 1 := ⟨m - 1, by omega⟩
      rw [f_X7_stand_h36]
      rw [if_pos (by rw [show (36 : Int32) = nI 36 from rfl, nI_leE (by omega) (by omega)]; omega)]
      rfl
    | succ k ih =>
      intro i m b q hq h1 h2
      obtain ⟨m, rfl⟩ : ∃ m', m = m' + 1 := ⟨m - 1, by omega⟩
      rw [f_X7_stand_h36]
      have hi : i < 36 := by omega
      have hl := hearN_lt I r i (a 0 4)
      have hp : hearN a r i (a 0 4) &&& z ≤ hearN a r i (a 0 4) := Nat.and_le_left
      have hand : hearN a r i (a 0 4) &&& z < 4096 := by omega
      have hpc : pcN (hearN a r i (a 0 4) &&& z) ≤ 12 := (pc_of hand).2.2
      have hwr : wrN a (hearN a r i (a 0 4)) (a 5) n < 1024 := bs10 I _
      rw [if_neg (by rw [show (36 : Int32) = nI 36 from rfl, nI_leE (by omega) (by omega)]; omega), mL_wi h, hearers_M I h hr hi (show a 0 4 < 5 by omega)]
      simp only [sq, bdr, nI_s, nI_and, (pc_of hand).1, wrongedBy_M I h hr hi hn]
      simp only [nI_leE (show pcN (hearN a r i (a 0 4) &&& z) < 2 ^ 31 by omega) hq, nI_eq0 (show wrN a (hearN a r i (a 0 4)) (a 5) n < 2 ^ 31 by omega), stN]
      by_cases q1 : pcN (hearN a r i (a 0 4) &&& z) ≤ q
      · rw [if_pos q1, if_pos (show stC a r z i ≤ q from q1)]; exact ih (i + 1) m b q hq (by omega) (by omega)
      · rw [if_neg q1, if_neg (show ¬ stC a r z i ≤ q from q1)]
        by_cases q2 : wrN a (hearN a r i (a 0 4)) (a 5) n = 0
        · rw [if_pos q2, if_neg (show ¬ stW a r n i = true by unfold stW; simp [q2])]; exact ih (i + 1) m (nI i) (stC a r z i) (show pcN _ < 2 ^ 31 by omega) (by omega) (by omega)
        · rw [if_neg q2, if_pos (show stW a r n i = true by unfold stW; simp [q2])]; exact ih (i + 1) m b q hq (by omega) (by omega)
  exact key 36 0 FU (-4) 0 (by decide) (by omega) (by unfold FU; omega)
theorem op21 : Op21 RR := by
  intro σ nw μ hR x y
  obtain ⟨⟨a, I, hC, hM⟩, -⟩ := id hR
  have hrd := I.rd
  have hps := I.ps
  unfold f_X6_stand f_X7_stand
  simp only [isReader_C0 I hC, isReader_M0 I hM, isNews_C0 I hC, isNews_M0 I hM, toL_T]
  by_cases v1 : 0 ≤ x.toInt ∧ x.toInt < a 0 2
  · by_cases v2 : 0 ≤ y.toInt ∧ y.toInt < a 8 0
    · obtain ⟨r, hr, rfl⟩ := nI_ofR (n := a 0 2) v1 (by omega)
      obtain ⟨n, hn, rfl⟩ := nI_ofR (n := a 8 0) v2 (by omega)
      simp only [not_not_intro v1, not_not_intro v2, if_false, lack_C I hC hn, lack_M I hM hn, bdr, stand_C I hC hr hn, stand_M I hM hr hn]
      exact ⟨_, rfl, rfl, hR⟩
    · simp only [if_pos v2, ite_self]
      exact ⟨_, rfl, rfl, hR⟩
  · simp only [if_pos v1]
    exact ⟨_, rfl, rfl, hR⟩

