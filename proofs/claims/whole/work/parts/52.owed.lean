/-! ===== who hears, what is owed: both sides come to one number ===== -/
def farN (s p w : Nat) : Nat := ix (f_X7_far (nI s) (nI p) (nI w))
theorem far_tab : ∀ s, s < 36 → ∀ p, p < 36 → ∀ w, w < 5 → (f_X7_far (nI s) (nI p) (nI w) = nI (farN s p w) ∧ f_X3_farFrom (nI s) (nI p) (nI w) = nI (farN s p w)) ∧ farN s p w < 12 := by decide +kernel
def hrB (k f r w : Nat) : Bool := if k = 3 then false else if k = 1 then decide (f + 1 ≤ r) else if k = 4 then (decide (w ≠ 3) && decide (f + 1 ≤ r)) else decide (f ≤ r)
theorem kh_tab : ∀ k, k < 6 → ∀ f, f < 12 → ∀ r, r < 10 → ∀ w, w < 5 → f_X3_kindHears (nI k) (nI f) (nI r) (nI w) = nI (if hrB k f r w then 1 else 0) := by decide +kernel
def ho47 (f v6 : Int32) : Int32 := if v6 < 0 then 0 else (if v6 < f then 0 else 1)
def ho27 (f x4 v5 t0 : Int32) : Int32 := if v5 = 3 then 0 else (if v5 = 4 then (if x4 = 3 then 0 else ho47 f t0) else ho47 f t0)
def hoI (y1 x2 f x4 : Int32) : Int32 := if y1 = 1 then ho27 f x4 y1 (x2 - 1) else (if y1 = 4 then ho27 f x4 y1 (x2 - 1) else ho27 f x4 y1 x2)
theorem ho_tab : ∀ k, k < 6 → ∀ f, f < 12 → ∀ r, r < 10 → ∀ w, w < 5 → hoI (nI k) (nI r) (nI f) (nI w) = nI (if hrB k f r w then 1 else 0) := by decide +kernel
/-- grave i hears a reader of reach r at s in wind w -/
def hearB (a : Nat → Nat → Nat) (r s w i : Nat) : Bool := hrB (a 2 i) (farN s (a 3 i) w) (a 13 r) w
def hearN (a : Nat → Nat → Nat) (r s w : Nat) : Nat := bsN (hearB a r s w) (a 1 0)
theorem hearN_lt {a : Nat → Nat → Nat} (I : Inv a) (r s w : Nat) : hearN a r s w < 1024 := Nat.lt_of_lt_of_le (bsN_lt _ _) (Nat.pow_le_pow_right (n := 2) (by decide) I.gs)
theorem b01 (b : Bool) : (nI (if b then 1 else 0) = 0) = (b = false) := by cases b <;> decide
theorem hearsOne_M {a : Nat → Nat → Nat} {μ : St} (I : Inv a) (h : MA a (ul μ)) {r s w i : Nat} (hr : r < a 0 2) (hs : s < 36) (hw : w < 5) (hi : i < a 1 0) : f_X7_hearsOne μ (nI i) (nI (a 13 r)) (nI s) (nI w) = some (nI (if hearB a r s w i then 1 else 0)) := by
  have h10 := I.gs
  obtain ⟨hk, hp, hy⟩ := I.gr i hi
  have hrc := I.rc r hr
  obtain ⟨⟨hf, -⟩, hfl⟩ := far_tab s hs (a 3 i) hp w hw
  have key : f_X7_hearsOne μ (nI i) (nI (a 13 r)) (nI s) (nI w) = some (hoI (nI (a 2 i)) (nI (a 13 r)) (nI (farN s (a 3 i) w)) (nI w)) := by
    unfold f_X7_hearsOne f_X7_hearsOne_b20 f_X7_hearsOne_b27 f_X7_hearsOne_b47
    simp only [ok2 (show i < 10 by omega) (show i < 2 ^ 31 by omega), if_false, ix_nI (show i < 2 ^ 31 by omega), mL_ki h i hi, mL_pl h i hi, hf, sq]
    unfold hoI ho27 ho47
    repeat' split
    all_goals rfl
  rw [key, ho_tab (a 2 i) (by omega) _ hfl (a 13 r) (by omega) w hw]
  rfl
theorem hearers_M {a : Nat → Nat → Nat} {μ : St} (I : Inv a) (h : MA a (ul μ)) {r s w : Nat} (hr : r < a 0 2) (hs : s < 36) (hw : w < 5) : f_X7_hearers μ (nI r) (nI s) (nI w) = some (nI (hearN a r s w)) := by
  have h10 := I.gs
  have hrd := I.rd
  have key : ∀ (k i m : Nat), i + k = a 1 0 → k < m → f_X7_hearers_h6 μ (nI r) (nI s) (nI w) m (nI (bsN (hearB a r s w) i)) (nI i) = some (nI (hearN a r s w)) := by
    intro k
    induction k with
    | zero =>
      intro i m h1 h2
      obtain ⟨m, rfl⟩ : ∃ m', m = m' + 1 := ⟨m - 1, by omega⟩
      rw [f_X7_hearers_h6, mL_gs h]
      rw [if_pos (by rw [nI_leE (by omega) (by omega)]; omega)]
      have : i = a 1 0 := by omega
      subst this
      rfl
    | succ k ih =>
      intro i m h1 h2
      obtain ⟨m, rfl⟩ : ∃ m', m = m' + 1 := ⟨m - 1, by omega⟩
      have hi : i < a 1 0 := by omega
      rw [f_X7_hearers_h6, mL_gs h]
      rw [if_neg (by rw [nI_leE (by omega) (by omega)]; omega)]
      simp only [ok2 (show r < 4 by omega) (show r < 2 ^ 31 by omega), if_false, ix_nI (show r < 2 ^ 31 by omega), mL_rc h r hr, hearsOne_M I h hr hs hw hi, bdr, f_X7_hearers_b42, sq, b01, nI_s]
      cases hb : hearB a r s w i
      · rw [if_pos rfl]
        have e := ih (i + 1) m (by omega) (by omega)
        rw [bsN_f _ hb] at e
        rw [show nI (bsN (hearB a r s w) i) ||| 0 = nI (bsN (hearB a r s w) i) by rw [show (0 : Int32) = nI 0 from rfl, nI_or, Nat.or_zero]]
        exact e
      · rw [if_neg (by decide), bsN_t _ (by omega) hb]
        exact ih (i + 1) m (by omega) (by omega)
  exact key (a 1 0) 0 FU (by omega) (by unfold FU; omega)
theorem hearers_C {a : Nat → Nat → Nat} {σ : St} (I : Inv a) (h : CA a (vw σ 1)) {r s w : Nat} (hr : r < a 0 2) (hs : s < 36) (hw : w < 5) : f_X3_hearers σ (nI r) (nI s) (nI w) = some (nI (hearN a r s w)) := by
  have h10 := I.gs
  have hrd := I.rd
  have key : ∀ (k i m : Nat), i + k = a 1 0 → k < m → f_X3_hearers_h6 σ (nI r) (nI s) (nI w) m (nI (bsN (hearB a r s w) i)) (nI i) = some (nI (hearN a r s w)) := by
    intro k
    induction k with
    | zero =>
      intro i m h1 h2
      obtain ⟨m, rfl⟩ : ∃ m', m = m' + 1 := ⟨m - 1, by omega⟩
      rw [f_X3_hearers_h6, cL_gs h]
      rw [if_pos (by rw [nI_leE (by omega) (by omega)]; omega)]
      have : i = a 1 0 := by omega
      subst this
      rfl
    | succ k ih =>
      intro i m h1 h2
      obtain ⟨m, rfl⟩ : ∃ m', m = m' + 1 := ⟨m - 1, by omega⟩
      have hi : i < a 1 0 := by omega
      obtain ⟨hk, hp, hy⟩ := I.gr i hi
      have hrc := I.rc r hr
      obtain ⟨⟨-, hf⟩, hfl⟩ := far_tab s hs (a 3 i) hp w hw
      rw [f_X3_hearers_h6, cL_gs h]
      rw [if_neg (by rw [nI_leE (by omega) (by omega)]; omega)]
      simp only [ok2 (show i < 10 by omega) (show i < 2 ^ 31 by omega), if_false, ok2 (show r < 4 by omega) (show r < 2 ^ 31 by omega), if_false, ix_nI (show r < 2 ^ 31 by omega), ix_nI (show i < 2 ^ 31 by omega), cL_rc h r hr, cL_pl h i hi, cL_ki h i hi, hf, kh_tab (a 2 i) (by omega) _ hfl (a 13 r) (by omega) w hw, sq, b01, nI_s]
      have e0 : hrB (a 2 i) (farN s (a 3 i) w) (a 13 r) w = hearB a r s w i := rfl
      rw [e0]
      cases hb : hearB a r s w i
      · rw [if_pos rfl]
        have e := ih (i + 1) m (by omega) (by omega)
        rw [bsN_f _ hb] at e
        exact e
      · rw [if_neg (by decide), bsN_t _ (by omega) hb]
        exact ih (i + 1) m (by omega) (by omega)
  exact key (a 1 0) 0 FU (by omega) (by unfold FU; omega)
/-- news n is owed to grave i -/
def owB (a : Nat → Nat → Nat) (i n : Nat) : Bool := !(a 11 n).testBit i && (if a 2 i = 3 then false else if a 2 i = 2 then ((decide (a 4 i ≤ a 9 n) && decide (a 9 n ≤ a 4 i + 8)) && decide (a 12 n = 1)) else if a 2 i = 5 then (decide (a 9 n = a 4 i) || ((decide (a 4 i ≤ a 9 n) && decide (a 9 n ≤ a 4 i + 8)) && decide (a 12 n = 1))) else if a 2 i = 4 then ((decide (a 4 i ≤ a 9 n) && decide (a 9 n ≤ a 4 i + 8)) && !decide (a 9 n = a 4 i)) else (decide (a 4 i ≤ a 9 n) && decide (a 9 n ≤ a 4 i + 8)))
theorem owed_C {a : Nat → Nat → Nat} {σ : St} (I : Inv a) (h : CA a (vw σ 1)) {i n : Nat} (hi : i < a 1 0) (hn : n < a 8 0) : f_X3_isOwed σ (nI i) (nI n) = some (nI (if owB a i n then 1 else 0)) := by
  have h10 := I.gs
  have h12 := I.ps
  obtain ⟨hk, hp, hy⟩ := I.gr i hi
  obtain ⟨hny, hna, hnb, hns⟩ := I.nw n hn
  have hD : (nI (a 9 n) - nI (a 4 i)).toInt = (a 9 n : Int) - a 4 i := pk_sub_toInt (by omega) (by omega)
  unfold f_X3_isOwed
  simp only [ok2 (show i < 10 by omega) (show i < 2 ^ 31 by omega), if_false, ok2 (show n < 12 by omega) (show n < 2 ^ 31 by omega), if_false, ix_nI (show i < 2 ^ 31 by omega), ix_nI (show n < 2 ^ 31 by omega), cL_nb h n hn, cL_ny h n hn, cL_ns h n hn, cL_ye h i hi, cL_ki h i hi, has_C0 (show a 11 n < 2 ^ 31 by omega) (show i < 31 by omega), sq]
  have d0 : (nI (a 9 n) - nI (a 4 i) < 0) = (a 9 n < a 4 i) := by rw [lt_T, T_0, hD]; exact propext ⟨fun q => by omega, fun q => by omega⟩
  have d8 : (nI (a 9 n) - nI (a 4 i) ≤ 8) = (a 9 n ≤ a 4 i + 8) := by rw [le_T, show (8 : Int32).toInt = 8 by decide, hD]; exact propext ⟨fun q => by omega, fun q => by omega⟩
  have dz : (nI (a 9 n) - nI (a 4 i) = 0) = (a 9 n = a 4 i) := propext ⟨fun q => by have := congrArg Int32.toInt q; rw [hD, T_0] at this; omega, fun q => Int32.toInt_inj.mp (by rw [hD, T_0]; omega)⟩
  simp only [d0, d8, dz, nI_eqE (b := 2) (show a 2 i < 2 ^ 31 by omega) (by decide), nI_eqE (b := 3) (show a 2 i < 2 ^ 31 by omega) (by decide), nI_eqE (b := 4) (show a 2 i < 2 ^ 31 by omega) (by decide), nI_eqE (b := 5) (show a 2 i < 2 ^ 31 by omega) (by decide), nI_eqE (b := 1) (show a 12 n < 2 ^ 31 by omega) (by decide), show ((2 : Int32) = nI 2) from rfl, show ((3 : Int32) = nI 3) from rfl, show ((4 : Int32) = nI 4) from rfl, show ((5 : Int32) = nI 5) from rfl, show ((1 : Int32) = nI 1) from rfl]
  unfold owB
  cases hb : (a 11 n).testBit i
  · rcases (show a 2 i = 0 ∨ a 2 i = 1 ∨ a 2 i = 2 ∨ a 2 i = 3 ∨ a 2 i = 4 ∨ a 2 i = 5 by omega) with e | e | e | e | e | e <;> simp only [e]
    all_goals
      by_cases q0 : a 9 n < a 4 i
      · have q1 : ¬ a 4 i ≤ a 9 n := by omega
        have q2 : ¬ a 9 n = a 4 i := by omega
        simp [q0, q1, q2, nI_0]
      · have q1 : a 4 i ≤ a 9 n := by omega
        by_cases q8 : a 9 n ≤ a 4 i + 8
        · by_cases qz : a 9 n = a 4 i
          · by_cases qs : a 12 n = 1
            · simp [qz, qs, nI_0]
            · simp [qz, qs, nI_0]
          · by_cases qs : a 12 n = 1
            · simp [q0, q1, q8, qz, qs, nI_0]
            · simp [q0, q1, q8, qz, qs, nI_0]
        · have qz : ¬ a 9 n = a 4 i := by omega
          simp [q0, q1, q8, qz, nI_0]
  · simp [nI_0]
