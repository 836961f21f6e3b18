theorem WN_sum (p : Nat) (ah : Nat → Nat) (k : Nat) : (if k = 0 then 1 else 0) + smN (fun n => if k.testBit n && subN (ah n) k then WN p ah (andn k (2 ^ n)) else 0) p = WN p ah k := by
  rw [WN_eq p ah k]
  by_cases e : k = 0
  · rw [if_pos e, if_pos e, smN_cong (g := fun _ => 0) (fun n hn => by rw [e, Nat.zero_testBit]; rfl), smN_z]
  · rw [if_neg e, if_neg e, Nat.zero_add]
theorem or_54 {a : Nat → Nat → Nat} {μ : St} (I : Inv a) (hM : MA a (ul μ)) {k : Nat} (hk : k < 2 ^ a 8 0) (rec31 : Int32 → Int32 → St → Option (Int32 × St)) (x1 v2 : Int32) : ∀ (d j m : Nat) (ν : St), j + d = a 8 0 → d < m → (∀ c, c ≠ 15 → ν.1 c = μ.1 c) → ν.2 = μ.2 → (∀ s, s < k → ν.1 15 s = nI (WN (a 8 0) (a 10) s)) → ν.1 15 k = nI ((if k = 0 then 1 else 0) + smN (fun n => if k.testBit n && subN (a 10 n) k then WN (a 8 0) (a 10) (andn k (2 ^ n)) else 0) j) → ∃ ν', f_X7_orders_h54 rec31 x1 m v2 (nI k) (nI j) ν = rec31 v2 (nI (k + 1)) ν' ∧ (∀ c, c ≠ 15 → ν'.1 c = μ.1 c) ∧ ν'.2 = μ.2 ∧ (∀ s, s < k + 1 → ν'.1 15 s = nI (WN (a 8 0) (a 10) s)) := by
  have h12 := I.ps
  have hp12 := pow12 I.ps
  intro d
  induction d with
  | zero =>
    intro j m ν h1 h2 f1 f2 f3 f4
    obtain ⟨m, rfl⟩ : ∃ m', m = m' + 1 := ⟨m - 1, by omega⟩
    have hj : j = a 8 0 := by omega
    subst hj
    rw [f_X7_orders_h54, f1 0 (by decide), mL_ps hM, if_pos (by rw [nI_leE (by omega) (by omega)]; omega)]
    simp only [sq, nI_s]
    refine ⟨ν, rfl, f1, f2, fun s hs => ?_⟩
    by_cases e : s = k
    · rw [e, f4, WN_sum]
    · exact f3 s (by omega)
  | succ d ih =>
    intro j m ν h1 h2 f1 f2 f3 f4
    obtain ⟨m, rfl⟩ : ∃ m', m = m' + 1 := ⟨m - 1, by omega⟩
    have hj : j < a 8 0 := by omega
    have hna := na_lt I hj
    have hle := andn_le (a 10 j) k
    have hle2 := andn_le k (2 ^ j)
    have step : ∀ w : Nat, w = (if k.testBit j && subN (a 10 j) k then WN (a 8 0) (a 10) (andn k (2 ^ j)) else 0) → ∃ ν', f_X7_orders_h54 rec31 x1 m v2 (nI k) (nI (j + 1)) (wr ν 15 k (nI ((if k = 0 then 1 else 0) + smN (fun n => if k.testBit n && subN (a 10 n) k then WN (a 8 0) (a 10) (andn k (2 ^ n)) else 0) j) + nI w)) = rec31 v2 (nI (k + 1)) ν' ∧ (∀ c, c ≠ 15 → ν'.1 c = μ.1 c) ∧ ν'.2 = μ.2 ∧ (∀ s, s < k + 1 → ν'.1 15 s = nI (WN (a 8 0) (a 10) s)) := fun w hw => by
      refine ih (j + 1) m _ (by omega) (by omega) (fun c hc => by rw [wr_ne hc, f1 c hc]) f2 (fun s hs => by rw [wr_get, if_pos rfl, if_neg (by omega)]; exact f3 s hs) ?_
      rw [wr_at, nI_k, hw, Nat.add_assoc]
      rfl
    rw [f_X7_orders_h54, f1 0 (by decide), mL_ps hM, if_neg (by rw [nI_leE (by omega) (by omega)]; omega), f1 5 (by decide)]
    simp only [has_M0 (show k < 2 ^ 31 by omega) (show j < 31 by omega), ix_nI (show j < 2 ^ 31 by omega), ok2 (show j < 12 by omega) (show j < 2 ^ 31 by omega), if_false, mL_na hM j hj, nI_andn, nI_eq0 (show andn (a 10 j) k < 2 ^ 31 by omega), f_X7_orders_b91, f_X7_orders_b122, ix_nI (show k < 2 ^ 31 by omega), ok2 (show k < 4096 by omega) (show k < 2 ^ 31 by omega), isl_1 (show j < 31 by omega), ix_nI (show andn k (2 ^ j) < 2 ^ 31 by omega), ok2 (show andn k (2 ^ j) < 4096 by omega) (show andn k (2 ^ j) < 2 ^ 31 by omega), sq, nI_s, f4]
    cases hb : k.testBit j
    · rw [if_pos rfl, if_pos trivial]
      exact step 0 (by rw [hb]; rfl)
    · rw [if_neg (show ¬ true = false by decide)]
      by_cases e : andn (a 10 j) k = 0
      · rw [if_pos e, if_neg (show ¬ (1 : Int32) = 0 by decide), f3 _ (andn_lt hb)]
        refine step _ ?_
        rw [hb, show subN (a 10 j) k = true by unfold subN; rw [e]; rfl]
        rfl
      · rw [if_neg e, if_pos trivial]
        refine step 0 ?_
        rw [hb, show subN (a 10 j) k = false from beq_eq_false_iff_ne.mpr e]
        rfl
theorem or_31 {a : Nat → Nat → Nat} {μ : St} (I : Inv a) (hM : MA a (ul μ)) (x1 : Int32) : ∀ (d k m : Nat) (ν : St), k + d = 2 ^ a 8 0 → d < m → (∀ c, c ≠ 15 → ν.1 c = μ.1 c) → ν.2 = μ.2 → (∀ s, s < k → ν.1 15 s = nI (WN (a 8 0) (a 10) s)) → ∃ ν', f_X7_orders_h31 x1 m (nI (2 ^ a 8 0 - 1)) (nI k) ν = some (nI (ordN (a 8 0) (a 10)), ν') ∧ (∀ c, c ≠ 15 → ν'.1 c = μ.1 c) ∧ ν'.2 = μ.2 := by
  have h12 := I.ps
  have hp12 := pow12 I.ps
  have hpos : 0 < 2 ^ a 8 0 := Nat.two_pow_pos _
  intro d
  induction d with
  | zero =>
    intro k m ν h1 h2 f1 f2 f3
    obtain ⟨m, rfl⟩ : ∃ m', m = m' + 1 := ⟨m - 1, by omega⟩
    rw [f_X7_orders_h31, if_pos (by rw [nI_ltE (by omega) (by omega)]; omega)]
    simp only [ix_nI (show 2 ^ a 8 0 - 1 < 2 ^ 31 by omega), ok2 (show 2 ^ a 8 0 - 1 < 4096 by omega) (show 2 ^ a 8 0 - 1 < 2 ^ 31 by omega), if_false]
    refine ⟨ν, ?_, f1, f2⟩
    rw [f3 _ (by omega)]
    unfold WN ordN
    rw [show 2 ^ a 8 0 - 1 + 1 = 2 ^ a 8 0 by omega]
  | succ d ih =>
    intro k m ν h1 h2 f1 f2 f3
    obtain ⟨m, rfl⟩ : ∃ m', m = m' + 1 := ⟨m - 1, by omega⟩
    have hk : k < 2 ^ a 8 0 := by omega
    have go : ∀ x : Int32, x = nI (if k = 0 then 1 else 0) → ∃ ν', f_X7_orders_h54 (f_X7_orders_h31 x1 m) x1 FU (nI (2 ^ a 8 0 - 1)) (nI k) 0 (wr ν 15 k x) = some (nI (ordN (a 8 0) (a 10)), ν') ∧ (∀ c, c ≠ 15 → ν'.1 c = μ.1 c) ∧ ν'.2 = μ.2 := fun x hx => by
      obtain ⟨ν1, t1, t2, t3, t4⟩ := or_54 I hM hk (f_X7_orders_h31 x1 m) x1 (nI (2 ^ a 8 0 - 1)) (a 8 0) 0 FU (wr ν 15 k x) (by omega) (by unfold FU; omega) (fun c hc => by rw [wr_ne hc, f1 c hc]) f2 (fun s hs => by rw [wr_get, if_pos rfl, if_neg (by omega)]; exact f3 s hs) (by rw [wr_at, hx]; rfl)
      obtain ⟨ν2, s1, s2, s3⟩ := ih (k + 1) m ν1 (by omega) (by omega) t2 t3 t4
      exact ⟨ν2, Eq.trans t1 s1, s2, s3⟩
    rw [f_X7_orders_h31, if_neg (by rw [nI_ltE (by omega) (by omega)]; omega)]
    simp only [ix_nI (show k < 2 ^ 31 by omega), ok2 (show k < 4096 by omega) (show k < 2 ^ 31 by omega), if_false, sq, nI_eq0 (show k < 2 ^ 31 by omega)]
    by_cases e : k = 0
    · rw [if_pos e]
      exact go 1 (by rw [if_pos e]; rfl)
    · rw [if_neg e]
      exact go 0 (by rw [if_neg e]; rfl)
/-! ===== the last of the orders ===== -/
def lastN (P : Nat → Bool) : Nat → Int32
  | 0 => -4
  | j + 1 => if P j then nI j else lastN P j
def foP (a : Nat → Nat → Nat) (s n : Nat) : Bool := !s.testBit n && subN (a 10 n) s
theorem lastN_ok {P : Nat → Bool} : ∀ {p : Nat}, (∃ n, n < p ∧ P n = true) → ∃ n, n < p ∧ P n = true ∧ lastN P p = nI n
  | 0, h => by
    obtain ⟨n, h1, -⟩ := h
    omega
  | p + 1, h => by
    rw [lastN]
    by_cases e : P p = true
    · rw [if_pos e]
      exact ⟨p, by omega, e, rfl⟩
    · rw [if_neg e]
      obtain ⟨n, h1, h2⟩ := h
      have : n ≠ p := fun q => e (by rw [← q]; exact h2)
      obtain ⟨u, u1, u2, u3⟩ := lastN_ok ⟨n, show n < p by omega, h2⟩
      exact ⟨u, by omega, u2, u3⟩
theorem gb_C {a : Nat → Nat → Nat} {σ : St} (I : Inv a) (hC : CA a (vw σ 1)) {s : Nat} (hs : s < 2 ^ 31) : ∀ (j m : Nat), j ≤ a 8 0 → j < m → f_X2_greatestBehind_h7 σ (nI s) m (nI j - 1) = some (lastN (foP a s) j)
  | 0, m, h1, h2 => by
    obtain ⟨m, rfl⟩ : ∃ m', m = m' + 1 := ⟨m - 1, by omega⟩
    rw [f_X2_greatestBehind_h7, if_pos (by decide)]
    rfl
  | j + 1, m, h1, h2 => by
    have h12 := I.ps
    obtain ⟨m, rfl⟩ : ∃ m', m = m' + 1 := ⟨m - 1, by omega⟩
    have ih := gb_C I hC hs j m (by omega) (by omega)
    rw [f_X2_greatestBehind_h7, nI_pred, if_neg (nI_pos (by omega)), follow_C I hC (show j < a 8 0 by omega) hs]
    simp only [bdr, b01, sq]
    rw [lastN]
    unfold foP
    cases hb : (!s.testBit j && subN (a 10 j) s)
    · rw [if_pos rfl, if_neg (show ¬ false = true by decide), show nI j + (-1) = nI j - 1 from (Int32.sub_eq_add_neg _ _).symm]
      exact ih
    · rw [if_neg (show ¬ true = false by decide), if_pos rfl]
theorem or_173 {a : Nat → Nat → Nat} {μ : St} (I : Inv a) (hM : MA a (ul μ)) {s : Nat} (hs : s < 2 ^ 31) (rec152 : Int32 → Int32 → Int32 → St → Option (Int32 × St)) (x1 v5 : Int32) : ∀ (d j m : Nat), j + d = a 8 0 → d < m → f_X7_orders_h173 rec152 x1 m (nI s) (lastN (foP a s) j) v5 (nI j) μ = rec152 (nI s ||| isl 1 (lastN (foP a s) (a 8 0))) (lastN (foP a s) (a 8 0)) (v5 + 1) μ := by
  have h12 := I.ps
  intro d
  induction d with
  | zero =>
    intro j m h1 h2
    obtain ⟨m, rfl⟩ : ∃ m', m = m' + 1 := ⟨m - 1, by omega⟩
    have hj : j = a 8 0 := by omega
    subst hj
    rw [f_X7_orders_h173, mL_ps hM, if_pos (by rw [nI_leE (by omega) (by omega)]; omega)]
    rfl
  | succ d ih =>
    intro j m h1 h2
    obtain ⟨m, rfl⟩ : ∃ m', m = m' + 1 := ⟨m - 1, by omega⟩
    have hj : j < a 8 0 := by omega
    have hna := na_lt I hj
    have hle := andn_le (a 10 j) s
    have e := ih (j + 1) m (by omega) (by omega)
    rw [lastN] at e
    rw [f_X7_orders_h173, mL_ps hM, if_neg (by rw [nI_leE (by omega) (by omega)]; omega)]
    simp only [has_M0 hs (show j < 31 by omega), ix_nI (show j < 2 ^ 31 by omega), ok2 (show j < 12 by omega) (show j < 2 ^ 31 by omega), if_false, mL_na hM j hj, nI_andn, nI_eq0 (show andn (a 10 j) s < 2 ^ 31 by omega), f_X7_orders_b210, sq, nI_s]
    cases hb : s.testBit j
    · rw [if_pos rfl]
      by_cases q : andn (a 10 j) s = 0
      · rw [if_pos (show foP a s j = true by unfold foP; rw [hb, show subN (a 10 j) s = true by unfold subN; rw [q]; rfl]; rfl)] at e
        rw [if_pos q]
        exact e
      · rw [if_neg (show ¬ foP a s j = true by unfold foP; rw [hb, show subN (a 10 j) s = false from beq_eq_false_iff_ne.mpr q]; decide)] at e
        rw [if_neg q]
        exact e
    · rw [if_neg (show ¬ foP a s j = true by unfold foP; rw [hb, Bool.not_true, Bool.false_and]; decide)] at e
      rw [if_neg (show ¬ true = false by decide)]
      exact e
def ctN (s p : Nat) : Nat := smN (fun n => if s.testBit n then 1 else 0) p
theorem smN_1 : ∀ p, smN (fun _ => 1) p = p
  | 0 => rfl
  | p + 1 => by rw [smN, smN_1 p]
theorem fo_ex {a : Nat → Nat → Nat} (I : Inv a) {s : Nat} (h : ctN s (a 8 0) < a 8 0) : ∃ n, n < a 8 0 ∧ foP a s n = true := by
  have ex : ∃ n, n < a 8 0 ∧ s.testBit n = false := by
    by_cases c : ∃ n, n < a 8 0 ∧ s.testBit n = false
    · exact c
    · have e : ctN s (a 8 0) = a 8 0 := by
        unfold ctN
        rw [smN_cong (g := fun _ => 1) (fun n hn => ?_), smN_1]
        cases hb : s.testBit n
        · exact absurd ⟨n, hn, hb⟩ c
        · rfl
      omega
  obtain ⟨n, h1, h2, h3⟩ := fb_first (p := fun n => s.testBit n = false) ex
  refine ⟨n, h1, ?_⟩
  unfold foP
  rw [h2, Bool.not_false, Bool.true_and]
  have hah := (I.nw n h1).2.1
  have e : andn (a 10 n) s = 0 := by
    apply Nat.eq_of_testBit_eq
    intro i
    rw [andn_bit, Nat.zero_testBit]
    by_cases q : i < n
    · have := h3 i q
      cases hb : s.testBit i
      · exact absurd hb this
      · rw [Bool.not_true, Bool.and_false]
    · rw [tb_hi hah (by omega)]
      rfl
  unfold subN
  rw [e]
  rfl
theorem ct_or {s n p : Nat} (hn : n < p) (hb : s.testBit n = false) : ctN (s ||| 2 ^ n) p = ctN s p + 1 := by
  unfold ctN
  have h := smN_at (f := fun q => if (s ||| 2 ^ n).testBit q then 1 else 0) (g := fun q => if s.testBit q then 1 else 0) (j := n) (n := p) (fun q hq hne => by
    show (if (s ||| 2 ^ n).testBit q then 1 else 0) = (if s.testBit q then 1 else 0)
    rw [Nat.testBit_or, Nat.testBit_two_pow_of_ne (Ne.symm hne), Bool.or_false]) (by
    show (if s.testBit n then 1 else 0) = 0
    rw [hb]
    rfl) hn
  rw [h]
  rw [Nat.testBit_or, Nat.testBit_two_pow_self, Bool.or_true]
  rfl
theorem ord_l {a : Nat → Nat → Nat} {σ μ : St} (I : Inv a) (hC : CA a (vw σ 1)) (hM : MA a (ul μ)) {t : Nat} (ht : t < a 8 0) : ∀ (d k m s : Nat) (v : Int32), k + d = t + 1 → d < m → s < 2 ^ a 8 0 → ctN s (a 8 0) = k → ∃ r, f_X2_inLastOrder_h8 σ (nI t) m (nI s) v (nI k) = some r ∧ f_X7_orders_h152 (nI t) m (nI s) v (nI k) μ = some (r, μ) := by
  have h12 := I.ps
  have hp12 := pow12 I.ps
  intro d
  induction d with
  | zero =>
    intro k m s v h1 h2 hs hc
    obtain ⟨m, rfl⟩ : ∃ m', m = m' + 1 := ⟨m - 1, by omega⟩
    have hlt : nI t < nI k := by rw [nI_ltE (by omega) (by omega)]; omega
    rw [f_X2_inLastOrder_h8, f_X7_orders_h152, if_pos hlt, if_pos hlt]
    exact ⟨v, rfl, rfl⟩
  | succ d ih =>
    intro k m s v h1 h2 hs hc
    obtain ⟨m, rfl⟩ : ∃ m', m = m' + 1 := ⟨m - 1, by omega⟩
    have hlt : ¬ nI t < nI k := by rw [nI_ltE (by omega) (by omega)]; omega
    have hle : ¬ nI (a 8 0) ≤ nI k := by rw [nI_leE (by omega) (by omega)]; omega
    have hle2 : ¬ nI (a 8 0) ≤ nI t := by rw [nI_leE (by omega) (by omega)]; omega
    obtain ⟨n, n1, n2, n3⟩ := lastN_ok (fo_ex I (show ctN s (a 8 0) < a 8 0 by omega))
    have n2' : s.testBit n = false := by
      unfold foP at n2
      simp only [Bool.and_eq_true, Bool.not_eq_true'] at n2
      exact n2.1
    have hor : s ||| 2 ^ n < 2 ^ a 8 0 := Nat.or_lt_two_pow hs (Nat.pow_lt_pow_right (by decide) n1)
    have e1 := gb_C I hC (s := s) (by omega) (a 8 0) FU (Nat.le_refl _) (by unfold FU; omega)
    have e2 := or_173 I hM (s := s) (by omega) (f_X7_orders_h152 (nI t) m) (nI t) (nI k) (a 8 0) 0 FU (by omega) (by unfold FU; omega)
    have e2' : f_X7_orders_h173 (f_X7_orders_h152 (nI t) m) (nI t) FU (nI s) (-4) (nI k) 0 μ = f_X7_orders_h152 (nI t) m (nI s ||| isl 1 (lastN (foP a s) (a 8 0))) (lastN (foP a s) (a 8 0)) (nI k + 1) μ := e2
    rw [f_X2_inLastOrder_h8, f_X7_orders_h152, if_neg hlt, if_neg hlt, cL_ps hC, mL_ps hM, if_neg hle, if_neg hle2, e2']
    unfold f_X2_greatestBehind
    simp only [sq]
    rw [cL_ps hC, e1, n3, isl_1 (by omega), nI_or, nI_s]
    simp only [bdr]
    rw [if_pos (nI_pos' (by omega)), isl_1 (by omega), nI_or]
    exact ih (k + 1) m (s ||| 2 ^ n) (nI n) (by omega) (by omega) hor (by rw [ct_or n1 n2', hc])
theorem op23 : Op23 RR := by
  intro σ nw μ hR x
  obtain ⟨⟨a, I, hC, hM⟩, hk, htp, hs, hnw⟩ := id hR
  have h12 := I.ps
  have hp12 := pow12 I.ps
  have hpos : 0 < 2 ^ a 8 0 := Nat.two_pow_pos _
  have e3 : (f_X7_in x.toInt64 (-1) 11 = 0) = ¬ (-1 ≤ x.toInt ∧ x.toInt ≤ 11) := by
    rw [in_0, toL_T, show (-1 : Int64).toInt = -1 by decide, show (11 : Int64).toInt = 11 by decide]
  unfold f_X6_orders f_X7_orders
  simp only [e3]
  by_cases v : -1 ≤ x.toInt ∧ x.toInt ≤ 11
  · rw [if_neg (show ¬ x < -1 by rw [lt_T, show (-1 : Int32).toInt = -1 by decide]; omega), if_pos (show x < 12 by rw [lt_T, show (12 : Int32).toInt = 12 by decide]; omega), if_neg (not_not_intro v)]
    simp only [sq]
    by_cases w : 0 ≤ x
    · have w' : 0 ≤ x.toInt := by rw [le_T, T_0] at w; exact w
      obtain ⟨t, ht, rfl⟩ := nI_ofR (n := 12) (x := x) ⟨w', by omega⟩ (by decide)
      rw [if_neg (show ¬ nI t = -1 from fun e => nI_pos (show t < 2 ^ 31 by omega) (by rw [e]; decide)), if_pos w, cL_ps hC]
      by_cases q : a 8 0 ≤ t
      · refine ⟨-4, nw, σ, μ, ?_, ?_, hR⟩
        · rw [if_pos (by rw [nI_leE (by omega) (by omega)]; exact q)]
        · rw [show FU = 99999 + 1 from rfl, f_X7_orders_h152, if_neg (nI_pos (by omega)), mL_ps hM, if_pos (by rw [nI_leE (by omega) (by omega)]; exact q)]
      · obtain ⟨r, r1, r2⟩ := ord_l I hC hM (show t < a 8 0 by omega) (t + 1) 0 FU 0 (-4) (by omega) (by unfold FU; omega) hpos (by unfold ctN; rw [smN_cong (g := fun _ => 0) (fun n hn => by rw [Nat.zero_testBit]; rfl), smN_z])
        have r1' : f_X2_inLastOrder σ (nI t) = some r := r1
        refine ⟨r, nw, σ, μ, ?_, r2, hR⟩
        rw [if_neg (by rw [nI_leE (by omega) (by omega)]; exact q), r1']
        rfl
    · have hx : x = -1 := by
        refine Int32.toInt_inj.mp ?_
        rw [show (-1 : Int32).toInt = -1 by decide]
        rw [le_T, T_0] at w
        omega
      rw [if_pos hx, if_neg w, mL_ps hM, full_n h12]
      obtain ⟨μ', m1, m2, m3⟩ := or_31 I hM x (2 ^ a 8 0) 0 FU μ (by omega) (by unfold FU; omega) (fun _ _ => rfl) rfl (fun s hs => by omega)
      have m1' : f_X7_orders_h31 x FU (nI (2 ^ a 8 0 - 1)) 0 μ = some (nI (ordN (a 8 0) (a 10)), μ') := m1
      rw [m1']
      have hRm : ∀ (σ1 : St), (∀ c, c ≠ 66 → σ1.1 c = σ.1 c) → σ1.2 = σ.2 → RR σ1 nw μ' := fun σ1 c1 c2 => hR.scr (fun c hc => c1 c (by omega)) (by rw [c1 37 (by decide)]) (c1 38 (by decide)) (fun j hj => c1 _ (by omega)) c2 (fun _ _ _ => by rw [m2 0 (by decide)]) (fun c _ _ => m2 c (by omega)) (m2 16 (by decide)) (m2 17 (by decide)) (m2 18 (by decide)) (by rw [m3])
      by_cases q : σ.1 9 1 ≤ 0
      · rw [if_pos q]
        have fin : ∀ (nv : Nat) (σ0 : St), nv ≤ 4096 → 2 ^ a 8 0 ≤ nv → (∀ c, c ≠ 66 → σ0.1 c = σ.1 c) → σ0.2 = σ.2 → ∃ (r : Int32) (nw' : Nat) (σ' μ'' : St), f_cO2 nv σ0 = some (r, nw', σ') ∧ some (nI (ordN (a 8 0) (a 10)), μ') = some (r, μ'') ∧ RR σ' nw' μ'' := fun nv σ0 hnv hpv c1 c2 => by
          have hC0 : CA a (vw σ0 1) := hC.cg (fun k hk => c1 (1 + k) (by omega))
          obtain ⟨τ, t1, t2, t3⟩ := cO2 I hC0 hnv hpv
          have hRt := hRm τ (fun c hc => by rw [t2 c hc, c1 c hc]) (by rw [t3, c2])
          have hCt : CA a (vw τ 1) := hC0.cg (fun k hk => t2 (1 + k) (by omega))
          have hMt : MA a (ul μ') := hM.cg (ul_cg (fun f _ _ _ => by rw [m2 0 (by decide)]) (fun c _ _ => m2 c (by omega)))
          have hC2 : CA a (vw (wr τ 9 1 (nI (ordN (a 8 0) (a 10)))) 1) := ⟨hCt.rd, hCt.wi, hCt.no, hCt.dr, hCt.rg, hCt.un, hCt.gs, hCt.ps, Or.inr (wr_at τ 9 1 _), hCt.ki, hCt.pl, hCt.ye, hCt.he, hCt.wg, hCt.si, hCt.ny, hCt.na, hCt.nb, hCt.ns, hCt.rc, hCt.wt, hCt.u1, hCt.u2, hCt.u3⟩
          have hRf : RR (wr τ 9 1 (nI (ordN (a 8 0) (a 10)))) nw μ' := hRt.par ⟨a, I, hC2, hMt⟩ (fun c hc => wr_ne (by omega)) rfl (fun _ _ => rfl) rfl rfl rfl
          exact ⟨_, nv, _, μ', t1, rfl, hRf.1, hRf.2.1, hRf.2.2.1, hRf.2.2.2.1, hnv⟩
        unfold f_X6_countOrders
        simp only [sq]
        rw [cL_ps hC, isl_1 (by omega), show Int32.ofNat nw = nI nw from rfl]
        by_cases q2 : 2 ^ a 8 0 ≤ nw
        · rw [if_pos (by rw [nI_leE (by omega) (by omega)]; exact q2)]
          exact fin nw σ hnw q2 (fun _ _ => rfl) rfl
        · rw [if_neg (by rw [nI_leE (by omega) (by omega)]; exact q2), ix_nI (by omega), if_neg (by rintro (g | g); exact nI_pos (by omega) g; omega)]
          exact fin (2 ^ a 8 0) (wrow σ 66 (fun _ => 0)) hp12 (Nat.le_refl _) (fun c hc => by rw [wrow_get, if_neg hc]) rfl
      · rw [if_neg q]
        rcases cL_od hC with e | e
        · rw [e] at q
          exact absurd (by decide) q
        · rw [e]
          exact ⟨_, nw, σ, μ', rfl, rfl, hRm σ (fun _ _ => rfl) rfl⟩
  · rw [if_pos v]
    refine ⟨-1, nw, σ, μ, ?_, rfl, hR⟩
    simp only [lt_T, show (-1 : Int32).toInt = -1 by decide, show (12 : Int32).toInt = 12 by decide]
    by_cases c1 : x.toInt < -1
    · rw [if_pos c1]
    · rw [if_neg c1, if_neg (by omega)]
