theorem smN_cong {f g : Nat → Nat} : ∀ {n : Nat}, (∀ i, i < n → f i = g i) → smN f n = smN g n
  | 0, _ => rfl
  | n + 1, h => by rw [smN, smN, smN_cong (fun i hi => h i (by omega)), h n (by omega)]
theorem smN_add (f g : Nat → Nat) : ∀ n, smN (fun i => f i + g i) n = smN f n + smN g n
  | 0 => rfl
  | n + 1 => by
    rw [smN, smN, smN, smN_add f g n]
    omega
theorem smN_z : ∀ n, smN (fun _ => 0) n = 0
  | 0 => rfl
  | n + 1 => by rw [smN, smN_z n]
theorem smN_swap (f : Nat → Nat → Nat) (m : Nat) : ∀ n, smN (fun i => smN (f i) m) n = smN (fun j => smN (fun i => f i j) n) m
  | 0 => by
    show 0 = smN (fun _ => 0) m
    rw [smN_z]
  | n + 1 => by
    rw [smN, smN_swap f m n, ← smN_add]
    rfl
theorem smN_one {z v : Nat} : ∀ n, smN (fun y => if z = y then v else 0) n = if z < n then v else 0
  | 0 => rfl
  | n + 1 => by
    rw [smN, smN_one n]
    by_cases h : z < n
    · rw [if_pos h, if_neg (by omega), if_pos (by omega)]; omega
    · rw [if_neg h]
      by_cases e : z = n
      · rw [if_pos e, if_pos (by omega)]; omega
      · rw [if_neg e, if_neg (by omega)]
theorem cnS_sm (B : Nat → Bool) : ∀ j k, smN (fun w => if B w then 1 else 0) k + cnS B k j = smN (fun w => if B w then 1 else 0) (k + j)
  | 0, k => rfl
  | j + 1, k => by
    have := cnS_sm B j (k + 1)
    rw [show k + 1 + j = k + (j + 1) by omega] at this
    rw [← this, smN, cnS]
    omega
theorem cnS_le (B : Nat → Bool) : ∀ j k, cnS B k j ≤ j
  | 0, k => Nat.le_refl _
  | j + 1, k => by
    have := cnS_le B j (k + 1)
    rw [cnS]
    split <;> omega
def oyN (a : Nat → Nat → Nat) (y : Nat) : Nat := bsN (fun w => decide (a 9 w = y)) (a 8 0)
def cyN (a : Nat → Nat → Nat) (y g : Nat) : Nat := pcN (arrN a g &&& oyN a y)
def yB (a : Nat → Nat → Nat) (y g w : Nat) : Bool := decide (w < a 8 0) && (decide (a 9 w = y) && (arrN a g).testBit w)
theorem cy_cn (a : Nat → Nat → Nat) (y g : Nat) : cnS (yB a y g) 0 12 = cyN a y g := by
  have h := cnS_sm (yB a y g) 12 0
  rw [show smN (fun w => if yB a y g w then 1 else 0) 0 = 0 from rfl, Nat.zero_add] at h
  rw [h]
  unfold cyN pcN
  refine smN_cong (fun w hw => ?_)
  rw [Nat.testBit_and]
  unfold oyN yB
  rw [bsN_bit]
  cases (arrN a g).testBit w <;> cases decide (w < a 8 0) <;> cases decide (a 9 w = y) <;> rfl
def Lb (a : Nat → Nat → Nat) (N x y p : Nat) : Bool := decide (x = 1) && decide (y + 9 ≤ a 0 6 + p / N)
theorem Lb_mono {a : Nat → Nat → Nat} {N x y p q : Nat} (h : p ≤ q) (hl : Lb a N x y p = true) : Lb a N x y q = true := by
  unfold Lb at hl ⊢
  simp only [Bool.and_eq_true, decide_eq_true_eq] at hl ⊢
  have := Nat.div_le_div_right (c := N) h
  omega
theorem late_I {a : Nat → Nat → Nat} (I : Inv a) {N y p : Nat} (hN : 1 ≤ N) (hN2 : N ≤ 30) (hy : y ≤ 100) (hp : p < 2 ^ 28) : (nI (a 0 6) + nI p / nI N - nI y < 9) = (Lb a N 1 y p = false) := by
  have hno := I.no
  have hd : p / N ≤ p := Nat.div_le_self _ _
  rw [pk_div (by omega) (by omega) (by omega), nI_k, lt_T, pk_sub_toInt (by omega) (by omega), show (9 : Int32).toInt = 9 by decide]
  unfold Lb
  simp only [decide_true, Bool.true_and, decide_eq_false_iff_not]
  exact propext ⟨fun h => by omega, fun h => by omega⟩
/-- the graves of one year, one by one -/
def ygN (c : Nat → Nat) (L : Nat → Bool) (kf : Nat → Option Int32) : Nat → Nat → Nat → Option Int32
  | _, 0, p => kf p
  | g, j + 1, p => if 0 < c g ∧ L (p + c g - 1) = true then some (nI g) else ygN c L kf (g + 1) j (p + c g)
theorem ygN_cong {c : Nat → Nat} {L : Nat → Bool} {kf kf' : Nat → Option Int32} (hc : ∀ g, c g ≤ 12) : ∀ j g p, (∀ q, q ≤ p + 12 * j → kf q = kf' q) → ygN c L kf g j p = ygN c L kf' g j p
  | 0, _, p, h => h p (by omega)
  | j + 1, g, p, h => by
    have h12 := hc g
    rw [ygN, ygN, ygN_cong hc j (g + 1) (p + c g) (fun q hq => h q (by omega))]
theorem ygN_0 {c : Nat → Nat} {L : Nat → Bool} {kf : Nat → Option Int32} (hc : ∀ g, c g = 0) : ∀ j g p, ygN c L kf g j p = kf p
  | 0, _, _ => rfl
  | j + 1, g, p => by
    rw [ygN, if_neg (by rw [hc g]; omega), ygN_0 hc j (g + 1), hc g, Nat.add_zero]
theorem ygN_some {c : Nat → Nat} {L : Nat → Bool} {kf : Nat → Option Int32} (hk : ∀ q, ∃ r, kf q = some r) : ∀ j g p, ∃ r, ygN c L kf g j p = some r
  | 0, _, p => hk p
  | j + 1, g, p => by
    rw [ygN]
    split
    · exact ⟨_, rfl⟩
    · exact ygN_some hk j (g + 1) _
theorem ygN_f {c : Nat → Nat} {L : Nat → Bool} {kf : Nat → Option Int32} (hL : ∀ q, L q = false) : ∀ j g p, ygN c L kf g j (p + smN c g) = kf (p + smN c (g + j))
  | 0, _, _ => rfl
  | j + 1, g, p => by
    rw [ygN, if_neg (fun h => by rw [hL] at h; exact absurd h.2 (by decide)), Nat.add_assoc p, show smN c g + c g = smN c (g + 1) from rfl, ygN_f hL j (g + 1) p, show g + 1 + j = g + (j + 1) by omega]
/-- the years, one by one -/
def yyN (G : Nat) (c : Nat → Nat → Nat) (L : Nat → Nat → Bool) (e : Nat → Option Int32) : Nat → Nat → Nat → Option Int32
  | _, 0, p => e p
  | y, k + 1, p => ygN (c y) (L y) (fun q => yyN G c L e (y + 1) k q) 0 G p
theorem yyN_some {G : Nat} {c : Nat → Nat → Nat} {L : Nat → Nat → Bool} {e : Nat → Option Int32} (he : ∀ q, ∃ r, e q = some r) : ∀ k y p, ∃ r, yyN G c L e y k p = some r
  | 0, _, p => he p
  | k + 1, y, p => by
    rw [yyN]
    exact ygN_some (fun q => yyN_some he k (y + 1) q) G 0 p
theorem yyN_f {G : Nat} {c : Nat → Nat → Nat} {L : Nat → Nat → Bool} {e : Nat → Option Int32} (hL : ∀ y q, L y q = false) : ∀ k y p, yyN G c L e y k (p + smN (fun y => smN (c y) G) y) = e (p + smN (fun y => smN (c y) G) (y + k))
  | 0, _, _ => rfl
  | k + 1, y, p => by
    rw [yyN]
    have h := ygN_f (c := c y) (L := L y) (kf := fun q => yyN G c L e (y + 1) k q) (hL y) G 0 (p + smN (fun y => smN (c y) G) y)
    rw [show p + smN (fun y => smN (c y) G) y + smN (c y) 0 = p + smN (fun y => smN (c y) G) y from rfl] at h
    rw [h, Nat.zero_add, Nat.add_assoc p, show smN (fun y => smN (c y) G) y + smN (c y) G = smN (fun y => smN (c y) G) (y + 1) from rfl, yyN_f hL k (y + 1) p, show y + 1 + k = y + (k + 1) by omega]
theorem cy_le {a : Nat → Nat → Nat} (I : Inv a) (y g : Nat) : cyN a y g ≤ 12 := by
  rw [← cy_cn]
  exact cnS_le _ _ _
theorem ofYear_C {a : Nat → Nat → Nat} {σ : St} (I : Inv a) (h : CA a (vw σ 1)) {y : Nat} (hy : y < 100) : f_X2_ofYear σ (nI y) = some (nI (oyN a y)) := by
  have h12 := I.ps
  have key : ∀ (k i m : Nat), i + k = a 8 0 → k < m → f_X2_ofYear_h4 σ (nI y) m (nI (bsN (fun w => decide (a 9 w = y)) i)) (nI i) = some (nI (bsN (fun w => decide (a 9 w = y)) (a 8 0))) := by
    intro k
    induction k with
    | zero =>
      intro i m h1 h2
      obtain ⟨m, rfl⟩ : ∃ m', m = m' + 1 := ⟨m - 1, by omega⟩
      rw [f_X2_ofYear_h4, cL_ps h, if_pos (by rw [nI_leE (by omega) (by omega)]; omega)]
      have : i = a 8 0 := by omega
      subst this
      rfl
    | succ k ih =>
      intro i m h1 h2
      obtain ⟨m, rfl⟩ : ∃ m', m = m' + 1 := ⟨m - 1, by omega⟩
      have hi : i < a 8 0 := by omega
      have h9 := (I.nw i hi).1
      have e := ih (i + 1) m (by omega) (by omega)
      rw [f_X2_ofYear_h4, cL_ps h, if_neg (by rw [nI_leE (by omega) (by omega)]; omega)]
      simp only [ix_nI (show i < 2 ^ 31 by omega), ok2 (show i < 12 by omega) (show i < 2 ^ 31 by omega), if_false, sq, nI_s, cL_ny h i hi, nI_eqE (show a 9 i < 2 ^ 31 by omega) (show y < 2 ^ 31 by omega)]
      by_cases hb : a 9 i = y
      · rw [if_pos hb, bsN_t (fun w => decide (a 9 w = y)) (by omega) (decide_eq_true hb)]
        exact e
      · rw [if_neg hb]
        rw [bsN_f (fun w => decide (a 9 w = y)) (decide_eq_false hb)] at e
        exact e
  exact key (a 8 0) 0 FU (by omega) (by unfold FU; omega)
theorem fpl_31 {a : Nat → Nat → Nat} {σ : St} (I : Inv a) (h : CA a (vw σ 1)) {N y : Nat} (hN : 1 ≤ N) (hN2 : N ≤ 30) (hy : y < 100) (rec4 : Int32 → Int32 → Option Int32) : ∀ (j g m p : Nat), g + j = a 1 0 → j < m → p + 12 * j < 2 ^ 28 → f_X3_firstPaidLate_h31 rec4 σ (nI N) m (nI p) (nI y) (nI (oyN a y)) (nI g) = ygN (cyN a y) (Lb a N 1 y) (fun q => rec4 (nI q) (nI (y + 1))) g j p := by
  have h10 := I.gs
  intro j
  induction j with
  | zero =>
    intro g m p h1 h2 hp
    obtain ⟨m, rfl⟩ : ∃ m', m = m' + 1 := ⟨m - 1, by omega⟩
    rw [f_X3_firstPaidLate_h31, cL_gs h, if_pos (by rw [nI_leE (by omega) (by omega)]; omega), ygN]
    simp only [sq, nI_s]
  | succ j ih =>
    intro g m p h1 h2 hp
    obtain ⟨m, rfl⟩ : ∃ m', m = m' + 1 := ⟨m - 1, by omega⟩
    have hg : g < a 1 0 := by omega
    have hal : arrN a g &&& oyN a y < 4096 := Nat.lt_of_le_of_lt Nat.and_le_left (arr_lt I g)
    have hc := cy_le I y g
    have e := ih (g + 1) m (p + cyN a y g) (by omega) (by omega) (by omega)
    rw [f_X3_firstPaidLate_h31, cL_gs h, if_neg (by rw [nI_leE (by omega) (by omega)]; omega)]
    simp only [arrears_C I h hg, bdr, sq, nI_and, (pc_of hal).2.1, nI_s, nI_k]
    rw [show pcN (arrN a g &&& oyN a y) = cyN a y g from rfl, ygN]
    simp only [nI_eq0 (show cyN a y g < 2 ^ 31 by omega)]
    by_cases q : cyN a y g = 0
    · rw [if_pos q, if_neg (by omega)]
      rw [q, Nat.add_zero] at e ⊢
      exact e
    · rw [if_neg q, if_neg (by rw [show (0 : Int32) = nI 0 from rfl, nI_leE (by omega) (by omega)]; omega), if_neg (by rw [nI_eq0 (by omega)]; omega), show nI (p + cyN a y g) - 1 = nI (p + cyN a y g - 1) from nI_m (a := p + cyN a y g) (b := 1) (by omega), cL_no h]
      simp only [late_I I hN hN2 (show y ≤ 100 by omega) (show p + cyN a y g - 1 < 2 ^ 28 by omega)]
      cases hl : Lb a N 1 y (p + cyN a y g - 1)
      · rw [if_pos rfl, if_neg (fun c => absurd c.2 (by decide))]
        exact e
      · rw [if_neg (by decide), if_pos ⟨by omega, rfl⟩]
theorem fpl_4 {a : Nat → Nat → Nat} {σ : St} (I : Inv a) (h : CA a (vw σ 1)) {N : Nat} (hN : 1 ≤ N) (hN2 : N ≤ 30) : ∀ (k y m p : Nat), y + k = 100 → k < m → p ≤ 120 * y → f_X3_firstPaidLate_h4 σ (nI N) m (nI p) (nI y) = yyN (a 1 0) (cyN a) (Lb a N 1) (fun _ => some (-4)) y k p := by
  have h10 := I.gs
  have h12 := I.ps
  intro k
  induction k with
  | zero =>
    intro y m p h1 h2 hp
    obtain ⟨m, rfl⟩ : ∃ m', m = m' + 1 := ⟨m - 1, by omega⟩
    rw [f_X3_firstPaidLate_h4, if_pos (by rw [show (99 : Int32) = nI 99 from rfl, nI_ltE (by omega) (by omega)]; omega)]
    rfl
  | succ k ih =>
    intro y m p h1 h2 hp
    obtain ⟨m, rfl⟩ : ∃ m', m = m' + 1 := ⟨m - 1, by omega⟩
    have hoy : oyN a y < 4096 := bs12 I _
    rw [f_X3_firstPaidLate_h4, if_neg (by rw [show (99 : Int32) = nI 99 from rfl, nI_ltE (by omega) (by omega)]; omega), ofYear_C I h (by omega), yyN]
    simp only [bdr, sq, nI_s, nI_eq0 (show oyN a y < 2 ^ 31 by omega)]
    by_cases q : oyN a y = 0
    · rw [if_pos q, ygN_0 (fun g => by unfold cyN; rw [q, Nat.and_zero]; rfl), ih (y + 1) m p (by omega) (by omega) (by omega)]
    · rw [if_neg q]
      refine Eq.trans (fpl_31 I h hN hN2 (by omega) _ (a 1 0) 0 FU p (by omega) (by unfold FU; omega) (by omega)) ?_
      exact ygN_cong (cy_le I y) (a 1 0) 0 p (fun q hq => ih (y + 1) m q (by omega) (by omega) (by omega))
theorem yr_12 {a : Nat → Nat → Nat} {μ : St} (I : Inv a) (h : MA a (ul μ)) {N x y g : Nat} (hN : 1 ≤ N) (hN2 : N ≤ 30) (hx : x ≤ 1) (hy : y < 100) (hg : g < a 1 0) (rec29 : Int32 → Int32 → Option Int32) : ∀ (j w m p : Nat), w + j = 12 → j < m → p + j < 2 ^ 28 → f_X7_years_h39 rec29 μ (nI N) (nI x) m (nI p) (nI y) (nI (12 * g + w)) = if 0 < cnS (yB a y g) w j ∧ Lb a N x y (p + cnS (yB a y g) w j - 1) = true then some (nI g) else f_X7_years_h39 rec29 μ (nI N) (nI x) (m - j) (nI (p + cnS (yB a y g) w j)) (nI y) (nI (12 * g + 12)) := by
  have h10 := I.gs
  have h12 := I.ps
  intro j
  induction j with
  | zero =>
    intro w m p h1 h2 hp
    rw [cnS, if_neg (by omega), Nat.add_zero, Nat.sub_zero, show w = 12 by omega]
  | succ j ih =>
    intro w m p h1 h2 hp
    obtain ⟨m, rfl⟩ : ∃ m', m = m' + 1 := ⟨m - 1, by omega⟩
    have hcl := cnS_le (yB a y g) j (w + 1)
    have e1 : nI (12 * g + w) / 12 = nI g := by rw [show (12 : Int32) = nI 12 from rfl, pk_div (by omega) (by decide) (by decide), show (12 * g + w) / 12 = g by omega]
    have e2 : irm (nI (12 * g + w)) 12 = nI w := by rw [show (12 : Int32) = nI 12 from rfl, irm_n (by omega) (by decide) (by decide), show (12 * g + w) % 12 = w by omega]
    rw [f_X7_years_h39, if_neg (by rw [show (120 : Int32) = nI 120 from rfl, nI_leE (by omega) (by omega)]; omega)]
    simp only [sq, e1, e2, nI_s]
    rw [mL_gs h, mL_ps h, if_neg (by rw [nI_leE (by omega) (by omega)]; omega), show 12 * g + w + 1 = 12 * g + (w + 1) by omega, show m + 1 - (j + 1) = m - j by omega]
    have skip : yB a y g w = false → f_X7_years_h39 rec29 μ (nI N) (nI x) m (nI p) (nI y) (nI (12 * g + (w + 1))) = if 0 < cnS (yB a y g) w (j + 1) ∧ Lb a N x y (p + cnS (yB a y g) w (j + 1) - 1) = true then some (nI g) else f_X7_years_h39 rec29 μ (nI N) (nI x) (m - j) (nI (p + cnS (yB a y g) w (j + 1))) (nI y) (nI (12 * g + 12)) := fun hb => by
      have e := ih (w + 1) m p (by omega) (by omega) (by omega)
      rw [cnS, hb, if_neg (show ¬ false = true by decide), Nat.zero_add]
      exact e
    have goon : yB a y g w = true → Lb a N x y p = false → f_X7_years_h39 rec29 μ (nI N) (nI x) m (nI (p + 1)) (nI y) (nI (12 * g + (w + 1))) = if 0 < cnS (yB a y g) w (j + 1) ∧ Lb a N x y (p + cnS (yB a y g) w (j + 1) - 1) = true then some (nI g) else f_X7_years_h39 rec29 μ (nI N) (nI x) (m - j) (nI (p + cnS (yB a y g) w (j + 1))) (nI y) (nI (12 * g + 12)) := fun hb hl => by
      have e := ih (w + 1) m (p + 1) (by omega) (by omega) (by omega)
      rw [cnS, hb, if_pos (show true = true from rfl)]
      rw [e]
      by_cases c : cnS (yB a y g) (w + 1) j = 0
      · rw [c, if_neg (by omega), if_neg (fun d => by rw [show p + (1 + 0) - 1 = p by omega, hl] at d; exact absurd d.2 (by decide))]
      · rw [show p + 1 + cnS (yB a y g) (w + 1) j = p + (1 + cnS (yB a y g) (w + 1) j) by omega]
        by_cases d : Lb a N x y (p + (1 + cnS (yB a y g) (w + 1) j) - 1) = true
        · rw [if_pos ⟨by omega, d⟩, if_pos ⟨by omega, d⟩]
        · rw [if_neg (fun z => d z.2), if_neg (fun z => d z.2)]
    by_cases c1 : a 8 0 ≤ w
    · rw [if_pos (by rw [nI_leE (by omega) (by omega)]; omega)]
      exact skip (by unfold yB; rw [decide_eq_false (by omega)]; rfl)
    · have hw : w < a 8 0 := by omega
      have h9 := (I.nw w hw).1
      have har := arr_lt I g
      rw [if_neg (by rw [nI_leE (by omega) (by omega)]; omega)]
      simp only [ix_nI (show w < 2 ^ 31 by omega), ok2 (show w < 12 by omega) (show w < 2 ^ 31 by omega), if_false, mL_ny h w hw, nI_eqE (show a 9 w < 2 ^ 31 by omega) (show y < 2 ^ 31 by omega), arrears_M I h hg, bdr, has_M0 (show arrN a g < 2 ^ 31 by omega) (show w < 31 by omega), mL_no h, show (1 : Int32) = nI 1 from rfl, nI_eqE (show x < 2 ^ 31 by omega) (show 1 < 2 ^ 31 by decide), nI_eq0 (show N < 2 ^ 31 by omega), late_I I hN hN2 (show y ≤ 100 by omega) (show p < 2 ^ 28 by omega), nI_k]
      by_cases c2 : a 9 w = y
      · rw [if_pos c2]
        cases hb : (arrN a g).testBit w
        · rw [if_pos rfl]
          exact skip (by unfold yB; rw [hb, Bool.and_false, Bool.and_false])
        · have hyb : yB a y g w = true := by unfold yB; rw [hb, decide_eq_true hw, decide_eq_true c2]; rfl
          rw [if_neg (by decide)]
          by_cases c3 : x = 1
          · subst c3
            rw [if_pos rfl, if_neg (by omega)]
            cases hl : Lb a N 1 y p
            · rw [if_pos rfl]
              exact goon hyb hl
            · rw [if_neg (by decide), if_pos]
              rw [cnS, hyb, if_pos rfl]
              exact ⟨by omega, Lb_mono (by omega) hl⟩
          · rw [if_neg c3]
            exact goon hyb (by unfold Lb; rw [decide_eq_false c3]; rfl)
      · rw [if_neg c2]
        exact skip (by unfold yB; rw [decide_eq_false c2, Bool.false_and, Bool.and_false])
theorem yr_sk {a : Nat → Nat → Nat} {μ : St} (I : Inv a) (h : MA a (ul μ)) (x1 x2 v3 : Int32) {y : Nat} (rec29 : Int32 → Int32 → Option Int32) : ∀ (j k m : Nat), k + j = 120 → 12 * a 1 0 ≤ k → j < m → f_X7_years_h39 rec29 μ x1 x2 m v3 (nI y) (nI k) = rec29 v3 (nI (y + 1)) := by
  have h10 := I.gs
  intro j
  induction j with
  | zero =>
    intro k m h1 h2 h3
    obtain ⟨m, rfl⟩ : ∃ m', m = m' + 1 := ⟨m - 1, by omega⟩
    rw [f_X7_years_h39, if_pos (by rw [show (120 : Int32) = nI 120 from rfl, nI_leE (by omega) (by omega)]; omega)]
    simp only [sq, nI_s]
  | succ j ih =>
    intro k m h1 h2 h3
    obtain ⟨m, rfl⟩ : ∃ m', m = m' + 1 := ⟨m - 1, by omega⟩
    rw [f_X7_years_h39, if_neg (by rw [show (120 : Int32) = nI 120 from rfl, nI_leE (by omega) (by omega)]; omega)]
    simp only [sq, nI_s, show nI k / 12 = nI (k / 12) from pk_div (d := 12) (by omega) (by decide) (by decide)]
    rw [mL_gs h, if_pos (by rw [nI_leE (by omega) (by omega)]; omega)]
    exact ih (k + 1) m (by omega) (by omega) (by omega)
theorem yr_39 {a : Nat → Nat → Nat} {μ : St} (I : Inv a) (h : MA a (ul μ)) {N x y : Nat} (hN : 1 ≤ N) (hN2 : N ≤ 30) (hx : x ≤ 1) (hy : y < 100) (rec29 : Int32 → Int32 → Option Int32) : ∀ (j g m p : Nat), g + j = a 1 0 → 120 - 12 * g < m → p + 12 * j < 2 ^ 28 → f_X7_years_h39 rec29 μ (nI N) (nI x) m (nI p) (nI y) (nI (12 * g)) = ygN (cyN a y) (Lb a N x y) (fun q => rec29 (nI q) (nI (y + 1))) g j p := by
  have h10 := I.gs
  intro j
  induction j with
  | zero =>
    intro g m p h1 h2 hp
    exact yr_sk I h (nI N) (nI x) (nI p) rec29 (120 - 12 * g) (12 * g) m (by omega) (by omega) h2
  | succ j ih =>
    intro g m p h1 h2 hp
    have hc := cy_le I y g
    have e := yr_12 I h hN hN2 hx hy (show g < a 1 0 by omega) rec29 12 0 m p (by omega) (by omega) (by omega)
    rw [cy_cn] at e
    rw [show 12 * g = 12 * g + 0 from rfl, e, ygN, show 12 * g + 12 = 12 * (g + 1) by omega, ih (g + 1) (m - 12) (p + cyN a y g) (by omega) (by omega) (by omega)]
theorem yr_29 {a : Nat → Nat → Nat} {μ : St} (I : Inv a) (h : MA a (ul μ)) {N x : Nat} (hN : 1 ≤ N) (hN2 : N ≤ 30) (hx : x ≤ 1) : ∀ (k y m p : Nat), y + k = 100 → k < m → p ≤ 120 * y → f_X7_years_h29 μ (nI N) (nI x) m (nI p) (nI y) = yyN (a 1 0) (cyN a) (Lb a N x) (fun q => if x = 1 then some (-4) else some (nI ((q + N - 1) / N))) y k p := by
  have h10 := I.gs
  intro k
  induction k with
  | zero =>
    intro y m p h1 h2 hp
    obtain ⟨m, rfl⟩ : ∃ m', m = m' + 1 := ⟨m - 1, by omega⟩
    rw [f_X7_years_h29, if_pos (by rw [show (100 : Int32) = nI 100 from rfl, nI_leE (by omega) (by omega)]; omega), yyN, show (1 : Int32) = nI 1 from rfl, nI_k, nI_m (show 1 ≤ p + N by omega)]
    simp only [nI_eqE (show x < 2 ^ 31 by omega) (show 1 < 2 ^ 31 by decide), nI_eq0 (show N < 2 ^ 31 by omega)]
    by_cases c : x = 1
    · rw [if_pos c, if_pos c]
    · rw [if_neg c, if_neg c, if_neg (by omega), pk_div (by omega) (by omega) (by omega)]
  | succ k ih =>
    intro y m p h1 h2 hp
    obtain ⟨m, rfl⟩ : ∃ m', m = m' + 1 := ⟨m - 1, by omega⟩
    rw [f_X7_years_h29, if_neg (by rw [show (100 : Int32) = nI 100 from rfl, nI_leE (by omega) (by omega)]; omega), yyN]
    refine Eq.trans (yr_39 I h hN hN2 hx (by omega) _ (a 1 0) 0 FU p (by omega) (by unfold FU; omega) (by omega)) ?_
    exact ygN_cong (cy_le I y) (a 1 0) 0 p (fun q hq => ih (y + 1) m q (by omega) (by omega) (by omega))
theorem cy_sum {a : Nat → Nat → Nat} (I : Inv a) : smN (fun y => smN (cyN a y) (a 1 0)) 100 = smN (qA a) (a 1 0) := by
  rw [smN_swap (cyN a) (a 1 0) 100]
  refine smN_cong (fun g hg => ?_)
  unfold cyN qA pcN
  rw [smN_swap (fun y w => if (arrN a g &&& oyN a y).testBit w then 1 else 0) 12 100]
  refine smN_cong (fun w hw => ?_)
  have e : ∀ y, (if (arrN a g &&& oyN a y).testBit w then 1 else 0) = if a 9 w = y then (if (arrN a g).testBit w then 1 else 0) else 0 := fun y => by
    rw [Nat.testBit_and]
    unfold oyN
    rw [bsN_bit]
    unfold arrN
    rw [bsN_bit]
    by_cases c : w < a 8 0
    · by_cases d : a 9 w = y
      · rw [decide_eq_true c, decide_eq_true d, if_pos d]
        simp
      · rw [decide_eq_false d, if_neg d]
        simp
    · rw [decide_eq_false c]
      simp
  rw [smN_cong (g := fun y => if a 9 w = y then (if (arrN a g).testBit w then 1 else 0) else 0) (fun y _ => e y), smN_one]
  by_cases c : w < a 8 0
  · have := (I.nw w c).1
    rw [if_pos (by omega)]
  · have : (arrN a g).testBit w = false := by
      unfold arrN
      rw [bsN_bit, decide_eq_false c]
      rfl
    rw [this]
    simp
theorem op24 : Op24 RR := by
  intro σ nw μ hR x1 x2
  obtain ⟨⟨a, I, hC, hM⟩, -⟩ := id hR
  have h10 := I.gs
  have e1 : (f_X7_in x1.toInt64 1 30 = 0) = ¬ (1 ≤ x1.toInt ∧ x1.toInt ≤ 30) := by
    rw [in_0, toL_T, show (1 : Int64).toInt = 1 by decide, show (30 : Int64).toInt = 30 by decide]
  have e2 : (f_X7_in x2.toInt64 0 1 = 0) = ¬ (0 ≤ x2.toInt ∧ x2.toInt ≤ 1) := by
    rw [in_0, toL_T, show (0 : Int64).toInt = 0 by decide, show (1 : Int64).toInt = 1 by decide]
  unfold f_X6_years f_X7_years
  simp only [e1, e2]
  by_cases v : (1 ≤ x1.toInt ∧ x1.toInt ≤ 30) ∧ (0 ≤ x2.toInt ∧ x2.toInt ≤ 1)
  · rw [if_neg (not_not_intro v.1), if_neg (not_not_intro v.2)]
    obtain ⟨N, hN, rfl⟩ := nI_ofR (n := 31) (x := x1) ⟨by omega, by omega⟩ (by decide)
    obtain ⟨x, hx, rfl⟩ := nI_ofR (n := 2) (x := x2) ⟨by omega, by omega⟩ (by decide)
    rw [lit_T N (by omega), lit_T x (by omega)] at v
    have hS := sm_le (f := qA a) (b := 12) (n := a 1 0) (fun i hi => (pc_of (arr_lt I i)).2.2)
    rw [if_neg (show ¬ nI N < 1 by rw [show (1 : Int32) = nI 1 from rfl, nI_ltE (by omega) (by omega)]; omega), if_neg (show ¬ 30 < nI N by rw [show (30 : Int32) = nI 30 from rfl, nI_ltE (by omega) (by omega)]; omega), if_neg (nI_pos (by omega)), if_pos (show nI x ≤ 1 by rw [show (1 : Int32) = nI 1 from rfl, nI_leE (by omega) (by omega)]; omega)]
    simp only [nI_eq0 (show x < 2 ^ 31 by omega)]
    have eM := yr_29 I hM (N := N) (x := x) (by omega) (by omega) (by omega) 100 0 FU 0 (by omega) (by unfold FU; omega) (by omega)
    have eM' : f_X7_years_h29 μ (nI N) (nI x) FU 0 0 = yyN (a 1 0) (cyN a) (Lb a N x) (fun q => if x = 1 then some (-4) else some (nI ((q + N - 1) / N))) 0 100 0 := eM
    rw [eM']
    by_cases c : x = 0
    · subst c
      rw [if_pos rfl, allArr_C I hC]
      have f := yyN_f (G := a 1 0) (c := cyN a) (L := Lb a N 0) (e := fun q => if 0 = 1 then some (-4) else some (nI ((q + N - 1) / N))) (fun y q => rfl) 100 0 0
      have f' : yyN (a 1 0) (cyN a) (Lb a N 0) (fun q => if 0 = 1 then some (-4) else some (nI ((q + N - 1) / N))) 0 100 0 = some (nI ((smN (qA a) (a 1 0) + N - 1) / N)) := by
        refine Eq.trans f ?_
        rw [Nat.zero_add, Nat.zero_add, cy_sum I]
        rfl
      rw [f']
      refine ⟨_, ?_, rfl, hR⟩
      simp only [bdr]
      rw [if_neg (by rw [nI_eq0 (by omega)]; omega), nI_k, show nI (smN (qA a) (a 1 0) + N) - 1 = nI (smN (qA a) (a 1 0) + N - 1) from nI_m (a := smN (qA a) (a 1 0) + N) (b := 1) (by omega), pk_div (by omega) (by omega) (by omega)]
    · have : x = 1 := by omega
      subst this
      rw [if_neg c]
      have eC := fpl_4 I hC (N := N) (by omega) (by omega) 100 0 FU 0 (by omega) (by unfold FU; omega) (by omega)
      have eC' : f_X3_firstPaidLate σ (nI N) = yyN (a 1 0) (cyN a) (Lb a N 1) (fun _ => some (-4)) 0 100 0 := eC
      rw [eC']
      obtain ⟨r, hr⟩ := yyN_some (G := a 1 0) (c := cyN a) (L := Lb a N 1) (e := fun _ => some (-4)) (fun q => ⟨_, rfl⟩) 100 0 0
      have hr2 : yyN (a 1 0) (cyN a) (Lb a N 1) (fun q => if 1 = 1 then some (-4) else some (nI ((q + N - 1) / N))) 0 100 0 = some r := hr
      rw [hr2, hr]
      exact ⟨r, rfl, rfl, hR⟩
  · refine ⟨-1, ?_, ?_, hR⟩
    · simp only [lt_T, le_T, T_0, show (1 : Int32).toInt = 1 by decide, show (30 : Int32).toInt = 30 by decide]
      (repeat' split) <;> first | rfl | (exfalso; omega)
    · (repeat' split) <;> first | rfl | (exfalso; omega)
