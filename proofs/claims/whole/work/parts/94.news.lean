def NT (σ μ : St) (k : Nat) : Prop := ∀ u, u < k → ∃ y s b h, y < 100 ∧ s < 2 ^ u ∧ b < 1024 ∧ h ≤ 1 ∧ (σ.1 47 u = nI y ∧ σ.1 48 u = nI s ∧ σ.1 49 u = nI b ∧ σ.1 50 u = nI h) ∧ (μ.1 12 (4 * u) = nI y ∧ μ.1 12 (4 * u + 1) = nI s ∧ μ.1 12 (4 * u + 2) = nI b ∧ μ.1 12 (4 * u + 3) = nI h)
def ad46 (σ : St) (k : Nat) (x y z w : Int32) : St := wr (wr (wr (wr (wr (wr σ 47 k x) 48 k y) 49 k z) 50 k w) 46 0 (nI (k + 1))) 46 1 0
theorem add_46 {σ : St} {k : Nat} (hk : k < 12) (h : σ.1 46 0 = nI k) (q : Nat) (x y z w : Int32) : f_X2_add_46 (PC σ q) x y z w = some (PC (ad46 σ k x y z w) q) := by
  unfold f_X2_add_46
  have e0 : (PC σ q).1 46 0 = nI k := by rw [PC_n σ q (by decide), h]
  rw [e0, if_pos (by rw [show (12 : Int32) = nI 12 from rfl, nI_ltE (by omega) (by omega)]; exact hk)]
  simp only [sq, ix_nI (show k < 2 ^ 31 by omega)]
  have e1 : (wr (PC σ q) 47 k x).1 46 0 = nI k := by rw [wr_ne (by decide), e0]
  have e2 : (wr (wr (PC σ q) 47 k x) 48 k y).1 46 0 = nI k := by rw [wr_ne (by decide), e1]
  have e3 : (wr (wr (wr (PC σ q) 47 k x) 48 k y) 49 k z).1 46 0 = nI k := by rw [wr_ne (by decide), e2]
  have e4 : (wr (wr (wr (wr (PC σ q) 47 k x) 48 k y) 49 k z) 50 k w).1 46 0 = nI k := by rw [wr_ne (by decide), e3]
  simp only [e1, e2, e3, e4, ix_nI (show k < 2 ^ 31 by omega), ok2 hk (show k < 2 ^ 31 by omega), if_false, nI_s]
  unfold ad46
  rw [PC_c σ q x (by decide), PC_c _ q y (by decide), PC_c _ q z (by decide), PC_c _ q w (by decide), PC_c _ q _ (by decide), PC_c _ q 0 (by decide)]
theorem ad46_c (σ : St) (k : Nat) (x y z w : Int32) {c : Nat} (h : c < 46 ∨ 50 < c) : (ad46 σ k x y z w).1 c = σ.1 c := by
  unfold ad46
  rw [wr_ne (by omega), wr_ne (by omega), wr_ne (by omega), wr_ne (by omega), wr_ne (by omega), wr_ne (by omega)]
theorem ad46_0 (σ : St) (k : Nat) (x y z w : Int32) : (ad46 σ k x y z w).1 46 0 = nI (k + 1) ∧ (ad46 σ k x y z w).1 46 1 = 0 := by
  unfold ad46
  rw [wr_get, if_pos rfl, if_neg (by decide), wr_at, wr_at]
  exact ⟨rfl, rfl⟩
theorem ad46_g (σ : St) (k : Nat) (x y z w : Int32) (u : Nat) : (ad46 σ k x y z w).1 47 u = (if u = k then x else σ.1 47 u) ∧ (ad46 σ k x y z w).1 48 u = (if u = k then y else σ.1 48 u) ∧ (ad46 σ k x y z w).1 49 u = (if u = k then z else σ.1 49 u) ∧ (ad46 σ k x y z w).1 50 u = (if u = k then w else σ.1 50 u) := by
  unfold ad46
  refine ⟨?_, ?_, ?_, ?_⟩
  · rw [wr_ne (by decide), wr_ne (by decide), wr_ne (by decide), wr_ne (by decide), wr_ne (by decide), wr_get, if_pos rfl]
  · rw [wr_ne (by decide), wr_ne (by decide), wr_ne (by decide), wr_ne (by decide), wr_get, if_pos rfl, wr_ne (by decide)]
  · rw [wr_ne (by decide), wr_ne (by decide), wr_ne (by decide), wr_get, if_pos rfl, wr_ne (by decide), wr_ne (by decide)]
  · rw [wr_ne (by decide), wr_ne (by decide), wr_get, if_pos rfl, wr_ne (by decide), wr_ne (by decide), wr_ne (by decide)]
theorem takes_J {σ μ : St} {t : Nat} {T : Nat → Nat} (hC : TC σ t T) (hM : TM μ t T) {p c : Nat} (hp : p ≤ t) (hc : c < 2 ^ 31) : ∃ v q, v ≤ 1 ∧ q ≤ t ∧ f_X5_takes (PC σ p) (nI c) = some (nI v, PC σ q) ∧ f_X7_takes (PM μ p) (nI c) = some (nI v, PM μ q) ∧ (v = 0 → q = nx T t p ∧ ¬ tkP T t p c) := by
  have hn := nx_le (T := T) hp
  rcases takes_C hC hp hc with ⟨g, e⟩ | ⟨g, e⟩
  · rcases takes_M hM hp hc with ⟨-, e'⟩ | ⟨g', -⟩
    · exact ⟨1, _, Nat.le_refl _, g.1, e, e', fun h => by omega⟩
    · exact absurd g g'
  · rcases takes_M hM hp hc with ⟨g', -⟩ | ⟨-, e'⟩
    · exact absurd g' g
    · exact ⟨0, _, by omega, hn, e, e', fun _ => ⟨rfl, g⟩⟩
/-- what comes of a news: a fault on both sides, a news, or a fault that the class meets one step later -/
def nwO (σ μ : St) (t : Nat) (T : Nat → Nat) (k : Nat) (XC XM : Option (Int32 × St)) : Prop := ∃ σ' μ' : St, (∀ c, (c < 46 ∨ 50 < c) → σ'.1 c = σ.1 c) ∧ σ'.2 = σ.2 ∧ (∀ c, c ≠ 12 → μ'.1 c = μ.1 c) ∧ μ'.2 = μ.2 ∧ ((∃ q, q ≤ t ∧ nx T t q = q ∧ XC = some (0, PC σ' q) ∧ XM = some (0, PM μ' q)) ∨ (∃ pc q, pc ≤ t ∧ q ≤ t ∧ nx T t pc = nx T t q ∧ XC = some (1, PC σ' pc) ∧ XM = some (1, PM μ' q) ∧ NT σ' μ' (k + 1) ∧ σ'.1 46 0 = nI (k + 1) ∧ σ'.1 46 1 = 0) ∨ (∃ pc q, pc ≤ t ∧ q < t ∧ nx T t pc = q ∧ nx T t q = q ∧ T q ≠ 44 ∧ XC = some (1, PC σ' pc) ∧ XM = some (0, PM μ' q)))
theorem nw_tail {σ μ : St} {t : Nat} {T : Nat → Nat} (hC : TC σ t T) (hM : TM μ t T) {k y h s p : Nat} (hk : k ≤ 11) (hy : y < 100) (hh : h ≤ 1) (hs : s < 2 ^ k) (h46 : σ.1 46 0 = nI k) (hN : NT σ μ k) (m0 : μ.1 12 (4 * k) = nI y) (m3 : μ.1 12 (4 * k + 3) = nI h) (hp : p ≤ t) : nwO σ μ t T k (f_X5_takeNews_46_b47 (nI y) (nI h) (nI s) (PC σ p)) (f_X7_readNews_b80 (nI k) (nI (4 * k)) (nI s) (nI (4 * k + 1)) (PM μ p)) := by
  have hp12 := pow12 (p := k) (by omega)
  have f1 : ∀ c, c ≠ 12 → (wr μ 12 (4 * k + 1) (nI s)).1 c = μ.1 c := fun c hc => wr_ne hc
  have hM1 : TM (wr μ 12 (4 * k + 1) (nI s)) t T := hM.fr (by rw [f1 0 (by decide)]) (f1 11 (by decide))
  obtain ⟨v, q, v1, q1, e1, e2, e3⟩ := takes_J hC hM1 (c := 33) hp (by decide)
  have e1' : f_X5_takes (PC σ p) 33 = _ := e1
  have e2' : f_X7_takes (PM (wr μ 12 (4 * k + 1) (nI s)) p) 33 = _ := e2
  have g12 : ∀ b z, (wr (wr μ 12 (4 * k + 1) (nI s)) 12 (4 * k + 2) b).1 12 z = if z = 4 * k + 2 then b else if z = 4 * k + 1 then nI s else μ.1 12 z := fun b z => by rw [wr_get, if_pos rfl, wr_get, if_pos rfl]
  have nt : ∀ b, b < 1024 → NT (ad46 σ k (nI y) (nI s) (nI b) (nI h)) (wr (wr μ 12 (4 * k + 1) (nI s)) 12 (4 * k + 2) (nI b)) (k + 1) := fun b hb u hu => by
    obtain ⟨a1, a2, a3, a4⟩ := ad46_g σ k (nI y) (nI s) (nI b) (nI h) u
    rw [a1, a2, a3, a4, g12, g12, g12, g12]
    by_cases c : u = k
    · subst c
      refine ⟨y, s, b, h, hy, hs, hb, hh, ⟨by rw [if_pos rfl], by rw [if_pos rfl], by rw [if_pos rfl], by rw [if_pos rfl]⟩, ?_, ?_, ?_, ?_⟩
      · rw [if_neg (by omega), if_neg (by omega), m0]
      · rw [if_neg (by omega), if_pos rfl]
      · rw [if_pos rfl]
      · rw [if_neg (by omega), if_neg (by omega), m3]
    · obtain ⟨y', s', b', h', b1, b2, b3, b4, ⟨c1, c2, c3, c4⟩, d1, d2, d3, d4⟩ := hN u (by omega)
      refine ⟨y', s', b', h', b1, b2, b3, b4, ⟨by rw [if_neg c, c1], by rw [if_neg c, c2], by rw [if_neg c, c3], by rw [if_neg c, c4]⟩, ?_, ?_, ?_, ?_⟩
      · rw [if_neg (by omega), if_neg (by omega), d1]
      · rw [if_neg (by omega), if_neg (by omega), d2]
      · rw [if_neg (by omega), if_neg (by omega), d3]
      · rw [if_neg (by omega), if_neg (by omega), d4]
  have f2 : ∀ b c, c ≠ 12 → (wr (wr μ 12 (4 * k + 1) (nI s)) 12 (4 * k + 2) b).1 c = μ.1 c := fun b c hc => by rw [wr_ne hc, f1 c hc]
  -- the model's last write
  have mw : ∀ (b : Int32) (q : Nat), f_X7_readNews_b118 (nI k) (nI (4 * k)) b (nI (4 * k) + 2) (PM (wr μ 12 (4 * k + 1) (nI s)) q) = if b < 0 then some (0, PM (wr (wr μ 12 (4 * k + 1) (nI s)) 12 (4 * k + 2) b) q) else some (1, PM (wr (wr μ 12 (4 * k + 1) (nI s)) 12 (4 * k + 2) b) q) := fun b q => by
    unfold f_X7_readNews_b118
    simp only [nI_2, ix_nI (show 4 * k + 2 < 2 ^ 31 by omega), ok2 (show 4 * k + 2 < 128 by omega) (show 4 * k + 2 < 2 ^ 31 by omega), if_false, sq, wr_at]
    rw [PM_c _ _ _ (by decide)]
  unfold f_X5_takeNews_46_b47 f_X7_readNews_b80
  rw [if_pos (nI_pos' (by omega))]
  simp only [nI_s, ix_nI (show 4 * k + 1 < 2 ^ 31 by omega), ok2 (show 4 * k + 1 < 128 by omega) (show 4 * k + 1 < 2 ^ 31 by omega), if_false, sq, wr_at]
  rw [if_pos (nI_pos' (by omega)), PM_c _ _ _ (by decide), e1', e2']
  simp only [bdp, mw, nI_eq0 (show v < 2 ^ 31 by omega)]
  by_cases c : v = 0
  · rw [if_pos c, if_pos c, if_neg (show ¬ (0 : Int32) < 0 by decide)]
    unfold f_X5_takeNews_46_b73
    rw [if_pos (show (0 : Int32) ≤ 0 by decide), add_46 (by omega) h46]
    simp only [bdr]
    refine ⟨ad46 σ k (nI y) (nI s) (nI 0) (nI h), _, fun c hc => ad46_c _ _ _ _ _ _ hc, rfl, f2 (nI 0), rfl, Or.inr (Or.inl ⟨q, q, q1, q1, rfl, rfl, rfl, nt 0 (by decide), (ad46_0 _ _ _ _ _ _).1, (ad46_0 _ _ _ _ _ _).2⟩)⟩
  · rw [if_neg c, if_neg c]
    unfold f_X5_takeBarred f_X7_readBarred
    obtain ⟨pc, q', a1, a2, a3, a4, a5⟩ := ba_J hC hM1 10 0 FU 0 q (by omega) (by unfold FU; omega) (by decide) (by decide) q1
    have z0 : (nI 0 : Int32) = 0 := rfl
    rw [z0] at a5
    rcases a5 with ⟨a5, a6, a7⟩ | ⟨b, hb, a6, a7⟩ | ⟨b, hb, a6, a7, a8, a9, a10⟩
    · rw [a6, a7]
      simp only [mw]
      unfold f_X5_takeNews_46_b73
      rw [if_neg (show ¬ (0 : Int32) ≤ -1 by decide), if_pos (show (-1 : Int32) < 0 by decide)]
      exact ⟨σ, _, fun _ _ => rfl, rfl, f2 _, rfl, Or.inl ⟨q', a2, a4, rfl, rfl⟩⟩
    · rw [a6, a7]
      simp only [mw]
      unfold f_X5_takeNews_46_b73
      rw [if_pos (nI_pos' (by omega)), if_neg (nI_pos (by omega)), add_46 (by omega) h46]
      simp only [bdr]
      exact ⟨ad46 σ k (nI y) (nI s) (nI b) (nI h), _, fun c hc => ad46_c _ _ _ _ _ _ hc, rfl, f2 (nI b), rfl, Or.inr (Or.inl ⟨pc, q', a1, a2, by rw [a3, a4], rfl, rfl, nt b hb, (ad46_0 _ _ _ _ _ _).1, (ad46_0 _ _ _ _ _ _).2⟩)⟩
    · rw [a6, a7]
      simp only [mw]
      unfold f_X5_takeNews_46_b73
      rw [if_pos (nI_pos' (by omega)), if_pos (show (-1 : Int32) < 0 by decide), add_46 (by omega) h46]
      simp only [bdr]
      exact ⟨ad46 σ k (nI y) (nI s) (nI b) (nI h), _, fun c hc => ad46_c _ _ _ _ _ _ hc, rfl, f2 (-1), rfl, Or.inr (Or.inr ⟨pc, q', a1, a8, a3, a4, by omega, rfl, rfl⟩)⟩
theorem news_J {σ μ : St} {t : Nat} {T : Nat → Nat} (hC : TC σ t T) (hM : TM μ t T) {k p : Nat} (hk : k ≤ 11) (h46 : σ.1 46 0 = nI k) (hN : NT σ μ k) (hp : p ≤ t) : nwO σ μ t T k (f_X5_takeNews_46 (PC σ p)) (f_X7_readNews (PM μ p) (nI k)) := by
  have hT : ∀ i, i < t → T i ≤ 126 := fun i hi => (hC.2.2 i hi).2.1
  have hn := nx_le (T := T) hp
  unfold f_X5_takeNews_46 f_X7_readNews
  obtain ⟨r, q1, n1, n2, n3⟩ := num_J hC hM (b := 99) (by decide) hp
  have n1' : f_X5_takeNumber (PC σ p) 99 = _ := n1
  have n2' : f_X7_readNumber (PM μ p) 99 = _ := n2
  have e4 : (4 : Int32) * nI k = nI (4 * k) := pk_mul 4 k
  rw [n1', n2']
  simp only [bdp, sq, e4, ix_nI (show 4 * k < 2 ^ 31 by omega), ok2 (show 4 * k < 128 by omega) (show 4 * k < 2 ^ 31 by omega), if_false, wr_at, nI_3]
  rw [PM_c _ _ _ (by decide)]
  have f1 : ∀ c, c ≠ 12 → (wr μ 12 (4 * k) r).1 c = μ.1 c := fun c hc => wr_ne hc
  have hM1 : TM (wr μ 12 (4 * k) r) t T := hM.fr (by rw [f1 0 (by decide)]) (f1 11 (by decide))
  rcases n3 with ⟨r1, r2⟩ | ⟨y, y1, y2, y3, y4⟩
  · rw [r1] at f1 ⊢
    rw [if_neg (by decide), if_neg (by decide)]
    exact ⟨σ, _, fun _ _ => rfl, rfl, f1, rfl, Or.inl ⟨q1, by omega, by rw [r2]; exact nx_nx hp, rfl, rfl⟩⟩
  · rw [y2] at f1 hM1 ⊢
    rw [if_pos (nI_pos' (by omega)), if_pos (nI_pos' (by omega))]
    obtain ⟨h, q2, h1, h2, t1, t2, -⟩ := takes_J hC hM1 (c := 115) y4 (by decide)
    have t1' : f_X5_takes (PC σ q1) 115 = _ := t1
    have t2' : f_X7_takes (PM (wr μ 12 (4 * k) (nI y)) q1) 115 = _ := t2
    rw [t1', t2']
    simp only []
    have c1 : (if nI h = 0 then f_X5_takeNews_46_b27 (nI y) 0 (PC σ q2) else f_X5_takeNews_46_b27 (nI y) 1 (PC σ q2)) = f_X5_takeNews_46_b27 (nI y) (nI h) (PC σ q2) := by
      by_cases c : h = 0
      · rw [if_pos (by rw [c]; rfl), c]; rfl
      · have : h = 1 := by omega
        rw [this, if_neg (by decide)]; rfl
    have c2 : (if nI h = 0 then f_X7_readNews_b48 (nI k) (nI (4 * k)) 0 (nI (4 * k + 3)) (PM (wr μ 12 (4 * k) (nI y)) q2) else f_X7_readNews_b48 (nI k) (nI (4 * k)) 1 (nI (4 * k + 3)) (PM (wr μ 12 (4 * k) (nI y)) q2)) = f_X7_readNews_b48 (nI k) (nI (4 * k)) (nI h) (nI (4 * k + 3)) (PM (wr μ 12 (4 * k) (nI y)) q2) := by
      by_cases c : h = 0
      · rw [if_pos (by rw [c]; rfl), c]; rfl
      · have : h = 1 := by omega
        rw [this, if_neg (by decide)]; rfl
    rw [c1, c2]
    unfold f_X5_takeNews_46_b27 f_X7_readNews_b48
    simp only [ix_nI (show 4 * k + 3 < 2 ^ 31 by omega), ok2 (show 4 * k + 3 < 128 by omega) (show 4 * k + 3 < 2 ^ 31 by omega), if_false, sq]
    rw [PM_c _ _ _ (by decide)]
    obtain ⟨μ2, hμ⟩ : ∃ μ2, μ2 = wr (wr μ 12 (4 * k) (nI y)) 12 (4 * k + 3) (nI h) := ⟨_, rfl⟩
    rw [← hμ]
    have f2 : ∀ c, c ≠ 12 → μ2.1 c = μ.1 c := fun c hc => by rw [hμ, wr_ne hc, f1 c hc]
    have f22 : μ2.2 = μ.2 := by rw [hμ]; rfl
    have hM2 : TM μ2 t T := hM.fr (by rw [f2 0 (by decide)]) (f2 11 (by decide))
    have g2 : ∀ z, μ2.1 12 z = if z = 4 * k + 3 then nI h else if z = 4 * k then nI y else μ.1 12 z := fun z => by rw [hμ, wr_get, if_pos rfl, wr_get, if_pos rfl]
    have m0 : μ2.1 12 (4 * k) = nI y := by rw [g2, if_neg (by omega), if_pos rfl]
    have m3 : μ2.1 12 (4 * k + 3) = nI h := by rw [g2, if_pos rfl]
    have hN2 : NT σ μ2 k := fun u hu => by
      obtain ⟨y', s', b', h', b1, b2, b3, b4, cc, d1, d2, d3, d4⟩ := hN u hu
      refine ⟨y', s', b', h', b1, b2, b3, b4, cc, ?_, ?_, ?_, ?_⟩
      · rw [g2, if_neg (by omega), if_neg (by omega), d1]
      · rw [g2, if_neg (by omega), if_neg (by omega), d2]
      · rw [g2, if_neg (by omega), if_neg (by omega), d3]
      · rw [g2, if_neg (by omega), if_neg (by omega), d4]
    have lift : ∀ {XC XM : Option (Int32 × St)}, nwO σ μ2 t T k XC XM → nwO σ μ t T k XC XM := fun hh => by
      obtain ⟨σ', μ', a1, a2, a3, a4, a5⟩ := hh
      exact ⟨σ', μ', a1, a2, fun c hc => by rw [a3 c hc, f2 c hc], by rw [a4, f22], a5⟩
    obtain ⟨v, q3, v1, v2, w1, w2, -⟩ := takes_J hC hM2 (c := 60) h2 (by decide)
    have w1' : f_X5_takes (PC σ q2) 60 = _ := w1
    have w2' : f_X7_takes (PM μ2 q2) 60 = _ := w2
    rw [w1', w2']
    simp only [bdp, nI_eq0 (show v < 2 ^ 31 by omega), nI_s, ix_nI (show 4 * k < 2 ^ 31 by omega), ok2 (show 4 * k < 128 by omega) (show 4 * k < 2 ^ 31 by omega), if_false]
    by_cases c : v = 0
    · rw [if_pos c, if_pos c]
      exact lift (nw_tail hC hM2 hk (by omega) h1 (s := 0) (Nat.two_pow_pos _) h46 hN2 m0 m3 v2)
    · rw [if_neg c, if_neg c, PM_n μ2 q3 (by decide), m0]
      unfold f_X5_takeAhead_46 f_X7_readAhead
      obtain ⟨q, a1, a2, a3⟩ := ah_J hC hM2 hk (y := y) (by omega) h46 (fun u hu => by
        obtain ⟨y', s', b', h', b1, b2, b3, b4, cc, d1, d2, d3, d4⟩ := hN2 u hu
        exact ⟨y', b1, cc.1, d1⟩) k 0 FU 0 q3 (by omega) (by unfold FU; omega) (Nat.two_pow_pos _) (by unfold ctN; rw [smN_cong (g := fun _ => 0) (fun n hn => by rw [Nat.zero_testBit]; rfl), smN_z]) v2
      have z0 : (nI 0 : Int32) = 0 := rfl
      rw [z0] at a3
      have bad : ∀ q, f_X7_readNews_b80 (nI k) (nI (4 * k)) (-1) (nI (4 * k + 1)) (PM μ2 q) = some (0, PM (wr μ2 12 (4 * k + 1) (-1)) q) := fun q => by
        unfold f_X7_readNews_b80
        simp only [nI_s, ix_nI (show 4 * k + 1 < 2 ^ 31 by omega), ok2 (show 4 * k + 1 < 128 by omega) (show 4 * k + 1 < 2 ^ 31 by omega), if_false, sq, wr_at]
        rw [if_neg (show ¬ (0 : Int32) ≤ -1 by decide), PM_c _ _ _ (by decide)]
      rcases a3 with ⟨b1, b2⟩ | ⟨s, hs, b1, b2⟩ | ⟨s, hs, b1, b2, b3, b4, b5⟩
      · rw [b1, b2]
        simp only []
        rw [bad]
        unfold f_X5_takeNews_46_b47
        rw [if_neg (show ¬ (0 : Int32) ≤ -1 by decide)]
        exact ⟨σ, wr μ2 12 (4 * k + 1) (-1), fun _ _ => rfl, rfl, fun c hc => by rw [wr_ne hc, f2 c hc], f22, Or.inl ⟨q, a1, a2, rfl, rfl⟩⟩
      · rw [b1, b2]
        simp only [nI_s]
        exact lift (nw_tail hC hM2 hk (by omega) h1 hs h46 hN2 m0 m3 a1)
      · rw [b1, b2]
        simp only []
        rw [bad]
        have hp12 := pow12 (p := k) (by omega)
        unfold f_X5_takeNews_46_b47
        rw [if_pos (nI_pos' (by omega))]
        rcases takes_C hC a1 (c := 33) (by decide) with ⟨g3, e3⟩ | ⟨g3, e3⟩
        · have := g3.2
          rw [a2] at this
          omega
        · have e3' : f_X5_takes (PC σ q) 33 = _ := e3
          rw [e3', a2]
          simp only [bdp]
          rw [if_pos trivial]
          unfold f_X5_takeNews_46_b73
          rw [if_pos (show (0 : Int32) ≤ 0 by decide), add_46 (by omega) h46]
          simp only [bdr]
          exact ⟨ad46 σ k (nI y) (nI s) 0 (nI h), wr μ2 12 (4 * k + 1) (-1), fun c hc => ad46_c _ _ _ _ _ _ hc, rfl, fun c hc => by rw [wr_ne hc, f2 c hc], f22, Or.inr (Or.inr ⟨q, q, a1, b3, a2, a2, by omega, rfl, rfl⟩)⟩
