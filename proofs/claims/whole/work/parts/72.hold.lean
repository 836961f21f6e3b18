theorem hold_b {W i w : Nat} (hW : W < 2 ^ 31) (hi : i < 10) (hw : w ≤ 99) (rec37 : Int32 → Int32 → Int32 → Int32 → Int32 → St → Option (Int32 × St)) (x1 x2 x3 v4 v6 : Int32) {R : Nat → Bool} (hR : R i = (W.testBit i && decide (w < 99))) {σ : St} (hv : σ.1 7 i = nI w) : f_X3_hold_b120 rec37 x1 x2 x3 v4 (nI W) v6 (nI (bsN R i)) (nI i) σ = rec37 v4 (nI W) v6 (nI (bsN R (i + 1))) (nI (i + 1)) (if R i = true then wr σ 7 i (nI (w + 1)) else σ) := by
  unfold f_X3_hold_b120
  simp only [has_C0 hW (show i < 31 by omega), ix_nI (show i < 2 ^ 31 by omega), ok2 (show i < 10 by omega) (show i < 2 ^ 31 by omega), if_false, sq, hv, nI_s, show (99 : Int32) = nI 99 from rfl, nI_leE (show 99 < 2 ^ 31 by decide) (show w < 2 ^ 31 by omega)]
  cases hb : W.testBit i
  · have hr : R i = false := by rw [hR, hb]; rfl
    rw [if_pos rfl, hr, if_neg (by decide), bsN_f R hr]
  · rw [if_neg (by decide)]
    by_cases q : 99 ≤ w
    · have hr : R i = false := by rw [hR, hb, decide_eq_false (by omega)]; rfl
      rw [if_pos q, hr, if_neg (by decide), bsN_f R hr]
    · have hr : R i = true := by rw [hR, hb, decide_eq_true (by omega)]; rfl
      rw [if_neg q, if_pos hr, bsN_t R (by omega) hr]
theorem hold_s {H W n i h w G : Nat} (hH : H < 2 ^ 31) (hW : W < 2 ^ 31) (hn : n < 12) (hi : i < G) (hG : G ≤ 10) (hh : h < 4096) (hw : w ≤ 99) (x1 x2 : Int32) {F R : Nat → Bool} (hF : F i = (H.testBit i && !h.testBit n)) (hR : R i = (W.testBit i && decide (w < 99))) {σ : St} (hg : σ.1 2 0 = nI G) (h6 : σ.1 6 i = nI h) (h7 : σ.1 7 i = nI w) (m : Nat) : ∃ σ2, f_X3_hold_h37 x1 x2 (nI n) (m + 1) (nI H) (nI W) (nI (bsN F i)) (nI (bsN R i)) (nI i) σ = f_X3_hold_h37 x1 x2 (nI n) m (nI H) (nI W) (nI (bsN F (i + 1))) (nI (bsN R (i + 1))) (nI (i + 1)) σ2 ∧ (∀ c, c ≠ 6 → c ≠ 7 → c ≠ 8 → σ2.1 c = σ.1 c) ∧ σ2.2 = σ.2 ∧ (∀ q, σ2.1 6 q = if q = i ∧ F i = true then nI (h ||| 2 ^ n) else σ.1 6 q) ∧ (∀ q, σ2.1 7 q = if q = i ∧ R i = true then nI (w + 1) else σ.1 7 q) ∧ (∀ z, σ2.1 8 z = if z = 12 * i + n ∧ F i = true then σ.1 1 8 else σ.1 8 z) := by
  rw [f_X3_hold_h37, hg, if_neg (by rw [nI_leE (by omega) (by omega)]; omega)]
  have ez : nI i * 12 + nI n = nI (12 * i + n) := by rw [show (12 : Int32) = nI 12 from rfl, pk_mul, nI_k, Nat.mul_comm]
  simp only [has_C0 hH (show i < 31 by omega), ix_nI (show i < 2 ^ 31 by omega), ok2 (show i < 10 by omega) (show i < 2 ^ 31 by omega), if_false, sq, h6, has_C0 (show h < 2 ^ 31 by omega) (show n < 31 by omega), isl_1 (show n < 31 by omega), nI_or, ez, ix_nI (show 12 * i + n < 2 ^ 31 by omega), ok2 (show 12 * i + n < 120 by omega) (show 12 * i + n < 2 ^ 31 by omega)]
  have fin : ∀ σ1 : St, (∀ c, c ≠ 6 → c ≠ 8 → σ1.1 c = σ.1 c) → σ1.2 = σ.2 → (∀ q, σ1.1 6 q = if q = i ∧ F i = true then nI (h ||| 2 ^ n) else σ.1 6 q) → (∀ z, σ1.1 8 z = if z = 12 * i + n ∧ F i = true then σ.1 1 8 else σ.1 8 z) → ∃ σ2, f_X3_hold_b120 (f_X3_hold_h37 x1 x2 (nI n) m) x1 x2 (nI n) (nI H) (nI W) (nI (bsN F (i + 1))) (nI (bsN R i)) (nI i) σ1 = f_X3_hold_h37 x1 x2 (nI n) m (nI H) (nI W) (nI (bsN F (i + 1))) (nI (bsN R (i + 1))) (nI (i + 1)) σ2 ∧ (∀ c, c ≠ 6 → c ≠ 7 → c ≠ 8 → σ2.1 c = σ.1 c) ∧ σ2.2 = σ.2 ∧ (∀ q, σ2.1 6 q = if q = i ∧ F i = true then nI (h ||| 2 ^ n) else σ.1 6 q) ∧ (∀ q, σ2.1 7 q = if q = i ∧ R i = true then nI (w + 1) else σ.1 7 q) ∧ (∀ z, σ2.1 8 z = if z = 12 * i + n ∧ F i = true then σ.1 1 8 else σ.1 8 z) := by
    intro σ1 c1 c2 c3 c4
    rw [hold_b hW (by omega) hw (f_X3_hold_h37 x1 x2 (nI n) m) x1 x2 (nI n) (nI H) (nI (bsN F (i + 1))) hR (by rw [c1 7 (by decide) (by decide), h7])]
    refine ⟨_, rfl, ?_, ?_, ?_, ?_, ?_⟩
    · intro c h1 h2 h3
      split
      · rw [wr_ne h2, c1 c h1 h3]
      · exact c1 c h1 h3
    · split <;> exact c2
    · intro q
      split
      · rw [wr_ne (by decide), c3 q]
      · exact c3 q
    · intro q
      by_cases hr : R i = true
      · rw [if_pos hr, wr_get, if_pos rfl]
        by_cases e : q = i
        · rw [if_pos e, if_pos ⟨e, hr⟩]
        · rw [if_neg e, if_neg (fun c => e c.1), c1 7 (by decide) (by decide)]
      · rw [if_neg hr, if_neg (fun c => hr c.2), c1 7 (by decide) (by decide)]
    · intro z
      split
      · rw [wr_ne (by decide), c4 z]
      · exact c4 z
  cases hb : H.testBit i
  · have hf : F i = false := by rw [hF, hb]; rfl
    rw [if_pos rfl]
    have := fin σ (fun _ _ _ => rfl) rfl (fun q => by rw [if_neg (fun c => by rw [hf] at c; exact absurd c.2 (by decide))]) (fun q => by rw [if_neg (fun c => by rw [hf] at c; exact absurd c.2 (by decide))])
    rw [bsN_f F hf] at this ⊢
    exact this
  · rw [if_neg (by decide)]
    cases hc : h.testBit n
    · have hf : F i = true := by rw [hF, hb, hc]; rfl
      rw [if_pos rfl, bsN_t F (by omega) hf]
      refine fin _ (fun c h1 h3 => ?_) rfl (fun q => ?_) (fun z => ?_)
      · rw [wr_ne h3, wr_ne h1]
      · rw [wr_ne (by decide), wr_get, if_pos rfl]
        by_cases e : q = i
        · rw [if_pos e, if_pos ⟨e, hf⟩]
        · rw [if_neg e, if_neg (fun c => e c.1)]
      · rw [wr_get, if_pos rfl, wr_ne (by decide), wr_ne (by decide)]
        by_cases e : z = 12 * i + n
        · rw [if_pos e, if_pos ⟨e, hf⟩]
        · rw [if_neg e, if_neg (fun c => e c.1)]
    · have hf : F i = false := by rw [hF, hb, hc]; rfl
      rw [if_neg (by decide)]
      have := fin σ (fun _ _ _ => rfl) rfl (fun q => by rw [if_neg (fun c => by rw [hf] at c; exact absurd c.2 (by decide))]) (fun q => by rw [if_neg (fun c => by rw [hf] at c; exact absurd c.2 (by decide))])
      rw [bsN_f F hf] at this ⊢
      exact this
theorem hold_l {H W n G : Nat} {hd wg : Nat → Nat} (hH : H < 2 ^ 31) (hW : W < 2 ^ 31) (hn : n < 12) (hG : G ≤ 10) (hh : ∀ q, q < G → hd q < 4096) (hw : ∀ q, q < G → wg q ≤ 99) (x1 x2 : Int32) {F R : Nat → Bool} (hF : ∀ q, F q = (H.testBit q && !(hd q).testBit n)) (hR : ∀ q, R q = (W.testBit q && decide (wg q < 99))) : ∀ (k i m : Nat) (σ : St), i + k = G → k < m → σ.1 2 0 = nI G → (∀ q, i ≤ q → q < G → σ.1 6 q = nI (hd q) ∧ σ.1 7 q = nI (wg q)) → ∃ σ', f_X3_hold_h37 x1 x2 (nI n) m (nI H) (nI W) (nI (bsN F i)) (nI (bsN R i)) (nI i) σ = (bdr (f_X3_keepUndo (wr σ' 1 8 (σ'.1 1 8 + 1)) (nI n) (nI (bsN F G)) (nI (bsN R G))) fun s7 => if nI W = 0 then some (1, s7) else some (0, s7)) ∧ (∀ c, c ≠ 6 → c ≠ 7 → c ≠ 8 → σ'.1 c = σ.1 c) ∧ σ'.2 = σ.2 ∧ (∀ q, q < G → σ'.1 6 q = if i ≤ q ∧ F q = true then nI (hd q ||| 2 ^ n) else σ.1 6 q) ∧ (∀ q, q < G → σ'.1 7 q = if i ≤ q ∧ R q = true then nI (wg q + 1) else σ.1 7 q) ∧ (∀ q p, q < G → p < 12 → σ'.1 8 (12 * q + p) = if i ≤ q ∧ (p = n ∧ F q = true) then σ.1 1 8 else σ.1 8 (12 * q + p)) := by
  intro k
  induction k with
  | zero =>
    intro i m σ h1 h2 hg hv
    obtain ⟨m, rfl⟩ : ∃ m', m = m' + 1 := ⟨m - 1, by omega⟩
    have : i = G := by omega
    subst this
    rw [f_X3_hold_h37, hg, if_pos (by rw [nI_leE (by omega) (by omega)]; omega)]
    exact ⟨σ, rfl, fun _ _ _ _ => rfl, rfl, fun q hq => by rw [if_neg (by omega)], fun q hq => by rw [if_neg (by omega)], fun q p hq hp => by rw [if_neg (by omega)]⟩
  | succ k ih =>
    intro i m σ h1 h2 hg hv
    obtain ⟨m, rfl⟩ : ∃ m', m = m' + 1 := ⟨m - 1, by omega⟩
    have hi : i < G := by omega
    obtain ⟨σ2, s1, s2, s3, s4, s5, s6⟩ := hold_s hH hW hn hi hG (hh i hi) (hw i hi) x1 x2 (hF i) (hR i) hg (hv i (Nat.le_refl _) hi).1 (hv i (Nat.le_refl _) hi).2 m
    obtain ⟨σ', e1, e2, e3, e4, e5, e6⟩ := ih (i + 1) m σ2 (by omega) (by omega) (by rw [s2 2 (by decide) (by decide) (by decide), hg]) (fun q h3 h4 => ⟨by rw [s4, if_neg (fun c => by omega)]; exact (hv q (by omega) h4).1, by rw [s5, if_neg (fun c => by omega)]; exact (hv q (by omega) h4).2⟩)
    refine ⟨σ', Eq.trans s1 e1, fun c h3 h4 h5 => by rw [e2 c h3 h4 h5, s2 c h3 h4 h5], by rw [e3, s3], fun q hq => ?_, fun q hq => ?_, fun q p hq hp => ?_⟩
    · rw [e4 q hq]
      by_cases e : q = i
      · subst e
        rw [if_neg (by omega), s4]
        by_cases c : F q = true
        · rw [if_pos ⟨rfl, c⟩, if_pos ⟨Nat.le_refl _, c⟩]
        · rw [if_neg (fun d => c d.2), if_neg (fun d => c d.2)]
      · rw [ite_ne _ _ e, s4, if_neg (show ¬ (q = i ∧ F i = true) from fun c => e c.1)]
    · rw [e5 q hq]
      by_cases e : q = i
      · subst e
        rw [if_neg (by omega), s5]
        by_cases c : R q = true
        · rw [if_pos ⟨rfl, c⟩, if_pos ⟨Nat.le_refl _, c⟩]
        · rw [if_neg (fun d => c d.2), if_neg (fun d => c d.2)]
      · rw [ite_ne _ _ e, s5, if_neg (show ¬ (q = i ∧ R i = true) from fun c => e c.1)]
    · rw [e6 q p hq hp, s2 1 (by decide) (by decide) (by decide)]
      by_cases e : q = i
      · subst e
        rw [if_neg (by omega), s6]
        by_cases c : p = n ∧ F q = true
        · rw [if_pos ⟨by omega, c.2⟩, if_pos ⟨Nat.le_refl _, c⟩]
        · rw [if_neg (fun d => c ⟨by omega, d.2⟩), if_neg (fun d => c d.2)]
      · rw [ite_ne _ _ e, s6, if_neg (show ¬ (12 * q + p = 12 * i + n ∧ F i = true) from fun c => by omega)]
/-- how many may be undone behind a reading, less one; by how much the rows move -/
def uV (a : Nat → Nat → Nat) : Nat := if a 0 9 = 10 then 9 else a 0 9
def uD (a : Nat → Nat → Nat) : Nat := if a 0 9 = 10 then 1 else 0
theorem keep_b {v : Nat} (hv : v < 10) (x y z : Int32) {σ : St} (h : σ.1 1 9 = nI v) : f_X3_keepUndo_b70 x y z σ = some (wr (wr (wr (wr σ 16 v x) 17 v y) 18 v z) 1 9 (nI (v + 1))) := by
  unfold f_X3_keepUndo_b70
  simp only [sq]
  have e1 : (wr σ 16 v x).1 1 9 = nI v := by rw [wr_ne (by decide), h]
  have e2 : (wr (wr σ 16 v x) 17 v y).1 1 9 = nI v := by rw [wr_ne (by decide), e1]
  have e3 : (wr (wr (wr σ 16 v x) 17 v y) 18 v z).1 1 9 = nI v := by rw [wr_ne (by decide), e2]
  simp only [h, ix_nI (show v < 2 ^ 31 by omega), ok2 hv (show v < 2 ^ 31 by omega), if_false, e1, e2, e3, nI_s]
theorem wrow_get (σ : St) (c : Nat) (f : Nat → Int32) (d : Nat) : (wrow σ c f).1 d = if d = c then f else σ.1 d := rfl
theorem keep_C {a : Nat → Nat → Nat} (I : Inv a) (x y z : Int32) {σ : St} (h : σ.1 1 9 = nI (a 0 9)) : ∃ σ', f_X3_keepUndo σ x y z = some σ' ∧ (∀ c, c ≠ 1 → c ≠ 16 → c ≠ 17 → c ≠ 18 → σ'.1 c = σ.1 c) ∧ (∀ f, f ≠ 9 → σ'.1 1 f = σ.1 1 f) ∧ σ'.2 = σ.2 ∧ σ'.1 1 9 = nI (uV a + 1) ∧ (σ'.1 16 (uV a) = x ∧ σ'.1 17 (uV a) = y ∧ σ'.1 18 (uV a) = z) ∧ ∀ j, j < uV a → σ'.1 16 j = σ.1 16 (j + uD a) ∧ σ'.1 17 j = σ.1 17 (j + uD a) ∧ σ'.1 18 j = σ.1 18 (j + uD a) := by
  have hu := I.un
  unfold f_X3_keepUndo uV uD
  simp only [h, show (10 : Int32) = nI 10 from rfl, nI_eqE (show a 0 9 < 2 ^ 31 by omega) (show 10 < 2 ^ 31 by decide)]
  by_cases q : a 0 9 = 10
  · simp only [q, if_true, sq, show nI 10 - 1 = nI 9 by decide]
    have e1 : (wr σ 1 9 (nI 9)).1 1 9 = nI 9 := by rw [wr_get, if_pos rfl, if_pos rfl]
    have e2 : ∀ f, (wrow (wr σ 1 9 (nI 9)) 16 f).1 1 9 = nI 9 := fun f => by rw [wrow_get, if_neg (by decide), e1]
    have e3 : ∀ f g, (wrow (wrow (wr σ 1 9 (nI 9)) 16 f) 17 g).1 1 9 = nI 9 := fun f g => by rw [wrow_get, if_neg (by decide), e2]
    have e4 : ∀ f g k, (wrow (wrow (wrow (wr σ 1 9 (nI 9)) 16 f) 17 g) 18 k).1 1 9 = nI 9 := fun f g k => by rw [wrow_get, if_neg (by decide), e3]
    simp only [e1, e2, e3, show ix (nI 9) = 9 by decide, show ix 1 = 1 by decide, show ix 0 = 0 by decide]
    rw [if_neg (by decide), if_neg (by decide), if_neg (by decide), keep_b (v := 9) (by decide) x y z (e4 _ _ _)]
    refine ⟨_, rfl, ?_, ?_, rfl, ?_, ⟨?_, ?_, ?_⟩, ?_⟩
    · intro c c1 c2 c3 c4
      rw [wr_ne c1, wr_ne c4, wr_ne c3, wr_ne c2, wrow_get, if_neg c4, wrow_get, if_neg c3, wrow_get, if_neg c2, wr_ne c1]
    · intro f hf
      rw [wr_get, if_pos rfl, if_neg hf, wr_ne (by decide), wr_ne (by decide), wr_ne (by decide), wrow_get, if_neg (by decide), wrow_get, if_neg (by decide), wrow_get, if_neg (by decide), wr_get, if_pos rfl, if_neg hf]
    · rw [wr_get, if_pos rfl, if_pos rfl]
    · rw [wr_ne (by decide), wr_ne (by decide), wr_ne (by decide), wr_get, if_pos rfl, if_pos rfl]
    · rw [wr_ne (by decide), wr_ne (by decide), wr_get, if_pos rfl, if_pos rfl]
    · rw [wr_ne (by decide), wr_get, if_pos rfl, if_pos rfl]
    · intro j hj
      refine ⟨?_, ?_, ?_⟩
      · rw [wr_ne (by decide), wr_ne (by decide), wr_ne (by decide), wr_get, if_pos rfl, if_neg (by omega), wrow_get, if_neg (by decide), wrow_get, if_neg (by decide), wrow_get, if_pos rfl]
        unfold va_cpy
        rw [if_pos (by omega), show 1 + (j - 0) = j + 1 by omega, wr_ne (by decide)]
      · rw [wr_ne (by decide), wr_ne (by decide), wr_get, if_pos rfl, if_neg (by omega), wr_ne (by decide), wrow_get, if_neg (by decide), wrow_get, if_pos rfl]
        unfold va_cpy
        rw [if_pos (by omega), show 1 + (j - 0) = j + 1 by omega, wrow_get, if_neg (by decide), wr_ne (by decide)]
      · rw [wr_ne (by decide), wr_get, if_pos rfl, if_neg (by omega), wr_ne (by decide), wr_ne (by decide), wrow_get, if_pos rfl]
        unfold va_cpy
        rw [if_pos (by omega), show 1 + (j - 0) = j + 1 by omega, wrow_get, if_neg (by decide), wrow_get, if_neg (by decide), wr_ne (by decide)]
  · simp only [q, if_false]
    rw [keep_b (v := a 0 9) (by omega) x y z h]
    refine ⟨_, rfl, ?_, ?_, rfl, ?_, ⟨?_, ?_, ?_⟩, ?_⟩
    · intro c c1 c2 c3 c4
      rw [wr_ne c1, wr_ne c4, wr_ne c3, wr_ne c2]
    · intro f hf
      rw [wr_get, if_pos rfl, if_neg hf, wr_ne (by decide), wr_ne (by decide), wr_ne (by decide)]
    · rw [wr_get, if_pos rfl, if_pos rfl]
    · rw [wr_ne (by decide), wr_ne (by decide), wr_ne (by decide), wr_get, if_pos rfl, if_pos rfl]
    · rw [wr_ne (by decide), wr_ne (by decide), wr_get, if_pos rfl, if_pos rfl]
    · rw [wr_ne (by decide), wr_get, if_pos rfl, if_pos rfl]
    · intro j hj
      refine ⟨?_, ?_, ?_⟩
      · rw [wr_ne (by decide), wr_ne (by decide), wr_ne (by decide), wr_get, if_pos rfl, if_neg (by omega)]; rfl
      · rw [wr_ne (by decide), wr_ne (by decide), wr_get, if_pos rfl, if_neg (by omega), wr_ne (by decide)]; rfl
      · rw [wr_ne (by decide), wr_get, if_pos rfl, if_neg (by omega), wr_ne (by decide), wr_ne (by decide)]; rfl
