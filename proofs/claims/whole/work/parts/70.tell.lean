theorem ite_sh {α : Type} {i q : Nat} {P : Prop} [Decidable P] (x y : α) (h : q = i → ¬ P) : (if i + 1 ≤ q ∧ P then x else y) = (if i ≤ q ∧ P then x else y) := by
  by_cases e : q = i
  · rw [if_neg (fun c => h e c.2), if_neg (fun c => h e c.2)]
  · by_cases c : i ≤ q ∧ P
    · rw [if_pos c, if_pos ⟨by omega, c.2⟩]
    · rw [if_neg c, if_neg (fun c' => c ⟨by omega, c'.2⟩)]
theorem ite_ne {α : Type} {i q : Nat} {P : Prop} [Decidable P] (x y : α) (e : q ≠ i) : (if i + 1 ≤ q ∧ P then x else y) = (if i ≤ q ∧ P then x else y) := ite_sh x y (fun h => absurd h e)
theorem w3g (ν : St) (c p q r z : Nat) (u v w : Int32) : (wr (wr (wr ν c p u) c q v) c r w).1 c z = if z = r then w else if z = q then v else if z = p then u else ν.1 c z := by rw [wr_get, if_pos rfl, wr_get, if_pos rfl, wr_get, if_pos rfl]
theorem tell_b {W n i h : Nat} (hW : W < 2 ^ 31) (hn : n < 12) (hi : i < 10) (rec24 : Int32 → Int32 → Int32 → St → Option St) (x y v4 t0 : Int32) {ν : St} (hv : ν.1 9 i = nI h) : f_X7_tell_b95 rec24 x y (nI n) v4 (nI W) (nI i) t0 (nI (20 + 12 * i + n)) ν = rec24 v4 (nI W) (nI (i + 1)) (wr (wr (wr ν 9 (20 + 12 * i + n) t0) 9 i (nI (h ||| 2 ^ n))) 9 (10 + i) (if W.testBit i = true ∧ ν.1 9 (10 + i) < 99 then ν.1 9 (10 + i) + 1 else ν.1 9 (10 + i))) := by
  unfold f_X7_tell_b95
  have e1 : (wr ν 9 (20 + 12 * i + n) t0).1 9 i = nI h := by rw [wr_get, if_pos rfl, if_neg (by omega), hv]
  have e2 : (wr (wr ν 9 (20 + 12 * i + n) t0) 9 i (nI (h ||| 2 ^ n))).1 9 (10 + i) = ν.1 9 (10 + i) := by rw [wr_get, if_pos rfl, if_neg (by omega), wr_get, if_pos rfl, if_neg (by omega)]
  simp only [nI_z, show (10 : Int32) + nI i = nI (10 + i) from nI_k 10 i, ix_nI (show 20 + 12 * i + n < 2 ^ 31 by omega), ok2 (show 20 + 12 * i + n < 141 by omega) (show 20 + 12 * i + n < 2 ^ 31 by omega), ix_nI (show i < 2 ^ 31 by omega), ok2 (show i < 141 by omega) (show i < 2 ^ 31 by omega), ix_nI (show 10 + i < 2 ^ 31 by omega), ok2 (show 10 + i < 141 by omega) (show 10 + i < 2 ^ 31 by omega), if_false, sq, e1, isl_1 (show n < 31 by omega), nI_or, e2, has_M0 hW (show i < 31 by omega), f_X7_tell_b152, nI_s]
  cases hb : W.testBit i
  · rw [if_pos rfl, if_neg (fun c => absurd c.1 (by decide)), show ν.1 9 (10 + i) + 0 = ν.1 9 (10 + i) from Int32.add_zero _]
  · rw [if_neg (by decide)]
    by_cases q : 99 ≤ ν.1 9 (10 + i)
    · rw [if_pos q, if_neg (fun c => by have := c.2; rw [lt_T] at this; rw [le_T] at q; omega), show ν.1 9 (10 + i) + 0 = ν.1 9 (10 + i) from Int32.add_zero _]
    · rw [if_neg q, if_pos ⟨rfl, by rw [lt_T]; rw [le_T] at q; omega⟩]
theorem tell_l {a : Nat → Nat → Nat} (I : Inv a) {H W n : Nat} {hd : Nat → Nat} (hH : H < 2 ^ 31) (hW : W < 2 ^ 31) (hn : n < 12) (hl : ∀ q, q < a 1 0 → hd q < 4096) (x y : Int32) : ∀ (k i m : Nat) (ν : St), i + k = a 1 0 → k < m → ν.1 0 3 = nI (a 1 0) → (∀ q, i ≤ q → q < a 1 0 → ν.1 9 q = nI (hd q)) → ∃ ν', f_X7_tell_h24 x y (nI n) m (nI H) (nI W) (nI i) ν = some ν' ∧ (∀ c, c ≠ 9 → ν'.1 c = ν.1 c) ∧ ν'.2 = ν.2 ∧ ν'.1 9 140 = ν.1 9 140 + 1 ∧ (∀ q, q < 10 → ν'.1 9 q = if i ≤ q ∧ (q < a 1 0 ∧ H.testBit q = true) then nI (hd q ||| 2 ^ n) else ν.1 9 q) ∧ (∀ q, q < 10 → ν'.1 9 (10 + q) = if i ≤ q ∧ (q < a 1 0 ∧ H.testBit q = true ∧ W.testBit q = true ∧ ν.1 9 (10 + q) < 99) then ν.1 9 (10 + q) + 1 else ν.1 9 (10 + q)) ∧ (∀ q p, q < 10 → p < 12 → ν'.1 9 (20 + (12 * q + p)) = if i ≤ q ∧ (q < a 1 0 ∧ H.testBit q = true ∧ p = n ∧ (hd q).testBit n = false) then ν.1 9 140 else ν.1 9 (20 + (12 * q + p))) ∧ (∀ q, 141 ≤ q → ν'.1 9 q = ν.1 9 q) := by
  have h10 := I.gs
  have g140 : ((140 : Int32) < 0 ∨ 141 ≤ ix 140) = False := eq_false (by decide)
  have i140 : ix 140 = 140 := by decide
  intro k
  induction k with
  | zero =>
    intro i m ν h1 h2 hg hh
    obtain ⟨m, rfl⟩ : ∃ m', m = m' + 1 := ⟨m - 1, by omega⟩
    rw [f_X7_tell_h24, hg, if_pos (by rw [nI_leE (by omega) (by omega)]; omega)]
    simp only [g140, if_false, i140, sq]
    refine ⟨_, rfl, fun c hc => wr_ne hc, rfl, by rw [wr_get, if_pos rfl, if_pos rfl], fun q hq => ?_, fun q hq => ?_, fun q p hq hp => ?_, fun q hq => ?_⟩
    · rw [if_neg (by omega), wr_get, if_pos rfl, if_neg (by omega)]
    · rw [if_neg (by omega), wr_get, if_pos rfl, if_neg (by omega)]
    · rw [if_neg (by omega), wr_get, if_pos rfl, if_neg (by omega)]
    · rw [wr_get, if_pos rfl, if_neg (by omega)]
  | succ k ih =>
    intro i m ν h1 h2 hg hh
    obtain ⟨m, rfl⟩ : ∃ m', m = m' + 1 := ⟨m - 1, by omega⟩
    have hi : i < a 1 0 := by omega
    have hli := hl i hi
    have hvi := hh i (Nat.le_refl _) hi
    rw [f_X7_tell_h24, hg, if_neg (by rw [nI_leE (by omega) (by omega)]; omega)]
    simp only [sq, has_M0 hH (show i < 31 by omega)]
    cases hb : H.testBit i
    · rw [if_pos rfl, nI_s]
      obtain ⟨ν', e1, e2, e3, e4, e5, e6, e7, e8⟩ := ih (i + 1) m ν (by omega) (by omega) hg (fun q h3 h4 => hh q (by omega) h4)
      refine ⟨ν', e1, e2, e3, e4, fun q hq => ?_, fun q hq => ?_, fun q p hq hp => ?_, e8⟩
      · rw [e5 q hq, ite_sh _ _ (fun e c => by rw [e, hb] at c; exact absurd c.2 (by decide))]
      · rw [e6 q hq, ite_sh _ _ (fun e c => by rw [e, hb] at c; exact absurd c.2.1 (by decide))]
      · rw [e7 q p hq hp, ite_sh _ _ (fun e c => by rw [e, hb] at c; exact absurd c.2.1 (by decide))]
    · rw [if_neg (by decide)]
      have ey : (20 : Int32) + 12 * nI i + nI n = nI (20 + 12 * i + n) := by
        rw [show (12 : Int32) * nI i = nI (12 * i) from pk_mul 12 i, show (20 : Int32) + nI (12 * i) = nI (20 + 12 * i) from nI_k 20 _, nI_k]
      have hstep : ∀ t0, ∃ ν1, ν1 = wr (wr (wr ν 9 (20 + 12 * i + n) t0) 9 i (nI (hd i ||| 2 ^ n))) 9 (10 + i) (if W.testBit i = true ∧ ν.1 9 (10 + i) < 99 then ν.1 9 (10 + i) + 1 else ν.1 9 (10 + i)) := fun t0 => ⟨_, rfl⟩
      have fin : ∀ t0, ((hd i).testBit n = false → t0 = ν.1 9 140) → ((hd i).testBit n = true → t0 = ν.1 9 (20 + 12 * i + n)) → ∃ ν', f_X7_tell_h24 x y (nI n) m (nI H) (nI W) (nI (i + 1)) (wr (wr (wr ν 9 (20 + 12 * i + n) t0) 9 i (nI (hd i ||| 2 ^ n))) 9 (10 + i) (if W.testBit i = true ∧ ν.1 9 (10 + i) < 99 then ν.1 9 (10 + i) + 1 else ν.1 9 (10 + i))) = some ν' ∧ (∀ c, c ≠ 9 → ν'.1 c = ν.1 c) ∧ ν'.2 = ν.2 ∧ ν'.1 9 140 = ν.1 9 140 + 1 ∧ (∀ q, q < 10 → ν'.1 9 q = if i ≤ q ∧ (q < a 1 0 ∧ H.testBit q = true) then nI (hd q ||| 2 ^ n) else ν.1 9 q) ∧ (∀ q, q < 10 → ν'.1 9 (10 + q) = if i ≤ q ∧ (q < a 1 0 ∧ H.testBit q = true ∧ W.testBit q = true ∧ ν.1 9 (10 + q) < 99) then ν.1 9 (10 + q) + 1 else ν.1 9 (10 + q)) ∧ (∀ q p, q < 10 → p < 12 → ν'.1 9 (20 + (12 * q + p)) = if i ≤ q ∧ (q < a 1 0 ∧ H.testBit q = true ∧ p = n ∧ (hd q).testBit n = false) then ν.1 9 140 else ν.1 9 (20 + (12 * q + p))) ∧ (∀ q, 141 ≤ q → ν'.1 9 q = ν.1 9 q) := by
        intro t0 ht1 ht2
        obtain ⟨ν1, hν⟩ := hstep t0
        rw [← hν]
        have g : ∀ z, ν1.1 9 z = if z = 10 + i then (if W.testBit i = true ∧ ν.1 9 (10 + i) < 99 then ν.1 9 (10 + i) + 1 else ν.1 9 (10 + i)) else if z = i then nI (hd i ||| 2 ^ n) else if z = 20 + 12 * i + n then t0 else ν.1 9 z := fun z => by rw [hν, w3g]
        have gc : ∀ c, c ≠ 9 → ν1.1 c = ν.1 c := fun c hc => by rw [hν, wr_ne hc, wr_ne hc, wr_ne hc]
        have g140' : ν1.1 9 140 = ν.1 9 140 := by rw [g, if_neg (by omega), if_neg (by omega), if_neg (by omega)]
        obtain ⟨ν', e1, e2, e3, e4, e5, e6, e7, e8⟩ := ih (i + 1) m ν1 (by omega) (by omega) (by rw [gc 0 (by decide), hg]) (fun q h3 h4 => by rw [g, if_neg (by omega), if_neg (by omega), if_neg (by omega)]; exact hh q (by omega) h4)
        refine ⟨ν', e1, fun c hc => by rw [e2 c hc, gc c hc], by rw [e3, hν]; rfl, by rw [e4, g140'], fun q hq => ?_, fun q hq => ?_, fun q p hq hp => ?_, fun q hq => ?_⟩
        · rw [e5 q hq]
          by_cases e : q = i
          · subst e
            rw [if_neg (by omega), if_pos ⟨Nat.le_refl _, hi, hb⟩, g, if_neg (by omega), if_pos rfl]
          · have gq : ν1.1 9 q = ν.1 9 q := by rw [g, if_neg (by omega), if_neg e, if_neg (by omega)]
            rw [ite_ne _ _ e, gq]
        · rw [e6 q hq]
          by_cases e : q = i
          · subst e
            rw [if_neg (by omega), g, if_pos rfl]
            by_cases c : W.testBit q = true ∧ ν.1 9 (10 + q) < 99
            · rw [if_pos c, if_pos ⟨Nat.le_refl _, hi, hb, c.1, c.2⟩]
            · rw [if_neg c, if_neg (fun c' => c ⟨c'.2.2.2.1, c'.2.2.2.2⟩)]
          · have gq : ν1.1 9 (10 + q) = ν.1 9 (10 + q) := by rw [g, if_neg (by omega), if_neg (by omega), if_neg (by omega)]
            rw [gq, ite_ne _ _ e]
        · rw [e7 q p hq hp, g140']
          by_cases e : q = i
          · subst e
            rw [if_neg (by omega), g, if_neg (by omega), if_neg (by omega)]
            by_cases c : p = n
            · subst c
              rw [if_pos (by omega)]
              cases hc : (hd q).testBit p
              · rw [if_pos ⟨Nat.le_refl _, hi, hb, rfl, rfl⟩, ht1 hc]
              · rw [if_neg (fun c' => absurd c'.2.2.2.2 (by decide)), ht2 hc, Nat.add_assoc]
            · rw [if_neg (by omega), if_neg (fun c' => c c'.2.2.2.1)]
          · have gq : ν1.1 9 (20 + (12 * q + p)) = ν.1 9 (20 + (12 * q + p)) := by rw [g, if_neg (by omega), if_neg (by omega), if_neg (by omega)]
            rw [gq, ite_ne _ _ e]
        · rw [e8 q hq, g, if_neg (by omega), if_neg (by omega), if_neg (by omega)]
      simp only [ey, nI_z, ix_nI (show i < 2 ^ 31 by omega), ok2 (show i < 141 by omega) (show i < 2 ^ 31 by omega), g140, if_false, i140, hvi, has_M0 (show hd i < 2 ^ 31 by omega) (show n < 31 by omega), ix_nI (show 20 + 12 * i + n < 2 ^ 31 by omega), ok2 (show 20 + 12 * i + n < 141 by omega) (show 20 + 12 * i + n < 2 ^ 31 by omega), tell_b hW hn (show i < 10 by omega) (f_X7_tell_h24 x y (nI n) m) x y (nI H) _ hvi]
      cases hc : (hd i).testBit n
      · rw [if_pos rfl]
        exact fin _ (fun _ => rfl) (fun h => by rw [hc] at h; cases h)
      · rw [if_neg (by decide)]
        exact fin _ (fun h => by rw [hc] at h; cases h) (fun _ => rfl)
theorem wrN_lt {a : Nat → Nat → Nat} (I : Inv a) (H : Nat) (hd : Nat → Nat) (n : Nat) : wrN a H hd n < 1024 := bs10 I _
theorem tell_M {a : Nat → Nat → Nat} {μ ν : St} (I : Inv a) (hM : MA a (ul μ)) (e : ∀ c, c < 9 → ν.1 c = μ.1 c) {hd : Nat → Nat} (hh : ∀ i, i < a 1 0 → ν.1 9 i = nI (hd i)) (hl : ∀ i, i < a 1 0 → hd i < 4096) {r s n : Nat} (hr : r < a 0 2) (hs : s < 36) (hn : n < a 8 0) : ∃ ν', f_X7_tell ν (nI r) (nI s) (nI n) = some ν' ∧ (∀ c, c ≠ 9 → ν'.1 c = ν.1 c) ∧ ν'.2 = ν.2 ∧ ν'.1 9 140 = ν.1 9 140 + 1 ∧ (∀ q, q < 10 → ν'.1 9 q = if 0 ≤ q ∧ (q < a 1 0 ∧ (hearN a r s (a 0 4)).testBit q = true) then nI (hd q ||| 2 ^ n) else ν.1 9 q) ∧ (∀ q, q < 10 → ν'.1 9 (10 + q) = if 0 ≤ q ∧ (q < a 1 0 ∧ (hearN a r s (a 0 4)).testBit q = true ∧ (wrN a (hearN a r s (a 0 4)) hd n).testBit q = true ∧ ν.1 9 (10 + q) < 99) then ν.1 9 (10 + q) + 1 else ν.1 9 (10 + q)) ∧ (∀ q p, q < 10 → p < 12 → ν'.1 9 (20 + (12 * q + p)) = if 0 ≤ q ∧ (q < a 1 0 ∧ (hearN a r s (a 0 4)).testBit q = true ∧ p = n ∧ (hd q).testBit n = false) then ν.1 9 140 else ν.1 9 (20 + (12 * q + p))) ∧ (∀ q, 141 ≤ q → ν'.1 9 q = ν.1 9 q) := by
  have h10 := I.gs
  have h12 := I.ps
  have hw := I.wi
  have hH := hearN_lt I r s (a 0 4)
  have hW := wrN_lt I (hearN a r s (a 0 4)) hd n
  unfold f_X7_tell
  rw [hearers_fr e, e 0 (by decide), mL_wi hM, hearers_M I hM hr hs (by omega), wrongedBy_Mg I hM e hh hl hr hs hn]
  exact tell_l I (by omega) (by omega) (by omega) hl (nI r) (nI s) (a 1 0) 0 FU ν (by omega) (by unfold FU; omega) (by rw [e 0 (by decide), mL_gs hM]) (fun q _ h => hh q h)
