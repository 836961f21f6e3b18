theorem hearers_u (μ : St) (z x1 x2 x3 : Int32) : f_X7_hearers (wr μ 0 17 z) x1 x2 x3 = f_X7_hearers μ x1 x2 x3 := by
  have e3 : (wr μ 0 17 z).1 0 3 = μ.1 0 3 := rfl
  have e1 : (wr μ 0 17 z).1 1 = μ.1 1 := rfl
  have e2 : (wr μ 0 17 z).1 2 = μ.1 2 := rfl
  have e7 : (wr μ 0 17 z).1 7 = μ.1 7 := rfl
  have k : ∀ (n : Nat) (v4 v5 : Int32), f_X7_hearers_h6 (wr μ 0 17 z) x1 x2 x3 n v4 v5 = f_X7_hearers_h6 μ x1 x2 x3 n v4 v5 := by
    intro n
    induction n with
    | zero => intro _ _; rfl
    | succ n ih =>
      intro v4 v5
      simp only [f_X7_hearers_h6, f_X7_hearers_b42, f_X7_hearsOne, f_X7_hearsOne_b20, f_X7_hearsOne_b27, f_X7_hearsOne_b47, e3, e1, e2, e7, ih]
  exact k _ _ _
theorem owed_u (μ : St) (z x1 x2 : Int32) : f_X7_isOwed (wr μ 0 17 z) x1 x2 = f_X7_isOwed μ x1 x2 := by
  have e7 : (wr μ 0 17 z).1 0 7 = μ.1 0 7 := rfl
  have e1 : (wr μ 0 17 z).1 1 = μ.1 1 := rfl
  have e3 : (wr μ 0 17 z).1 3 = μ.1 3 := rfl
  have e4 : (wr μ 0 17 z).1 4 = μ.1 4 := rfl
  have e6 : (wr μ 0 17 z).1 6 = μ.1 6 := rfl
  simp only [f_X7_isOwed, f_X7_isOwed_b32, f_X7_isOwed_b143, e7, e1, e3, e4, e6]
theorem owedTo_u (μ : St) (z x1 : Int32) : f_X7_owedTo (wr μ 0 17 z) x1 = f_X7_owedTo μ x1 := by
  have e8 : (wr μ 0 17 z).1 0 8 = μ.1 0 8 := rfl
  have k : ∀ (n : Nat) (v2 v3 : Int32), f_X7_owedTo_h4 (wr μ 0 17 z) x1 n v2 v3 = f_X7_owedTo_h4 μ x1 n v2 v3 := by
    intro n
    induction n with
    | zero => intro _ _; rfl
    | succ n ih =>
      intro v2 v3
      simp only [f_X7_owedTo_h4, f_X7_owedTo_b29, e8, owed_u, ih]
  exact k _ _ _
theorem wrongedBy_u (μ : St) (z x1 x2 x3 : Int32) : f_X7_wrongedBy (wr μ 0 17 z) x1 x2 x3 = f_X7_wrongedBy μ x1 x2 x3 := by
  have e3 : (wr μ 0 17 z).1 0 3 = μ.1 0 3 := rfl
  have e11 : (wr μ 0 17 z).1 0 11 = μ.1 0 11 := rfl
  have e5 : (wr μ 0 17 z).1 5 = μ.1 5 := rfl
  have e6 : (wr μ 0 17 z).1 6 = μ.1 6 := rfl
  have e9 : (wr μ 0 17 z).1 9 = μ.1 9 := rfl
  have k : ∀ (n : Nat) (v4 v5 v6 : Int32), f_X7_wrongedBy_h18 (wr μ 0 17 z) x1 x2 x3 n v4 v5 v6 = f_X7_wrongedBy_h18 μ x1 x2 x3 n v4 v5 v6 := by
    intro n
    induction n with
    | zero => intro _ _ _; rfl
    | succ n ih =>
      intro v4 v5 v6
      simp only [f_X7_wrongedBy_h18, f_X7_wrongedBy_b60, f_X7_wrongedBy_b102, f_X7_wrongedBy_b129, e3, e5, e6, e9, owedTo_u, ih]
  unfold f_X7_wrongedBy
  rw [hearers_u, e11]
  simp only [k]
theorem frU {μ ν : St} (e0 : ∀ f, f ≠ 17 → ν.1 0 f = μ.1 0 f) (e : ∀ c, 1 ≤ c → c < 9 → ν.1 c = μ.1 c) : ∀ c, c < 9 → (wr ν 0 17 (μ.1 0 17)).1 c = μ.1 c := by
  intro c hc
  by_cases q : c = 0
  · subst q
    funext f
    rw [wr_get, if_pos rfl]
    by_cases w : f = 17
    · rw [if_pos w, w]
    · rw [if_neg w, e0 f w]
  · rw [wr_ne q, e c (by omega) hc]
theorem hearers_U {a : Nat → Nat → Nat} {μ ν : St} (I : Inv a) (hM : MA a (ul μ)) (e0 : ∀ f, f ≠ 17 → ν.1 0 f = μ.1 0 f) (e : ∀ c, 1 ≤ c → c < 9 → ν.1 c = μ.1 c) {r s w : Nat} (hr : r < a 0 2) (hs : s < 36) (hw : w < 5) : f_X7_hearers ν (nI r) (nI s) (nI w) = some (nI (hearN a r s w)) := by
  rw [← hearers_u ν (μ.1 0 17), hearers_fr (frU e0 e), hearers_M I hM hr hs hw]
theorem tell_U {a : Nat → Nat → Nat} {μ ν : St} (I : Inv a) (hM : MA a (ul μ)) (e0 : ∀ f, f ≠ 17 → ν.1 0 f = μ.1 0 f) (e : ∀ c, 1 ≤ c → c < 9 → ν.1 c = μ.1 c) {hd : Nat → Nat} (hh : ∀ i, i < a 1 0 → ν.1 9 i = nI (hd i)) (hl : ∀ i, i < a 1 0 → hd i < 4096) {r s n : Nat} (hr : r < a 0 2) (hs : s < 36) (hn : n < a 8 0) : ∃ ν', f_X7_tell ν (nI r) (nI s) (nI n) = some ν' ∧ (∀ c, c ≠ 9 → ν'.1 c = ν.1 c) ∧ ν'.2 = ν.2 ∧ ν'.1 9 140 = ν.1 9 140 + 1 ∧ (∀ q, q < 10 → ν'.1 9 q = if 0 ≤ q ∧ (q < a 1 0 ∧ (hearN a r s (a 0 4)).testBit q = true) then nI (hd q ||| 2 ^ n) else ν.1 9 q) ∧ (∀ q, q < 10 → ν'.1 9 (10 + q) = if 0 ≤ q ∧ (q < a 1 0 ∧ (hearN a r s (a 0 4)).testBit q = true ∧ (wrN a (hearN a r s (a 0 4)) hd n).testBit q = true ∧ ν.1 9 (10 + q) < 99) then ν.1 9 (10 + q) + 1 else ν.1 9 (10 + q)) ∧ (∀ q p, q < 10 → p < 12 → ν'.1 9 (20 + (12 * q + p)) = if 0 ≤ q ∧ (q < a 1 0 ∧ (hearN a r s (a 0 4)).testBit q = true ∧ p = n ∧ (hd q).testBit n = false) then ν.1 9 140 else ν.1 9 (20 + (12 * q + p))) ∧ (∀ q, 141 ≤ q → ν'.1 9 q = ν.1 9 q) := by
  have h10 := I.gs
  have h12 := I.ps
  have hw := I.wi
  have hH := hearN_lt I r s (a 0 4)
  have hW := wrN_lt I (hearN a r s (a 0 4)) hd n
  unfold f_X7_tell
  rw [e0 11 (by decide), mL_wi hM, hearers_U I hM e0 e hr hs (by omega), ← wrongedBy_u ν (μ.1 0 17), wrongedBy_Mg I hM (frU e0 e) (fun i hi => by rw [wr_ne (by decide)]; exact hh i hi) hl hr hs hn]
  exact tell_l I (by omega) (by omega) (by omega) hl (nI r) (nI s) (a 1 0) 0 FU ν (by omega) (by unfold FU; omega) (by rw [e0 3 (by decide), mL_gs hM]) (fun q _ h => hh q h)
theorem aR_inv {a : Nat → Nat → Nat} (I : Inv a) {n F R : Nat} (hn : n < 12) (h8 : a 0 8 < 9999) (hF1 : F < 1024) (hR1 : R < 1024) (hF : ∀ i, F.testBit i = true → i < a 1 0 ∧ (a 5 i).testBit n = false) (hR : ∀ i, R.testBit i = true → i < a 1 0 ∧ a 6 i < 99) : Inv (aR a n F R) := by
  have hu := uVD I
  have hur := I.ur
  refine ⟨I.gs, I.ps, I.rd, I.wi, I.no, I.dr, h8, (by show uV a + 1 ≤ 10; omega), (by show uV a + 1 ≤ a 0 8 + 1; omega), I.gr, ?_, ?_, ?_, I.nw, I.rc, I.wt, ?_, ?_, I.sh, I.sb⟩
  · intro i hi
    obtain ⟨q1, q2⟩ := I.hw i hi
    refine ⟨?_, ?_⟩
    · show (if F.testBit i then a 5 i ||| 2 ^ n else a 5 i) < 4096
      split
      · exact Nat.or_lt_two_pow (n := 12) q1 (Nat.pow_lt_pow_right (by decide) hn)
      · exact q1
    · show (if R.testBit i then a 6 i + 1 else a 6 i) ≤ 99
      split
      · rename_i hb
        have := (hR i hb).2
        omega
      · exact q2
  · intro i hi hg
    have hg : a 1 0 ≤ i := hg
    obtain ⟨q1, q2⟩ := I.hz i hi hg
    refine ⟨?_, ?_⟩
    · show (if F.testBit i then a 5 i ||| 2 ^ n else a 5 i) = 0
      rw [if_neg (fun hb => by have := (hF i hb).1; omega), q1]
    · show (if R.testBit i then a 6 i + 1 else a 6 i) = 0
      rw [if_neg (fun hb => by have := (hR i hb).1; omega), q2]
  · intro z hz
    have := I.si z hz
    show (if z % 12 = n ∧ F.testBit (z / 12) = true then a 0 8 else a 7 z) ≤ 9999
    split <;> omega
  · intro j hj
    have hj : j < uV a + 1 := hj
    show (if j = uV a then n else a 15 (j + uD a)) < 12 ∧ (if j = uV a then F else a 16 (j + uD a)) < 1024 ∧ (if j = uV a then R else a 17 (j + uD a)) < 1024
    by_cases e : j = uV a
    · rw [if_pos e, if_pos e, if_pos e]
      exact ⟨hn, hF1, hR1⟩
    · rw [if_neg e, if_neg e, if_neg e]
      exact I.ud (j + uD a) (by omega)
  · intro t ht i hi hb
    have ht : t < uV a + 1 := ht
    cases t with
    | zero =>
      have hb : (if uV a + 1 - 1 - 0 = uV a then R else a 17 (uV a + 1 - 1 - 0 + uD a)).testBit i = true := hb
      rw [if_pos (by omega)] at hb
      show 1 ≤ (if R.testBit i then a 6 i + 1 else a 6 i)
      rw [if_pos hb]
      omega
    | succ t =>
      have hb : (if uV a + 1 - 1 - (t + 1) = uV a then R else a 17 (uV a + 1 - 1 - (t + 1) + uD a)).testBit i = true := hb
      rw [if_neg (by omega), show uV a + 1 - 1 - (t + 1) + uD a = a 0 9 - 1 - t by omega] at hb
      rw [aR_wg I t (by omega)]
      exact I.uw t (by omega) i hi hb
