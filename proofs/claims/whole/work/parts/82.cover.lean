/-! ===== covers: what is looked for ===== -/
def Q1 (h : Nat → Nat) (ok : Nat → Bool) (z p : Nat) : Prop := ok p = true ∧ andn z (h p) = 0
def Q2 (h : Nat → Nat) (ok : Nat → Bool) (z p q : Nat) : Prop := (ok p = true ∧ ok q = true ∧ h p &&& h q = 0) ∧ andn (andn z (h p)) (h q) = 0
def Q3 (h : Nat → Nat) (ok : Nat → Bool) (z p q r : Nat) : Prop := (ok p = true ∧ ok q = true ∧ h p &&& h q = 0) ∧ (ok p = true ∧ ok r = true ∧ h p &&& h r = 0) ∧ (ok q = true ∧ ok r = true ∧ h q &&& h r = 0) ∧ andn (andn (andn z (h p)) (h q)) (h r) = 0
def QL (h : Nat → Nat) (ok : Nat → Bool) (z p : Nat) : Prop := ok p = true ∧ h p &&& z ≠ 0
theorem andn_dis {z x : Nat} (h : x &&& z = 0) : andn z x = z := by
  apply Nat.eq_of_testBit_eq
  intro i
  have e := congrArg (fun y => y.testBit i) h
  simp only [Nat.testBit_and, Nat.zero_testBit] at e
  rw [andn_bit]
  cases hz : z.testBit i
  · rfl
  · rw [hz, Bool.and_true] at e
    rw [e]
    rfl
theorem andn_sub {z x : Nat} (h : andn z x = 0) : x &&& z = z := by
  apply Nat.eq_of_testBit_eq
  intro i
  have e := congrArg (fun y => y.testBit i) h
  simp only [andn_bit, Nat.zero_testBit] at e
  rw [Nat.testBit_and]
  cases hz : z.testBit i
  · rw [Bool.and_false]
  · rw [hz, Bool.true_and] at e
    cases hx : x.testBit i
    · rw [hx] at e
      cases e
    · rfl
theorem andn_comm (z x y : Nat) : andn (andn z x) y = andn (andn z y) x := by
  apply Nat.eq_of_testBit_eq
  intro i
  simp only [andn_bit]
  cases z.testBit i <;> cases x.testBit i <;> cases y.testBit i <;> rfl
theorem and_c0 {x y : Nat} (h : x &&& y = 0) : y &&& x = 0 := by rw [Nat.and_comm]; exact h
theorem andn_z (x : Nat) : andn 0 x = 0 := by
  have := andn_le 0 x
  omega
theorem and_andn {x z y : Nat} (h : x &&& z = 0) : x &&& andn z y = 0 := by
  apply Nat.eq_of_testBit_eq
  intro i
  have e := congrArg (fun y => y.testBit i) h
  simp only [Nat.testBit_and, Nat.zero_testBit] at e
  rw [Nat.testBit_and, andn_bit, Nat.zero_testBit]
  cases hx : x.testBit i
  · rfl
  · rw [hx, Bool.true_and] at e
    rw [e]
    rfl
section
variable {h : Nat → Nat} {ok : Nat → Bool} {z : Nat}
theorem Q1.L {p : Nat} (q : Q1 h ok z p) (hz : z ≠ 0) : QL h ok z p := ⟨q.1, by rw [andn_sub q.2]; exact hz⟩
theorem Q2.sy {p q : Nat} (w : Q2 h ok z p q) : Q2 h ok z q p := ⟨⟨w.1.2.1, w.1.1, and_c0 w.1.2.2⟩, by rw [andn_comm]; exact w.2⟩
theorem Q2.La {p q : Nat} (w : Q2 h ok z p q) (n1 : ¬ Q1 h ok z q) : QL h ok z p := ⟨w.1.1, fun e => n1 ⟨w.1.2.1, by have := w.2; rw [andn_dis e] at this; exact this⟩⟩
theorem QL.ap {p : Nat} (l : QL h ok z p) : ¬ h p &&& h p = 0 := fun e => by
  rw [Nat.and_self] at e
  have := l.2
  rw [e, Nat.zero_and] at this
  exact this rfl
theorem Q2.ne {p q : Nat} (w : Q2 h ok z p q) (n1 : ¬ Q1 h ok z q) : p ≠ q := fun e => by
  subst e
  exact (w.La n1).ap w.1.2.2
theorem Q3.La {p q r : Nat} (w : Q3 h ok z p q r) (n2 : ¬ Q2 h ok z q r) : QL h ok z p := ⟨w.1.1, fun e => n2 ⟨w.2.2.1, by have := w.2.2.2; rw [andn_dis e] at this; exact this⟩⟩
theorem Q3.s1 {p q r : Nat} (w : Q3 h ok z p q r) : Q3 h ok z q p r := ⟨⟨w.1.2.1, w.1.1, and_c0 w.1.2.2⟩, w.2.2.1, w.2.1, by rw [andn_comm z]; exact w.2.2.2⟩
theorem Q3.s2 {p q r : Nat} (w : Q3 h ok z p q r) : Q3 h ok z p r q := ⟨w.2.1, w.1, ⟨w.2.2.1.2.1, w.2.2.1.1, and_c0 w.2.2.1.2.2⟩, by rw [andn_comm (andn z (h p))]; exact w.2.2.2⟩
end
/-! ===== the model's search ===== -/
def EarsM (h : Nat → Nat) (ok : Nat → Bool) (ν : St) : Prop := ∀ p, p < 36 → ν.1 13 p = if ok p = true then nI (h p) else -1
theorem ears_lt {h : Nat → Nat} {ok : Nat → Bool} {ν : St} (E : EarsM h ok ν) (hh : ∀ p, h p < 1024) {p : Nat} (hp : p < 36) : (ν.1 13 p < 0) = (ok p = false) := by
  have := hh p
  rw [E p hp]
  cases ok p
  · rw [if_neg (by decide)]
    exact propext ⟨fun _ => rfl, fun _ => by decide⟩
  · rw [if_pos rfl]
    exact propext ⟨fun w => absurd w (nI_pos (by omega)), fun w => by cases w⟩
theorem apart_M {h : Nat → Nat} {ok : Nat → Bool} {ν : St} (E : EarsM h ok ν) (hh : ∀ p, h p < 1024) {p q : Nat} (hp : p < 36) (hq : q < 36) : ∃ r : Int32, f_X7_areApart ν (nI p) (nI q) = some r ∧ ((r = 0) = ¬ (ok p = true ∧ ok q = true ∧ h p &&& h q = 0)) := by
  have h1 := hh p
  have h2 : h p &&& h q ≤ h p := Nat.and_le_left
  unfold f_X7_areApart
  simp only [ix_nI (show p < 2 ^ 31 by omega), ix_nI (show q < 2 ^ 31 by omega), ok2 hp (show p < 2 ^ 31 by omega), ok2 hq (show q < 2 ^ 31 by omega), if_false, ears_lt E hh hp, ears_lt E hh hq]
  cases hop : ok p
  · rw [if_pos rfl]
    exact ⟨0, rfl, propext ⟨fun _ c => absurd c.1 (by decide), fun _ => rfl⟩⟩
  · rw [if_neg (by decide)]
    cases hoq : ok q
    · rw [if_pos rfl]
      exact ⟨0, rfl, propext ⟨fun _ c => absurd c.2.1 (by decide), fun _ => rfl⟩⟩
    · rw [if_neg (by decide), E p hp, E q hq, if_pos hop, if_pos hoq, nI_and]
      by_cases e : h p &&& h q = 0
      · rw [if_pos (by rw [e]; rfl)]
        exact ⟨1, rfl, propext ⟨fun w => absurd w (by decide), fun w => absurd ⟨rfl, rfl, e⟩ w⟩⟩
      · rw [if_neg (by rw [nI_eq0 (by omega)]; exact e)]
        exact ⟨0, rfl, propext ⟨fun _ c => e c.2.2, fun _ => rfl⟩⟩
theorem fc_one {h : Nat → Nat} {ok : Nat → Bool} {z : Nat} {ν : St} (E : EarsM h ok ν) (hh : ∀ p, h p < 1024) (hz : z < 1024) (x y : Int32) : ∀ (k i m : Nat), i + k = 36 → k < m → (∀ p, p < i → ¬ Q1 h ok z p) → (∃ p, p < 36 ∧ Q1 h ok z p ∧ (∀ p', p' < p → ¬ Q1 h ok z p') ∧ f_X7_findCover_h64 x y m (nI z) (nI i) ν = some (1, wr ν 14 0 (nI p))) ∨ ((∀ p, p < 36 → ¬ Q1 h ok z p) ∧ f_X7_findCover_h64 x y m (nI z) (nI i) ν = f_X7_findCover_h114 x y FU (nI z) 0 ν) := by
  intro k
  induction k with
  | zero =>
    intro i m h1 h2 hn
    obtain ⟨m, rfl⟩ : ∃ m', m = m' + 1 := ⟨m - 1, by omega⟩
    refine Or.inr ⟨fun p hp => hn p (by omega), ?_⟩
    rw [f_X7_findCover_h64, if_pos (by rw [show (36 : Int32) = nI 36 from rfl, nI_leE (by omega) (by omega)]; omega)]
  | succ k ih =>
    intro i m h1 h2 hn
    obtain ⟨m, rfl⟩ : ∃ m', m = m' + 1 := ⟨m - 1, by omega⟩
    have hi : i < 36 := by omega
    have hle := andn_le z (h i)
    rw [f_X7_findCover_h64, if_neg (by rw [show (36 : Int32) = nI 36 from rfl, nI_leE (by omega) (by omega)]; omega)]
    simp only [ix_nI (show i < 2 ^ 31 by omega), ok2 hi (show i < 2 ^ 31 by omega), if_false, ears_lt E hh hi, sq, nI_s]
    have go : ¬ Q1 h ok z i → (∃ p, p < 36 ∧ Q1 h ok z p ∧ (∀ p', p' < p → ¬ Q1 h ok z p') ∧ f_X7_findCover_h64 x y m (nI z) (nI (i + 1)) ν = some (1, wr ν 14 0 (nI p))) ∨ ((∀ p, p < 36 → ¬ Q1 h ok z p) ∧ f_X7_findCover_h64 x y m (nI z) (nI (i + 1)) ν = f_X7_findCover_h114 x y FU (nI z) 0 ν) := fun hq => ih (i + 1) m (by omega) (by omega) (fun p hp => by
      by_cases e : p = i
      · rw [e]; exact hq
      · exact hn p (by omega))
    cases hok : ok i
    · rw [if_pos rfl]
      exact go (fun c => by have := c.1; rw [hok] at this; cases this)
    · rw [if_neg (by decide), E i hi, if_pos hok, nI_andn]
      by_cases e : andn z (h i) = 0
      · rw [if_pos (by rw [e]; rfl), if_neg (by decide)]
        exact Or.inl ⟨i, hi, ⟨hok, e⟩, hn, rfl⟩
      · rw [if_neg (by rw [nI_eq0 (by omega)]; exact e)]
        exact go (fun c => e c.2)
theorem fc_two {h : Nat → Nat} {ok : Nat → Bool} {z : Nat} {ν : St} (E : EarsM h ok ν) (hh : ∀ p, h p < 1024) (hz : z < 1024) (x y : Int32) : ∀ (k i m : Nat), i + k = 1296 → k < m → (∀ p, p < i → ¬ Q2 h ok z (p / 36) (p % 36)) → (∃ p, p < 1296 ∧ Q2 h ok z (p / 36) (p % 36) ∧ (∀ p', p' < p → ¬ Q2 h ok z (p' / 36) (p' % 36)) ∧ f_X7_findCover_h114 x y m (nI z) (nI i) ν = some (2, wr (wr ν 14 0 (nI (p / 36))) 14 1 (nI (p % 36)))) ∨ ((∀ p, p < 1296 → ¬ Q2 h ok z (p / 36) (p % 36)) ∧ f_X7_findCover_h114 x y m (nI z) (nI i) ν = f_X7_findCover_h202 x y FU (nI z) 0 ν) := by
  intro k
  induction k with
  | zero =>
    intro i m h1 h2 hn
    obtain ⟨m, rfl⟩ : ∃ m', m = m' + 1 := ⟨m - 1, by omega⟩
    refine Or.inr ⟨fun p hp => hn p (by omega), ?_⟩
    rw [f_X7_findCover_h114, if_pos (by rw [show (1296 : Int32) = nI 1296 from rfl, nI_leE (by omega) (by omega)]; omega)]
  | succ k ih =>
    intro i m h1 h2 hn
    obtain ⟨m, rfl⟩ : ∃ m', m = m' + 1 := ⟨m - 1, by omega⟩
    have hp : i / 36 < 36 := by omega
    have hq : i % 36 < 36 := by omega
    have e1 : nI i / 36 = nI (i / 36) := by rw [show (36 : Int32) = nI 36 from rfl, pk_div (by omega) (by decide) (by decide)]
    have e2 : irm (nI i) 36 = nI (i % 36) := by rw [show (36 : Int32) = nI 36 from rfl, irm_n (by omega) (by decide) (by decide)]
    have hle := andn_le z (h (i / 36))
    have hle2 := andn_le (andn z (h (i / 36))) (h (i % 36))
    obtain ⟨r, hr, hr0⟩ := apart_M E hh hp hq
    rw [f_X7_findCover_h114, if_neg (by rw [show (1296 : Int32) = nI 1296 from rfl, nI_leE (by omega) (by omega)]; omega)]
    simp only [e1, e2, hr, bdr, hr0, ix_nI (show i / 36 < 2 ^ 31 by omega), ok2 hp (show i / 36 < 2 ^ 31 by omega), ix_nI (show i % 36 < 2 ^ 31 by omega), ok2 hq (show i % 36 < 2 ^ 31 by omega), if_false, sq, nI_s]
    have go : ¬ Q2 h ok z (i / 36) (i % 36) → (∃ p, p < 1296 ∧ Q2 h ok z (p / 36) (p % 36) ∧ (∀ p', p' < p → ¬ Q2 h ok z (p' / 36) (p' % 36)) ∧ f_X7_findCover_h114 x y m (nI z) (nI (i + 1)) ν = some (2, wr (wr ν 14 0 (nI (p / 36))) 14 1 (nI (p % 36)))) ∨ ((∀ p, p < 1296 → ¬ Q2 h ok z (p / 36) (p % 36)) ∧ f_X7_findCover_h114 x y m (nI z) (nI (i + 1)) ν = f_X7_findCover_h202 x y FU (nI z) 0 ν) := fun hq => ih (i + 1) m (by omega) (by omega) (fun p hp => by
      by_cases e : p = i
      · rw [e]; exact hq
      · exact hn p (by omega))
    by_cases c : ok (i / 36) = true ∧ ok (i % 36) = true ∧ h (i / 36) &&& h (i % 36) = 0
    · rw [if_neg (not_not_intro c), E _ hp, E _ hq, if_pos c.1, if_pos c.2.1, nI_andn, nI_andn]
      by_cases e : andn (andn z (h (i / 36))) (h (i % 36)) = 0
      · rw [if_pos (by rw [e]; rfl), if_neg (by decide), if_neg (by decide)]
        exact Or.inl ⟨i, by omega, ⟨c, e⟩, hn, rfl⟩
      · rw [if_neg (by rw [nI_eq0 (by omega)]; exact e)]
        exact go (fun c => e c.2)
    · rw [if_pos c]
      exact go (fun d => c d.1)
theorem fc_three {h : Nat → Nat} {ok : Nat → Bool} {z : Nat} {ν : St} (E : EarsM h ok ν) (hh : ∀ p, h p < 1024) (hz : z < 1024) (x y : Int32) : ∀ (k i m : Nat), i + k = 46656 → k < m → (∀ p, p < i → ¬ Q3 h ok z (p / 36 / 36) (p / 36 % 36) (p % 36)) → (∃ p, p < 46656 ∧ Q3 h ok z (p / 36 / 36) (p / 36 % 36) (p % 36) ∧ (∀ p', p' < p → ¬ Q3 h ok z (p' / 36 / 36) (p' / 36 % 36) (p' % 36)) ∧ f_X7_findCover_h202 x y m (nI z) (nI i) ν = some (3, wr (wr (wr ν 14 0 (nI (p / 36 / 36))) 14 1 (nI (p / 36 % 36))) 14 2 (nI (p % 36)))) ∨ ((∀ p, p < 46656 → ¬ Q3 h ok z (p / 36 / 36) (p / 36 % 36) (p % 36)) ∧ f_X7_findCover_h202 x y m (nI z) (nI i) ν = some (-4, ν)) := by
  intro k
  induction k with
  | zero =>
    intro i m h1 h2 hn
    obtain ⟨m, rfl⟩ : ∃ m', m = m' + 1 := ⟨m - 1, by omega⟩
    refine Or.inr ⟨fun p hp => hn p (by omega), ?_⟩
    rw [f_X7_findCover_h202, if_pos (by rw [show (46656 : Int32) = nI 46656 from rfl, nI_leE (by omega) (by omega)]; omega)]
  | succ k ih =>
    intro i m h1 h2 hn
    obtain ⟨m, rfl⟩ : ∃ m', m = m' + 1 := ⟨m - 1, by omega⟩
    have hp : i / 36 / 36 < 36 := by omega
    have hq : i / 36 % 36 < 36 := by omega
    have hr : i % 36 < 36 := by omega
    have e0 : nI i / 36 = nI (i / 36) := by rw [show (36 : Int32) = nI 36 from rfl, pk_div (by omega) (by decide) (by decide)]
    have e1 : nI (i / 36) / 36 = nI (i / 36 / 36) := by rw [show (36 : Int32) = nI 36 from rfl, pk_div (by omega) (by decide) (by decide)]
    have e2 : irm (nI (i / 36)) 36 = nI (i / 36 % 36) := by rw [show (36 : Int32) = nI 36 from rfl, irm_n (by omega) (by decide) (by decide)]
    have e3 : irm (nI i) 36 = nI (i % 36) := by rw [show (36 : Int32) = nI 36 from rfl, irm_n (by omega) (by decide) (by decide)]
    have hle := andn_le z (h (i / 36 / 36))
    have hle2 := andn_le (andn z (h (i / 36 / 36))) (h (i / 36 % 36))
    have hle3 := andn_le (andn (andn z (h (i / 36 / 36))) (h (i / 36 % 36))) (h (i % 36))
    obtain ⟨r1, hr1, hr10⟩ := apart_M E hh hp hq
    obtain ⟨r2, hr2, hr20⟩ := apart_M E hh hp hr
    obtain ⟨r3, hr3, hr30⟩ := apart_M E hh hq hr
    rw [f_X7_findCover_h202, if_neg (by rw [show (46656 : Int32) = nI 46656 from rfl, nI_leE (by omega) (by omega)]; omega)]
    simp only [sq, e0, e1, e2, e3, hr1, hr2, hr3, bdr, hr10, hr20, hr30, ix_nI (show i / 36 / 36 < 2 ^ 31 by omega), ok2 hp (show i / 36 / 36 < 2 ^ 31 by omega), ix_nI (show i / 36 % 36 < 2 ^ 31 by omega), ok2 hq (show i / 36 % 36 < 2 ^ 31 by omega), ix_nI (show i % 36 < 2 ^ 31 by omega), ok2 hr (show i % 36 < 2 ^ 31 by omega), if_false, nI_s]
    have go : ¬ Q3 h ok z (i / 36 / 36) (i / 36 % 36) (i % 36) → (∃ p, p < 46656 ∧ Q3 h ok z (p / 36 / 36) (p / 36 % 36) (p % 36) ∧ (∀ p', p' < p → ¬ Q3 h ok z (p' / 36 / 36) (p' / 36 % 36) (p' % 36)) ∧ f_X7_findCover_h202 x y m (nI z) (nI (i + 1)) ν = some (3, wr (wr (wr ν 14 0 (nI (p / 36 / 36))) 14 1 (nI (p / 36 % 36))) 14 2 (nI (p % 36)))) ∨ ((∀ p, p < 46656 → ¬ Q3 h ok z (p / 36 / 36) (p / 36 % 36) (p % 36)) ∧ f_X7_findCover_h202 x y m (nI z) (nI (i + 1)) ν = some (-4, ν)) := fun hq => ih (i + 1) m (by omega) (by omega) (fun p hp => by
      by_cases e : p = i
      · rw [e]; exact hq
      · exact hn p (by omega))
    by_cases c1 : ok (i / 36 / 36) = true ∧ ok (i / 36 % 36) = true ∧ h (i / 36 / 36) &&& h (i / 36 % 36) = 0
    · rw [if_neg (not_not_intro c1)]
      by_cases c2 : ok (i / 36 / 36) = true ∧ ok (i % 36) = true ∧ h (i / 36 / 36) &&& h (i % 36) = 0
      · rw [if_neg (not_not_intro c2)]
        by_cases c3 : ok (i / 36 % 36) = true ∧ ok (i % 36) = true ∧ h (i / 36 % 36) &&& h (i % 36) = 0
        · rw [if_neg (not_not_intro c3), E _ hp, E _ hq, E _ hr, if_pos c1.1, if_pos c1.2.1, if_pos c2.2.1, nI_andn, nI_andn, nI_andn]
          by_cases e : andn (andn (andn z (h (i / 36 / 36))) (h (i / 36 % 36))) (h (i % 36)) = 0
          · rw [if_pos (by rw [e]; rfl), if_neg (by decide), if_neg (by decide), if_neg (by decide)]
            exact Or.inl ⟨i, by omega, ⟨c1, c2, c3, e⟩, hn, rfl⟩
          · rw [if_neg (by rw [nI_eq0 (by omega)]; exact e)]
            exact go (fun d => e d.2.2.2)
        · rw [if_pos c3]
          exact go (fun d => c3 d.2.2.1)
      · rw [if_pos c2]
        exact go (fun d => c2 d.2.1)
    · rw [if_pos c1]
      exact go (fun d => c1 d.1)
