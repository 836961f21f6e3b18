/-! ===== counting ===== -/
def pcN (x : Nat) : Nat := smN (fun i => if x.testBit i then 1 else 0) 12
theorem pc_tab : ∀ p, p < 64 → ∀ q, q < 64 → f_X7_ones (nI (64 * p + q)) = some (nI (pcN (64 * p + q))) ∧ f_J6_bitCount_0f7a4 (nI (64 * p + q)) = nI (pcN (64 * p + q)) ∧ pcN (64 * p + q) ≤ 12 := by decide +kernel
theorem pc_of {x : Nat} (h : x < 4096) : f_X7_ones (nI x) = some (nI (pcN x)) ∧ f_J6_bitCount_0f7a4 (nI x) = nI (pcN x) ∧ pcN x ≤ 12 := by
  have := pc_tab (x / 64) (by omega) (x % 64) (by omega)
  rw [show 64 * (x / 64) + x % 64 = x by omega] at this
  exact this
theorem sm_le {f : Nat → Nat} {b : Nat} : ∀ {n : Nat}, (∀ i, i < n → f i ≤ b) → smN f n ≤ b * n
  | 0, _ => Nat.le_refl 0
  | n + 1, h => by
    have := sm_le (f := f) (b := b) (n := n) (fun i hi => h i (by omega))
    have := h n (by omega)
    rw [smN, Nat.mul_add, Nat.mul_one]
    omega
theorem sm_s (f : Nat → Nat) (n : Nat) : nI (smN f n) + nI (f n) = nI (smN f (n + 1)) := by rw [nI_add]; rfl
theorem sm_1 {f : Nat → Nat} {n : Nat} (h : f n = 1) : nI (smN f n + 1) = nI (smN f (n + 1)) := by rw [smN, h]
theorem sm_0 {f : Nat → Nat} {n : Nat} (h : f n = 0) : smN f (n + 1) = smN f n := by rw [smN, h]; omega

