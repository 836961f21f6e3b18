/-- the parish of a new object -/
def a0N : Nat → Nat → Nat := fun k i => if k = 14 then 1 else if k = 0 then (if i = 7 then 1 else 0) else 0
theorem w5_1 : ∀ i, i < 5 → w5 i = nI 1 := by decide +kernel
theorem l4_1 : ∀ i, i < 4 → l4 i = -1 := by decide +kernel
theorem init_R : RR σ0 1 μ0 := by
  have n0 : nI 0 = 0 := rfl
  have iv : Inv a0N := ⟨by decide, by decide, by decide, by decide, by decide, by decide, by decide, by decide, by decide, fun i hi => absurd hi (Nat.not_lt_zero _), fun i hi => ⟨by show 0 < 4096; decide, by show 0 ≤ 99; decide⟩, fun i hi _ => ⟨rfl, rfl⟩, fun i hi => Nat.zero_le _, fun i hi => absurd hi (Nat.not_lt_zero _), fun i hi => absurd hi (Nat.not_lt_zero _), fun i hi => by show 1 ≤ 9; decide, fun i hi => absurd hi (Nat.not_lt_zero _), fun i hi => absurd hi (Nat.not_lt_zero _), by decide, fun i hi => absurd hi (Nat.not_lt_zero _)⟩
  have cv : CA a0N (vw σ0 1) := ⟨rfl, rfl, rfl, rfl, rfl, rfl, rfl, rfl, Or.inl rfl, fun i hi => absurd hi (Nat.not_lt_zero _), fun i hi => absurd hi (Nat.not_lt_zero _), fun i hi => absurd hi (Nat.not_lt_zero _), fun i hi => absurd hi (Nat.not_lt_zero _), fun i hi => absurd hi (Nat.not_lt_zero _), fun i n hi => absurd hi (Nat.not_lt_zero _), fun i hi => absurd hi (Nat.not_lt_zero _), fun i hi => absurd hi (Nat.not_lt_zero _), fun i hi => absurd hi (Nat.not_lt_zero _), fun i hi => absurd hi (Nat.not_lt_zero _), fun i hi => absurd hi (Nat.not_lt_zero _), fun i hi => w5_1 i hi, fun i hi => absurd hi (Nat.not_lt_zero _), fun i hi => absurd hi (Nat.not_lt_zero _), fun i hi => absurd hi (Nat.not_lt_zero _)⟩
  have mv : MA a0N (ul μ0) := ⟨rfl, rfl, rfl, rfl, rfl, rfl, rfl, rfl, rfl, fun i hi => absurd hi (Nat.not_lt_zero _), fun i hi => absurd hi (Nat.not_lt_zero _), fun i hi => absurd hi (Nat.not_lt_zero _), fun i hi => rfl, fun i hi => rfl, fun i n hi => absurd hi (Nat.not_lt_zero _), fun i hi => absurd hi (Nat.not_lt_zero _), fun i hi => absurd hi (Nat.not_lt_zero _), fun i hi => absurd hi (Nat.not_lt_zero _), fun i hi => absurd hi (Nat.not_lt_zero _), fun i hi => w5_1 i hi, fun u h1 h2 => absurd h2 (by show ¬ u ≤ 0; omega), fun u h1 h2 => absurd h2 (by show ¬ u ≤ 0; omega), fun u h1 h2 => absurd h2 (by show ¬ u ≤ 0; omega), fun u h1 h2 => absurd h2 (by show ¬ u ≤ 0; omega)⟩
  refine ⟨⟨a0N, iv, cv, mv⟩, Or.inl ⟨rfl, rfl⟩, ⟨0, by decide, rfl, rfl, fun i hi => by omega⟩, fun j hj => Or.inl ⟨?_, ?_⟩, by decide⟩
  · unfold σ0
    show (if 53 + 2 * j = 15 then w5 else if 53 + 2 * j = 33 then w5 else if 53 + 2 * j = 1 then (fun i => if i = 7 then 1 else 0) else if 53 + 2 * j = 19 then (fun i => if i = 7 then 1 else 0) else (fun _ => 0)) 0 = 0
    rw [if_neg (by omega), if_neg (by omega), if_neg (by omega), if_neg (by omega)]
  · exact l4_1 j hj
