theorem va0 {α : Type} {f g : Nat → α} {n i : Nat} (h : i < n) : va_cpy f g 0 0 n i = f i := by
  unfold va_cpy
  rw [if_pos (by omega), show 0 + (i - 0) = i by omega]
theorem st_row {s : St} {c x n : Nat} {β : Type} {k : St → Option β} {R : β → Prop} (h : ∀ s' : St, (∀ d, d ≠ c → s'.1 d = s.1 d) → (∀ i, i < n → s'.1 c i = s.1 x i) → s'.2 = s.2 → ∃ t, k s' = some t ∧ R t) : ∃ t, sq (wrow s c (va_cpy (s.1 x) (s.1 c) 0 0 n)) k = some t ∧ R t := by
  refine h _ (fun d hd => ?_) (fun i hi => ?_) rfl
  · rw [wrow_get, if_neg hd]
  · rw [wrow_get, if_pos rfl, va0 hi]
theorem st_fld {s : St} {c f : Nat} {v : Int32} {β : Type} {k : St → Option β} {R : β → Prop} (h : ∀ s' : St, (∀ d, d ≠ c → s'.1 d = s.1 d) → (∀ j, j ≠ f → s'.1 c j = s.1 c j) → s'.1 c f = v → s'.2 = s.2 → ∃ t, k s' = some t ∧ R t) : ∃ t, sq (wr s c f v) k = some t ∧ R t := by
  refine h _ (fun d hd => wr_ne hd) (fun j hj => ?_) ?_ rfl
  · rw [wr_get, if_pos rfl, if_neg hj]
  · rw [wr_get, if_pos rfl, if_pos rfl]
theorem st_call {o : Option St} {Q : St → Prop} {β : Type} {k : St → Option β} {R : β → Prop} (h0 : ∃ s', o = some s' ∧ Q s') (h : ∀ s' : St, Q s' → ∃ t, k s' = some t ∧ R t) : ∃ t, bdr o k = some t ∧ R t := by
  obtain ⟨s', e, q⟩ := h0
  rw [e]
  exact h s' q
theorem g4_ok : ((0 : Int32) < 0 ∨ (0 : Int32) < 0 ∨ (4 : Int32) < 0 ∨ 4 < ix (0 : Int32) + ix (4 : Int32) ∨ 4 < ix (0 : Int32) + ix (4 : Int32)) = False := eq_false (by decide)
theorem ix_4 : ix (4 : Int32) = 4 := by decide
theorem g5_ok : ((0 : Int32) < 0 ∨ (0 : Int32) < 0 ∨ (5 : Int32) < 0 ∨ 5 < ix (0 : Int32) + ix (5 : Int32) ∨ 5 < ix (0 : Int32) + ix (5 : Int32)) = False := eq_false (by decide)
theorem ix_5 : ix (5 : Int32) = 5 := by decide
theorem g10_ok : ((0 : Int32) < 0 ∨ (0 : Int32) < 0 ∨ (10 : Int32) < 0 ∨ 10 < ix (0 : Int32) + ix (10 : Int32) ∨ 10 < ix (0 : Int32) + ix (10 : Int32)) = False := eq_false (by decide)
theorem ix_10 : ix (10 : Int32) = 10 := by decide
theorem g12_ok : ((0 : Int32) < 0 ∨ (0 : Int32) < 0 ∨ (12 : Int32) < 0 ∨ 12 < ix (0 : Int32) + ix (12 : Int32) ∨ 12 < ix (0 : Int32) + ix (12 : Int32)) = False := eq_false (by decide)
theorem ix_12 : ix (12 : Int32) = 12 := by decide
theorem g120_ok : ((0 : Int32) < 0 ∨ (0 : Int32) < 0 ∨ (120 : Int32) < 0 ∨ 120 < ix (0 : Int32) + ix (120 : Int32) ∨ 120 < ix (0 : Int32) + ix (120 : Int32)) = False := eq_false (by decide)
theorem ix_120 : ix (120 : Int32) = 120 := by decide
theorem ix_0 : ix (0 : Int32) = 0 := by decide
theorem bg_39 (σ : St) : ∃ σ', f_X1_become_39 σ = some σ' ∧ (∀ d, (d < 2 ∨ 8 < d) → σ'.1 d = σ.1 d) ∧ σ'.2 = σ.2 ∧ (∀ j, j ≠ 0 → σ'.1 2 j = σ.1 2 j) ∧ σ'.1 2 0 = σ.1 39 0 ∧ (∀ i, i < 10 → σ'.1 3 i = σ.1 40 i) ∧ (∀ i, i < 10 → σ'.1 4 i = σ.1 41 i) ∧ (∀ i, i < 10 → σ'.1 5 i = σ.1 42 i) ∧ (∀ i, i < 10 → σ'.1 6 i = σ.1 43 i) ∧ (∀ i, i < 10 → σ'.1 7 i = σ.1 44 i) ∧ (∀ i, i < 120 → σ'.1 8 i = σ.1 45 i) := by
  unfold f_X1_become_39
  simp only [g4_ok, g5_ok, g10_ok, g12_ok, g120_ok, if_false]
  simp only [ix_0, ix_4, ix_5, ix_10, ix_12, ix_120]
  refine st_fld ?_
  intro s1 a1 b1 c1 z1
  refine st_row ?_
  intro s2 a2 b2 z2
  refine st_row ?_
  intro s3 a3 b3 z3
  refine st_row ?_
  intro s4 a4 b4 z4
  refine st_row ?_
  intro s5 a5 b5 z5
  refine st_row ?_
  intro s6 a6 b6 z6
  refine st_row ?_
  intro s7 a7 b7 z7
  exact ⟨s7, rfl, fun d hd => by rw [a7 d (by omega), a6 d (by omega), a5 d (by omega), a4 d (by omega), a3 d (by omega), a2 d (by omega), a1 d (by omega)], by rw [z7, z6, z5, z4, z3, z2, z1], fun j h0 => by rw [a7 2 (by decide), a6 2 (by decide), a5 2 (by decide), a4 2 (by decide), a3 2 (by decide), a2 2 (by decide), b1 j h0], by rw [a7 2 (by decide), a6 2 (by decide), a5 2 (by decide), a4 2 (by decide), a3 2 (by decide), a2 2 (by decide), c1], fun i hi => by rw [a7 3 (by decide), a6 3 (by decide), a5 3 (by decide), a4 3 (by decide), a3 3 (by decide), b2 i hi, a1 40 (by decide)], fun i hi => by rw [a7 4 (by decide), a6 4 (by decide), a5 4 (by decide), a4 4 (by decide), b3 i hi, a2 41 (by decide), a1 41 (by decide)], fun i hi => by rw [a7 5 (by decide), a6 5 (by decide), a5 5 (by decide), b4 i hi, a3 42 (by decide), a2 42 (by decide), a1 42 (by decide)], fun i hi => by rw [a7 6 (by decide), a6 6 (by decide), b5 i hi, a4 43 (by decide), a3 43 (by decide), a2 43 (by decide), a1 43 (by decide)], fun i hi => by rw [a7 7 (by decide), b6 i hi, a5 44 (by decide), a4 44 (by decide), a3 44 (by decide), a2 44 (by decide), a1 44 (by decide)], fun i hi => by rw [b7 i hi, a6 45 (by decide), a5 45 (by decide), a4 45 (by decide), a3 45 (by decide), a2 45 (by decide), a1 45 (by decide)]⟩
theorem bp_46 (σ : St) : ∃ σ', f_X2_become_46 σ = some σ' ∧ (∀ d, (d < 9 ∨ 13 < d) → σ'.1 d = σ.1 d) ∧ σ'.2 = σ.2 ∧ (∀ j, j ≠ 0 → j ≠ 1 → σ'.1 9 j = σ.1 9 j) ∧ σ'.1 9 0 = σ.1 46 0 ∧ σ'.1 9 1 = σ.1 46 1 ∧ (∀ i, i < 12 → σ'.1 10 i = σ.1 47 i) ∧ (∀ i, i < 12 → σ'.1 11 i = σ.1 48 i) ∧ (∀ i, i < 12 → σ'.1 12 i = σ.1 49 i) ∧ (∀ i, i < 12 → σ'.1 13 i = σ.1 50 i) := by
  unfold f_X2_become_46
  simp only [g4_ok, g5_ok, g10_ok, g12_ok, g120_ok, if_false]
  simp only [ix_0, ix_4, ix_5, ix_10, ix_12, ix_120]
  refine st_fld ?_
  intro s1 a1 b1 c1 z1
  refine st_fld ?_
  intro s2 a2 b2 c2 z2
  refine st_row ?_
  intro s3 a3 b3 z3
  refine st_row ?_
  intro s4 a4 b4 z4
  refine st_row ?_
  intro s5 a5 b5 z5
  refine st_row ?_
  intro s6 a6 b6 z6
  exact ⟨s6, rfl, fun d hd => by rw [a6 d (by omega), a5 d (by omega), a4 d (by omega), a3 d (by omega), a2 d (by omega), a1 d (by omega)], by rw [z6, z5, z4, z3, z2, z1], fun j h0 h1 => by rw [a6 9 (by decide), a5 9 (by decide), a4 9 (by decide), a3 9 (by decide), b2 j h1, b1 j h0], by rw [a6 9 (by decide), a5 9 (by decide), a4 9 (by decide), a3 9 (by decide), b2 0 (by decide), c1], by rw [a6 9 (by decide), a5 9 (by decide), a4 9 (by decide), a3 9 (by decide), c2, a1 46 (by decide)], fun i hi => by rw [a6 10 (by decide), a5 10 (by decide), a4 10 (by decide), b3 i hi, a2 47 (by decide), a1 47 (by decide)], fun i hi => by rw [a6 11 (by decide), a5 11 (by decide), b4 i hi, a3 48 (by decide), a2 48 (by decide), a1 48 (by decide)], fun i hi => by rw [a6 12 (by decide), b5 i hi, a4 49 (by decide), a3 49 (by decide), a2 49 (by decide), a1 49 (by decide)], fun i hi => by rw [b6 i hi, a5 50 (by decide), a4 50 (by decide), a3 50 (by decide), a2 50 (by decide), a1 50 (by decide)]⟩
theorem bg_2 (σ : St) : ∃ σ', f_X1_become_20_2 σ = some σ' ∧ (∀ d, (d < 20 ∨ 26 < d) → σ'.1 d = σ.1 d) ∧ σ'.2 = σ.2 ∧ (∀ j, j ≠ 0 → σ'.1 20 j = σ.1 20 j) ∧ σ'.1 20 0 = σ.1 2 0 ∧ (∀ i, i < 10 → σ'.1 21 i = σ.1 3 i) ∧ (∀ i, i < 10 → σ'.1 22 i = σ.1 4 i) ∧ (∀ i, i < 10 → σ'.1 23 i = σ.1 5 i) ∧ (∀ i, i < 10 → σ'.1 24 i = σ.1 6 i) ∧ (∀ i, i < 10 → σ'.1 25 i = σ.1 7 i) ∧ (∀ i, i < 120 → σ'.1 26 i = σ.1 8 i) := by
  unfold f_X1_become_20_2
  simp only [g4_ok, g5_ok, g10_ok, g12_ok, g120_ok, if_false]
  simp only [ix_0, ix_4, ix_5, ix_10, ix_12, ix_120]
  refine st_fld ?_
  intro s1 a1 b1 c1 z1
  refine st_row ?_
  intro s2 a2 b2 z2
  refine st_row ?_
  intro s3 a3 b3 z3
  refine st_row ?_
  intro s4 a4 b4 z4
  refine st_row ?_
  intro s5 a5 b5 z5
  refine st_row ?_
  intro s6 a6 b6 z6
  refine st_row ?_
  intro s7 a7 b7 z7
  exact ⟨s7, rfl, fun d hd => by rw [a7 d (by omega), a6 d (by omega), a5 d (by omega), a4 d (by omega), a3 d (by omega), a2 d (by omega), a1 d (by omega)], by rw [z7, z6, z5, z4, z3, z2, z1], fun j h0 => by rw [a7 20 (by decide), a6 20 (by decide), a5 20 (by decide), a4 20 (by decide), a3 20 (by decide), a2 20 (by decide), b1 j h0], by rw [a7 20 (by decide), a6 20 (by decide), a5 20 (by decide), a4 20 (by decide), a3 20 (by decide), a2 20 (by decide), c1], fun i hi => by rw [a7 21 (by decide), a6 21 (by decide), a5 21 (by decide), a4 21 (by decide), a3 21 (by decide), b2 i hi, a1 3 (by decide)], fun i hi => by rw [a7 22 (by decide), a6 22 (by decide), a5 22 (by decide), a4 22 (by decide), b3 i hi, a2 4 (by decide), a1 4 (by decide)], fun i hi => by rw [a7 23 (by decide), a6 23 (by decide), a5 23 (by decide), b4 i hi, a3 5 (by decide), a2 5 (by decide), a1 5 (by decide)], fun i hi => by rw [a7 24 (by decide), a6 24 (by decide), b5 i hi, a4 6 (by decide), a3 6 (by decide), a2 6 (by decide), a1 6 (by decide)], fun i hi => by rw [a7 25 (by decide), b6 i hi, a5 7 (by decide), a4 7 (by decide), a3 7 (by decide), a2 7 (by decide), a1 7 (by decide)], fun i hi => by rw [b7 i hi, a6 8 (by decide), a5 8 (by decide), a4 8 (by decide), a3 8 (by decide), a2 8 (by decide), a1 8 (by decide)]⟩
theorem bp_9 (σ : St) : ∃ σ', f_X2_become_27_9 σ = some σ' ∧ (∀ d, (d < 27 ∨ 31 < d) → σ'.1 d = σ.1 d) ∧ σ'.2 = σ.2 ∧ (∀ j, j ≠ 0 → j ≠ 1 → σ'.1 27 j = σ.1 27 j) ∧ σ'.1 27 0 = σ.1 9 0 ∧ σ'.1 27 1 = σ.1 9 1 ∧ (∀ i, i < 12 → σ'.1 28 i = σ.1 10 i) ∧ (∀ i, i < 12 → σ'.1 29 i = σ.1 11 i) ∧ (∀ i, i < 12 → σ'.1 30 i = σ.1 12 i) ∧ (∀ i, i < 12 → σ'.1 31 i = σ.1 13 i) := by
  unfold f_X2_become_27_9
  simp only [g4_ok, g5_ok, g10_ok, g12_ok, g120_ok, if_false]
  simp only [ix_0, ix_4, ix_5, ix_10, ix_12, ix_120]
  refine st_fld ?_
  intro s1 a1 b1 c1 z1
  refine st_fld ?_
  intro s2 a2 b2 c2 z2
  refine st_row ?_
  intro s3 a3 b3 z3
  refine st_row ?_
  intro s4 a4 b4 z4
  refine st_row ?_
  intro s5 a5 b5 z5
  refine st_row ?_
  intro s6 a6 b6 z6
  exact ⟨s6, rfl, fun d hd => by rw [a6 d (by omega), a5 d (by omega), a4 d (by omega), a3 d (by omega), a2 d (by omega), a1 d (by omega)], by rw [z6, z5, z4, z3, z2, z1], fun j h0 h1 => by rw [a6 27 (by decide), a5 27 (by decide), a4 27 (by decide), a3 27 (by decide), b2 j h1, b1 j h0], by rw [a6 27 (by decide), a5 27 (by decide), a4 27 (by decide), a3 27 (by decide), b2 0 (by decide), c1], by rw [a6 27 (by decide), a5 27 (by decide), a4 27 (by decide), a3 27 (by decide), c2, a1 9 (by decide)], fun i hi => by rw [a6 28 (by decide), a5 28 (by decide), a4 28 (by decide), b3 i hi, a2 10 (by decide), a1 10 (by decide)], fun i hi => by rw [a6 29 (by decide), a5 29 (by decide), b4 i hi, a3 11 (by decide), a2 11 (by decide), a1 11 (by decide)], fun i hi => by rw [a6 30 (by decide), b5 i hi, a4 12 (by decide), a3 12 (by decide), a2 12 (by decide), a1 12 (by decide)], fun i hi => by rw [b6 i hi, a5 13 (by decide), a4 13 (by decide), a3 13 (by decide), a2 13 (by decide), a1 13 (by decide)]⟩
theorem bg_20 (σ : St) : ∃ σ', f_X1_become_20 σ = some σ' ∧ (∀ d, (d < 2 ∨ 8 < d) → σ'.1 d = σ.1 d) ∧ σ'.2 = σ.2 ∧ (∀ j, j ≠ 0 → σ'.1 2 j = σ.1 2 j) ∧ σ'.1 2 0 = σ.1 20 0 ∧ (∀ i, i < 10 → σ'.1 3 i = σ.1 21 i) ∧ (∀ i, i < 10 → σ'.1 4 i = σ.1 22 i) ∧ (∀ i, i < 10 → σ'.1 5 i = σ.1 23 i) ∧ (∀ i, i < 10 → σ'.1 6 i = σ.1 24 i) ∧ (∀ i, i < 10 → σ'.1 7 i = σ.1 25 i) ∧ (∀ i, i < 120 → σ'.1 8 i = σ.1 26 i) := by
  unfold f_X1_become_20
  simp only [g4_ok, g5_ok, g10_ok, g12_ok, g120_ok, if_false]
  simp only [ix_0, ix_4, ix_5, ix_10, ix_12, ix_120]
  refine st_fld ?_
  intro s1 a1 b1 c1 z1
  refine st_row ?_
  intro s2 a2 b2 z2
  refine st_row ?_
  intro s3 a3 b3 z3
  refine st_row ?_
  intro s4 a4 b4 z4
  refine st_row ?_
  intro s5 a5 b5 z5
  refine st_row ?_
  intro s6 a6 b6 z6
  refine st_row ?_
  intro s7 a7 b7 z7
  exact ⟨s7, rfl, fun d hd => by rw [a7 d (by omega), a6 d (by omega), a5 d (by omega), a4 d (by omega), a3 d (by omega), a2 d (by omega), a1 d (by omega)], by rw [z7, z6, z5, z4, z3, z2, z1], fun j h0 => by rw [a7 2 (by decide), a6 2 (by decide), a5 2 (by decide), a4 2 (by decide), a3 2 (by decide), a2 2 (by decide), b1 j h0], by rw [a7 2 (by decide), a6 2 (by decide), a5 2 (by decide), a4 2 (by decide), a3 2 (by decide), a2 2 (by decide), c1], fun i hi => by rw [a7 3 (by decide), a6 3 (by decide), a5 3 (by decide), a4 3 (by decide), a3 3 (by decide), b2 i hi, a1 21 (by decide)], fun i hi => by rw [a7 4 (by decide), a6 4 (by decide), a5 4 (by decide), a4 4 (by decide), b3 i hi, a2 22 (by decide), a1 22 (by decide)], fun i hi => by rw [a7 5 (by decide), a6 5 (by decide), a5 5 (by decide), b4 i hi, a3 23 (by decide), a2 23 (by decide), a1 23 (by decide)], fun i hi => by rw [a7 6 (by decide), a6 6 (by decide), b5 i hi, a4 24 (by decide), a3 24 (by decide), a2 24 (by decide), a1 24 (by decide)], fun i hi => by rw [a7 7 (by decide), b6 i hi, a5 25 (by decide), a4 25 (by decide), a3 25 (by decide), a2 25 (by decide), a1 25 (by decide)], fun i hi => by rw [b7 i hi, a6 26 (by decide), a5 26 (by decide), a4 26 (by decide), a3 26 (by decide), a2 26 (by decide), a1 26 (by decide)]⟩
theorem bp_27 (σ : St) : ∃ σ', f_X2_become_27 σ = some σ' ∧ (∀ d, (d < 9 ∨ 13 < d) → σ'.1 d = σ.1 d) ∧ σ'.2 = σ.2 ∧ (∀ j, j ≠ 0 → j ≠ 1 → σ'.1 9 j = σ.1 9 j) ∧ σ'.1 9 0 = σ.1 27 0 ∧ σ'.1 9 1 = σ.1 27 1 ∧ (∀ i, i < 12 → σ'.1 10 i = σ.1 28 i) ∧ (∀ i, i < 12 → σ'.1 11 i = σ.1 29 i) ∧ (∀ i, i < 12 → σ'.1 12 i = σ.1 30 i) ∧ (∀ i, i < 12 → σ'.1 13 i = σ.1 31 i) := by
  unfold f_X2_become_27
  simp only [g4_ok, g5_ok, g10_ok, g12_ok, g120_ok, if_false]
  simp only [ix_0, ix_4, ix_5, ix_10, ix_12, ix_120]
  refine st_fld ?_
  intro s1 a1 b1 c1 z1
  refine st_fld ?_
  intro s2 a2 b2 c2 z2
  refine st_row ?_
  intro s3 a3 b3 z3
  refine st_row ?_
  intro s4 a4 b4 z4
  refine st_row ?_
  intro s5 a5 b5 z5
  refine st_row ?_
  intro s6 a6 b6 z6
  exact ⟨s6, rfl, fun d hd => by rw [a6 d (by omega), a5 d (by omega), a4 d (by omega), a3 d (by omega), a2 d (by omega), a1 d (by omega)], by rw [z6, z5, z4, z3, z2, z1], fun j h0 h1 => by rw [a6 9 (by decide), a5 9 (by decide), a4 9 (by decide), a3 9 (by decide), b2 j h1, b1 j h0], by rw [a6 9 (by decide), a5 9 (by decide), a4 9 (by decide), a3 9 (by decide), b2 0 (by decide), c1], by rw [a6 9 (by decide), a5 9 (by decide), a4 9 (by decide), a3 9 (by decide), c2, a1 27 (by decide)], fun i hi => by rw [a6 10 (by decide), a5 10 (by decide), a4 10 (by decide), b3 i hi, a2 28 (by decide), a1 28 (by decide)], fun i hi => by rw [a6 11 (by decide), a5 11 (by decide), b4 i hi, a3 29 (by decide), a2 29 (by decide), a1 29 (by decide)], fun i hi => by rw [a6 12 (by decide), b5 i hi, a4 30 (by decide), a3 30 (by decide), a2 30 (by decide), a1 30 (by decide)], fun i hi => by rw [b6 i hi, a5 31 (by decide), a4 31 (by decide), a3 31 (by decide), a2 31 (by decide), a1 31 (by decide)]⟩
theorem bk_1 (σ : St) : ∃ σ', f_X3_become_19_1 σ = some σ' ∧ (∀ d, (d < 19 ∨ 36 < d) → σ'.1 d = σ.1 d) ∧ σ'.2 = σ.2 ∧ (∀ j, j ≠ 2 → j ≠ 4 → j ≠ 6 → j ≠ 7 → j ≠ 8 → j ≠ 9 → σ'.1 19 j = σ.1 19 j) ∧ σ'.1 20 0 = σ.1 2 0 ∧ (∀ i, i < 10 → σ'.1 21 i = σ.1 3 i) ∧ (∀ i, i < 10 → σ'.1 22 i = σ.1 4 i) ∧ (∀ i, i < 10 → σ'.1 23 i = σ.1 5 i) ∧ (∀ i, i < 10 → σ'.1 24 i = σ.1 6 i) ∧ (∀ i, i < 10 → σ'.1 25 i = σ.1 7 i) ∧ (∀ i, i < 120 → σ'.1 26 i = σ.1 8 i) ∧ σ'.1 27 0 = σ.1 9 0 ∧ σ'.1 27 1 = σ.1 9 1 ∧ (∀ i, i < 12 → σ'.1 28 i = σ.1 10 i) ∧ (∀ i, i < 12 → σ'.1 29 i = σ.1 11 i) ∧ (∀ i, i < 12 → σ'.1 30 i = σ.1 12 i) ∧ (∀ i, i < 12 → σ'.1 31 i = σ.1 13 i) ∧ σ'.1 19 2 = σ.1 1 2 ∧ (∀ i, i < 4 → σ'.1 32 i = σ.1 14 i) ∧ σ'.1 19 4 = σ.1 1 4 ∧ (∀ i, i < 5 → σ'.1 33 i = σ.1 15 i) ∧ σ'.1 19 6 = σ.1 1 6 ∧ σ'.1 19 7 = σ.1 1 7 ∧ σ'.1 19 8 = σ.1 1 8 ∧ σ'.1 19 9 = σ.1 1 9 ∧ (∀ i, i < 10 → σ'.1 34 i = σ.1 16 i) ∧ (∀ i, i < 10 → σ'.1 35 i = σ.1 17 i) ∧ (∀ i, i < 10 → σ'.1 36 i = σ.1 18 i) := by
  unfold f_X3_become_19_1
  simp only [g4_ok, g5_ok, g10_ok, g12_ok, g120_ok, if_false]
  simp only [ix_0, ix_4, ix_5, ix_10, ix_12, ix_120]
  refine st_call (bg_2 _) ?_
  rintro s1 ⟨a1, z1, -, f1_0, f1_1, f1_2, f1_3, f1_4, f1_5, f1_6⟩
  refine st_call (bp_9 _) ?_
  rintro s2 ⟨a2, z2, -, f2_0, f2_1, f2_2, f2_3, f2_4, f2_5⟩
  refine st_fld ?_
  intro s3 a3 b3 c3 z3
  refine st_row ?_
  intro s4 a4 b4 z4
  refine st_fld ?_
  intro s5 a5 b5 c5 z5
  refine st_row ?_
  intro s6 a6 b6 z6
  refine st_fld ?_
  intro s7 a7 b7 c7 z7
  refine st_fld ?_
  intro s8 a8 b8 c8 z8
  refine st_fld ?_
  intro s9 a9 b9 c9 z9
  refine st_fld ?_
  intro s10 a10 b10 c10 z10
  refine st_row ?_
  intro s11 a11 b11 z11
  refine st_row ?_
  intro s12 a12 b12 z12
  refine st_row ?_
  intro s13 a13 b13 z13
  exact ⟨s13, rfl, fun d hd => by rw [a13 d (by omega), a12 d (by omega), a11 d (by omega), a10 d (by omega), a9 d (by omega), a8 d (by omega), a7 d (by omega), a6 d (by omega), a5 d (by omega), a4 d (by omega), a3 d (by omega), a2 d (by omega), a1 d (by omega)], by rw [z13, z12, z11, z10, z9, z8, z7, z6, z5, z4, z3, z2, z1], fun j h2 h4 h6 h7 h8 h9 => by rw [a13 19 (by decide), a12 19 (by decide), a11 19 (by decide), b10 j h9, b9 j h8, b8 j h7, b7 j h6, a6 19 (by decide), b5 j h4, a4 19 (by decide), b3 j h2, a2 19 (by decide), a1 19 (by decide)], by rw [a13 20 (by decide), a12 20 (by decide), a11 20 (by decide), a10 20 (by decide), a9 20 (by decide), a8 20 (by decide), a7 20 (by decide), a6 20 (by decide), a5 20 (by decide), a4 20 (by decide), a3 20 (by decide), a2 20 (by decide), f1_0], fun i hi => by rw [a13 21 (by decide), a12 21 (by decide), a11 21 (by decide), a10 21 (by decide), a9 21 (by decide), a8 21 (by decide), a7 21 (by decide), a6 21 (by decide), a5 21 (by decide), a4 21 (by decide), a3 21 (by decide), a2 21 (by decide), f1_1 i hi], fun i hi => by rw [a13 22 (by decide), a12 22 (by decide), a11 22 (by decide), a10 22 (by decide), a9 22 (by decide), a8 22 (by decide), a7 22 (by decide), a6 22 (by decide), a5 22 (by decide), a4 22 (by decide), a3 22 (by decide), a2 22 (by decide), f1_2 i hi], fun i hi => by rw [a13 23 (by decide), a12 23 (by decide), a11 23 (by decide), a10 23 (by decide), a9 23 (by decide), a8 23 (by decide), a7 23 (by decide), a6 23 (by decide), a5 23 (by decide), a4 23 (by decide), a3 23 (by decide), a2 23 (by decide), f1_3 i hi], fun i hi => by rw [a13 24 (by decide), a12 24 (by decide), a11 24 (by decide), a10 24 (by decide), a9 24 (by decide), a8 24 (by decide), a7 24 (by decide), a6 24 (by decide), a5 24 (by decide), a4 24 (by decide), a3 24 (by decide), a2 24 (by decide), f1_4 i hi], fun i hi => by rw [a13 25 (by decide), a12 25 (by decide), a11 25 (by decide), a10 25 (by decide), a9 25 (by decide), a8 25 (by decide), a7 25 (by decide), a6 25 (by decide), a5 25 (by decide), a4 25 (by decide), a3 25 (by decide), a2 25 (by decide), f1_5 i hi], fun i hi => by rw [a13 26 (by decide), a12 26 (by decide), a11 26 (by decide), a10 26 (by decide), a9 26 (by decide), a8 26 (by decide), a7 26 (by decide), a6 26 (by decide), a5 26 (by decide), a4 26 (by decide), a3 26 (by decide), a2 26 (by decide), f1_6 i hi], by rw [a13 27 (by decide), a12 27 (by decide), a11 27 (by decide), a10 27 (by decide), a9 27 (by decide), a8 27 (by decide), a7 27 (by decide), a6 27 (by decide), a5 27 (by decide), a4 27 (by decide), a3 27 (by decide), f2_0, a1 9 (by decide)], by rw [a13 27 (by decide), a12 27 (by decide), a11 27 (by decide), a10 27 (by decide), a9 27 (by decide), a8 27 (by decide), a7 27 (by decide), a6 27 (by decide), a5 27 (by decide), a4 27 (by decide), a3 27 (by decide), f2_1, a1 9 (by decide)], fun i hi => by rw [a13 28 (by decide), a12 28 (by decide), a11 28 (by decide), a10 28 (by decide), a9 28 (by decide), a8 28 (by decide), a7 28 (by decide), a6 28 (by decide), a5 28 (by decide), a4 28 (by decide), a3 28 (by decide), f2_2 i hi, a1 10 (by decide)], fun i hi => by rw [a13 29 (by decide), a12 29 (by decide), a11 29 (by decide), a10 29 (by decide), a9 29 (by decide), a8 29 (by decide), a7 29 (by decide), a6 29 (by decide), a5 29 (by decide), a4 29 (by decide), a3 29 (by decide), f2_3 i hi, a1 11 (by decide)], fun i hi => by rw [a13 30 (by decide), a12 30 (by decide), a11 30 (by decide), a10 30 (by decide), a9 30 (by decide), a8 30 (by decide), a7 30 (by decide), a6 30 (by decide), a5 30 (by decide), a4 30 (by decide), a3 30 (by decide), f2_4 i hi, a1 12 (by decide)], fun i hi => by rw [a13 31 (by decide), a12 31 (by decide), a11 31 (by decide), a10 31 (by decide), a9 31 (by decide), a8 31 (by decide), a7 31 (by decide), a6 31 (by decide), a5 31 (by decide), a4 31 (by decide), a3 31 (by decide), f2_5 i hi, a1 13 (by decide)], by rw [a13 19 (by decide), a12 19 (by decide), a11 19 (by decide), b10 2 (by decide), b9 2 (by decide), b8 2 (by decide), b7 2 (by decide), a6 19 (by decide), b5 2 (by decide), a4 19 (by decide), c3, a2 1 (by decide), a1 1 (by decide)], fun i hi => by rw [a13 32 (by decide), a12 32 (by decide), a11 32 (by decide), a10 32 (by decide), a9 32 (by decide), a8 32 (by decide), a7 32 (by decide), a6 32 (by decide), a5 32 (by decide), b4 i hi, a3 14 (by decide), a2 14 (by decide), a1 14 (by decide)], by rw [a13 19 (by decide), a12 19 (by decide), a11 19 (by decide), b10 4 (by decide), b9 4 (by decide), b8 4 (by decide), b7 4 (by decide), a6 19 (by decide), c5, a4 1 (by decide), a3 1 (by decide), a2 1 (by decide), a1 1 (by decide)], fun i hi => by rw [a13 33 (by decide), a12 33 (by decide), a11 33 (by decide), a10 33 (by decide), a9 33 (by decide), a8 33 (by decide), a7 33 (by decide), b6 i hi, a5 15 (by decide), a4 15 (by decide), a3 15 (by decide), a2 15 (by decide), a1 15 (by decide)], by rw [a13 19 (by decide), a12 19 (by decide), a11 19 (by decide), b10 6 (by decide), b9 6 (by decide), b8 6 (by decide), c7, a6 1 (by decide), a5 1 (by decide), a4 1 (by decide), a3 1 (by decide), a2 1 (by decide), a1 1 (by decide)], by rw [a13 19 (by decide), a12 19 (by decide), a11 19 (by decide), b10 7 (by decide), b9 7 (by decide), c8, a7 1 (by decide), a6 1 (by decide), a5 1 (by decide), a4 1 (by decide), a3 1 (by decide), a2 1 (by decide), a1 1 (by decide)], by rw [a13 19 (by decide), a12 19 (by decide), a11 19 (by decide), b10 8 (by decide), c9, a8 1 (by decide), a7 1 (by decide), a6 1 (by decide), a5 1 (by decide), a4 1 (by decide), a3 1 (by decide), a2 1 (by decide), a1 1 (by decide)], by rw [a13 19 (by decide), a12 19 (by decide), a11 19 (by decide), c10, a9 1 (by decide), a8 1 (by decide), a7 1 (by decide), a6 1 (by decide), a5 1 (by decide), a4 1 (by decide), a3 1 (by decide), a2 1 (by decide), a1 1 (by decide)], fun i hi => by rw [a13 34 (by decide), a12 34 (by decide), b11 i hi, a10 16 (by decide), a9 16 (by decide), a8 16 (by decide), a7 16 (by decide), a6 16 (by decide), a5 16 (by decide), a4 16 (by decide), a3 16 (by decide), a2 16 (by decide), a1 16 (by decide)], fun i hi => by rw [a13 35 (by decide), b12 i hi, a11 17 (by decide), a10 17 (by decide), a9 17 (by decide), a8 17 (by decide), a7 17 (by decide), a6 17 (by decide), a5 17 (by decide), a4 17 (by decide), a3 17 (by decide), a2 17 (by decide), a1 17 (by decide)], fun i hi => by rw [b13 i hi, a12 18 (by decide), a11 18 (by decide), a10 18 (by decide), a9 18 (by decide), a8 18 (by decide), a7 18 (by decide), a6 18 (by decide), a5 18 (by decide), a4 18 (by decide), a3 18 (by decide), a2 18 (by decide), a1 18 (by decide)]⟩
theorem bk_19 (σ : St) : ∃ σ', f_X3_become_19 σ = some σ' ∧ (∀ d, (d < 1 ∨ 18 < d) → σ'.1 d = σ.1 d) ∧ σ'.2 = σ.2 ∧ (∀ j, j ≠ 2 → j ≠ 4 → j ≠ 6 → j ≠ 7 → j ≠ 8 → j ≠ 9 → σ'.1 1 j = σ.1 1 j) ∧ σ'.1 2 0 = σ.1 20 0 ∧ (∀ i, i < 10 → σ'.1 3 i = σ.1 21 i) ∧ (∀ i, i < 10 → σ'.1 4 i = σ.1 22 i) ∧ (∀ i, i < 10 → σ'.1 5 i = σ.1 23 i) ∧ (∀ i, i < 10 → σ'.1 6 i = σ.1 24 i) ∧ (∀ i, i < 10 → σ'.1 7 i = σ.1 25 i) ∧ (∀ i, i < 120 → σ'.1 8 i = σ.1 26 i) ∧ σ'.1 9 0 = σ.1 27 0 ∧ σ'.1 9 1 = σ.1 27 1 ∧ (∀ i, i < 12 → σ'.1 10 i = σ.1 28 i) ∧ (∀ i, i < 12 → σ'.1 11 i = σ.1 29 i) ∧ (∀ i, i < 12 → σ'.1 12 i = σ.1 30 i) ∧ (∀ i, i < 12 → σ'.1 13 i = σ.1 31 i) ∧ σ'.1 1 2 = σ.1 19 2 ∧ (∀ i, i < 4 → σ'.1 14 i = σ.1 32 i) ∧ σ'.1 1 4 = σ.1 19 4 ∧ (∀ i, i < 5 → σ'.1 15 i = σ.1 33 i) ∧ σ'.1 1 6 = σ.1 19 6 ∧ σ'.1 1 7 = σ.1 19 7 ∧ σ'.1 1 8 = σ.1 19 8 ∧ σ'.1 1 9 = σ.1 19 9 ∧ (∀ i, i < 10 → σ'.1 16 i = σ.1 34 i) ∧ (∀ i, i < 10 → σ'.1 17 i = σ.1 35 i) ∧ (∀ i, i < 10 → σ'.1 18 i = σ.1 36 i) := by
  unfold f_X3_become_19
  simp only [g4_ok, g5_ok, g10_ok, g12_ok, g120_ok, if_false]
  simp only [ix_0, ix_4, ix_5, ix_10, ix_12, ix_120]
  refine st_call (bg_20 _) ?_
  rintro s1 ⟨a1, z1, -, f1_0, f1_1, f1_2, f1_3, f1_4, f1_5, f1_6⟩
  refine st_call (bp_27 _) ?_
  rintro s2 ⟨a2, z2, -, f2_0, f2_1, f2_2, f2_3, f2_4, f2_5⟩
  refine st_fld ?_
  intro s3 a3 b3 c3 z3
  refine st_row ?_
  intro s4 a4 b4 z4
  refine st_fld ?_
  intro s5 a5 b5 c5 z5
  refine st_row ?_
  intro s6 a6 b6 z6
  refine st_fld ?_
  intro s7 a7 b7 c7 z7
  refine st_fld ?_
  intro s8 a8 b8 c8 z8
  refine st_fld ?_
  intro s9 a9 b9 c9 z9
  refine st_fld ?_
  intro s10 a10 b10 c10 z10
  refine st_row ?_
  intro s11 a11 b11 z11
  refine st_row ?_
  intro s12 a12 b12 z12
  refine st_row ?_
  intro s13 a13 b13 z13
  exact ⟨s13, rfl, fun d hd => by rw [a13 d (by omega), a12 d (by omega), a11 d (by omega), a10 d (by omega), a9 d (by omega), a8 d (by omega), a7 d (by omega), a6 d (by omega), a5 d (by omega), a4 d (by omega), a3 d (by omega), a2 d (by omega), a1 d (by omega)], by rw [z13, z12, z11, z10, z9, z8, z7, z6, z5, z4, z3, z2, z1], fun j h2 h4 h6 h7 h8 h9 => by rw [a13 1 (by decide), a12 1 (by decide), a11 1 (by decide), b10 j h9, b9 j h8, b8 j h7, b7 j h6, a6 1 (by decide), b5 j h4, a4 1 (by decide), b3 j h2, a2 1 (by decide), a1 1 (by decide)], by rw [a13 2 (by decide), a12 2 (by decide), a11 2 (by decide), a10 2 (by decide), a9 2 (by decide), a8 2 (by decide), a7 2 (by decide), a6 2 (by decide), a5 2 (by decide), a4 2 (by decide), a3 2 (by decide), a2 2 (by decide), f1_0], fun i hi => by rw [a13 3 (by decide), a12 3 (by decide), a11 3 (by decide), a10 3 (by decide), a9 3 (by decide), a8 3 (by decide), a7 3 (by decide), a6 3 (by decide), a5 3 (by decide), a4 3 (by decide), a3 3 (by decide), a2 3 (by decide), f1_1 i hi], fun i hi => by rw [a13 4 (by decide), a12 4 (by decide), a11 4 (by decide), a10 4 (by decide), a9 4 (by decide), a8 4 (by decide), a7 4 (by decide), a6 4 (by decide), a5 4 (by decide), a4 4 (by decide), a3 4 (by decide), a2 4 (by decide), f1_2 i hi], fun i hi => by rw [a13 5 (by decide), a12 5 (by decide), a11 5 (by decide), a10 5 (by decide), a9 5 (by decide), a8 5 (by decide), a7 5 (by decide), a6 5 (by decide), a5 5 (by decide), a4 5 (by decide), a3 5 (by decide), a2 5 (by decide), f1_3 i hi], fun i hi => by rw [a13 6 (by decide), a12 6 (by decide), a11 6 (by decide), a10 6 (by decide), a9 6 (by decide), a8 6 (by decide), a7 6 (by decide), a6 6 (by decide), a5 6 (by decide), a4 6 (by decide), a3 6 (by decide), a2 6 (by decide), f1_4 i hi], fun i hi => by rw [a13 7 (by decide), a12 7 (by decide), a11 7 (by decide), a10 7 (by decide), a9 7 (by decide), a8 7 (by decide), a7 7 (by decide), a6 7 (by decide), a5 7 (by decide), a4 7 (by decide), a3 7 (by decide), a2 7 (by decide), f1_5 i hi], fun i hi => by rw [a13 8 (by decide), a12 8 (by decide), a11 8 (by decide), a10 8 (by decide), a9 8 (by decide), a8 8 (by decide), a7 8 (by decide), a6 8 (by decide), a5 8 (by decide), a4 8 (by decide), a3 8 (by decide), a2 8 (by decide), f1_6 i hi], by rw [a13 9 (by decide), a12 9 (by decide), a11 9 (by decide), a10 9 (by decide), a9 9 (by decide), a8 9 (by decide), a7 9 (by decide), a6 9 (by decide), a5 9 (by decide), a4 9 (by decide), a3 9 (by decide), f2_0, a1 27 (by decide)], by rw [a13 9 (by decide), a12 9 (by decide), a11 9 (by decide), a10 9 (by decide), a9 9 (by decide), a8 9 (by decide), a7 9 (by decide), a6 9 (by decide), a5 9 (by decide), a4 9 (by decide), a3 9 (by decide), f2_1, a1 27 (by decide)], fun i hi => by rw [a13 10 (by decide), a12 10 (by decide), a11 10 (by decide), a10 10 (by decide), a9 10 (by decide), a8 10 (by decide), a7 10 (by decide), a6 10 (by decide), a5 10 (by decide), a4 10 (by decide), a3 10 (by decide), f2_2 i hi, a1 28 (by decide)], fun i hi => by rw [a13 11 (by decide), a12 11 (by decide), a11 11 (by decide), a10 11 (by decide), a9 11 (by decide), a8 11 (by decide), a7 11 (by decide), a6 11 (by decide), a5 11 (by decide), a4 11 (by decide), a3 11 (by decide), f2_3 i hi, a1 29 (by decide)], fun i hi => by rw [a13 12 (by decide), a12 12 (by decide), a11 12 (by decide), a10 12 (by decide), a9 12 (by decide), a8 12 (by decide), a7 12 (by decide), a6 12 (by decide), a5 12 (by decide), a4 12 (by decide), a3 12 (by decide), f2_4 i hi, a1 30 (by decide)], fun i hi => by rw [a13 13 (by decide), a12 13 (by decide), a11 13 (by decide), a10 13 (by decide), a9 13 (by decide), a8 13 (by decide), a7 13 (by decide), a6 13 (by decide), a5 13 (by decide), a4 13 (by decide), a3 13 (by decide), f2_5 i hi, a1 31 (by decide)], by rw [a13 1 (by decide), a12 1 (by decide), a11 1 (by decide), b10 2 (by decide), b9 2 (by decide), b8 2 (by decide), b7 2 (by decide), a6 1 (by decide), b5 2 (by decide), a4 1 (by decide), c3, a2 19 (by decide), a1 19 (by decide)], fun i hi => by rw [a13 14 (by decide), a12 14 (by decide), a11 14 (by decide), a10 14 (by decide), a9 14 (by decide), a8 14 (by decide), a7 14 (by decide), a6 14 (by decide), a5 14 (by decide), b4 i hi, a3 32 (by decide), a2 32 (by decide), a1 32 (by decide)], by rw [a13 1 (by decide), a12 1 (by decide), a11 1 (by decide), b10 4 (by decide), b9 4 (by decide), b8 4 (by decide), b7 4 (by decide), a6 1 (by decide), c5, a4 19 (by decide), a3 19 (by decide), a2 19 (by decide), a1 19 (by decide)], fun i hi => by rw [a13 15 (by decide), a12 15 (by decide), a11 15 (by decide), a10 15 (by decide), a9 15 (by decide), a8 15 (by decide), a7 15 (by decide), b6 i hi, a5 33 (by decide), a4 33 (by decide), a3 33 (by decide), a2 33 (by decide), a1 33 (by decide)], by rw [a13 1 (by decide), a12 1 (by decide), a11 1 (by decide), b10 6 (by decide), b9 6 (by decide), b8 6 (by decide), c7, a6 19 (by decide), a5 19 (by decide), a4 19 (by decide), a3 19 (by decide), a2 19 (by decide), a1 19 (by decide)], by rw [a13 1 (by decide), a12 1 (by decide), a11 1 (by decide), b10 7 (by decide), b9 7 (by decide), c8, a7 19 (by decide), a6 19 (by decide), a5 19 (by decide), a4 19 (by decide), a3 19 (by decide), a2 19 (by decide), a1 19 (by decide)], by rw [a13 1 (by decide), a12 1 (by decide), a11 1 (by decide), b10 8 (by decide), c9, a8 19 (by decide), a7 19 (by decide), a6 19 (by decide), a5 19 (by decide), a4 19 (by decide), a3 19 (by decide), a2 19 (by decide), a1 19 (by decide)], by rw [a13 1 (by decide), a12 1 (by decide), a11 1 (by decide), c10, a9 19 (by decide), a8 19 (by decide), a7 19 (by decide), a6 19 (by decide), a5 19 (by decide), a4 19 (by decide), a3 19 (by decide), a2 19 (by decide), a1 19 (by decide)], fun i hi => by rw [a13 16 (by decide), a12 16 (by decide), b11 i hi, a10 34 (by decide), a9 34 (by decide), a8 34 (by decide), a7 34 (by decide), a6 34 (by decide), a5 34 (by decide), a4 34 (by decide), a3 34 (by decide), a2 34 (by decide), a1 34 (by decide)], fun i hi => by rw [a13 17 (by decide), b12 i hi, a11 35 (by decide), a10 35 (by decide), a9 35 (by decide), a8 35 (by decide), a7 35 (by decide), a6 35 (by decide), a5 35 (by decide), a4 35 (by decide), a3 35 (by decide), a2 35 (by decide), a1 35 (by decide)], fun i hi => by rw [b13 i hi, a12 36 (by decide), a11 36 (by decide), a10 36 (by decide), a9 36 (by decide), a8 36 (by decide), a7 36 (by decide), a6 36 (by decide), a5 36 (by decide), a4 36 (by decide), a3 36 (by decide), a2 36 (by decide), a1 36 (by decide)]⟩
