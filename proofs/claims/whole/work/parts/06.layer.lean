/-! ===== stores and small combinators of the pure side ===== -/
abbrev St : Type := (Nat → Nat → Int32) × (Nat → Nat → Int64)
def wr (σ : St) (c i : Nat) (x : Int32) : St := (fun d => if d = c then upd (σ.1 c) i x else σ.1 d, σ.2)
def wl (σ : St) (c i : Nat) (x : Int64) : St := (σ.1, fun d => if d = c then vp_updL (σ.2 c) i x else σ.2 d)
def wrow (σ : St) (c : Nat) (f : Nat → Int32) : St := (fun d => if d = c then f else σ.1 d, σ.2)
def wrol (σ : St) (c : Nat) (f : Nat → Int64) : St := (σ.1, fun d => if d = c then f else σ.2 d)
def sq {α β : Type} (a : α) (k : α → β) : β := k a
def bdr {α β : Type} (o : Option α) (k : α → Option β) : Option β := match o with
  | none => none
  | some a => k a
def bdp {α γ β : Type} (o : Option (α × γ)) (k : α → γ → Option β) : Option β := match o with
  | none => none
  | some a => k a.1 a.2
theorem sq_e {α β : Type} {a : α} {k : α → β} {z : β} (h : sq a k = z) : ∃ y, y = a ∧ k y = z := ⟨a, rfl, h⟩
theorem bdr_e {α β : Type} {o : Option α} {k : α → Option β} {z : β} (h : bdr o k = some z) : ∃ a, o = some a ∧ k a = some z := by
  cases o with
  | none => cases h
  | some a => exact ⟨a, rfl, h⟩
theorem bdp_e {α γ β : Type} {o : Option (α × γ)} {k : α → γ → Option β} {z : β} (h : bdp o k = some z) : ∃ a b, o = some (a, b) ∧ k a b = some z := by
  cases o with
  | none => cases h
  | some a => exact ⟨a.1, a.2, rfl, h⟩
theorem nn_e {α : Type} {z : α} {P : Prop} (h : (none : Option α) = some z) : P := by cases h
theorem it_t {α : Type} {c : Prop} [Decidable c] {a b z : α} (h : (if c then a else b) = z) (hc : c) : a = z := by rw [if_pos hc] at h; exact h
theorem it_f {α : Type} {c : Prop} [Decidable c] {a b z : α} (h : (if c then a else b) = z) (hc : ¬ c) : b = z := by rw [if_neg hc] at h; exact h
theorem it_n {α : Type} {c : Prop} [Decidable c] {a : Option α} {z : α} (h : (if c then none else a) = some z) : ¬ c ∧ a = some z := by
  by_cases hc : c
  · rw [if_pos hc] at h; cases h
  · rw [if_neg hc] at h; exact ⟨hc, h⟩
/-! ===== locals by their places ===== -/
def lget : List (Option Value) → Nat → Option Value
  | [], _ => none
  | a :: _, 0 => a
  | _ :: l, n + 1 => lget l n
def lput : List (Option Value) → Nat → Option Value → List (Option Value)
  | [], _, _ => []
  | _ :: l, 0, v => v :: l
  | a :: l, n + 1, v => a :: lput l n v
def lcat2 : Option Value → Bool
  | some v => v.category == 2
  | none => false
def lset (l : List (Option Value)) : Nat → Value → List (Option Value)
  | 0, v => lput l 0 (some v)
  | j + 1, v => lput (if lcat2 (lget l j) then lput l j none else l) (j + 1) (some v)
def lset2 (l : List (Option Value)) (i : Nat) (v : Value) : List (Option Value) := lput (lset l i v) (i + 1) none
def lmask : List Bool → List (Option Value) → List (Option Value)
  | true :: ms, a :: l => a :: lmask ms l
  | false :: ms, _ :: l => none :: lmask ms l
  | _, _ => []
def lent : List Value → Nat → List (Option Value)
  | [], n => List.replicate n none
  | v :: vs, n => if v.category = 2 then some v :: none :: lent vs (n - 2) else some v :: lent vs (n - 1)
def lo_ok (ls : Array Slot) (nL : Nat) (l : List (Option Value)) : Prop := ls.size = nL ∧ lv_wf ls ∧ ∀ (i : Nat) (v : Value), lget l i = some v → ls[i]? = some (.val v)
def ltab (l : List (Option Value)) (n : Nat) : List (Nat × Value) := (List.range n).filterMap (fun j => (lget l j).map (fun u => (j, u)))
theorem ltab_m {l : List (Option Value)} {n j : Nat} {u : Value} : (j, u) ∈ ltab l n ↔ j < n ∧ lget l j = some u := by
  unfold ltab
  rw [List.mem_filterMap]
  constructor
  · rintro ⟨a, h1, h2⟩
    cases hq : lget l a with
    | none => rw [hq] at h2; cases h2
    | some x =>
      rw [hq] at h2
      cases h2
      exact ⟨List.mem_range.mp h1, hq⟩
  · rintro ⟨h1, h2⟩
    exact ⟨j, List.mem_range.mpr h1, by rw [h2]; rfl⟩
theorem lget_put : ∀ (l : List (Option Value)) (i j : Nat) (v : Option Value) (u : Value), lget (lput l i v) j = some u → (j = i ∧ v = some u) ∨ (j ≠ i ∧ lget l j = some u)
  | [], i, j, v, u, h => by simp [lput, lget] at h
  | a :: l, 0, 0, v, u, h => Or.inl ⟨rfl, h⟩
  | a :: l, 0, j + 1, v, u, h => Or.inr ⟨by omega, h⟩
  | a :: l, i + 1, 0, v, u, h => Or.inr ⟨by omega, h⟩
  | a :: l, i + 1, j + 1, v, u, h => by
    rcases lget_put l i j v u h with ⟨h1, h2⟩ | ⟨h1, h2⟩
    · exact Or.inl ⟨by omega, h2⟩
    · exact Or.inr ⟨by omega, h2⟩
theorem lget_set {l : List (Option Value)} {i j : Nat} {v u : Value} (h : lget (lset l i v) j = some u) : (j = i ∧ v = u) ∨ (j ≠ i ∧ lget l j = some u ∧ ¬ (j + 1 = i ∧ u.category = 2)) := by
  cases i with
  | zero =>
    rcases lget_put _ _ _ _ _ h with ⟨h1, h2⟩ | ⟨h1, h2⟩
    · exact Or.inl ⟨h1, Option.some.inj h2⟩
    · exact Or.inr ⟨h1, h2, by omega⟩
  | succ k =>
    rcases lget_put _ _ _ _ _ h with ⟨h1, h2⟩ | ⟨h1, h2⟩
    · exact Or.inl ⟨h1, Option.some.inj h2⟩
    · by_cases hc : lcat2 (lget l k) = true
      · rw [if_pos hc] at h2
        rcases lget_put _ _ _ _ _ h2 with ⟨h3, h4⟩ | ⟨h3, h4⟩
        · cases h4
        · exact Or.inr ⟨h1, h4, fun q => h3 (by omega)⟩
      · rw [if_neg hc] at h2
        refine Or.inr ⟨h1, h2, fun q => hc ?_⟩
        have : j = k := by omega
        subst this
        rw [h2]
        simp [lcat2, q.2]
theorem lo_st1 {ls : Array Slot} {nL : Nat} {l : List (Option Value)} {i : Nat} {v : Value} (h : lo_ok ls nL l) (hi : i < nL) (hc : v.category = 1) : ∃ ls', storeLocals ls i v = some ls' ∧ lo_ok ls' nL (lset l i v) := by
  obtain ⟨h1, h2, h3⟩ := h
  have hh : lv_has ls nL (ltab l nL) := ⟨h1, h2, fun q hq => h3 q.1 q.2 (ltab_m.mp hq).2⟩
  obtain ⟨ls', e', g1, g2, g3⟩ := lv_store1 hh hi hc
  refine ⟨ls', e', g1, g2, fun j u hu => ?_⟩
  rcases lget_set hu with ⟨q1, q2⟩ | ⟨q1, q2, q3⟩
  · subst q1; subst q2
    exact g3 (j, v) List.mem_cons_self
  · have hj : j < nL := by
      have := (Array.getElem?_eq_some_iff.mp (h3 j u q2)).1
      omega
    refine g3 (j, u) (List.mem_cons_of_mem _ (List.mem_filter.mpr ⟨ltab_m.mpr ⟨hj, q2⟩, ?_⟩))
    have a1 : (j == i) = false := by simpa using q1
    have a2 : (j + 1 == i && u.category == 2) = false := by
      cases hz : (j + 1 == i && u.category == 2) with
      | false => rfl
      | true =>
        simp only [Bool.and_eq_true, beq_iff_eq] at hz
        exact absurd hz q3
    simp [a1, a2]
theorem lo_st2 {ls : Array Slot} {nL : Nat} {l : List (Option Value)} {i : Nat} {v : Value} (h : lo_ok ls nL l) (hi : i + 1 < nL) (hc : v.category = 2) : ∃ ls', storeLocals ls i v = some ls' ∧ lo_ok ls' nL (lset2 l i v) := by
  obtain ⟨h1, h2, h3⟩ := h
  have hh : lv_has ls nL (ltab l nL) := ⟨h1, h2, fun q hq => h3 q.1 q.2 (ltab_m.mp hq).2⟩
  obtain ⟨ls', e', g1, g2, g3⟩ := lv_store2 hh hi hc
  refine ⟨ls', e', g1, g2, fun j u hu => ?_⟩
  rcases lget_put _ _ _ _ _ hu with ⟨q0, q1⟩ | ⟨q0, q1⟩
  · cases q1
  rcases lget_set q1 with ⟨q1, q2⟩ | ⟨q1, q2, q3⟩
  · subst q1; subst q2
    exact g3 (j, v) List.mem_cons_self
  · have hj : j < nL := by
      have := (Array.getElem?_eq_some_iff.mp (h3 j u q2)).1
      omega
    refine g3 (j, u) (List.mem_cons_of_mem _ (List.mem_filter.mpr ⟨ltab_m.mpr ⟨hj, q2⟩, ?_⟩))
    have a1 : (j == i) = false := by simpa using q1
    have a0 : (j == i + 1) = false := by simpa using q0
    have a2 : (j + 1 == i && u.category == 2) = false := by
      cases hz : (j + 1 == i && u.category == 2) with
      | false => rfl
      | true =>
        simp only [Bool.and_eq_true, beq_iff_eq] at hz
        exact absurd hz q3
    simp [a0, a1, a2]
theorem lget_mask : ∀ (ms : List Bool) (l : List (Option Value)) (j : Nat) (u : Value), lget (lmask ms l) j = some u → lget l j = some u
  | [], l, j, u, h => by simp [lmask, lget] at h
  | true :: ms, [], j, u, h => by simp [lmask, lget] at h
  | false :: ms, [], j, u, h => by simp [lmask, lget] at h
  | true :: ms, a :: l, 0, u, h => h
  | true :: ms, a :: l, j + 1, u, h => lget_mask ms l j u h
  | false :: ms, a :: l, 0, u, h => by simp [lmask, lget] at h
  | false :: ms, a :: l, j + 1, u, h => lget_mask ms l j u h
theorem lget_rep : ∀ (n j : Nat) (u : Value), ¬ lget (List.replicate n none) j = some u
  | 0, j, u, h => by simp [lget] at h
  | n + 1, 0, u, h => by simp [List.replicate, lget] at h
  | n + 1, j + 1, u, h => lget_rep n j u h
theorem lget_ent : ∀ (vs : List Value) (n b j : Nat) (u : Value), lget (lent vs n) j = some u → (b + j, u) ∈ lv_args b vs
  | [], n, b, j, u, h => absurd h (lget_rep n j u)
  | v :: vs, n, b, j, u, h => by
    unfold lent at h
    unfold lv_args
    by_cases hc : v.category = 2
    · rw [if_pos hc] at h
      rw [if_pos hc]
      match j, h with
      | 0, h => cases h; exact List.mem_cons_self
      | 1, h => cases h
      | k + 2, h =>
        have := lget_ent vs (n - 2) (b + 2) k u h
        refine List.mem_cons_of_mem _ ?_
        rw [show b + (k + 2) = b + 2 + k by omega]
        exact this
    · rw [if_neg hc] at h
      rw [if_neg hc]
      match j, h with
      | 0, h => cases h; exact List.mem_cons_self
      | k + 1, h =>
        have := lget_ent vs (n - 1) (b + 1) k u h
        refine List.mem_cons_of_mem _ ?_
        rw [show b + (k + 1) = b + 1 + k by omega]
        exact this
theorem lo_entry (vs : List Value) {n : Nat} (h : (lg_sl vs).length ≤ n) : lo_ok ((lg_sl vs ++ List.replicate (n - (lg_sl vs).length) Slot.unset).toArray) n (lent vs n) := by
  obtain ⟨h1, h2, h3⟩ := lv_entry vs h
  exact ⟨h1, h2, fun i v hv => h3 (i, v) (by have := lget_ent vs n 0 i v hv; rwa [Nat.zero_add] at this)⟩
