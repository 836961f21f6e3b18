theorem tm0 {w : Cond} (h : w ∈ k2_sels lw_privs) : w ∈ lw_tbl := List.mem_append_left _ h
theorem tm1 {w : Cond} (h : w ∈ tables_1_1) : w ∈ lw_tbl := List.mem_append_right _ (List.mem_append_left _ h)
theorem tm2 {w : Cond} (h : w ∈ tables_1_2) : w ∈ lw_tbl := List.mem_append_right _ (List.mem_append_right _ (List.mem_append_left _ h))
theorem tm3 {w : Cond} (h : w ∈ tables_1_3) : w ∈ lw_tbl := List.mem_append_right _ (List.mem_append_right _ (List.mem_append_right _ (List.mem_append_left _ h)))
theorem tm4 {w : Cond} (h : w ∈ tables_1_4) : w ∈ lw_tbl := List.mem_append_right _ (List.mem_append_right _ (List.mem_append_right _ (List.mem_append_right _ (List.mem_append_left _ h))))
theorem tm5 {w : Cond} (h : w ∈ tables_1_5) : w ∈ lw_tbl := List.mem_append_right _ (List.mem_append_right _ (List.mem_append_right _ (List.mem_append_right _ (List.mem_append_right _ (List.mem_append_left _ h)))))
theorem tm6 {w : Cond} (h : w ∈ tables_1_6) : w ∈ lw_tbl := List.mem_append_right _ (List.mem_append_right _ (List.mem_append_right _ (List.mem_append_right _ (List.mem_append_right _ (List.mem_append_right _ h)))))
theorem r_nm {X : Cx} {w : va_W} {pc : Nat} {loc : List (Option Value)} {st : List Value} {β : Type} {q : Int32 → β} {z : β} {x : Int32} (hf : sq x q = z) (k : ∀ y : Int32, q y = z → MW X w pc loc (.int y :: st)) : MW X w pc loc (.int x :: st) := k x hf
theorem r_nml {X : Cx} {w : va_W} {pc : Nat} {loc : List (Option Value)} {st : List Value} {β : Type} {q : Int64 → β} {z : β} {x : Int64} (hf : sq x q = z) (k : ∀ y : Int64, q y = z → MW X w pc loc (.long y :: st)) : MW X w pc loc (.long x :: st) := k x hf
theorem r_lc {X : Cx} {w : va_W} {pc : Nat} {loc loc' : List (Option Value)} {st : List Value} (h : loc = loc') (k : MW X w pc loc' st) : MW X w pc loc st := h ▸ k
theorem r_iincS {X : Cx} {cc : ByteArray} {own : String} {K : Kt} {fr lo : Nat} {w : va_W} {pc : Nat} {loc : List (Option Value)} {st : List Value} (B : Bs X cc own K fr lo) {i n0 : Nat} {n : Int} {x c : Int32} {β : Type} {q : Int32 → β} {z : β} (hN0 : X.2.2.1 = n0) (hd : decode cc pc = .ok (.iinc i n, 3)) (hg : lget loc i = some (.int x)) (hc : Int32.ofInt n = c) (hn : i < n0) (hf : sq (x + c) q = z) (k : ∀ y : Int32, q y = z → MW X w (pc + 3) (lset loc i (.int y)) st) : MW X w pc loc st := r_iinc B hN0 hd hg (by rw [hc]) hn (k _ hf)
theorem r_idivS {X : Cx} {cc : ByteArray} {own : String} {K : Kt} {fr lo : Nat} {w : va_W} {pc : Nat} {loc : List (Option Value)} {st : List Value} (B : Bs X cc own K fr lo) {x y : Int32} {α : Type} {b : Option α} {z : α} (hd : decode cc pc = .ok (.idiv, 1)) (hf : (if y = 0 then none else b) = some z) (k : ¬ y = 0 → b = some z → MW X w (pc + 1) loc (.int (x / y) :: st)) : MW X w pc loc (.int y :: .int x :: st) := r_idiv B hd (it_n hf).1 (k (it_n hf).1 (it_n hf).2)
theorem r_iremS {X : Cx} {cc : ByteArray} {own : String} {K : Kt} {fr lo : Nat} {w : va_W} {pc : Nat} {loc : List (Option Value)} {st : List Value} (B : Bs X cc own K fr lo) {x y : Int32} {α : Type} {b : Option α} {z : α} (hd : decode cc pc = .ok (.irem, 1)) (hf : (if y = 0 then none else b) = some z) (k : ¬ y = 0 → b = some z → MW X w (pc + 1) loc (.int (irm x y) :: st)) : MW X w pc loc (.int y :: .int x :: st) := r_irem B hd (it_n hf).1 (k (it_n hf).1 (it_n hf).2)
theorem nar_b {v : Int32} (h : ¬ ¬ v &&& 1 = v) : narrow .boolean (.int v) = .int v := by
  have := Decidable.not_not.mp h
  show Value.int (v &&& 1) = .int v
  rw [this]
theorem nar_i (v : Int32) : narrow .int (.int v) = .int v := rfl
theorem nn_z {α : Type} {a : α} {P : Prop} (h : (none : Option α) = some a) : P := by cases h
theorem sw_out (n : Nat) (a : Int) {x : Int32} (h : ∀ k : Nat, k < n → ¬ x.toInt = a + k) : x.toInt < a ∨ a + n - 1 < x.toInt := by
  by_cases h1 : x.toInt < a
  · exact Or.inl h1
  · by_cases h2 : a + n - 1 < x.toInt
    · exact Or.inr h2
    · exact absurd (show x.toInt = a + ((x.toInt - a).toNat : Nat) by omega) (h _ (by omega))
def FU : Nat := 100000
theorem e_pz {X : Cx} {F : St → va_W} {pc : Nat} {loc : List (Option Value)} {v r : Int32} {σ τ : St} {ty : FieldType} (hf : some (v, σ) = some (r, τ)) (hn : narrow ty (.int v) = .int v) (k : narrow ty (.int r) = .int r → MW X (F τ) pc loc [.int r]) : MW X (F σ) pc loc [.int v] := by
  cases hf; exact k hn
theorem e_rz {X : Cx} {w : va_W} {pc : Nat} {loc : List (Option Value)} {v r : Int32} {ty : FieldType} (hf : some v = some r) (hn : narrow ty (.int v) = .int v) (k : narrow ty (.int r) = .int r → MW X w pc loc [.int r]) : MW X w pc loc [.int v] := by
  cases hf; exact k hn
theorem e_tz {X : Cx} {w : va_W} {pc : Nat} {loc : List (Option Value)} {v r : Int32} {ty : FieldType} (hf : v = r) (hn : narrow ty (.int v) = .int v) (k : narrow ty (.int r) = .int r → MW X w pc loc [.int r]) : MW X w pc loc [.int v] := by
  subst hf; exact k hn
theorem nar_t {v : Int32} (h : v &&& 1 = v) : narrow .boolean (.int v) = .int v := by
  show Value.int (v &&& 1) = .int v
  rw [h]
def imax (x y : Int32) : Int32 := if x < y then y else x
theorem r_mmax {X : Cx} {cc : ByteArray} {own : String} {K : Kt} {fr lo : Nat} {w : va_W} {pc : Nat} {loc : List (Option Value)} {st : List Value} (B : Bs X cc own K fr lo) {i : Nat} {x y : Int32} (hlk : Cond.methodLink own i Lib.Math.max.name ∈ lw_T) (F : Cond.static Lib.Math.max.name ∈ lw_T ∧ Cond.initialized "java/lang/Math" ∈ lw_T ∧ Cond.code Lib.Math.max.name Lib.Math.max.code 2 (some .int) ∈ lw_T) (h1 : 1 ≤ fr) (h2 : (st.map fun v => v.category).sum + 13 ≤ lo) (hd : decode cc pc = .ok (.invokestatic i, 3)) (k : MW X w (pc + 3) loc (.int (imax x y) :: st)) : MW X w pc loc (.int y :: .int x :: st) := by
  obtain ⟨⟨p, l, e, R, s, m⟩, ⟨args, below, meth, c⟩, ⟨nL, cells, slots, A, D, Q⟩⟩ := X
  obtain ⟨hx, hb, hml, hown, hts, hK, hN, hA, hfr, hlo, hce, hsl⟩ := B
  intro H locs ls hP hD hS hl
  exact va_mmax hx hb (hml.trans hl.1.symm) hown (hts _ hlk) (hts _ F.1) (hts _ F.2.1) (hts _ F.2.2) (Nat.le_trans h1 hfr) (Nat.le_trans h2 hlo) hce hsl hd (k H locs ls hP hD hS hl)
def imin (x y : Int32) : Int32 := if y < x then y else x
theorem r_mmin {X : Cx} {cc : ByteArray} {own : String} {K : Kt} {fr lo : Nat} {w : va_W} {pc : Nat} {loc : List (Option Value)} {st : List Value} (B : Bs X cc own K fr lo) {i : Nat} {x y : Int32} (hlk : Cond.methodLink own i Lib.Math.min.name ∈ lw_T) (F : Cond.static Lib.Math.min.name ∈ lw_T ∧ Cond.initialized "java/lang/Math" ∈ lw_T ∧ Cond.code Lib.Math.min.name Lib.Math.min.code 2 (some .int) ∈ lw_T) (h1 : 1 ≤ fr) (h2 : (st.map fun v => v.category).sum + 13 ≤ lo) (hd : decode cc pc = .ok (.invokestatic i, 3)) (k : MW X w (pc + 3) loc (.int (imin x y) :: st)) : MW X w pc loc (.int y :: .int x :: st) := by
  obtain ⟨⟨p, l, e, R, s, m⟩, ⟨args, below, meth, c⟩, ⟨nL, cells, slots, A, D, Q⟩⟩ := X
  obtain ⟨hx, hb, hml, hown, hts, hK, hN, hA, hfr, hlo, hce, hsl⟩ := B
  intro H locs ls hP hD hS hl
  exact va_mmin hx hb (hml.trans hl.1.symm) hown (hts _ hlk) (hts _ F.1) (hts _ F.2.1) (hts _ F.2.2) (Nat.le_trans h1 hfr) (Nat.le_trans h2 hlo) hce hsl hd (k H locs ls hP hD hS hl)
def iabs (x : Int32) : Int32 := if 0 ≤ x then x else 0 - x
theorem r_mabs {X : Cx} {cc : ByteArray} {own : String} {K : Kt} {fr lo : Nat} {w : va_W} {pc : Nat} {loc : List (Option Value)} {st : List Value} (B : Bs X cc own K fr lo) {i : Nat} {x : Int32} (hlk : Cond.methodLink own i Lib.Math.abs.name ∈ lw_T) (F : Cond.static Lib.Math.abs.name ∈ lw_T ∧ Cond.initialized "java/lang/Math" ∈ lw_T ∧ Cond.code Lib.Math.abs.name Lib.Math.abs.code 1 (some .int) ∈ lw_T) (h1 : 1 ≤ fr) (h2 : (st.map fun v => v.category).sum + 13 ≤ lo) (hd : decode cc pc = .ok (.invokestatic i, 3)) (k : MW X w (pc + 3) loc (.int (iabs x) :: st)) : MW X w pc loc (.int x :: st) := by
  obtain ⟨⟨p, l, e, R, s, m⟩, ⟨args, below, meth, c⟩, ⟨nL, cells, slots, A, D, Q⟩⟩ := X
  obtain ⟨hx, hb, hml, hown, hts, hK, hN, hA, hfr, hlo, hce, hsl⟩ := B
  intro H locs ls hP hD hS hl
  exact va_mabs hx hb (hml.trans hl.1.symm) hown (hts _ hlk) (hts _ F.1) (hts _ F.2.1) (hts _ F.2.2) (Nat.le_trans h1 hfr) (Nat.le_trans h2 hlo) hce hsl hd (k H locs ls hP hD hS hl)
