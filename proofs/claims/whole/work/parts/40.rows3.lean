/-! ===== rows for what makes cells; worlds side by side ===== -/
abbrev Cx.up (X : Cx) (a b : Nat) : Cx := (X.1, X.2.1, (X.2.2.1, X.2.2.2.1 + a, X.2.2.2.2.1 + b, X.2.2.2.2.2))
def Rm (X : Cx) (a b : Nat) : Prop := X.2.2.2.1 + a ≤ X.1.2.2.2.1.cells ∧ X.2.2.2.2.1 + b ≤ X.1.2.2.2.1.slots
theorem Bs.up {X : Cx} {cc : ByteArray} {own : String} {K : Kt} {fr lo : Nat} (B : Bs X cc own K fr lo) {a b : Nat} (h : Rm X a b) : Bs (X.up a b) cc own K fr lo := by
  obtain ⟨⟨p, l, e, R, s, m⟩, ⟨args, below, meth, c⟩, ⟨nL, cells, slots, A, D, Q⟩⟩ := X
  obtain ⟨hx, hb, hml, hown, hts, hK, hN, hA, hfr, hlo, hce, hsl⟩ := B
  exact ⟨hx, hb, hml, hown, hts, hK, hN, hA, hfr, hlo, h.1, h.2⟩
theorem Rm.up {X : Cx} {a b c d : Nat} (h : Rm X c d) (a' b' : Nat) (ha : a + a' ≤ c) (hb : b + b' ≤ d) : Rm (X.up a b) a' b' := by
  obtain ⟨⟨p, l, e, R, s, m⟩, ⟨args, below, meth, cc⟩, ⟨nL, cells, slots, A, D, Q⟩⟩ := X
  have h1 : cells + c ≤ R.cells := h.1
  have h2 : slots + d ≤ R.slots := h.2
  exact ⟨show cells + a + a' ≤ R.cells by omega, show slots + b + b' ≤ R.slots by omega⟩
theorem Rm.sub {X : Cx} {c d : Nat} (h : Rm X c d) (a b : Nat) (ha : a ≤ c) (hb : b ≤ d) : Rm X a b := by
  obtain ⟨⟨p, l, e, R, s, m⟩, ⟨args, below, meth, cc⟩, ⟨nL, cells, slots, A, D, Q⟩⟩ := X
  have h1 : cells + c ≤ R.cells := h.1
  have h2 : slots + d ≤ R.slots := h.2
  exact ⟨show cells + a ≤ R.cells by omega, show slots + b ≤ R.slots by omega⟩
theorem r_upq {X Y : Cx} {w : va_W} {pc : Nat} {loc : List (Option Value)} {st : List Value} (h : X = Y) (k : MW Y w pc loc st) : MW X w pc loc st := h ▸ k
theorem r_wq {X : Cx} {w w' : va_W} {pc : Nat} {loc : List (Option Value)} {st : List Value} (h : w = w') (k : MW X w' pc loc st) : MW X w pc loc st := h ▸ k
theorem r_perm {X : Cx} {w w' : va_W} {pc : Nat} {loc : List (Option Value)} {st : List Value} (is : List Nat) (h : is.map (fun i => w[i]?) = w'.map some) (hn : va_nd is = true) (k : MW X w' pc loc st) : MW X w pc loc st := by
  obtain ⟨⟨p, l, e, R, s, m⟩, ⟨args, below, meth, c⟩, ⟨nL, cells, slots, A, D, Q⟩⟩ := X
  intro H locs ls hP hD hS hl
  refine k H locs ls (hP.sub is ?_) (hD.sub is hn h) hS hl
  have : is.filterMap (fun i => w[i]?) = (is.map (fun i => w[i]?)).filterMap id := by rw [List.filterMap_map]; rfl
  rw [this, h, List.filterMap_map]
  simp
theorem r_widen {X : Cx} {w : va_W} {pc : Nat} {loc : List (Option Value)} {st : List Value} (a b : Nat) (k : MW (X.up a b) w pc loc st) : MW X w pc loc st := by
  obtain ⟨⟨p, l, e, R, s, m⟩, ⟨args, below, meth, c⟩, ⟨nL, cells, slots, A, D, Q⟩⟩ := X
  intro H locs ls hP hD hS hl
  exact W.widen (Nat.le_add_right _ _) (Nat.le_add_right _ _) (k H locs ls hP hD hS hl)
theorem r_new {X : Cx} {cc : ByteArray} {own : String} {K : Kt} {fr lo : Nat} {w : va_W} {pc : Nat} {loc : List (Option Value)} {st : List Value} (B : Bs X cc own K fr lo) {C : String} {T : u_T} {N ci i : Nat} {fs : List Value} (hR : Rm X 1 N) (hin : ∀ w ∈ u_ws C T N, w ∈ lw_T) (ty : Nat → FieldType) (hty : ∀ k, k < N → parseFieldDescriptor (T k).2.2.1 = some (ty k)) (hcl : Cond.classLink own i C ∈ lw_T) (hinst : Cond.instantiable C N ∈ lw_T) (hini : Cond.initialized C ∈ lw_T) (hc : vwCl[ci]? = some (C, T, N)) (hfs : ∀ j, j < N → defaultValue (ty j) = vp_V fs j) (hd : decode cc pc = .ok (.new i, 3)) (k : ∀ q : Nat, MW (X.up 1 N) (w ++ [(q, .inr (ci, fs))]) (pc + 3) loc (.ref q :: st)) : MW X w pc loc st := by
  obtain ⟨⟨p, l, e, R, s, m⟩, ⟨args, below, meth, c⟩, ⟨nL, cells, slots, A, D, Q⟩⟩ := X
  obtain ⟨hx, hb, hml, hown, hts, hK, hN, hA, hfr, hlo, hce, hsl⟩ := B
  intro H locs ls hP hD hS hl
  exact va_new hx hb hts hin ty hty hown (hts _ hcl) (hts _ hinst) (hts _ hini) hK hP hD hS hA hc hfs hR.1 hR.2 hd (fun q H1 hP1 hD1 hS1 => k q H1 locs ls hP1 hD1 hS1 hl)
theorem r_newai {X : Cx} {cc : ByteArray} {own : String} {K : Kt} {fr lo : Nat} {w : va_W} {pc : Nat} {loc : List (Option Value)} {st : List Value} (B : Bs X cc own K fr lo) {n : Int32} (N : Nat) (hR : Rm X 1 N) (hw : Cond.arrayClass .int ∈ lw_T) (hn : ¬ n < 0) (hN : ix n = N) (hb4 : N * 4 ≤ 536870912) (hd : decode cc pc = .ok (.newarray .int, 2)) (k : ∀ q : Nat, MW (X.up 1 N) (w ++ [(q, .inl (K.1, N, .inl (fun _ => 0)))]) (pc + 2) loc (.ref q :: st)) : MW X w pc loc (.int n :: st) := by
  obtain ⟨⟨p, l, e, R, s, m⟩, ⟨args, below, meth, c⟩, ⟨nL, cells, slots, A, D, Q⟩⟩ := X
  obtain ⟨hx, hb, hml, hown, hts, hK, hNn, hA, hfr, hlo, hce, hsl⟩ := B
  intro H locs ls hP hD hS hl
  refine va_newa (atype := .int) (ty := .int) (a0 := (N, .inl (fun _ => 0))) hx hb (hts _ hw) rfl hK hP hD hS hA (fun _ => rfl) hn hN hb4 hR.1 hR.2 hd (fun q cA H1 hK1 hP1 hD1 hS1 => ?_)
  have e1 : s.vm.findClass ("[" ++ FieldType.int.toString) = some cA := (hK1.2 4 (cA, .int) rfl).2
  have e2 : s.vm.findClass ("[" ++ FieldType.int.toString) = some K.1 := (hK.2 0 (K.1, .int) rfl).2
  have e3 : cA = K.1 := Option.some.inj (e1.symm.trans e2)
  subst e3
  exact k q H1 locs ls hP1 hD1 hS1 hl
theorem r_newal {X : Cx} {cc : ByteArray} {own : String} {K : Kt} {fr lo : Nat} {w : va_W} {pc : Nat} {loc : List (Option Value)} {st : List Value} (B : Bs X cc own K fr lo) {n : Int32} (N : Nat) (hR : Rm X 1 N) (hw : Cond.arrayClass .long ∈ lw_T) (hn : ¬ n < 0) (hN : ix n = N) (hb4 : N * 8 ≤ 536870912) (hd : decode cc pc = .ok (.newarray .long, 2)) (k : ∀ q : Nat, MW (X.up 1 N) (w ++ [(q, .inl (K.2.1, N, .inr (.inl (fun _ => 0))))]) (pc + 2) loc (.ref q :: st)) : MW X w pc loc (.int n :: st) := by
  obtain ⟨⟨p, l, e, R, s, m⟩, ⟨args, below, meth, c⟩, ⟨nL, cells, slots, A, D, Q⟩⟩ := X
  obtain ⟨hx, hb, hml, hown, hts, hK, hNn, hA, hfr, hlo, hce, hsl⟩ := B
  intro H locs ls hP hD hS hl
  refine va_newa (atype := .long) (ty := .long) (a0 := (N, .inr (.inl (fun _ => 0)))) hx hb (hts _ hw) rfl hK hP hD hS hA (fun _ => rfl) hn hN hb4 hR.1 hR.2 hd (fun q cA H1 hK1 hP1 hD1 hS1 => ?_)
  have e1 : s.vm.findClass ("[" ++ FieldType.long.toString) = some cA := (hK1.2 4 (cA, .long) rfl).2
  have e2 : s.vm.findClass ("[" ++ FieldType.long.toString) = some K.2.1 := (hK.2 1 (K.2.1, .long) rfl).2
  have e3 : cA = K.2.1 := Option.some.inj (e1.symm.trans e2)
  subst e3
  exact k q H1 locs ls hP1 hD1 hS1 hl
theorem r_newab {X : Cx} {cc : ByteArray} {own : String} {K : Kt} {fr lo : Nat} {w : va_W} {pc : Nat} {loc : List (Option Value)} {st : List Value} (B : Bs X cc own K fr lo) {n : Int32} (N : Nat) (hR : Rm X 1 N) (hw : Cond.arrayClass .byte ∈ lw_T) (hn : ¬ n < 0) (hN : ix n = N) (hb4 : N * 1 ≤ 536870912) (hd : decode cc pc = .ok (.newarray .byte, 2)) (k : ∀ q : Nat, MW (X.up 1 N) (w ++ [(q, .inl (K.2.2.1, N, .inl (fun _ => 0)))]) (pc + 2) loc (.ref q :: st)) : MW X w pc loc (.int n :: st) := by
  obtain ⟨⟨p, l, e, R, s, m⟩, ⟨args, below, meth, c⟩, ⟨nL, cells, slots, A, D, Q⟩⟩ := X
  obtain ⟨hx, hb, hml, hown, hts, hK, hNn, hA, hfr, hlo, hce, hsl⟩ := B
  intro H locs ls hP hD hS hl
  refine va_newa (atype := .byte) (ty := .byte) (a0 := (N, .inl (fun _ => 0))) hx hb (hts _ hw) rfl hK hP hD hS hA (fun _ => rfl) hn hN hb4 hR.1 hR.2 hd (fun q cA H1 hK1 hP1 hD1 hS1 => ?_)
  have e1 : s.vm.findClass ("[" ++ FieldType.byte.toString) = some cA := (hK1.2 4 (cA, .byte) rfl).2
  have e2 : s.vm.findClass ("[" ++ FieldType.byte.toString) = some K.2.2.1 := (hK.2 2 (K.2.2.1, .byte) rfl).2
  have e3 : cA = K.2.2.1 := Option.some.inj (e1.symm.trans e2)
  subst e3
  exact k q H1 locs ls hP1 hD1 hS1 hl
abbrev Cx.s (X : Cx) : State := X.1.2.2.2.2.1
abbrev Cx.meth (X : Cx) : Method := X.2.1.2.2.1
theorem r_newq {X : Cx} {cc : ByteArray} {own : String} {K : Kt} {fr lo : Nat} {w : va_W} {pc : Nat} {loc : List (Option Value)} {st : List Value} (B : Bs X cc own K fr lo) {n : Int32} {i : Nat} (N : Nat) (hR : Rm X 1 N) (hcl : Cond.classLink own i "GraveNews$Sheet" ∈ lw_T) (hAO : va_AO "GraveNews$Sheet" X.s) (hn : ¬ n < 0) (hN : ix n = N) (hb4 : N * 4 ≤ 536870912) (hd : decode cc pc = .ok (.anewarray i, 3)) (k : ∀ q : Nat, MW (X.up 1 N) (w ++ [(q, .inl (K.2.2.2, N, .inr (.inr (.inr (.inr (fun _ => none))))))]) (pc + 3) loc (.ref q :: st)) : MW X w pc loc (.int n :: st) := by
  obtain ⟨⟨p, l, e, R, s, m⟩, ⟨args, below, meth, c⟩, ⟨nL, cells, slots, A, D, Q⟩⟩ := X
  obtain ⟨hx, hb, hml, hown, hts, hK, hNn, hA, hfr, hlo, hce, hsl⟩ := B
  intro H locs ls hP hD hS hl
  refine va_newq hx hb hown (hts _ hcl) hAO hK hP hD hS hA hn hN hb4 hR.1 hR.2 hd (fun q cA H1 hK1 hP1 hD1 hS1 => ?_)
  obtain ⟨_, _, _, _, _, e1⟩ := (hK1.2 4 (cA, .object "GraveNews$Sheet") rfl).2
  obtain ⟨_, _, _, _, _, e2⟩ := (hK.2 3 (K.2.2.2, .object "GraveNews$Sheet") rfl).2
  have e3 : cA = K.2.2.2 := Option.some.inj (e1.symm.trans e2)
  subst e3
  exact k q H1 locs ls hP1 hD1 hS1 hl
theorem r_aast {X : Cx} {cc : ByteArray} {own : String} {K : Kt} {fr lo : Nat} {w w' : va_W} {pc : Nat} {loc : List (Option Value)} {st : List Value} (B : Bs X cc own K fr lo) {q0 qk a n v : Nat} {vs : List Value} {f : Nat → Option Nat} {i : Int32} (ha : w[q0]? = some (a, .inl (K.2.2.2, n, .inr (.inr (.inr (.inr f)))))) (hv : w[qk]? = some (v, .inr (4, vs))) (hin : ¬ (i < 0 ∨ n ≤ ix i)) (hw : w.set q0 (a, .inl (K.2.2.2, n, .inr (.inr (.inr (.inr (va_up f (ix i) (some v))))))) = w') (hd : decode cc pc = .ok (.aastore, 1)) (k : MW X w' (pc + 1) loc st) : MW X w pc loc (.ref v :: .int i :: .ref a :: st) := by
  obtain ⟨⟨p, l, e, R, s, m⟩, ⟨args, below, meth, c⟩, ⟨nL, cells, slots, A, D, Q⟩⟩ := X
  obtain ⟨hx, hb, hml, hown, hts, hK, hNn, hA, hfr, hlo, hce, hsl⟩ := B
  intro H locs ls hP hD hS hl
  exact va_astq (r := (RX4, TX4, 4)) hx hb hK hP hD hS q0 3 qk 4 ha rfl hv rfl hin hd (fun H1 locs1 hP1 hD1 hS1 => k H1 locs1 ls (hw ▸ hP1) (hw ▸ hD1) hS1 hl)
theorem r_objI {X : Cx} {cc : ByteArray} {own : String} {K : Kt} {fr lo : Nat} {w : va_W} {pc : Nat} {loc : List (Option Value)} {st : List Value} (B : Bs X cc own K fr lo) {i a : Nat} (hlk : Cond.methodLink own i Lib.objectInit ∈ lw_T) (hin : Cond.instanceMethod Lib.objectInit ∈ lw_T) (hcd : Cond.code Lib.objectInit ⟨#[0xb1]⟩ 1 none ∈ lw_T) (h1 : 1 ≤ fr) (h2 : (st.map fun v => v.category).sum + 12 ≤ lo) (hd : decode cc pc = .ok (.invokespecial i, 3)) (k : MW X w (pc + 3) loc st) : MW X w pc loc (.ref a :: st) := by
  obtain ⟨⟨p, l, e, R, s, m⟩, ⟨args, below, meth, c⟩, ⟨nL, cells, slots, A, D, Q⟩⟩ := X
  obtain ⟨hx, hb, hml, hown, hts, hK, hNn, hA, hfr, hlo, hce, hsl⟩ := B
  intro H locs ls hP hD hS hl
  refine W.objInit hx hb hown (hts _ hlk) (hts _ hin) (hts _ hcd) rfl (hl.1.trans hml.symm) rfl hd (Nat.le_trans h1 hfr) (Nat.le_trans (Nat.le_trans (by show 2 * (F0 m pc ls _).monitorRoom + _ + 12 ≤ _; exact Nat.le_of_eq (by rw [show (F0 m pc ls (.ref a :: st)).monitorRoom = 0 from rfl]; omega)) h2) hlo) ?_
  exact k H locs ls hP hD hS hl
theorem r_putR {X : Cx} {cc : ByteArray} {own : String} {K : Kt} {fr lo : Nat} {w w' : va_W} {pc : Nat} {loc : List (Option Value)} {st : List Value} (B : Bs X cc own K fr lo) (hmn : X.meth.name = "<init>") {T : u_T} {N ci q0 i a : Nat} {fs : List Value} (f : Nat) {v : Value} {ty : FieldType} (he : w[q0]? = some (a, .inr (ci, fs))) (hc : vwCl[ci]? = some (own, T, N)) (hin : ∀ w ∈ u_ws own T N, w ∈ lw_T) (ty0 : Nat → FieldType) (hty : ∀ k, k < N → parseFieldDescriptor (T k).2.2.1 = some (ty0 k)) (hnm : ∀ a, a < N → ∀ b, b < N → a ≠ b → (T a).2.1 ≠ (T b).2.1) (hf : f < N) (hlk : Cond.fieldLink own i (T f).1 (T f).2.1 (T f).2.2.1 ∈ lw_T) (hfin : (T f).2.2.2 = true) (hdecl : (T f).1 = own) (hdt : parseFieldDescriptor (T f).2.2.1 = some ty) (hn : narrow ty v = v) (hfit : fits ty v = true) (hl0 : f < fs.length) (hw : w.set q0 (a, .inr (ci, fs.set f v)) = w') (hd : decode cc pc = .ok (.putfield i, 3)) (k : MW X w' (pc + 3) loc st) : MW X w pc loc (v :: .ref a :: st) := by
  obtain ⟨⟨p, l, e, R, s, m⟩, ⟨args, below, meth, c⟩, ⟨nL, cells, slots, A, D, Q⟩⟩ := X
  obtain ⟨hx, hb, hml, hown, hts, hK, hNn, hA, hfr, hlo, hce, hsl⟩ := B
  intro H locs ls hP hD hS hl
  exact va_putF hx hb hts hin ty0 hty hnm hown hK hP hD hS q0 he hc f hf (hts _ hlk) (fun _ h => h) hfin hmn hdecl hdt hn hfit hl0 hd (fun H1 locs1 hP1 hD1 hS1 => k H1 locs1 ls (hw ▸ hP1) (hw ▸ hD1) hS1 hl)
/-! worlds side by side: the callee's part, and the rest, which stays -/
theorem w_rest {A0 : Nat → Prop} {D : va_G} {cl : List vw_C} {wr wc w1 : va_W} {H H1 : Heap} (hPr : va_P D cl wr H) (hap : ∀ (i j : Nat) (p q : Nat × va_E), wr[i]? = some p → wc[j]? = some q → p.1 ≠ q.1) (hk : ∀ q : Nat, q < H.size → ¬ va_A wc H.size q → H1[q]? = H[q]?) (hD1 : va_D (va_A wc H.size) w1) : va_P D cl wr H1 ∧ ∀ (i j : Nat) (p q : Nat × va_E), wr[i]? = some p → w1[j]? = some q → p.1 ≠ q.1 := by
  have key : ∀ (k : Nat) (q : Nat × va_E), wr[k]? = some q → q.1 < H.size ∧ ¬ va_A wc H.size q.1 := by
    intro k q hq
    have hl := (hPr k q hq).lt
    refine ⟨hl, fun h => ?_⟩
    rcases h with ⟨k2, e, h⟩ | h
    · exact hap k k2 q (q.1, e) hq h rfl
    · omega
  refine ⟨fun k q hq => (hPr k q hq).kept (hk q.1 (key k q hq).1 (key k q hq).2), fun i j p q hi hj e => (key i p hi).2 (by rw [e]; exact hD1.2 j q hj)⟩
theorem w_split {A0 : Nat → Prop} {D : va_G} {cl : List vw_C} {wa wb : va_W} {H : Heap} (hP : va_P D cl (wa ++ wb) H) (hD : va_D A0 (wa ++ wb)) : va_P D cl wa H ∧ va_P D cl wb H ∧ va_D A0 wa ∧ va_D A0 wb ∧ ∀ (i j : Nat) (p q : Nat × va_E), wa[i]? = some p → wb[j]? = some q → p.1 ≠ q.1 := by
  have la : ∀ (k : Nat) (q : Nat × va_E), wa[k]? = some q → (wa ++ wb)[k]? = some q := fun k q h => by
    rw [List.getElem?_append_left (List.getElem?_eq_some_iff.mp h).1]; exact h
  have lb : ∀ (k : Nat) (q : Nat × va_E), wb[k]? = some q → (wa ++ wb)[wa.length + k]? = some q := fun k q h => by
    rw [List.getElem?_append_right (by omega), show wa.length + k - wa.length = k by omega]; exact h
  refine ⟨fun k q h => hP k q (la k q h), fun k q h => hP _ q (lb k q h), ⟨fun i j p q hi hj e => hD.1 i j p q (la i p hi) (la j q hj) e, fun k q h => hD.2 k q (la k q h)⟩, ⟨fun i j p q hi hj e => ?_, fun k q h => hD.2 _ q (lb k q h)⟩, fun i j p q hi hj e => ?_⟩
  · have := hD.1 _ _ p q (lb i p hi) (lb j q hj) e
    omega
  · have := hD.1 _ _ p q (la i p hi) (lb j q hj) e
    have h2 := (List.getElem?_eq_some_iff.mp hi).1
    omega
def PrN (l : Launch) (D : va_G) (K : Kt) (av : List Value) (w : va_W) (sz : Nat) : Array Value → State → Prop := va_Pc av (fun U => U.heap.size = sz ∧ va_P D vwCl w U.heap ∧ va_K D vwCl (tyL K) U ∧ va_D (fun _ => True) w ∧ lw_N U ∧ va_AO "GraveNews$Sheet" U)
def CtN (l : Launch) (y : MethodName) (cc : ByteArray) (nL : Nat) (ret : Option FieldType) (fr lo mc ms : Nat) (D : va_G) (K : Kt) (av : List Value) (w : va_W) (F : (Nat → Nat) → va_W) : Prop := ∀ sz : Nat, Met l y (.code y cc nL ret :: lw_T) { frames := fr, cells := mc, slots := ms, locals := lo } (PrN l D K av w sz) (va_Qv (fun (_ : Nat → Nat) => True) (fun ad t => va_P D vwCl (F ad) t.heap ∧ va_K D vwCl (tyL K) t ∧ va_D (va_A w sz) (F ad)) (va_A w sz)) mc ms (va_A w sz)
theorem PrN.blind {l : Launch} {D : va_G} {K : Kt} {av : List Value} {w : va_W} {sz : Nat} : FrameBlind (PrN l D K av w sz) := fun a U g mk q => by
  obtain ⟨q0, q1, qP, qK, qD, qN, qA⟩ := q
  exact ⟨q0, q1, qP, va_K.moved (u := U) (U := U.calling g mk a) (Vm.Alike.refl U.vm) qK, qD, qN.call, va_AO.moved (u := U) (U := U.calling g mk a) (Vm.Alike.refl U.vm) qA⟩
theorem met_n {l : Launch} {y : MethodName} {cc : ByteArray} {nL : Nat} {fr lo mc ms : Nat} {D : va_G} {K : Kt} {av : List Value} {w : va_W} {F : (Nat → Nat) → va_W} (hy : plainName y.cls = true) (hlen : (lg_sl av).length ≤ nL)
    (body : ∀ X : Cx, X.2.2.1 = nL → Bs X cc y.cls K fr lo → Rm X mc ms → X.meth.name = y.name → va_AO "GraveNews$Sheet" X.s → (∀ (ad : Nat → Nat) (pc : Nat) (loc : List (Option Value)), decode cc pc = .ok (.return_, 1) → MW (X.up mc ms) (F ad) pc loc []) → MW X w 0 (lent av nL) []) : CtN l y cc nL none fr lo mc ms D K av w F := by
  intro sz
  refine Met.ofW (cc := cc) (maxL := nL) (ret := none) hy rfl ?_
  intro p e s m args below meth c s₁ B hml hv
  obtain ⟨rfl, hsz, hP, hK, hD0, hN, hAO⟩ := hv
  have hx := B.exec
  have hb := B.bytes
  have hr := B.returns
  have hts := atoms_spec (ws := .code y cc nL none :: lw_T) B.pre
  have hown : s.vm.findClass y.cls = some m.cls := findClass_of_methodNamed B.named
  have hlocks := B.notSynchronized
  have hmn : meth.name = y.name := (name_of_methodNamed B.named B.method).1
  subst hsz
  have hD := hD0.self (sz := s.heap.size)
  have hS : va_S (va_A w s.heap.size) s.heap s.heap [] := va_S.rf
  have hl := lo_entry av hlen
  rw [lg_entry_eq]
  refine body ((p, l, e, { frames := fr, cells := mc, slots := ms, locals := lo }, s, m), (av.toArray, below, meth, c), (nL, 0, 0, va_A w s.heap.size, D, MQ below (va_Qv (fun (_ : Nat → Nat) => True) (fun ad t => va_P D vwCl (F ad) t.heap ∧ va_K D vwCl (tyL K) t ∧ va_D (va_A w s.heap.size) (F ad)) (va_A w s.heap.size)) av.toArray s mc ms (va_A w s.heap.size))) rfl ⟨hx, hb, hml, hown, fun w hw => hts w (List.mem_cons_of_mem _ hw), hK, hN, fun q h => Or.inr h, Nat.le_refl _, Nat.le_refl _, Nat.zero_le _, Nat.zero_le _⟩ ⟨Nat.le_of_eq (Nat.zero_add _), Nat.le_of_eq (Nat.zero_add _)⟩ hmn hAO ?_ s.heap [] _ hP hD hS hl
  intro ad pc loc hd H locs ls hP hD hS hl
  show W _ _ _ _ _ _ _ _ _ _ _ _ (0 + mc) (0 + ms) _ _
  rw [Nat.zero_add, Nat.zero_add]
  exact W.vret hx hb hr (fun t ht hW => ⟨⟨ad, rfl, trivial, by rw [ht]; exact hP, va_K.moved hW.alike hK, hD⟩, hS.F ht⟩) hS.2.2 hd
theorem r_cI {X : Cx} {cc : ByteArray} {own : String} {K : Kt} {fr lo : Nat} {wr wc : va_W} {pc : Nat} {loc : List (Option Value)} {st : List Value} (B : Bs X cc own K fr lo) (hAO : va_AO "GraveNews$Sheet" X.s) {y : MethodName} {cc2 : ByteArray} {nL2 fr2 lo2 mc ms i b : Nat} {F : (Nat → Nat) → va_W} (hM : CtN X.l y cc2 nL2 none fr2 lo2 mc ms X.D K [.ref b] wc F) (hcd : Cond.code y cc2 nL2 none ∈ lw_T) (hinm : Cond.instanceMethod y ∈ lw_T) (hini : Cond.initialized y.cls ∈ lw_T) (hy : y.name = "<init>" ∧ y.cls ≠ "java/lang/invoke/MethodHandle" ∧ y.cls ≠ "java/lang/invoke/VarHandle" ∧ (parseMethodDescriptor y.desc).map (fun d => d.parameters.length) = some 0) (hlk : (own, i, y) ∈ lw_nest ∨ Cond.methodLink own i y ∈ lw_T) (hR : Rm X mc ms) (h1 : fr2 + 1 ≤ fr) (h2 : 8 + (nL2 + 11) + lo2 ≤ lo) (hst : (st.map fun v => v.category).sum ≤ 8) (hd : decode cc pc = .ok (.invokespecial i, 3)) (k : ∀ ad : Nat → Nat, MW (X.up mc ms) (wr ++ F ad) (pc + 3) loc st) : MW X (wr ++ wc) pc loc (.ref b :: st) := by
  obtain ⟨⟨p, l, e, R, s, m⟩, ⟨args, below, meth, c⟩, ⟨nL, cells, slots, A, D, Q⟩⟩ := X
  obtain ⟨hx, hb, hml, hown, hts, hK, hN, hA, hfr, hlo, hce, hsl⟩ := B
  intro H locs ls hP hD hS hl
  obtain ⟨hPa, hPb, hDa, hDb, hap⟩ := w_split hP hD
  have hF := va_Afree hDb hS hA
  have pre : PreS s H (PrN l D K [.ref b] wc H.size) [.ref b] := ⟨PrN.blind, fun U hU hW => ⟨rfl, by rw [hU], by rw [hU]; exact hPb, va_K.moved hW.alike hK, hDb.weaken (fun _ _ _ _ => trivial), hN.warm hW, va_AO.moved hW.alike hAO⟩⟩
  have go : va_Run p l e R s m args below meth c H locs cells slots mc ms (F0 m pc ls (.ref b :: st)) st (va_Qv (fun (_ : Nat → Nat) => True) (fun ad t => va_P D vwCl (F ad) t.heap ∧ va_K D vwCl (tyL K) t ∧ va_D (va_A wc H.size) (F ad)) (va_A wc H.size) (Value.ref b :: []).toArray) (va_A wc H.size) := by
    rcases hlk with hlk | hlk
    · exact va_runIN (As := []) (rest := st) ⟨hx, hb, hml, hown, hts⟩ (hM H.size) ⟨va_cnB 0 hts (lw_Gc hcd) rfl rfl rfl (hN _ hlk) (hts _ hini) hy.2 ⟨Nat.le_trans h1 hfr, Nat.le_trans h2 hlo⟩, hy.1, hts _ hinm⟩ pre rfl rfl hl.1 rfl (lv_room hst) hd ⟨hR.1, hR.2⟩
    · exact va_runI (As := []) (rest := st) ⟨hx, hb, hml, hown, hts⟩ (hM H.size) ⟨callB_of 0 hts (lw_Gc hcd) rfl rfl rfl (hts _ hini) (hts _ hlk) hy.2 ⟨Nat.le_trans h1 hfr, Nat.le_trans h2 hlo⟩, hy.1, hts _ hinm⟩ pre rfl rfl hl.1 rfl (lv_room hst) hd ⟨hR.1, hR.2⟩
  refine va_callv go hS (fun q _ h => hF q h) hF (fun ad t H1 locs1 ht hvm hw hB hz1 hk1 hS1 => ?_)
  obtain ⟨hP1, hK1, hD1⟩ := hB
  rw [ht] at hP1
  obtain ⟨g1, g2⟩ := w_rest (A0 := A) hPa hap hk1 hD1
  exact k ad H1 locs1 ls (g1.app hP1) (va_D.app hDa (hD1.weaken (fun _ q _ h => hF q.1 h)) g2) hS1 hl
