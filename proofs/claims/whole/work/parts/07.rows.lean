/-! ===== the judgement over pure states ===== -/
def irm (x y : Int32) : Int32 := x - x / y * y
def isl (x y : Int32) : Int32 := x <<< (y &&& 31)
def isr (x y : Int32) : Int32 := x >>> (y &&& 31)
def iur (x y : Int32) : Int32 := (x.toUInt32 >>> (y.toUInt32 &&& Int32.toUInt32 31)).toInt32
def lsl (x : Int64) (y : Int32) : Int64 := x <<< (y.toInt64 &&& 63)
def lsr (x : Int64) (y : Int32) : Int64 := x >>> (y.toInt64 &&& 63)
def ix (i : Int32) : Nat := i.toNatClampNeg
abbrev Cx := (Program × Launch × Env × Room × State × MethodId) × (Array Value × List Frame × Method × Code) × (Nat × Nat × Nat × (Nat → Prop) × va_G × (State → Prop))
abbrev Kt := ClassId × ClassId × ClassId × ClassId
abbrev tyL (K : Kt) : List (ClassId × FieldType) := [(K.1, .int), (K.2.1, .long), (K.2.2.1, .byte), (K.2.2.2, .object "GraveNews$Sheet")]
def lw_nest : List (String × Nat × MethodName) := [(RX6, 9, yX3_init), (RX3, 11, yX1_init), (RX3, 20, yX2_init), (RX6, 25, yX5_init), (RX6, 32, yX1_init), (RX6, 39, yX2_init), (RX6, 50, yX4_init), (RX6, 60, yX0_init), (RX2, 31, yX6_has), (RX3, 108, yX6_has), (RX5, 71, yX6_has)]
def lw_N (U : State) : Prop := ∀ q ∈ lw_nest, va_Nw (.methodLinkNest q.1 q.2.1 q.2.2 "GraveNews") U
theorem lw_N.warm {s U : State} (hW : s.WarmedH U.vm) (h : lw_N s) : lw_N U := fun q hq => va_Nw.warmM hW (h q hq)
theorem lw_N.call {U : State} {g : JFrame} {mk : MethodId} {a : Array Value} (h : lw_N U) : lw_N (U.calling g mk a) := fun q hq => va_Nw.same rfl rfl (h q hq)
def MW (X : Cx) (w : va_W) (pc : Nat) (loc : List (Option Value)) (st : List Value) : Prop := match X with
  | ((p, l, e, R, s, m), (args, below, meth, c), (nL, cells, slots, A, D, Q)) => ∀ (H : Heap) (locs : List Loc) (ls : Array Slot), va_P D vwCl w H → va_D A w → va_S A s.heap H locs → lo_ok ls nL loc → W p l e R s m args below meth c H locs cells slots Q (F0 m pc ls st)
def Bs (X : Cx) (cc : ByteArray) (own : String) (K : Kt) (fr lo : Nat) : Prop := match X with
  | ((p, l, e, R, s, m), (args, below, meth, c), (nL, cells, slots, A, D, Q)) => p.tables.exec = Jvm.exec ∧ c.code = cc ∧ c.maxLocals = nL ∧ s.vm.findClass own = some m.cls ∧ (∀ w ∈ lw_T, w.before args s = true) ∧ va_K D vwCl (tyL K) s ∧ lw_N s ∧ (∀ q, s.heap.size ≤ q → A q) ∧ fr ≤ R.frames ∧ lo ≤ R.locals ∧ cells ≤ R.cells ∧ slots ≤ R.slots
abbrev Cx.l (X : Cx) : Launch := X.1.2.1
abbrev Cx.D (X : Cx) : va_G := X.2.2.2.2.2.2.1
def PrW (l : Launch) (D : va_G) (K : Kt) (av : List Value) (w : va_W) (sz : Nat) : Array Value → State → Prop := va_Pc av (fun U => U.heap.size = sz ∧ va_P D vwCl w U.heap ∧ va_K D vwCl (tyL K) U ∧ va_D (fun _ => True) w ∧ lw_N U)
def PoW (D : va_G) (K : Kt) (w : va_W) (sz : Nat) (w' : va_W) : Unit → State → Prop := fun _ t => va_P D vwCl w' t.heap ∧ va_K D vwCl (tyL K) t ∧ va_D (va_A w sz) w'
def CtI (l : Launch) (y : MethodName) (cc : ByteArray) (nL : Nat) (ret : Option FieldType) (fr lo : Nat) (D : va_G) (K : Kt) (av : List Value) (w : va_W) (r : Int32) (w' : va_W) : Prop := ∀ sz : Nat, Met l y (.code y cc nL ret :: lw_T) { frames := fr, cells := 0, slots := 0, locals := lo } (PrW l D K av w sz) (va_Qi (fun (r' : Int32) (_ : Unit) => r' = r) (PoW D K w sz w') (va_A w sz)) 0 0 (va_A w sz)
def CtL (l : Launch) (y : MethodName) (cc : ByteArray) (nL : Nat) (ret : Option FieldType) (fr lo : Nat) (D : va_G) (K : Kt) (av : List Value) (w : va_W) (r : Int64) (w' : va_W) : Prop := ∀ sz : Nat, Met l y (.code y cc nL ret :: lw_T) { frames := fr, cells := 0, slots := 0, locals := lo } (PrW l D K av w sz) (va_Ql (fun (r' : Int64) (_ : Unit) => r' = r) (PoW D K w sz w') (va_A w sz)) 0 0 (va_A w sz)
def CtV (l : Launch) (y : MethodName) (cc : ByteArray) (nL : Nat) (ret : Option FieldType) (fr lo : Nat) (D : va_G) (K : Kt) (av : List Value) (w : va_W) (w' : va_W) : Prop := ∀ sz : Nat, Met l y (.code y cc nL ret :: lw_T) { frames := fr, cells := 0, slots := 0, locals := lo } (PrW l D K av w sz) (va_Qv (fun (_ : Unit) => True) (PoW D K w sz w') (va_A w sz)) 0 0 (va_A w sz)
theorem va_Afree {A0 : Nat → Prop} {w : va_W} {H0 H : Heap} {locs : List Loc} (hD : va_D A0 w) (hS : va_S A0 H0 H locs) (hA : ∀ q, H0.size ≤ q → A0 q) : ∀ q, va_A w H.size q → A0 q := by
  intro q h
  rcases h with ⟨k, e, h⟩ | h
  · exact hD.2 k (q, e) h
  · exact hA q (Nat.le_trans hS.1 h)
theorem PrW.blind {l : Launch} {D : va_G} {K : Kt} {av : List Value} {w : va_W} {sz : Nat} : FrameBlind (PrW l D K av w sz) := fun a U g mk q => by
  obtain ⟨q0, q1, qP, qK, qD, qN⟩ := q
  exact ⟨q0, q1, qP, va_K.moved (u := U) (U := U.calling g mk a) (Vm.Alike.refl U.vm) qK, qD, qN.call⟩

theorem met_i {l : Launch} {y : MethodName} {cc : ByteArray} {nL : Nat} {ty : FieldType} {fr lo : Nat} {D : va_G} {K : Kt} {av : List Value} {w w' : va_W} {r : Int32} (hy : plainName y.cls = true) (hlen : (lg_sl av).length ≤ nL)
    (body : ∀ X : Cx, X.2.2.1 = nL → Bs X cc y.cls K fr lo → (∀ (pc : Nat) (loc : List (Option Value)), decode cc pc = .ok (.ireturn, 1) → narrow ty (.int r) = .int r → MW X w' pc loc [.int r]) → MW X w 0 (lent av nL) []) : CtI l y cc nL (some ty) fr lo D K av w r w' := by
  intro sz
  refine Met.ofW (cc := cc) (maxL := nL) (ret := some ty) hy rfl ?_
  intro p e s m args below meth c s₁ B hml hv
  obtain ⟨rfl, hsz, hP, hK, hD0, hN⟩ := hv
  have hx := B.exec
  have hb := B.bytes
  have hr := B.returns
  have hts := atoms_spec (ws := .code y cc nL (some ty) :: lw_T) B.pre
  have hown : s.vm.findClass y.cls = some m.cls := findClass_of_methodNamed B.named
  have hlocks := B.notSynchronized
  subst hsz
  have hD := hD0.self (sz := s.heap.size)
  have hS : va_S (va_A w s.heap.size) s.heap s.heap [] := va_S.rf
  have hl := lo_entry av hlen
  rw [lg_entry_eq]
  refine body ((p, l, e, { frames := fr, cells := 0, slots := 0, locals := lo }, s, m), (av.toArray, below, meth, c), (nL, 0, 0, va_A w s.heap.size, D, MQ below (va_Qi (fun (r' : Int32) (_ : Unit) => r' = r) (PoW D K w s.heap.size w') (va_A w s.heap.size)) av.toArray s 0 0 (va_A w s.heap.size))) rfl ⟨hx, hb, hml, hown, fun w hw => hts w (List.mem_cons_of_mem _ hw), hK, hN, fun q h => Or.inr h, Nat.le_refl _, Nat.le_refl _, Nat.le_refl _, Nat.le_refl _⟩ ?_ s.heap [] _ hP hD hS hl
  · intro pc loc hd hn H locs ls hP hD hS hl
    exact W.zret hx hb hr hn (fun t ht hW => ⟨⟨r, (), rfl, rfl, by rw [ht]; exact hP, va_K.moved hW.alike hK, hD⟩, hS.F ht⟩) hS.2.2 hd
theorem met_l {l : Launch} {y : MethodName} {cc : ByteArray} {nL : Nat} {fr lo : Nat} {D : va_G} {K : Kt} {av : List Value} {w w' : va_W} {r : Int64} (hy : plainName y.cls = true) (hlen : (lg_sl av).length ≤ nL)
    (body : ∀ X : Cx, X.2.2.1 = nL → Bs X cc y.cls K fr lo → (∀ (pc : Nat) (loc : List (Option Value)), decode cc pc = .ok (.lreturn, 1) → MW X w' pc loc [.long r]) → MW X w 0 (lent av nL) []) : CtL l y cc nL (some .long) fr lo D K av w r w' := by
  intro sz
  refine Met.ofW (cc := cc) (maxL := nL) (ret := some .long) hy rfl ?_
  intro p e s m args below meth c s₁ B hml hv
  obtain ⟨rfl, hsz, hP, hK, hD0, hN⟩ := hv
  have hx := B.exec
  have hb := B.bytes
  have hr := B.returns
  have hts := atoms_spec (ws := .code y cc nL (some .long) :: lw_T) B.pre
  have hown : s.vm.findClass y.cls = some m.cls := findClass_of_methodNamed B.named
  have hlocks := B.notSynchronized
  subst hsz
  have hD := hD0.self (sz := s.heap.size)
  have hS : va_S (va_A w s.heap.size) s.heap s.heap [] := va_S.rf
  have hl := lo_entry av hlen
  rw [lg_entry_eq]
  refine body ((p, l, e, { frames := fr, cells := 0, slots := 0, locals := lo }, s, m), (av.toArray, below, meth, c), (nL, 0, 0, va_A w s.heap.size, D, MQ below (va_Ql (fun (r' : Int64) (_ : Unit) => r' = r) (PoW D K w s.heap.size w') (va_A w s.heap.size)) av.toArray s 0 0 (va_A w s.heap.size))) rfl ⟨hx, hb, hml, hown, fun w hw => hts w (List.mem_cons_of_mem _ hw), hK, hN, fun q h => Or.inr h, Nat.le_refl _, Nat.le_refl _, Nat.le_refl _, Nat.le_refl _⟩ ?_ s.heap [] _ hP hD hS hl
  · intro pc loc hd H locs ls hP hD hS hl
    exact W.lret hx hb hr (fun t ht hW => ⟨⟨r, (), rfl, rfl, by rw [ht]; exact hP, va_K.moved hW.alike hK, hD⟩, hS.F ht⟩) hS.2.2 hd
theorem met_v {l : Launch} {y : MethodName} {cc : ByteArray} {nL : Nat} {fr lo : Nat} {D : va_G} {K : Kt} {av : List Value} {w w' : va_W}  (hy : plainName y.cls = true) (hlen : (lg_sl av).length ≤ nL)
    (body : ∀ X : Cx, X.2.2.1 = nL → Bs X cc y.cls K fr lo → (∀ (pc : Nat) (loc : List (Option Value)), decode cc pc = .ok (.return_, 1) → MW X w' pc loc []) → MW X w 0 (lent av nL) []) : CtV l y cc nL (none) fr lo D K av w  w' := by
  intro sz
  refine Met.ofW (cc := cc) (maxL := nL) (ret := none) hy rfl ?_
  intro p e s m args below meth c s₁ B hml hv
  obtain ⟨rfl, hsz, hP, hK, hD0, hN⟩ := hv
  have hx := B.exec
  have hb := B.bytes
  have hr := B.returns
  have hts := atoms_spec (ws := .code y cc nL (none) :: lw_T) B.pre
  have hown : s.vm.findClass y.cls = some m.cls := findClass_of_methodNamed B.named
  have hlocks := B.notSynchronized
  subst hsz
  have hD := hD0.self (sz := s.heap.size)
  have hS : va_S (va_A w s.heap.size) s.heap s.heap [] := va_S.rf
  have hl := lo_entry av hlen
  rw [lg_entry_eq]
  refine body ((p, l, e, { frames := fr, cells := 0, slots := 0, locals := lo }, s, m), (av.toArray, below, meth, c), (nL, 0, 0, va_A w s.heap.size, D, MQ below (va_Qv (fun (_ : Unit) => True) (PoW D K w s.heap.size w') (va_A w s.heap.size)) av.toArray s 0 0 (va_A w s.heap.size))) rfl ⟨hx, hb, hml, hown, fun w hw => hts w (List.mem_cons_of_mem _ hw), hK, hN, fun q h => Or.inr h, Nat.le_refl _, Nat.le_refl _, Nat.le_refl _, Nat.le_refl _⟩ ?_ s.heap [] _ hP hD hS hl
  · intro pc loc hd H locs ls hP hD hS hl
    exact W.vret hx hb hr (fun t ht hW => ⟨⟨(), rfl, trivial, by rw [ht]; exact hP, va_K.moved hW.alike hK, hD⟩, hS.F ht⟩) hS.2.2 hd
theorem r_iconst {X : Cx} {cc : ByteArray} {own : String} {K : Kt} {fr lo : Nat} {w : va_W} {pc : Nat} {loc : List (Option Value)} {st : List Value} (B : Bs X cc own K fr lo) {n : Int} {v : Int32} (hd : decode cc pc = .ok (.iconst n, 1)) (hv : Int32.ofInt n = v) (k : MW X w (pc + 1) loc (.int v :: st)) : MW X w pc loc (st) := by
  obtain ⟨⟨p, l, e, R, s, m⟩, ⟨args, below, meth, c⟩, ⟨nL, cells, slots, A, D, Q⟩⟩ := X
  obtain ⟨hx, hb, hml, hown, hts, hK, hN, hA, hfr, hlo, hce, hsl⟩ := B
  intro H locs ls hP hD hS hl
  exact lv_iconst hx hb hd hv (k H locs ls hP hD hS hl)
theorem r_bipush {X : Cx} {cc : ByteArray} {own : String} {K : Kt} {fr lo : Nat} {w : va_W} {pc : Nat} {loc : List (Option Value)} {st : List Value} (B : Bs X cc own K fr lo) {n : Int} {v : Int32} (hd : decode cc pc = .ok (.bipush n, 2)) (hv : (Int8.ofInt n).toInt32 = v) (k : MW X w (pc + 2) loc (.int v :: st)) : MW X w pc loc (st) := by
  obtain ⟨⟨p, l, e, R, s, m⟩, ⟨args, below, meth, c⟩, ⟨nL, cells, slots, A, D, Q⟩⟩ := X
  obtain ⟨hx, hb, hml, hown, hts, hK, hN, hA, hfr, hlo, hce, hsl⟩ := B
  intro H locs ls hP hD hS hl
  exact lv_bipush hx hb hd hv (k H locs ls hP hD hS hl)
theorem r_sipush {X : Cx} {cc : ByteArray} {own : String} {K : Kt} {fr lo : Nat} {w : va_W} {pc : Nat} {loc : List (Option Value)} {st : List Value} (B : Bs X cc own K fr lo) {n : Int} {v : Int32} (hd : decode cc pc = .ok (.sipush n, 3)) (hv : (Int16.ofInt n).toInt32 = v) (k : MW X w (pc + 3) loc (.int v :: st)) : MW X w pc loc (st) := by
  obtain ⟨⟨p, l, e, R, s, m⟩, ⟨args, below, meth, c⟩, ⟨nL, cells, slots, A, D, Q⟩⟩ := X
  obtain ⟨hx, hb, hml, hown, hts, hK, hN, hA, hfr, hlo, hce, hsl⟩ := B
  intro H locs ls hP hD hS hl
  exact lv_sipush hx hb hd hv (k H locs ls hP hD hS hl)
theorem r_lconst {X : Cx} {cc : ByteArray} {own : String} {K : Kt} {fr lo : Nat} {w : va_W} {pc : Nat} {loc : List (Option Value)} {st : List Value} (B : Bs X cc own K fr lo) {n : Fin 2} {v : Int64} (hd : decode cc pc = .ok (.lconst n, 1)) (hv : Int64.ofNat (n : Nat) = v) (k : MW X w (pc + 1) loc (.long v :: st)) : MW X w pc loc (st) := by
  obtain ⟨⟨p, l, e, R, s, m⟩, ⟨args, below, meth, c⟩, ⟨nL, cells, slots, A, D, Q⟩⟩ := X
  obtain ⟨hx, hb, hml, hown, hts, hK, hN, hA, hfr, hlo, hce, hsl⟩ := B
  intro H locs ls hP hD hS hl
  exact lv_lconst hx hb hd hv (k H locs ls hP hD hS hl)
theorem r_ldc {X : Cx} {cc : ByteArray} {own : String} {K : Kt} {fr lo : Nat} {w : va_W} {pc : Nat} {loc : List (Option Value)} {st : List Value} (B : Bs X cc own K fr lo) {i : Nat} {v : Int32} (hc : Cond.constant own i v ∈ lw_T) (hd : decode cc pc = .ok (.ldc i, 2)) (k : MW X w (pc + 2) loc (.int v :: st)) : MW X w pc loc st := by
  obtain ⟨⟨p, l, e, R, s, m⟩, ⟨args, below, meth, c⟩, ⟨nL, cells, slots, A, D, Q⟩⟩ := X
  obtain ⟨hx, hb, hml, hown, hts, hK, hN, hA, hfr, hlo, hce, hsl⟩ := B
  intro H locs ls hP hD hS hl
  exact lv_ldc hx hb hown (hts _ hc) hd (k H locs ls hP hD hS hl)
theorem r_ldcw {X : Cx} {cc : ByteArray} {own : String} {K : Kt} {fr lo : Nat} {w : va_W} {pc : Nat} {loc : List (Option Value)} {st : List Value} (B : Bs X cc own K fr lo) {i : Nat} {v : Int32} (hc : Cond.constant own i v ∈ lw_T) (hd : decode cc pc = .ok (.ldc_w i, 3)) (k : MW X w (pc + 3) loc (.int v :: st)) : MW X w pc loc st := by
  obtain ⟨⟨p, l, e, R, s, m⟩, ⟨args, below, meth, c⟩, ⟨nL, cells, slots, A, D, Q⟩⟩ := X
  obtain ⟨hx, hb, hml, hown, hts, hK, hN, hA, hfr, hlo, hce, hsl⟩ := B
  intro H locs ls hP hD hS hl
  exact lv_ldcw hx hb hown (hts _ hc) hd (k H locs ls hP hD hS hl)
theorem r_ldc2 {X : Cx} {cc : ByteArray} {own : String} {K : Kt} {fr lo : Nat} {w : va_W} {pc : Nat} {loc : List (Option Value)} {st : List Value} (B : Bs X cc own K fr lo) {i : Nat} {v : Int64} (hc : Cond.constantLong own i v ∈ lw_T) (hd : decode cc pc = .ok (.ldc2_w i, 3)) (k : MW X w (pc + 3) loc (.long v :: st)) : MW X w pc loc st := by
  obtain ⟨⟨p, l, e, R, s, m⟩, ⟨args, below, meth, c⟩, ⟨nL, cells, slots, A, D, Q⟩⟩ := X
  obtain ⟨hx, hb, hml, hown, hts, hK, hN, hA, hfr, hlo, hce, hsl⟩ := B
  intro H locs ls hP hD hS hl
  exact lv_ldc2 hx hb hown (hts _ hc) hd (k H locs ls hP hD hS hl)
theorem r_iload_n {X : Cx} {cc : ByteArray} {own : String} {K : Kt} {fr lo : Nat} {w : va_W} {pc : Nat} {loc : List (Option Value)} {st : List Value} (B : Bs X cc own K fr lo) {j : Fin 4} {i : Nat} {x : Int32} (hd : decode cc pc = .ok (.iload_n j, 1)) (hi : (j : Nat) = i) (hg : lget loc i = some (.int x)) (k : MW X w (pc + 1) loc (.int x :: st)) : MW X w pc loc st := by
  obtain ⟨⟨p, l, e, R, s, m⟩, ⟨args, below, meth, c⟩, ⟨nL, cells, slots, A, D, Q⟩⟩ := X
  obtain ⟨hx, hb, hml, hown, hts, hK, hN, hA, hfr, hlo, hce, hsl⟩ := B
  intro H locs ls hP hD hS hl
  exact lv_iload_n hx hb hd hi (hl.2.2 _ _ hg) (k H locs ls hP hD hS hl)
theorem r_iload {X : Cx} {cc : ByteArray} {own : String} {K : Kt} {fr lo : Nat} {w : va_W} {pc : Nat} {loc : List (Option Value)} {st : List Value} (B : Bs X cc own K fr lo) {i : Nat} {x : Int32} (hd : decode cc pc = .ok (.iload i, 2)) (hg : lget loc i = some (.int x)) (k : MW X w (pc + 2) loc (.int x :: st)) : MW X w pc loc st := by
  obtain ⟨⟨p, l, e, R, s, m⟩, ⟨args, below, meth, c⟩, ⟨nL, cells, slots, A, D, Q⟩⟩ := X
  obtain ⟨hx, hb, hml, hown, hts, hK, hN, hA, hfr, hlo, hce, hsl⟩ := B
  intro H locs ls hP hD hS hl
  exact lv_iload hx hb hd (hl.2.2 _ _ hg) (k H locs ls hP hD hS hl)
theorem r_lload_n {X : Cx} {cc : ByteArray} {own : String} {K : Kt} {fr lo : Nat} {w : va_W} {pc : Nat} {loc : List (Option Value)} {st : List Value} (B : Bs X cc own K fr lo) {j : Fin 4} {i : Nat} {x : Int64} (hd : decode cc pc = .ok (.lload_n j, 1)) (hi : (j : Nat) = i) (hg : lget loc i = some (.long x)) (k : MW X w (pc + 1) loc (.long x :: st)) : MW X w pc loc st := by
  obtain ⟨⟨p, l, e, R, s, m⟩, ⟨args, below, meth, c⟩, ⟨nL, cells, slots, A, D, Q⟩⟩ := X
  obtain ⟨hx, hb, hml, hown, hts, hK, hN, hA, hfr, hlo, hce, hsl⟩ := B
  intro H locs ls hP hD hS hl
  exact lv_lload_n hx hb hd hi (hl.2.2 _ _ hg) (k H locs ls hP hD hS hl)
theorem r_lload {X : Cx} {cc : ByteArray} {own : String} {K : Kt} {fr lo : Nat} {w : va_W} {pc : Nat} {loc : List (Option Value)} {st : List Value} (B : Bs X cc own K fr lo) {i : Nat} {x : Int64} (hd : decode cc pc = .ok (.lload i, 2)) (hg : lget loc i = some (.long x)) (k : MW X w (pc + 2) loc (.long x :: st)) : MW X w pc loc st := by
  obtain ⟨⟨p, l, e, R, s, m⟩, ⟨args, below, meth, c⟩, ⟨nL, cells, slots, A, D, Q⟩⟩ := X
  obtain ⟨hx, hb, hml, hown, hts, hK, hN, hA, hfr, hlo, hce, hsl⟩ := B
  intro H locs ls hP hD hS hl
  exact lv_lload hx hb hd (hl.2.2 _ _ hg) (k H locs ls hP hD hS hl)
theorem r_aload_n {X : Cx} {cc : ByteArray} {own : String} {K : Kt} {fr lo : Nat} {w : va_W} {pc : Nat} {loc : List (Option Value)} {st : List Value} (B : Bs X cc own K fr lo) {j : Fin 4} {i : Nat} {x : Nat} (hd : decode cc pc = .ok (.aload_n j, 1)) (hi : (j : Nat) = i) (hg : lget loc i = some (.ref x)) (k : MW X w (pc + 1) loc (.ref x :: st)) : MW X w pc loc st := by
  obtain ⟨⟨p, l, e, R, s, m⟩, ⟨args, below, meth, c⟩, ⟨nL, cells, slots, A, D, Q⟩⟩ := X
  obtain ⟨hx, hb, hml, hown, hts, hK, hN, hA, hfr, hlo, hce, hsl⟩ := B
  intro H locs ls hP hD hS hl
  exact lv_aload_n hx hb hd hi (hl.2.2 _ _ hg) (k H locs ls hP hD hS hl)
theorem r_aload {X : Cx} {cc : ByteArray} {own : String} {K : Kt} {fr lo : Nat} {w : va_W} {pc : Nat} {loc : List (Option Value)} {st : List Value} (B : Bs X cc own K fr lo) {i : Nat} {x : Nat} (hd : decode cc pc = .ok (.aload i, 2)) (hg : lget loc i = some (.ref x)) (k : MW X w (pc + 2) loc (.ref x :: st)) : MW X w pc loc st := by
  obtain ⟨⟨p, l, e, R, s, m⟩, ⟨args, below, meth, c⟩, ⟨nL, cells, slots, A, D, Q⟩⟩ := X
  obtain ⟨hx, hb, hml, hown, hts, hK, hN, hA, hfr, hlo, hce, hsl⟩ := B
  intro H locs ls hP hD hS hl
  exact lv_aload hx hb hd (hl.2.2 _ _ hg) (k H locs ls hP hD hS hl)
theorem r_istore_n {X : Cx} {cc : ByteArray} {own : String} {K : Kt} {fr lo : Nat} {w : va_W} {pc : Nat} {loc : List (Option Value)} {st : List Value} (B : Bs X cc own K fr lo) {j : Fin 4} {i n0 : Nat} {x : Int32} (hN0 : X.2.2.1 = n0) (hd : decode cc pc = .ok (.istore_n j, 1)) (hi : (j : Nat) = i) (hn : i < n0) (k : MW X w (pc + 1) (lset loc i (.int x)) st) : MW X w pc loc (.int x :: st) := by
  obtain ⟨⟨p, l, e, R, s, m⟩, ⟨args, below, meth, c⟩, ⟨nL, cells, slots, A, D, Q⟩⟩ := X
  obtain ⟨hx, hb, hml, hown, hts, hK, hN, hA, hfr, hlo, hce, hsl⟩ := B
  intro H locs ls hP hD hS hl
  subst hi
  have hN0 : nL = n0 := hN0
  rw [← hN0] at hn
  obtain ⟨ls', e', h'⟩ := lo_st1 (v := .int x) hl hn rfl
  intro T hT XX
  obtain ⟨t, a, b⟩ := k H locs ls' hP hD hS h' T hT XX
  refine ⟨t, ?_, b⟩
  jvm_step XX.here [XX.here.top, ↓top_set XX.here.top, hx, hb, hd, e']
  exact a
theorem r_istore {X : Cx} {cc : ByteArray} {own : String} {K : Kt} {fr lo : Nat} {w : va_W} {pc : Nat} {loc : List (Option Value)} {st : List Value} (B : Bs X cc own K fr lo) {i n0 : Nat} {x : Int32} (hN0 : X.2.2.1 = n0) (hd : decode cc pc = .ok (.istore i, 2)) (hn : i < n0) (k : MW X w (pc + 2) (lset loc i (.int x)) st) : MW X w pc loc (.int x :: st) := by
  obtain ⟨⟨p, l, e, R, s, m⟩, ⟨args, below, meth, c⟩, ⟨nL, cells, slots, A, D, Q⟩⟩ := X
  obtain ⟨hx, hb, hml, hown, hts, hK, hN, hA, hfr, hlo, hce, hsl⟩ := B
  intro H locs ls hP hD hS hl
  have hN0 : nL = n0 := hN0
  rw [← hN0] at hn
  obtain ⟨ls', e', h'⟩ := lo_st1 (v := .int x) hl hn rfl
  intro T hT XX
  obtain ⟨t, a, b⟩ := k H locs ls' hP hD hS h' T hT XX
  refine ⟨t, ?_, b⟩
  jvm_step XX.here [XX.here.top, ↓top_set XX.here.top, hx, hb, hd, e']
  exact a
theorem r_lstore_n {X : Cx} {cc : ByteArray} {own : String} {K : Kt} {fr lo : Nat} {w : va_W} {pc : Nat} {loc : List (Option Value)} {st : List Value} (B : Bs X cc own K fr lo) {j : Fin 4} {i n0 : Nat} {x : Int64} (hN0 : X.2.2.1 = n0) (hd : decode cc pc = .ok (.lstore_n j, 1)) (hi : (j : Nat) = i) (hn : i + 1 < n0) (k : MW X w (pc + 1) (lset2 loc i (.long x)) st) : MW X w pc loc (.long x :: st) := by
  obtain ⟨⟨p, l, e, R, s, m⟩, ⟨args, below, meth, c⟩, ⟨nL, cells, slots, A, D, Q⟩⟩ := X
  obtain ⟨hx, hb, hml, hown, hts, hK, hN, hA, hfr, hlo, hce, hsl⟩ := B
  intro H locs ls hP hD hS hl
  subst hi
  have hN0 : nL = n0 := hN0
  rw [← hN0] at hn
  obtain ⟨ls', e', h'⟩ := lo_st2 (v := .long x) hl hn rfl
  intro T hT XX
  obtain ⟨t, a, b⟩ := k H locs ls' hP hD hS h' T hT XX
  refine ⟨t, ?_, b⟩
  jvm_step XX.here [XX.here.top, ↓top_set XX.here.top, hx, hb, hd, e']
  exact a
theorem r_lstore {X : Cx} {cc : ByteArray} {own : String} {K : Kt} {fr lo : Nat} {w : va_W} {pc : Nat} {loc : List (Option Value)} {st : List Value} (B : Bs X cc own K fr lo) {i n0 : Nat} {x : Int64} (hN0 : X.2.2.1 = n0) (hd : decode cc pc = .ok (.lstore i, 2)) (hn : i + 1 < n0) (k : MW X w (pc + 2) (lset2 loc i (.long x)) st) : MW X w pc loc (.long x :: st) := by
  obtain ⟨⟨p, l, e, R, s, m⟩, ⟨args, below, meth, c⟩, ⟨nL, cells, slots, A, D, Q⟩⟩ := X
  obtain ⟨hx, hb, hml, hown, hts, hK, hN, hA, hfr, hlo, hce, hsl⟩ := B
  intro H locs ls hP hD hS hl
  have hN0 : nL = n0 := hN0
  rw [← hN0] at hn
  obtain ⟨ls', e', h'⟩ := lo_st2 (v := .long x) hl hn rfl
  intro T hT XX
  obtain ⟨t, a, b⟩ := k H locs ls' hP hD hS h' T hT XX
  refine ⟨t, ?_, b⟩
  jvm_step XX.here [XX.here.top, ↓top_set XX.here.top, hx, hb, hd, e']
  exact a
theorem r_astore_n {X : Cx} {cc : ByteArray} {own : String} {K : Kt} {fr lo : Nat} {w : va_W} {pc : Nat} {loc : List (Option Value)} {st : List Value} (B : Bs X cc own K fr lo) {j : Fin 4} {i n0 : Nat} {x : Nat} (hN0 : X.2.2.1 = n0) (hd : decode cc pc = .ok (.astore_n j, 1)) (hi : (j : Nat) = i) (hn : i < n0) (k : MW X w (pc + 1) (lset loc i (.ref x)) st) : MW X w pc loc (.ref x :: st) := by
  obtain ⟨⟨p, l, e, R, s, m⟩, ⟨args, below, meth, c⟩, ⟨nL, cells, slots, A, D, Q⟩⟩ := X
  obtain ⟨hx, hb, hml, hown, hts, hK, hN, hA, hfr, hlo, hce, hsl⟩ := B
  intro H locs ls hP hD hS hl
  subst hi
  have hN0 : nL = n0 := hN0
  rw [← hN0] at hn
  obtain ⟨ls', e', h'⟩ := lo_st1 (v := .ref x) hl hn rfl
  intro T hT XX
  obtain ⟨t, a, b⟩ := k H locs ls' hP hD hS h' T hT XX
  refine ⟨t, ?_, b⟩
  jvm_step XX.here [XX.here.top, ↓top_set XX.here.top, hx, hb, hd, e', Value.isRef]
  exact a
theorem r_astore {X : Cx} {cc : ByteArray} {own : String} {K : Kt} {fr lo : Nat} {w : va_W} {pc : Nat} {loc : List (Option Value)} {st : List Value} (B : Bs X cc own K fr lo) {i n0 : Nat} {x : Nat} (hN0 : X.2.2.1 = n0) (hd : decode cc pc = .ok (.astore i, 2)) (hn : i < n0) (k : MW X w (pc + 2) (lset loc i (.ref x)) st) : MW X w pc loc (.ref x :: st) := by
  obtain ⟨⟨p, l, e, R, s, m⟩, ⟨args, below, meth, c⟩, ⟨nL, cells, slots, A, D, Q⟩⟩ := X
  obtain ⟨hx, hb, hml, hown, hts, hK, hN, hA, hfr, hlo, hce, hsl⟩ := B
  intro H locs ls hP hD hS hl
  have hN0 : nL = n0 := hN0
  rw [← hN0] at hn
  obtain ⟨ls', e', h'⟩ := lo_st1 (v := .ref x) hl hn rfl
  intro T hT XX
  obtain ⟨t, a, b⟩ := k H locs ls' hP hD hS h' T hT XX
  refine ⟨t, ?_, b⟩
  jvm_step XX.here [XX.here.top, ↓top_set XX.here.top, hx, hb, hd, e', Value.isRef]
  exact a
theorem r_iinc {X : Cx} {cc : ByteArray} {own : String} {K : Kt} {fr lo : Nat} {w : va_W} {pc : Nat} {loc : List (Option Value)} {st : List Value} (B : Bs X cc own K fr lo) {i n0 : Nat} {n : Int} {x v : Int32} (hN0 : X.2.2.1 = n0) (hd : decode cc pc = .ok (.iinc i n, 3)) (hg : lget loc i = some (.int x)) (hv : x + Int32.ofInt n = v) (hn : i < n0) (k : MW X w (pc + 3) (lset loc i (.int v)) st) : MW X w pc loc st := by
  obtain ⟨⟨p, l, e, R, s, m⟩, ⟨args, below, meth, c⟩, ⟨nL, cells, slots, A, D, Q⟩⟩ := X
  obtain ⟨hx, hb, hml, hown, hts, hK, hN, hA, hfr, hlo, hce, hsl⟩ := B
  intro H locs ls hP hD hS hl
  have hN0 : nL = n0 := hN0
  rw [← hN0] at hn
  obtain ⟨ls', e', h'⟩ := lo_st1 (v := .int v) hl hn rfl
  have hli := hl.2.2 _ _ hg
  intro T hT XX
  obtain ⟨t, a, b⟩ := k H locs ls' hP hD hS h' T hT XX
  refine ⟨t, ?_, b⟩
  rw [← hv] at e'
  jvm_step XX.here [XX.here.top, ↓top_set XX.here.top, hx, hb, hd, hli, e']
  exact a
theorem r_iadd {X : Cx} {cc : ByteArray} {own : String} {K : Kt} {fr lo : Nat} {w : va_W} {pc : Nat} {loc : List (Option Value)} {st : List Value} (B : Bs X cc own K fr lo) {x y : Int32} (hd : decode cc pc = .ok (.iadd, 1))  (k : MW X w (pc + 1) loc (.int (x + y) :: st)) : MW X w pc loc (.int y :: .int x :: st) := by
  obtain ⟨⟨p, l, e, R, s, m⟩, ⟨args, below, meth, c⟩, ⟨nL, cells, slots, A, D, Q⟩⟩ := X
  obtain ⟨hx, hb, hml, hown, hts, hK, hN, hA, hfr, hlo, hce, hsl⟩ := B
  intro H locs ls hP hD hS hl
  exact lv_iadd hx hb hd (k H locs ls hP hD hS hl)
theorem r_isub {X : Cx} {cc : ByteArray} {own : String} {K : Kt} {fr lo : Nat} {w : va_W} {pc : Nat} {loc : List (Option Value)} {st : List Value} (B : Bs X cc own K fr lo) {x y : Int32} (hd : decode cc pc = .ok (.isub, 1))  (k : MW X w (pc + 1) loc (.int (x - y) :: st)) : MW X w pc loc (.int y :: .int x :: st) := by
  obtain ⟨⟨p, l, e, R, s, m⟩, ⟨args, below, meth, c⟩, ⟨nL, cells, slots, A, D, Q⟩⟩ := X
  obtain ⟨hx, hb, hml, hown, hts, hK, hN, hA, hfr, hlo, hce, hsl⟩ := B
  intro H locs ls hP hD hS hl
  exact lv_isub hx hb hd (k H locs ls hP hD hS hl)
theorem r_imul {X : Cx} {cc : ByteArray} {own : String} {K : Kt} {fr lo : Nat} {w : va_W} {pc : Nat} {loc : List (Option Value)} {st : List Value} (B : Bs X cc own K fr lo) {x y : Int32} (hd : decode cc pc = .ok (.imul, 1))  (k : MW X w (pc + 1) loc (.int (x * y) :: st)) : MW X w pc loc (.int y :: .int x :: st) := by
  obtain ⟨⟨p, l, e, R, s, m⟩, ⟨args, below, meth, c⟩, ⟨nL, cells, slots, A, D, Q⟩⟩ := X
  obtain ⟨hx, hb, hml, hown, hts, hK, hN, hA, hfr, hlo, hce, hsl⟩ := B
  intro H locs ls hP hD hS hl
  exact lv_imul hx hb hd (k H locs ls hP hD hS hl)
theorem r_iand {X : Cx} {cc : ByteArray} {own : String} {K : Kt} {fr lo : Nat} {w : va_W} {pc : Nat} {loc : List (Option Value)} {st : List Value} (B : Bs X cc own K fr lo) {x y : Int32} (hd : decode cc pc = .ok (.iand, 1))  (k : MW X w (pc + 1) loc (.int (x &&& y) :: st)) : MW X w pc loc (.int y :: .int x :: st) := by
  obtain ⟨⟨p, l, e, R, s, m⟩, ⟨args, below, meth, c⟩, ⟨nL, cells, slots, A, D, Q⟩⟩ := X
  obtain ⟨hx, hb, hml, hown, hts, hK, hN, hA, hfr, hlo, hce, hsl⟩ := B
  intro H locs ls hP hD hS hl
  exact lv_iand hx hb hd (k H locs ls hP hD hS hl)
theorem r_ior {X : Cx} {cc : ByteArray} {own : String} {K : Kt} {fr lo : Nat} {w : va_W} {pc : Nat} {loc : List (Option Value)} {st : List Value} (B : Bs X cc own K fr lo) {x y : Int32} (hd : decode cc pc = .ok (.ior, 1))  (k : MW X w (pc + 1) loc (.int (x ||| y) :: st)) : MW X w pc loc (.int y :: .int x :: st) := by
  obtain ⟨⟨p, l, e, R, s, m⟩, ⟨args, below, meth, c⟩, ⟨nL, cells, slots, A, D, Q⟩⟩ := X
  obtain ⟨hx, hb, hml, hown, hts, hK, hN, hA, hfr, hlo, hce, hsl⟩ := B
  intro H locs ls hP hD hS hl
  exact lv_ior hx hb hd (k H locs ls hP hD hS hl)
theorem r_ixor {X : Cx} {cc : ByteArray} {own : String} {K : Kt} {fr lo : Nat} {w : va_W} {pc : Nat} {loc : List (Option Value)} {st : List Value} (B : Bs X cc own K fr lo) {x y : Int32} (hd : decode cc pc = .ok (.ixor, 1))  (k : MW X w (pc + 1) loc (.int (x ^^^ y) :: st)) : MW X w pc loc (.int y :: .int x :: st) := by
  obtain ⟨⟨p, l, e, R, s, m⟩, ⟨args, below, meth, c⟩, ⟨nL, cells, slots, A, D, Q⟩⟩ := X
  obtain ⟨hx, hb, hml, hown, hts, hK, hN, hA, hfr, hlo, hce, hsl⟩ := B
  intro H locs ls hP hD hS hl
  exact lv_ixor hx hb hd (k H locs ls hP hD hS hl)
theorem r_ishl {X : Cx} {cc : ByteArray} {own : String} {K : Kt} {fr lo : Nat} {w : va_W} {pc : Nat} {loc : List (Option Value)} {st : List Value} (B : Bs X cc own K fr lo) {x y : Int32} (hd : decode cc pc = .ok (.ishl, 1))  (k : MW X w (pc + 1) loc (.int (isl x y) :: st)) : MW X w pc loc (.int y :: .int x :: st) := by
  obtain ⟨⟨p, l, e, R, s, m⟩, ⟨args, below, meth, c⟩, ⟨nL, cells, slots, A, D, Q⟩⟩ := X
  obtain ⟨hx, hb, hml, hown, hts, hK, hN, hA, hfr, hlo, hce, hsl⟩ := B
  intro H locs ls hP hD hS hl
  exact lv_ishl hx hb hd (k H locs ls hP hD hS hl)
theorem r_ishr {X : Cx} {cc : ByteArray} {own : String} {K : Kt} {fr lo : Nat} {w : va_W} {pc : Nat} {loc : List (Option Value)} {st : List Value} (B : Bs X cc own K fr lo) {x y : Int32} (hd : decode cc pc = .ok (.ishr, 1))  (k : MW X w (pc + 1) loc (.int (isr x y) :: st)) : MW X w pc loc (.int y :: .int x :: st) := by
  obtain ⟨⟨p, l, e, R, s, m⟩, ⟨args, below, meth, c⟩, ⟨nL, cells, slots, A, D, Q⟩⟩ := X
  obtain ⟨hx, hb, hml, hown, hts, hK, hN, hA, hfr, hlo, hce, hsl⟩ := B
  intro H locs ls hP hD hS hl
  exact lv_ishr hx hb hd (k H locs ls hP hD hS hl)
theorem r_ladd {X : Cx} {cc : ByteArray} {own : String} {K : Kt} {fr lo : Nat} {w : va_W} {pc : Nat} {loc : List (Option Value)} {st : List Value} (B : Bs X cc own K fr lo) {x y : Int64} (hd : decode cc pc = .ok (.ladd, 1))  (k : MW X w (pc + 1) loc (.long (x + y) :: st)) : MW X w pc loc (.long y :: .long x :: st) := by
  obtain ⟨⟨p, l, e, R, s, m⟩, ⟨args, below, meth, c⟩, ⟨nL, cells, slots, A, D, Q⟩⟩ := X
  obtain ⟨hx, hb, hml, hown, hts, hK, hN, hA, hfr, hlo, hce, hsl⟩ := B
  intro H locs ls hP hD hS hl
  exact lv_ladd hx hb hd (k H locs ls hP hD hS hl)
theorem r_lsub {X : Cx} {cc : ByteArray} {own : String} {K : Kt} {fr lo : Nat} {w : va_W} {pc : Nat} {loc : List (Option Value)} {st : List Value} (B : Bs X cc own K fr lo) {x y : Int64} (hd : decode cc pc = .ok (.lsub, 1))  (k : MW X w (pc + 1) loc (.long (x - y) :: st)) : MW X w pc loc (.long y :: .long x :: st) := by
  obtain ⟨⟨p, l, e, R, s, m⟩, ⟨args, below, meth, c⟩, ⟨nL, cells, slots, A, D, Q⟩⟩ := X
  obtain ⟨hx, hb, hml, hown, hts, hK, hN, hA, hfr, hlo, hce, hsl⟩ := B
  intro H locs ls hP hD hS hl
  exact lv_lsub hx hb hd (k H locs ls hP hD hS hl)
theorem r_lmul {X : Cx} {cc : ByteArray} {own : String} {K : Kt} {fr lo : Nat} {w : va_W} {pc : Nat} {loc : List (Option Value)} {st : List Value} (B : Bs X cc own K fr lo) {x y : Int64} (hd : decode cc pc = .ok (.lmul, 1))  (k : MW X w (pc + 1) loc (.long (x * y) :: st)) : MW X w pc loc (.long y :: .long x :: st) := by
  obtain ⟨⟨p, l, e, R, s, m⟩, ⟨args, below, meth, c⟩, ⟨nL, cells, slots, A, D, Q⟩⟩ := X
  obtain ⟨hx, hb, hml, hown, hts, hK, hN, hA, hfr, hlo, hce, hsl⟩ := B
  intro H locs ls hP hD hS hl
  exact lv_lmul hx hb hd (k H locs ls hP hD hS hl)
theorem r_land {X : Cx} {cc : ByteArray} {own : String} {K : Kt} {fr lo : Nat} {w : va_W} {pc : Nat} {loc : List (Option Value)} {st : List Value} (B : Bs X cc own K fr lo) {x y : Int64} (hd : decode cc pc = .ok (.land, 1))  (k : MW X w (pc + 1) loc (.long (x &&& y) :: st)) : MW X w pc loc (.long y :: .long x :: st) := by
  obtain ⟨⟨p, l, e, R, s, m⟩, ⟨args, below, meth, c⟩, ⟨nL, cells, slots, A, D, Q⟩⟩ := X
  obtain ⟨hx, hb, hml, hown, hts, hK, hN, hA, hfr, hlo, hce, hsl⟩ := B
  intro H locs ls hP hD hS hl
  exact lv_land hx hb hd (k H locs ls hP hD hS hl)
theorem r_lor {X : Cx} {cc : ByteArray} {own : String} {K : Kt} {fr lo : Nat} {w : va_W} {pc : Nat} {loc : List (Option Value)} {st : List Value} (B : Bs X cc own K fr lo) {x y : Int64} (hd : decode cc pc = .ok (.lor, 1))  (k : MW X w (pc + 1) loc (.long (x ||| y) :: st)) : MW X w pc loc (.long y :: .long x :: st) := by
  obtain ⟨⟨p, l, e, R, s, m⟩, ⟨args, below, meth, c⟩, ⟨nL, cells, slots, A, D, Q⟩⟩ := X
  obtain ⟨hx, hb, hml, hown, hts, hK, hN, hA, hfr, hlo, hce, hsl⟩ := B
  intro H locs ls hP hD hS hl
  exact lv_lor hx hb hd (k H locs ls hP hD hS hl)
theorem r_idiv {X : Cx} {cc : ByteArray} {own : String} {K : Kt} {fr lo : Nat} {w : va_W} {pc : Nat} {loc : List (Option Value)} {st : List Value} (B : Bs X cc own K fr lo) {x y : Int32} (hd : decode cc pc = .ok (.idiv, 1)) (hne : ¬ y = 0) (k : MW X w (pc + 1) loc (.int (x / y) :: st)) : MW X w pc loc (.int y :: .int x :: st) := by
  obtain ⟨⟨p, l, e, R, s, m⟩, ⟨args, below, meth, c⟩, ⟨nL, cells, slots, A, D, Q⟩⟩ := X
  obtain ⟨hx, hb, hml, hown, hts, hK, hN, hA, hfr, hlo, hce, hsl⟩ := B
  intro H locs ls hP hD hS hl
  exact lv_idiv hx hb hd hne (k H locs ls hP hD hS hl)
theorem r_irem {X : Cx} {cc : ByteArray} {own : String} {K : Kt} {fr lo : Nat} {w : va_W} {pc : Nat} {loc : List (Option Value)} {st : List Value} (B : Bs X cc own K fr lo) {x y : Int32} (hd : decode cc pc = .ok (.irem, 1)) (hne : ¬ y = 0) (k : MW X w (pc + 1) loc (.int (irm x y) :: st)) : MW X w pc loc (.int y :: .int x :: st) := by
  obtain ⟨⟨p, l, e, R, s, m⟩, ⟨args, below, meth, c⟩, ⟨nL, cells, slots, A, D, Q⟩⟩ := X
  obtain ⟨hx, hb, hml, hown, hts, hK, hN, hA, hfr, hlo, hce, hsl⟩ := B
  intro H locs ls hP hD hS hl
  exact lv_irem hx hb hd hne (k H locs ls hP hD hS hl)
theorem r_ineg {X : Cx} {cc : ByteArray} {own : String} {K : Kt} {fr lo : Nat} {w : va_W} {pc : Nat} {loc : List (Option Value)} {st : List Value} (B : Bs X cc own K fr lo) {x : Int32} (hd : decode cc pc = .ok (.ineg, 1))  (k : MW X w (pc + 1) loc (.int (-x) :: st)) : MW X w pc loc (.int x :: st) := by
  obtain ⟨⟨p, l, e, R, s, m⟩, ⟨args, below, meth, c⟩, ⟨nL, cells, slots, A, D, Q⟩⟩ := X
  obtain ⟨hx, hb, hml, hown, hts, hK, hN, hA, hfr, hlo, hce, hsl⟩ := B
  intro H locs ls hP hD hS hl
  exact lv_ineg hx hb hd (k H locs ls hP hD hS hl)
theorem r_i2l {X : Cx} {cc : ByteArray} {own : String} {K : Kt} {fr lo : Nat} {w : va_W} {pc : Nat} {loc : List (Option Value)} {st : List Value} (B : Bs X cc own K fr lo) {x : Int32} (hd : decode cc pc = .ok (.i2l, 1))  (k : MW X w (pc + 1) loc (.long x.toInt64 :: st)) : MW X w pc loc (.int x :: st) := by
  obtain ⟨⟨p, l, e, R, s, m⟩, ⟨args, below, meth, c⟩, ⟨nL, cells, slots, A, D, Q⟩⟩ := X
  obtain ⟨hx, hb, hml, hown, hts, hK, hN, hA, hfr, hlo, hce, hsl⟩ := B
  intro H locs ls hP hD hS hl
  exact lv_i2l hx hb hd rfl (k H locs ls hP hD hS hl)
theorem r_l2i {X : Cx} {cc : ByteArray} {own : String} {K : Kt} {fr lo : Nat} {w : va_W} {pc : Nat} {loc : List (Option Value)} {st : List Value} (B : Bs X cc own K fr lo) {x : Int64} (hd : decode cc pc = .ok (.l2i, 1))  (k : MW X w (pc + 1) loc (.int x.toInt32 :: st)) : MW X w pc loc (.long x :: st) := by
  obtain ⟨⟨p, l, e, R, s, m⟩, ⟨args, below, meth, c⟩, ⟨nL, cells, slots, A, D, Q⟩⟩ := X
  obtain ⟨hx, hb, hml, hown, hts, hK, hN, hA, hfr, hlo, hce, hsl⟩ := B
  intro H locs ls hP hD hS hl
  exact lv_l2i hx hb hd rfl (k H locs ls hP hD hS hl)
theorem r_i2b {X : Cx} {cc : ByteArray} {own : String} {K : Kt} {fr lo : Nat} {w : va_W} {pc : Nat} {loc : List (Option Value)} {st : List Value} (B : Bs X cc own K fr lo) {x : Int32} (hd : decode cc pc = .ok (.i2b, 1))  (k : MW X w (pc + 1) loc (.int x.toInt8.toInt32 :: st)) : MW X w pc loc (.int x :: st) := by
  obtain ⟨⟨p, l, e, R, s, m⟩, ⟨args, below, meth, c⟩, ⟨nL, cells, slots, A, D, Q⟩⟩ := X
  obtain ⟨hx, hb, hml, hown, hts, hK, hN, hA, hfr, hlo, hce, hsl⟩ := B
  intro H locs ls hP hD hS hl
  exact lv_i2b hx hb hd rfl (k H locs ls hP hD hS hl)
theorem r_i2s {X : Cx} {cc : ByteArray} {own : String} {K : Kt} {fr lo : Nat} {w : va_W} {pc : Nat} {loc : List (Option Value)} {st : List Value} (B : Bs X cc own K fr lo) {x : Int32} (hd : decode cc pc = .ok (.i2s, 1))  (k : MW X w (pc + 1) loc (.int x.toInt16.toInt32 :: st)) : MW X w pc loc (.int x :: st) := by
  obtain ⟨⟨p, l, e, R, s, m⟩, ⟨args, below, meth, c⟩, ⟨nL, cells, slots, A, D, Q⟩⟩ := X
  obtain ⟨hx, hb, hml, hown, hts, hK, hN, hA, hfr, hlo, hce, hsl⟩ := B
  intro H locs ls hP hD hS hl
  exact lv_i2s hx hb hd rfl (k H locs ls hP hD hS hl)
theorem r_iushr {X : Cx} {cc : ByteArray} {own : String} {K : Kt} {fr lo : Nat} {w : va_W} {pc : Nat} {loc : List (Option Value)} {st : List Value} (B : Bs X cc own K fr lo) {x y : Int32} (hd : decode cc pc = .ok (.iushr, 1))  (k : MW X w (pc + 1) loc (.int (iur x y) :: st)) : MW X w pc loc (.int y :: .int x :: st) := by
  obtain ⟨⟨p, l, e, R, s, m⟩, ⟨args, below, meth, c⟩, ⟨nL, cells, slots, A, D, Q⟩⟩ := X
  obtain ⟨hx, hb, hml, hown, hts, hK, hN, hA, hfr, hlo, hce, hsl⟩ := B
  intro H locs ls hP hD hS hl
  exact lv_iushr hx hb hd rfl (k H locs ls hP hD hS hl)
theorem r_lshl {X : Cx} {cc : ByteArray} {own : String} {K : Kt} {fr lo : Nat} {w : va_W} {pc : Nat} {loc : List (Option Value)} {st : List Value} (B : Bs X cc own K fr lo) {x : Int64} {y : Int32} (hd : decode cc pc = .ok (.lshl, 1))  (k : MW X w (pc + 1) loc (.long (lsl x y) :: st)) : MW X w pc loc (.int y :: .long x :: st) := by
  obtain ⟨⟨p, l, e, R, s, m⟩, ⟨args, below, meth, c⟩, ⟨nL, cells, slots, A, D, Q⟩⟩ := X
  obtain ⟨hx, hb, hml, hown, hts, hK, hN, hA, hfr, hlo, hce, hsl⟩ := B
  intro H locs ls hP hD hS hl
  exact lv_lshl hx hb hd rfl (k H locs ls hP hD hS hl)
theorem r_lshr {X : Cx} {cc : ByteArray} {own : String} {K : Kt} {fr lo : Nat} {w : va_W} {pc : Nat} {loc : List (Option Value)} {st : List Value} (B : Bs X cc own K fr lo) {x : Int64} {y : Int32} (hd : decode cc pc = .ok (.lshr, 1))  (k : MW X w (pc + 1) loc (.long (lsr x y) :: st)) : MW X w pc loc (.int y :: .long x :: st) := by
  obtain ⟨⟨p, l, e, R, s, m⟩, ⟨args, below, meth, c⟩, ⟨nL, cells, slots, A, D, Q⟩⟩ := X
  obtain ⟨hx, hb, hml, hown, hts, hK, hN, hA, hfr, hlo, hce, hsl⟩ := B
  intro H locs ls hP hD hS hl
  exact lv_lshr hx hb hd rfl (k H locs ls hP hD hS hl)
theorem r_lcmp {X : Cx} {cc : ByteArray} {own : String} {K : Kt} {fr lo : Nat} {w : va_W} {pc : Nat} {loc : List (Option Value)} {st : List Value} (B : Bs X cc own K fr lo) {x y : Int64} (hd : decode cc pc = .ok (.lcmp, 1))  (k : MW X w (pc + 1) loc (.int (lg_cmp x y) :: st)) : MW X w pc loc (.long y :: .long x :: st) := by
  obtain ⟨⟨p, l, e, R, s, m⟩, ⟨args, below, meth, c⟩, ⟨nL, cells, slots, A, D, Q⟩⟩ := X
  obtain ⟨hx, hb, hml, hown, hts, hK, hN, hA, hfr, hlo, hce, hsl⟩ := B
  intro H locs ls hP hD hS hl
  exact W.lcmp hx hb hd (k H locs ls hP hD hS hl)
theorem r_dup {X : Cx} {cc : ByteArray} {own : String} {K : Kt} {fr lo : Nat} {w : va_W} {pc : Nat} {loc : List (Option Value)} {st : List Value} (B : Bs X cc own K fr lo) {v : Value} (hd : decode cc pc = .ok (.dup, 1)) (hv : v.category = 1) (k : MW X w (pc + 1) loc (v :: v :: st)) : MW X w pc loc (v :: st) := by
  obtain ⟨⟨p, l, e, R, s, m⟩, ⟨args, below, meth, c⟩, ⟨nL, cells, slots, A, D, Q⟩⟩ := X
  obtain ⟨hx, hb, hml, hown, hts, hK, hN, hA, hfr, hlo, hce, hsl⟩ := B
  intro H locs ls hP hD hS hl
  exact lv_dup hx hb hd hv (k H locs ls hP hD hS hl)
theorem r_pop {X : Cx} {cc : ByteArray} {own : String} {K : Kt} {fr lo : Nat} {w : va_W} {pc : Nat} {loc : List (Option Value)} {st : List Value} (B : Bs X cc own K fr lo) {v : Value} (hd : decode cc pc = .ok (.pop, 1)) (hv : v.category = 1) (k : MW X w (pc + 1) loc (st)) : MW X w pc loc (v :: st) := by
  obtain ⟨⟨p, l, e, R, s, m⟩, ⟨args, below, meth, c⟩, ⟨nL, cells, slots, A, D, Q⟩⟩ := X
  obtain ⟨hx, hb, hml, hown, hts, hK, hN, hA, hfr, hlo, hce, hsl⟩ := B
  intro H locs ls hP hD hS hl
  exact lv_pop hx hb hd hv (k H locs ls hP hD hS hl)
theorem r_dup2 {X : Cx} {cc : ByteArray} {own : String} {K : Kt} {fr lo : Nat} {w : va_W} {pc : Nat} {loc : List (Option Value)} {st : List Value} (B : Bs X cc own K fr lo) {v u : Value} (hd : decode cc pc = .ok (.dup2, 1)) (hv : v.category = 1) (hu : u.category = 1) (k : MW X w (pc + 1) loc (v :: u :: v :: u :: st)) : MW X w pc loc (v :: u :: st) := by
  obtain ⟨⟨p, l, e, R, s, m⟩, ⟨args, below, meth, c⟩, ⟨nL, cells, slots, A, D, Q⟩⟩ := X
  obtain ⟨hx, hb, hml, hown, hts, hK, hN, hA, hfr, hlo, hce, hsl⟩ := B
  intro H locs ls hP hD hS hl
  exact lv_dup2_11 hx hb hd hv hu (k H locs ls hP hD hS hl)
theorem r_if_eq {X : Cx} {cc : ByteArray} {own : String} {K : Kt} {fr lo : Nat} {w : va_W} {pc : Nat} {loc : List (Option Value)} {st : List Value} (B : Bs X cc own K fr lo) {x : Int32} {off : Int} {tgt : Nat} {α : Type} {a b z : α} (hd : decode cc pc = .ok (.ifCond .eq off, 3)) (ht : (pc : Int) + off = (tgt : Int)) (hf : (if x = 0 then a else b) = z) (kt : x = 0 → a = z → MW X w tgt loc st) (kf : ¬ x = 0 → b = z → MW X w (pc + 3) loc st) : MW X w pc loc (.int x :: st) := by
  obtain ⟨⟨p, l, e, R, s, m⟩, ⟨args, below, meth, c⟩, ⟨nL, cells, slots, A, D, Q⟩⟩ := X
  obtain ⟨hx, hb, hml, hown, hts, hK, hN, hA, hfr, hlo, hce, hsl⟩ := B
  intro H locs ls hP hD hS hl
  exact lv_if_eq hx hb hd ht (fun q => kt q (it_t hf q) H locs ls hP hD hS hl) (fun q => kf q (it_f hf q) H locs ls hP hD hS hl)
theorem r_icmp_eq {X : Cx} {cc : ByteArray} {own : String} {K : Kt} {fr lo : Nat} {w : va_W} {pc : Nat} {loc : List (Option Value)} {st : List Value} (B : Bs X cc own K fr lo) {x y : Int32} {off : Int} {tgt : Nat} {α : Type} {a b z : α} (hd : decode cc pc = .ok (.if_icmp .eq off, 3)) (ht : (pc : Int) + off = (tgt : Int)) (hf : (if x = y then a else b) = z) (kt : x = y → a = z → MW X w tgt loc st) (kf : ¬ x = y → b = z → MW X w (pc + 3) loc st) : MW X w pc loc (.int y :: .int x :: st) := by
  obtain ⟨⟨p, l, e, R, s, m⟩, ⟨args, below, meth, c⟩, ⟨nL, cells, slots, A, D, Q⟩⟩ := X
  obtain ⟨hx, hb, hml, hown, hts, hK, hN, hA, hfr, hlo, hce, hsl⟩ := B
  intro H locs ls hP hD hS hl
  exact lv_icmp_eq hx hb hd ht (fun q => kt q (it_t hf q) H locs ls hP hD hS hl) (fun q => kf q (it_f hf q) H locs ls hP hD hS hl)
theorem r_if_ne {X : Cx} {cc : ByteArray} {own : String} {K : Kt} {fr lo : Nat} {w : va_W} {pc : Nat} {loc : List (Option Value)} {st : List Value} (B : Bs X cc own K fr lo) {x : Int32} {off : Int} {tgt : Nat} {α : Type} {a b z : α} (hd : decode cc pc = .ok (.ifCond .ne off, 3)) (ht : (pc : Int) + off = (tgt : Int)) (hf : (if x = 0 then a else b) = z) (kt : ¬ x = 0 → b = z → MW X w tgt loc st) (kf : x = 0 → a = z → MW X w (pc + 3) loc st) : MW X w pc loc (.int x :: st) := by
  obtain ⟨⟨p, l, e, R, s, m⟩, ⟨args, below, meth, c⟩, ⟨nL, cells, slots, A, D, Q⟩⟩ := X
  obtain ⟨hx, hb, hml, hown, hts, hK, hN, hA, hfr, hlo, hce, hsl⟩ := B
  intro H locs ls hP hD hS hl
  exact lv_if_ne hx hb hd ht (fun q => kt q (it_f hf q) H locs ls hP hD hS hl) (fun q => kf q (it_t hf q) H locs ls hP hD hS hl)
theorem r_icmp_ne {X : Cx} {cc : ByteArray} {own : String} {K : Kt} {fr lo : Nat} {w : va_W} {pc : Nat} {loc : List (Option Value)} {st : List Value} (B : Bs X cc own K fr lo) {x y : Int32} {off : Int} {tgt : Nat} {α : Type} {a b z : α} (hd : decode cc pc = .ok (.if_icmp .ne off, 3)) (ht : (pc : Int) + off = (tgt : Int)) (hf : (if x = y then a else b) = z) (kt : ¬ x = y → b = z → MW X w tgt loc st) (kf : x = y → a = z → MW X w (pc + 3) loc st) : MW X w pc loc (.int y :: .int x :: st) := by
  obtain ⟨⟨p, l, e, R, s, m⟩, ⟨args, below, meth, c⟩, ⟨nL, cells, slots, A, D, Q⟩⟩ := X
  obtain ⟨hx, hb, hml, hown, hts, hK, hN, hA, hfr, hlo, hce, hsl⟩ := B
  intro H locs ls hP hD hS hl
  exact lv_icmp_ne hx hb hd ht (fun q => kt q (it_f hf q) H locs ls hP hD hS hl) (fun q => kf q (it_t hf q) H locs ls hP hD hS hl)
theorem r_if_lt {X : Cx} {cc : ByteArray} {own : String} {K : Kt} {fr lo : Nat} {w : va_W} {pc : Nat} {loc : List (Option Value)} {st : List Value} (B : Bs X cc own K fr lo) {x : Int32} {off : Int} {tgt : Nat} {α : Type} {a b z : α} (hd : decode cc pc = .ok (.ifCond .lt off, 3)) (ht : (pc : Int) + off = (tgt : Int)) (hf : (if x < 0 then a else b) = z) (kt : x < 0 → a = z → MW X w tgt loc st) (kf : ¬ x < 0 → b = z → MW X w (pc + 3) loc st) : MW X w pc loc (.int x :: st) := by
  obtain ⟨⟨p, l, e, R, s, m⟩, ⟨args, below, meth, c⟩, ⟨nL, cells, slots, A, D, Q⟩⟩ := X
  obtain ⟨hx, hb, hml, hown, hts, hK, hN, hA, hfr, hlo, hce, hsl⟩ := B
  intro H locs ls hP hD hS hl
  exact lv_if_lt hx hb hd ht (fun q => kt q (it_t hf q) H locs ls hP hD hS hl) (fun q => kf q (it_f hf q) H locs ls hP hD hS hl)
theorem r_icmp_lt {X : Cx} {cc : ByteArray} {own : String} {K : Kt} {fr lo : Nat} {w : va_W} {pc : Nat} {loc : List (Option Value)} {st : List Value} (B : Bs X cc own K fr lo) {x y : Int32} {off : Int} {tgt : Nat} {α : Type} {a b z : α} (hd : decode cc pc = .ok (.if_icmp .lt off, 3)) (ht : (pc : Int) + off = (tgt : Int)) (hf : (if x < y then a else b) = z) (kt : x < y → a = z → MW X w tgt loc st) (kf : ¬ x < y → b = z → MW X w (pc + 3) loc st) : MW X w pc loc (.int y :: .int x :: st) := by
  obtain ⟨⟨p, l, e, R, s, m⟩, ⟨args, below, meth, c⟩, ⟨nL, cells, slots, A, D, Q⟩⟩ := X
  obtain ⟨hx, hb, hml, hown, hts, hK, hN, hA, hfr, hlo, hce, hsl⟩ := B
  intro H locs ls hP hD hS hl
  exact lv_icmp_lt hx hb hd ht (fun q => kt q (it_t hf q) H locs ls hP hD hS hl) (fun q => kf q (it_f hf q) H locs ls hP hD hS hl)
theorem r_if_ge {X : Cx} {cc : ByteArray} {own : String} {K : Kt} {fr lo : Nat} {w : va_W} {pc : Nat} {loc : List (Option Value)} {st : List Value} (B : Bs X cc own K fr lo) {x : Int32} {off : Int} {tgt : Nat} {α : Type} {a b z : α} (hd : decode cc pc = .ok (.ifCond .ge off, 3)) (ht : (pc : Int) + off = (tgt : Int)) (hf : (if 0 ≤ x then a else b) = z) (kt : 0 ≤ x → a = z → MW X w tgt loc st) (kf : ¬ 0 ≤ x → b = z → MW X w (pc + 3) loc st) : MW X w pc loc (.int x :: st) := by
  obtain ⟨⟨p, l, e, R, s, m⟩, ⟨args, below, meth, c⟩, ⟨nL, cells, slots, A, D, Q⟩⟩ := X
  obtain ⟨hx, hb, hml, hown, hts, hK, hN, hA, hfr, hlo, hce, hsl⟩ := B
  intro H locs ls hP hD hS hl
  exact lv_if_ge hx hb hd ht (fun q => kt q (it_t hf q) H locs ls hP hD hS hl) (fun q => kf q (it_f hf q) H locs ls hP hD hS hl)
theorem r_icmp_ge {X : Cx} {cc : ByteArray} {own : String} {K : Kt} {fr lo : Nat} {w : va_W} {pc : Nat} {loc : List (Option Value)} {st : List Value} (B : Bs X cc own K fr lo) {x y : Int32} {off : Int} {tgt : Nat} {α : Type} {a b z : α} (hd : decode cc pc = .ok (.if_icmp .ge off, 3)) (ht : (pc : Int) + off = (tgt : Int)) (hf : (if y ≤ x then a else b) = z) (kt : y ≤ x → a = z → MW X w tgt loc st) (kf : ¬ y ≤ x → b = z → MW X w (pc + 3) loc st) : MW X w pc loc (.int y :: .int x :: st) := by
  obtain ⟨⟨p, l, e, R, s, m⟩, ⟨args, below, meth, c⟩, ⟨nL, cells, slots, A, D, Q⟩⟩ := X
  obtain ⟨hx, hb, hml, hown, hts, hK, hN, hA, hfr, hlo, hce, hsl⟩ := B
  intro H locs ls hP hD hS hl
  exact lv_icmp_ge hx hb hd ht (fun q => kt q (it_t hf q) H locs ls hP hD hS hl) (fun q => kf q (it_f hf q) H locs ls hP hD hS hl)
theorem r_if_gt {X : Cx} {cc : ByteArray} {own : String} {K : Kt} {fr lo : Nat} {w : va_W} {pc : Nat} {loc : List (Option Value)} {st : List Value} (B : Bs X cc own K fr lo) {x : Int32} {off : Int} {tgt : Nat} {α : Type} {a b z : α} (hd : decode cc pc = .ok (.ifCond .gt off, 3)) (ht : (pc : Int) + off = (tgt : Int)) (hf : (if 0 < x then a else b) = z) (kt : 0 < x → a = z → MW X w tgt loc st) (kf : ¬ 0 < x → b = z → MW X w (pc + 3) loc st) : MW X w pc loc (.int x :: st) := by
  obtain ⟨⟨p, l, e, R, s, m⟩, ⟨args, below, meth, c⟩, ⟨nL, cells, slots, A, D, Q⟩⟩ := X
  obtain ⟨hx, hb, hml, hown, hts, hK, hN, hA, hfr, hlo, hce, hsl⟩ := B
  intro H locs ls hP hD hS hl
  exact lv_if_gt hx hb hd ht (fun q => kt q (it_t hf q) H locs ls hP hD hS hl) (fun q => kf q (it_f hf q) H locs ls hP hD hS hl)
theorem r_icmp_gt {X : Cx} {cc : ByteArray} {own : String} {K : Kt} {fr lo : Nat} {w : va_W} {pc : Nat} {loc : List (Option Value)} {st : List Value} (B : Bs X cc own K fr lo) {x y : Int32} {off : Int} {tgt : Nat} {α : Type} {a b z : α} (hd : decode cc pc = .ok (.if_icmp .gt off, 3)) (ht : (pc : Int) + off = (tgt : Int)) (hf : (if y < x then a else b) = z) (kt : y < x → a = z → MW X w tgt loc st) (kf : ¬ y < x → b = z → MW X w (pc + 3) loc st) : MW X w pc loc (.int y :: .int x :: st) := by
  obtain ⟨⟨p, l, e, R, s, m⟩, ⟨args, below, meth, c⟩, ⟨nL, cells, slots, A, D, Q⟩⟩ := X
  obtain ⟨hx, hb, hml, hown, hts, hK, hN, hA, hfr, hlo, hce, hsl⟩ := B
  intro H locs ls hP hD hS hl
  exact lv_icmp_gt hx hb hd ht (fun q => kt q (it_t hf q) H locs ls hP hD hS hl) (fun q => kf q (it_f hf q) H locs ls hP hD hS hl)
theorem r_if_le {X : Cx} {cc : ByteArray} {own : String} {K : Kt} {fr lo : Nat} {w : va_W} {pc : Nat} {loc : List (Option Value)} {st : List Value} (B : Bs X cc own K fr lo) {x : Int32} {off : Int} {tgt : Nat} {α : Type} {a b z : α} (hd : decode cc pc = .ok (.ifCond .le off, 3)) (ht : (pc : Int) + off = (tgt : Int)) (hf : (if x ≤ 0 then a else b) = z) (kt : x ≤ 0 → a = z → MW X w tgt loc st) (kf : ¬ x ≤ 0 → b = z → MW X w (pc + 3) loc st) : MW X w pc loc (.int x :: st) := by
  obtain ⟨⟨p, l, e, R, s, m⟩, ⟨args, below, meth, c⟩, ⟨nL, cells, slots, A, D, Q⟩⟩ := X
  obtain ⟨hx, hb, hml, hown, hts, hK, hN, hA, hfr, hlo, hce, hsl⟩ := B
  intro H locs ls hP hD hS hl
  exact lv_if_le hx hb hd ht (fun q => kt q (it_t hf q) H locs ls hP hD hS hl) (fun q => kf q (it_f hf q) H locs ls hP hD hS hl)
theorem r_icmp_le {X : Cx} {cc : ByteArray} {own : String} {K : Kt} {fr lo : Nat} {w : va_W} {pc : Nat} {loc : List (Option Value)} {st : List Value} (B : Bs X cc own K fr lo) {x y : Int32} {off : Int} {tgt : Nat} {α : Type} {a b z : α} (hd : decode cc pc = .ok (.if_icmp .le off, 3)) (ht : (pc : Int) + off = (tgt : Int)) (hf : (if x ≤ y then a else b) = z) (kt : x ≤ y → a = z → MW X w tgt loc st) (kf : ¬ x ≤ y → b = z → MW X w (pc + 3) loc st) : MW X w pc loc (.int y :: .int x :: st) := by
  obtain ⟨⟨p, l, e, R, s, m⟩, ⟨args, below, meth, c⟩, ⟨nL, cells, slots, A, D, Q⟩⟩ := X
  obtain ⟨hx, hb, hml, hown, hts, hK, hN, hA, hfr, hlo, hce, hsl⟩ := B
  intro H locs ls hP hD hS hl
  exact lv_icmp_le hx hb hd ht (fun q => kt q (it_t hf q) H locs ls hP hD hS hl) (fun q => kf q (it_f hf q) H locs ls hP hD hS hl)
theorem r_goto {X : Cx} {cc : ByteArray} {own : String} {K : Kt} {fr lo : Nat} {w : va_W} {pc : Nat} {loc : List (Option Value)} {st : List Value} (B : Bs X cc own K fr lo) {off : Int} {tgt : Nat} (hd : decode cc pc = .ok (.goto off, 3)) (ht : (pc : Int) + off = (tgt : Int)) (k : MW X w tgt loc st) : MW X w pc loc st := by
  obtain ⟨⟨p, l, e, R, s, m⟩, ⟨args, below, meth, c⟩, ⟨nL, cells, slots, A, D, Q⟩⟩ := X
  obtain ⟨hx, hb, hml, hown, hts, hK, hN, hA, hfr, hlo, hce, hsl⟩ := B
  intro H locs ls hP hD hS hl
  exact lv_goto hx hb hd ht (k H locs ls hP hD hS hl)
theorem r_mask {X : Cx} {w : va_W} {pc : Nat} {loc loc' : List (Option Value)} {st : List Value} (ms : List Bool) (h : lmask ms loc = loc') (k : MW X w pc loc' st) : MW X w pc loc st := by
  obtain ⟨⟨p, l, e, R, s, m⟩, ⟨args, below, meth, c⟩, ⟨nL, cells, slots, A, D, Q⟩⟩ := X
  intro H locs ls hP hD hS hl
  exact k H locs ls hP hD hS ⟨hl.1, hl.2.1, fun i v hv => hl.2.2 i v (lget_mask ms loc i v (by rw [h]; exact hv))⟩
theorem r_pc {X : Cx} {w : va_W} {pc pc' : Nat} {loc : List (Option Value)} {st : List Value} (h : pc = pc') (k : MW X w pc' loc st) : MW X w pc loc st := h ▸ k
theorem r_tsw {X : Cx} {cc : ByteArray} {own : String} {K : Kt} {fr lo : Nat} {w : va_W} {pc : Nat} {loc : List (Option Value)} {st : List Value} (B : Bs X cc own K fr lo) {dflt a b : Int} {offs : Array Int} {len : Nat} {x : Int32} {off : Int} {tgt : Nat} (hd : decode cc pc = .ok (.tableswitch dflt a b offs, len)) (h1 : ¬ x.toInt < a) (h2 : ¬ b < x.toInt) (ho : offs[(x.toInt - a).toNat]? = some off) (ht : (pc : Int) + off = (tgt : Int)) (k : MW X w tgt loc st) : MW X w pc loc (.int x :: st) := by
  obtain ⟨⟨p, l, e, R, s, m⟩, ⟨args, below, meth, c⟩, ⟨nL, cells, slots, A, D, Q⟩⟩ := X
  obtain ⟨hx, hb, hml, hown, hts, hK, hN, hA, hfr, hlo, hce, hsl⟩ := B
  intro H locs ls hP hD hS hl
  exact lv_tableIn hx hb hd h1 h2 ho ht (k H locs ls hP hD hS hl)
theorem r_tswd {X : Cx} {cc : ByteArray} {own : String} {K : Kt} {fr lo : Nat} {w : va_W} {pc : Nat} {loc : List (Option Value)} {st : List Value} (B : Bs X cc own K fr lo) {dflt a b : Int} {offs : Array Int} {len : Nat} {x : Int32} {tgt : Nat} (hd : decode cc pc = .ok (.tableswitch dflt a b offs, len)) (h1 : x.toInt < a ∨ b < x.toInt) (ht : (pc : Int) + dflt = (tgt : Int)) (k : MW X w tgt loc st) : MW X w pc loc (.int x :: st) := by
  obtain ⟨⟨p, l, e, R, s, m⟩, ⟨args, below, meth, c⟩, ⟨nL, cells, slots, A, D, Q⟩⟩ := X
  obtain ⟨hx, hb, hml, hown, hts, hK, hN, hA, hfr, hlo, hce, hsl⟩ := B
  intro H locs ls hP hD hS hl
  exact lv_tableOut hx hb hd h1 ht (k H locs ls hP hD hS hl)
theorem r_get {X : Cx} {cc : ByteArray} {own : String} {K : Kt} {fr lo : Nat} {w : va_W} {pc : Nat} {loc : List (Option Value)} {st : List Value} (B : Bs X cc own K fr lo) {C : String} {T : u_T} {N ci q0 i a : Nat} {fs : List Value} (f : Nat) {v : Value} (he : w[q0]? = some (a, .inr (ci, fs))) (hc : vwCl[ci]? = some (C, T, N)) (hin : ∀ w ∈ u_ws C T N, w ∈ lw_T) (hf : f < N) (hlk : Cond.fieldLink own i (T f).1 (T f).2.1 (T f).2.2.1 ∈ lw_T) (hv : fs[f]? = some v) (hd : decode cc pc = .ok (.getfield i, 3)) (k : MW X w (pc + 3) loc (v :: st)) : MW X w pc loc (.ref a :: st) := by
  obtain ⟨⟨p, l, e, R, s, m⟩, ⟨args, below, meth, c⟩, ⟨nL, cells, slots, A, D, Q⟩⟩ := X
  obtain ⟨hx, hb, hml, hown, hts, hK, hN, hA, hfr, hlo, hce, hsl⟩ := B
  intro H locs ls hP hD hS hl
  exact va_get hx hb hts hin hown hK hP q0 he hc f hf (hts _ hlk) (fun _ h => h) hv hd (k H locs ls hP hD hS hl)
theorem r_put {X : Cx} {cc : ByteArray} {own : String} {K : Kt} {fr lo : Nat} {w : va_W} {pc : Nat} {loc : List (Option Value)} {st : List Value} (B : Bs X cc own K fr lo) {C : String} {T : u_T} {N ci q0 i a : Nat} {fs : List Value} (f : Nat) {v : Value} {ty : FieldType} {w' : va_W} (he : w[q0]? = some (a, .inr (ci, fs))) (hc : vwCl[ci]? = some (C, T, N)) (hin : ∀ w ∈ u_ws C T N, w ∈ lw_T) (ty0 : Nat → FieldType) (hty : ∀ k, k < N → parseFieldDescriptor (T k).2.2.1 = some (ty0 k)) (hnm : ∀ a, a < N → ∀ b, b < N → a ≠ b → (T a).2.1 ≠ (T b).2.1) (hf : f < N) (hlk : Cond.fieldLink own i (T f).1 (T f).2.1 (T f).2.2.1 ∈ lw_T) (hfin : (T f).2.2.2 = false) (hdt : parseFieldDescriptor (T f).2.2.1 = some ty) (hn : narrow ty v = v) (hfit : fits ty v = true) (hl0 : f < fs.length) (hw : w.set q0 (a, .inr (ci, fs.set f v)) = w') (hd : decode cc pc = .ok (.putfield i, 3)) (k : MW X w' (pc + 3) loc st) : MW X w pc loc (v :: .ref a :: st) := by
  obtain ⟨⟨p, l, e, R, s, m⟩, ⟨args, below, meth, c⟩, ⟨nL, cells, slots, A, D, Q⟩⟩ := X
  obtain ⟨hx, hb, hml, hown, hts, hK, hN, hA, hfr, hlo, hce, hsl⟩ := B
  intro H locs ls hP hD hS hl
  exact va_put hx hb hts hin ty0 hty hnm hown hK hP hD hS q0 he hc f hf (hts _ hlk) (fun _ h => h) hfin hdt hn hfit hl0 hd (fun H1 locs1 hP1 hD1 hS1 => k H1 locs1 ls (hw ▸ hP1) (hw ▸ hD1) hS1 hl)
theorem r_iald {X : Cx} {cc : ByteArray} {own : String} {K : Kt} {fr lo : Nat} {w : va_W} {pc : Nat} {loc : List (Option Value)} {st : List Value} (B : Bs X cc own K fr lo) {q0 a n : Nat} {f : Nat → Int32} {i : Int32} (ha : w[q0]? = some (a, .inl (K.1, n, .inl f))) (hin : ¬ (i < 0 ∨ n ≤ ix i)) (hd : decode cc pc = .ok (.iaload, 1)) (k : MW X w (pc + 1) loc (.int (f (ix i)) :: st)) : MW X w pc loc (.int i :: .ref a :: st) := by
  obtain ⟨⟨p, l, e, R, s, m⟩, ⟨args, below, meth, c⟩, ⟨nL, cells, slots, A, D, Q⟩⟩ := X
  obtain ⟨hx, hb, hml, hown, hts, hK, hN, hA, hfr, hlo, hce, hsl⟩ := B
  intro H locs ls hP hD hS hl
  exact va_iald hx hb hK hP q0 0 ha rfl hin hd (k H locs ls hP hD hS hl)
theorem r_iast {X : Cx} {cc : ByteArray} {own : String} {K : Kt} {fr lo : Nat} {w : va_W} {pc : Nat} {loc : List (Option Value)} {st : List Value} (B : Bs X cc own K fr lo) {q0 a n : Nat} {f : Nat → Int32} {i : Int32} {x : Int32} {w' : va_W} (ha : w[q0]? = some (a, .inl (K.1, n, .inl f))) (hin : ¬ (i < 0 ∨ n ≤ ix i)) (hw : w.set q0 (a, .inl (K.1, n, .inl (upd f (ix i) x))) = w') (hd : decode cc pc = .ok (.iastore, 1)) (k : MW X w' (pc + 1) loc st) : MW X w pc loc (.int x :: .int i :: .ref a :: st) := by
  obtain ⟨⟨p, l, e, R, s, m⟩, ⟨args, below, meth, c⟩, ⟨nL, cells, slots, A, D, Q⟩⟩ := X
  obtain ⟨hx, hb, hml, hown, hts, hK, hN, hA, hfr, hlo, hce, hsl⟩ := B
  intro H locs ls hP hD hS hl
  exact va_iast hx hb hK hP hD hS q0 0 ha rfl hin hd (fun H1 locs1 hP1 hD1 hS1 => k H1 locs1 ls (hw ▸ hP1) (hw ▸ hD1) hS1 hl)
theorem r_bald {X : Cx} {cc : ByteArray} {own : String} {K : Kt} {fr lo : Nat} {w : va_W} {pc : Nat} {loc : List (Option Value)} {st : List Value} (B : Bs X cc own K fr lo) {q0 a n : Nat} {f : Nat → Int32} {i : Int32} (ha : w[q0]? = some (a, .inl (K.2.2.1, n, .inl f))) (hin : ¬ (i < 0 ∨ n ≤ ix i)) (hd : decode cc pc = .ok (.baload, 1)) (k : MW X w (pc + 1) loc (.int (f (ix i)) :: st)) : MW X w pc loc (.int i :: .ref a :: st) := by
  obtain ⟨⟨p, l, e, R, s, m⟩, ⟨args, below, meth, c⟩, ⟨nL, cells, slots, A, D, Q⟩⟩ := X
  obtain ⟨hx, hb, hml, hown, hts, hK, hN, hA, hfr, hlo, hce, hsl⟩ := B
  intro H locs ls hP hD hS hl
  exact va_bald hx hb hK hP q0 2 ha rfl hin hd (k H locs ls hP hD hS hl)
theorem r_bast {X : Cx} {cc : ByteArray} {own : String} {K : Kt} {fr lo : Nat} {w : va_W} {pc : Nat} {loc : List (Option Value)} {st : List Value} (B : Bs X cc own K fr lo) {q0 a n : Nat} {f : Nat → Int32} {i : Int32} {x : Int32} {w' : va_W} (ha : w[q0]? = some (a, .inl (K.2.2.1, n, .inl f))) (hin : ¬ (i < 0 ∨ n ≤ ix i)) (hw : w.set q0 (a, .inl (K.2.2.1, n, .inl (upd f (ix i) (vp_nar .byte x)))) = w') (hd : decode cc pc = .ok (.bastore, 1)) (k : MW X w' (pc + 1) loc st) : MW X w pc loc (.int x :: .int i :: .ref a :: st) := by
  obtain ⟨⟨p, l, e, R, s, m⟩, ⟨args, below, meth, c⟩, ⟨nL, cells, slots, A, D, Q⟩⟩ := X
  obtain ⟨hx, hb, hml, hown, hts, hK, hN, hA, hfr, hlo, hce, hsl⟩ := B
  intro H locs ls hP hD hS hl
  exact va_bast hx hb hK hP hD hS q0 2 ha rfl hin hd (fun H1 locs1 hP1 hD1 hS1 => k H1 locs1 ls (hw ▸ hP1) (hw ▸ hD1) hS1 hl)
theorem r_lald {X : Cx} {cc : ByteArray} {own : String} {K : Kt} {fr lo : Nat} {w : va_W} {pc : Nat} {loc : List (Option Value)} {st : List Value} (B : Bs X cc own K fr lo) {q0 a n : Nat} {f : Nat → Int64} {i : Int32} (ha : w[q0]? = some (a, .inl (K.2.1, n, .inr (.inl f)))) (hin : ¬ (i < 0 ∨ n ≤ ix i)) (hd : decode cc pc = .ok (.laload, 1)) (k : MW X w (pc + 1) loc (.long (f (ix i)) :: st)) : MW X w pc loc (.int i :: .ref a :: st) := by
  obtain ⟨⟨p, l, e, R, s, m⟩, ⟨args, below, meth, c⟩, ⟨nL, cells, slots, A, D, Q⟩⟩ := X
  obtain ⟨hx, hb, hml, hown, hts, hK, hN, hA, hfr, hlo, hce, hsl⟩ := B
  intro H locs ls hP hD hS hl
  exact va_lald hx hb hK hP q0 1 ha rfl hin hd (k H locs ls hP hD hS hl)
theorem r_last {X : Cx} {cc : ByteArray} {own : String} {K : Kt} {fr lo : Nat} {w : va_W} {pc : Nat} {loc : List (Option Value)} {st : List Value} (B : Bs X cc own K fr lo) {q0 a n : Nat} {f : Nat → Int64} {i : Int32} {x : Int64} {w' : va_W} (ha : w[q0]? = some (a, .inl (K.2.1, n, .inr (.inl f)))) (hin : ¬ (i < 0 ∨ n ≤ ix i)) (hw : w.set q0 (a, .inl (K.2.1, n, .inr (.inl (vp_updL f (ix i) x)))) = w') (hd : decode cc pc = .ok (.lastore, 1)) (k : MW X w' (pc + 1) loc st) : MW X w pc loc (.long x :: .int i :: .ref a :: st) := by
  obtain ⟨⟨p, l, e, R, s, m⟩, ⟨args, below, meth, c⟩, ⟨nL, cells, slots, A, D, Q⟩⟩ := X
  obtain ⟨hx, hb, hml, hown, hts, hK, hN, hA, hfr, hlo, hce, hsl⟩ := B
  intro H locs ls hP hD hS hl
  exact va_last hx hb hK hP hD hS q0 1 ha rfl hin hd (fun H1 locs1 hP1 hD1 hS1 => k H1 locs1 ls (hw ▸ hP1) (hw ▸ hD1) hS1 hl)
theorem r_alen {X : Cx} {cc : ByteArray} {own : String} {K : Kt} {fr lo : Nat} {w : va_W} {pc : Nat} {loc : List (Option Value)} {st : List Value} (B : Bs X cc own K fr lo) {q0 a : Nat} {x : vp_A} {cA : ClassId} (t0 : Nat) {ty : FieldType} {v : Int32} (ha : w[q0]? = some (a, .inl (cA, x))) (ht : (tyL K)[t0]? = some (cA, ty)) (hv : Int32.ofNat x.1 = v) (hd : decode cc pc = .ok (.arraylength, 1)) (k : MW X w (pc + 1) loc (.int v :: st)) : MW X w pc loc (.ref a :: st) := by
  obtain ⟨⟨p, l, e, R, s, m⟩, ⟨args, below, meth, c⟩, ⟨nL, cells, slots, A, D, Q⟩⟩ := X
  obtain ⟨hx, hb, hml, hown, hts, hK, hN, hA, hfr, hlo, hce, hsl⟩ := B
  intro H locs ls hP hD hS hl
  exact va_alen hx hb hK hP q0 t0 ha ht hv hd (k H locs ls hP hD hS hl)
theorem r_aald {X : Cx} {cc : ByteArray} {own : String} {K : Kt} {fr lo : Nat} {w : va_W} {pc : Nat} {loc : List (Option Value)} {st : List Value} (B : Bs X cc own K fr lo) {q0 a n : Nat} {f : Nat → Option Nat} {i : Int32} (ha : w[q0]? = some (a, .inl (K.2.2.2, n, .inr (.inr (.inr (.inr f)))))) (hin : ¬ (i < 0 ∨ n ≤ ix i)) (hd : decode cc pc = .ok (.aaload, 1)) (k : MW X w (pc + 1) loc (va_rf (f (ix i)) :: st)) : MW X w pc loc (.int i :: .ref a :: st) := by
  obtain ⟨⟨p, l, e, R, s, m⟩, ⟨args, below, meth, c⟩, ⟨nL, cells, slots, A, D, Q⟩⟩ := X
  obtain ⟨hx, hb, hml, hown, hts, hK, hN, hA, hfr, hlo, hce, hsl⟩ := B
  intro H locs ls hP hD hS hl
  exact va_aldq hx hb hK hP q0 3 ha rfl hin hd (k H locs ls hP hD hS hl)
theorem r_cpyi {X : Cx} {cc : ByteArray} {own : String} {K : Kt} {fr lo : Nat} {w : va_W} {pc : Nat} {loc : List (Option Value)} {st : List Value} (B : Bs X cc own K fr lo) {q0 q1 a a0 n0 n1 i : Nat} {f g : Nat → Int32} {sp dp n : Int32} {w' : va_W} (ha0 : w[q0]? = some (a0, .inl (K.1, n0, .inl f))) (ha1 : w[q1]? = some (a, .inl (K.1, n1, .inl g))) (hlk : Cond.methodLink own i arraycopyName ∈ lw_T) (hnt : Cond.native arraycopyName ∈ lw_T) (hstt : Cond.static arraycopyName ∈ lw_T) (hini : Cond.initialized "java/lang/System" ∈ lw_T) (hg : ¬ (sp < 0 ∨ dp < 0 ∨ n < 0 ∨ n0 < ix sp + ix n ∨ n1 < ix dp + ix n)) (hw : w.set q1 (a, .inl (K.1, n1, .inl (va_cpy f g (ix sp) (ix dp) (ix n)))) = w') (h1 : 1 ≤ fr) (h2 : (st.map fun v => v.category).sum + 18 ≤ lo) (hd : decode cc pc = .ok (.invokestatic i, 3)) (k : MW X w' (pc + 3) loc st) : MW X w pc loc (.int n :: .int dp :: .ref a :: .int sp :: .ref a0 :: st) := by
  obtain ⟨⟨p, l, e, R, s, m⟩, ⟨args, below, meth, c⟩, ⟨nL, cells, slots, A, D, Q⟩⟩ := X
  obtain ⟨hx, hb, hml, hown, hts, hK, hN, hA, hfr, hlo, hce, hsl⟩ := B
  intro H locs ls hP hD hS hl
  exact va_copyi hx hb (hml.trans hl.1.symm) hown (hts _ hlk) (hts _ hnt) (hts _ hstt) (hts _ hini) hK hP hD hS q0 q1 0 0 ha0 ha1 rfl rfl rfl (fun h => hg (Or.inl h)) (fun h => hg (Or.inr (Or.inl h))) (fun h => hg (Or.inr (Or.inr (Or.inl h)))) (Nat.not_lt.mp fun h => hg (Or.inr (Or.inr (Or.inr (Or.inl h))))) (Nat.not_lt.mp fun h => hg (Or.inr (Or.inr (Or.inr (Or.inr h))))) (fun _ _ => rfl) (Nat.le_trans h1 hfr) (Nat.le_trans h2 hlo) hd (fun H1 locs1 hP1 hD1 hS1 => k H1 locs1 ls (hw ▸ hP1) (hw ▸ hD1) hS1 hl)
theorem r_cpyl {X : Cx} {cc : ByteArray} {own : String} {K : Kt} {fr lo : Nat} {w : va_W} {pc : Nat} {loc : List (Option Value)} {st : List Value} (B : Bs X cc own K fr lo) {q0 q1 a a0 n0 n1 i : Nat} {f g : Nat → Int64} {sp dp n : Int32} {w' : va_W} (ha0 : w[q0]? = some (a0, .inl (K.2.1, n0, .inr (.inl f)))) (ha1 : w[q1]? = some (a, .inl (K.2.1, n1, .inr (.inl g)))) (hlk : Cond.methodLink own i arraycopyName ∈ lw_T) (hnt : Cond.native arraycopyName ∈ lw_T) (hstt : Cond.static arraycopyName ∈ lw_T) (hini : Cond.initialized "java/lang/System" ∈ lw_T) (hg : ¬ (sp < 0 ∨ dp < 0 ∨ n < 0 ∨ n0 < ix sp + ix n ∨ n1 < ix dp + ix n)) (hw : w.set q1 (a, .inl (K.2.1, n1, .inr (.inl (va_cpy f g (ix sp) (ix dp) (ix n))))) = w') (h1 : 1 ≤ fr) (h2 : (st.map fun v => v.category).sum + 18 ≤ lo) (hd : decode cc pc = .ok (.invokestatic i, 3)) (k : MW X w' (pc + 3) loc st) : MW X w pc loc (.int n :: .int dp :: .ref a :: .int sp :: .ref a0 :: st) := by
  obtain ⟨⟨p, l, e, R, s, m⟩, ⟨args, below, meth, c⟩, ⟨nL, cells, slots, A, D, Q⟩⟩ := X
  obtain ⟨hx, hb, hml, hown, hts, hK, hN, hA, hfr, hlo, hce, hsl⟩ := B
  intro H locs ls hP hD hS hl
  exact va_copyl hx hb (hml.trans hl.1.symm) hown (hts _ hlk) (hts _ hnt) (hts _ hstt) (hts _ hini) hK hP hD hS q0 q1 1 1 ha0 ha1 rfl rfl rfl (fun h => hg (Or.inl h)) (fun h => hg (Or.inr (Or.inl h))) (fun h => hg (Or.inr (Or.inr (Or.inl h)))) (Nat.not_lt.mp fun h => hg (Or.inr (Or.inr (Or.inr (Or.inl h))))) (Nat.not_lt.mp fun h => hg (Or.inr (Or.inr (Or.inr (Or.inr h))))) (fun _ _ => rfl) (Nat.le_trans h1 hfr) (Nat.le_trans h2 hlo) hd (fun H1 locs1 hP1 hD1 hS1 => k H1 locs1 ls (hw ▸ hP1) (hw ▸ hD1) hS1 hl)
/-- what the tables say of a method that is called -/
def FcS (y : MethodName) (cc : ByteArray) (nL : Nat) (ret : Option FieldType) (n : Nat) : Prop := Cond.code y cc nL ret ∈ lw_T ∧ Cond.static y ∈ lw_T ∧ Cond.initialized y.cls ∈ lw_T ∧ y.cls ≠ "java/lang/invoke/MethodHandle" ∧ y.cls ≠ "java/lang/invoke/VarHandle" ∧ (parseMethodDescriptor y.desc).map (fun d => d.parameters.length) = some n
def FcV (y : MethodName) (cc : ByteArray) (nL : Nat) (ret : Option FieldType) (n : Nat) : Prop := Cond.code y cc nL ret ∈ lw_T ∧ Cond.instanceMethod y ∈ lw_T ∧ Cond.selects y.cls y y ∈ lw_T ∧ Cond.initialized y.cls ∈ lw_T ∧ y.cls ≠ "java/lang/invoke/MethodHandle" ∧ y.cls ≠ "java/lang/invoke/VarHandle" ∧ (parseMethodDescriptor y.desc).map (fun d => d.parameters.length) = some n
theorem lw_Gc {y : MethodName} {cc : ByteArray} {nL : Nat} {ret : Option FieldType} (h : Cond.code y cc nL ret ∈ lw_T) : GoodIn lw_T (Cond.code y cc nL ret :: lw_T) := fun w hw => (List.mem_cons.mp hw).elim (fun e => by rw [e]; exact lw_Tg _ h) (lw_Tg w)
theorem r_cSI {X : Cx} {cc : ByteArray} {own : String} {K : Kt} {fr lo : Nat} {w : va_W} {pc : Nat} {loc : List (Option Value)} {st : List Value} (B : Bs X cc own K fr lo) {y : MethodName} {cc2 : ByteArray} {nL2 : Nat} {ty : FieldType} {fr2 lo2 i : Nat} {av : List Value} {w' : va_W} {r : Int32} {stk : List Value} (hM : CtI X.l y cc2 nL2 (some ty) fr2 lo2 X.D K av w r w') (F : FcS y cc2 nL2 (some ty) av.length) (hlk : Cond.methodLink own i y ∈ lw_T) (h1 : fr2 + 1 ≤ fr) (h2 : 8 + (nL2 + 11) + lo2 ≤ lo) (hst : (st.map fun v => v.category).sum ≤ 8) (hd : decode cc pc = .ok (.invokestatic i, 3)) (hk : av.reverse ++ st = stk) (k : MW X w' (pc + 3) loc (.int r :: st)) : MW X w pc loc stk := by
  obtain ⟨⟨p, l, e, R, s, m⟩, ⟨args, below, meth, c⟩, ⟨nL, cells, slots, A, D, Q⟩⟩ := X
  obtain ⟨hx, hb, hml, hown, hts, hK, hN, hA, hfr, hlo, hce, hsl⟩ := B
  intro H locs ls hP hD hS hl
  subst hk
  exact va_calli (va_runS (As := av) (rest := st) ⟨hx, hb, hml, hown, hts⟩ (hM H.size) ⟨callB_of av.length hts (lw_Gc F.1) rfl rfl rfl (hts _ F.2.2.1) (hts _ hlk) F.2.2.2 ⟨Nat.le_trans h1 hfr, Nat.le_trans h2 hlo⟩, hts _ F.2.1⟩ ⟨PrW.blind, fun U hU hW => ⟨rfl, by rw [hU], by rw [hU]; exact hP, va_K.moved hW.alike hK, hD.weaken (fun _ _ _ _ => trivial), hN.warm hW⟩⟩ rfl rfl hl.1 rfl (lv_room hst) hd ⟨hce, hsl⟩) hS (fun q _ h => va_Afree hD hS hA q h) (fun q h => va_Afree hD hS hA q h) (fun r0 u t H1 locs1 ht hvm hw hB hz1 hk1 hS1 => by
    have hw : r0 = r := hw
    subst hw
    obtain ⟨hP1, hK1, hD1⟩ := hB
    rw [ht] at hP1
    exact k H1 locs1 ls hP1 (hD1.weaken (fun _ q _ h => va_Afree hD hS hA q.1 h)) hS1 hl)
theorem r_cNI {X : Cx} {cc : ByteArray} {own : String} {K : Kt} {fr lo : Nat} {w : va_W} {pc : Nat} {loc : List (Option Value)} {st : List Value} (B : Bs X cc own K fr lo) {y : MethodName} {cc2 : ByteArray} {nL2 : Nat} {ty : FieldType} {fr2 lo2 i : Nat} {av : List Value} {w' : va_W} {r : Int32} {stk : List Value} (hM : CtI X.l y cc2 nL2 (some ty) fr2 lo2 X.D K av w r w') (F : FcS y cc2 nL2 (some ty) av.length) (hlk : (own, i, y) ∈ lw_nest) (h1 : fr2 + 1 ≤ fr) (h2 : 8 + (nL2 + 11) + lo2 ≤ lo) (hst : (st.map fun v => v.category).sum ≤ 8) (hd : decode cc pc = .ok (.invokestatic i, 3)) (hk : av.reverse ++ st = stk) (k : MW X w' (pc + 3) loc (.int r :: st)) : MW X w pc loc stk := by
  obtain ⟨⟨p, l, e, R, s, m⟩, ⟨args, below, meth, c⟩, ⟨nL, cells, slots, A, D, Q⟩⟩ := X
  obtain ⟨hx, hb, hml, hown, hts, hK, hN, hA, hfr, hlo, hce, hsl⟩ := B
  intro H locs ls hP hD hS hl
  subst hk
  exact va_calli (va_runSN (As := av) (rest := st) ⟨hx, hb, hml, hown, hts⟩ (hM H.size) ⟨va_cnB av.length hts (lw_Gc F.1) rfl rfl rfl (hN _ hlk) (hts _ F.2.2.1) F.2.2.2 ⟨Nat.le_trans h1 hfr, Nat.le_trans h2 hlo⟩, hts _ F.2.1, trivial⟩ ⟨PrW.blind, fun U hU hW => ⟨rfl, by rw [hU], by rw [hU]; exact hP, va_K.moved hW.alike hK, hD.weaken (fun _ _ _ _ => trivial), hN.warm hW⟩⟩ rfl rfl hl.1 rfl (lv_room hst) hd ⟨hce, hsl⟩) hS (fun q _ h => va_Afree hD hS hA q h) (fun q h => va_Afree hD hS hA q h) (fun r0 u t H1 locs1 ht hvm hw hB hz1 hk1 hS1 => by
    have hw : r0 = r := hw
    subst hw
    obtain ⟨hP1, hK1, hD1⟩ := hB
    rw [ht] at hP1
    exact k H1 locs1 ls hP1 (hD1.weaken (fun _ q _ h => va_Afree hD hS hA q.1 h)) hS1 hl)
theorem r_cVI {X : Cx} {cc : ByteArray} {own : String} {K : Kt} {fr lo : Nat} {w : va_W} {pc : Nat} {loc : List (Option Value)} {st : List Value} (B : Bs X cc own K fr lo) {y : MethodName} {cc2 : ByteArray} {nL2 : Nat} {ty : FieldType} {fr2 lo2 i : Nat} {av : List Value} {w' : va_W} {r : Int32} {stk : List Value} {q0 ci b N : Nat} {T : u_T} {fs : List Value} (hM : CtI X.l y cc2 nL2 (some ty) fr2 lo2 X.D K (.ref b :: av) w r w') (F : FcV y cc2 nL2 (some ty) av.length) (hlk : Cond.methodLink own i y ∈ lw_T) (he : w[q0]? = some (b, .inr (ci, fs))) (hc : vwCl[ci]? = some (y.cls, T, N)) (h1 : fr2 + 1 ≤ fr) (h2 : 8 + (nL2 + 11) + lo2 ≤ lo) (hst : (st.map fun v => v.category).sum ≤ 8) (hd : decode cc pc = .ok (.invokevirtual i, 3)) (hk : av.reverse ++ .ref b :: st = stk) (k : MW X w' (pc + 3) loc (.int r :: st)) : MW X w pc loc stk := by
  obtain ⟨⟨p, l, e, R, s, m⟩, ⟨args, below, meth, c⟩, ⟨nL, cells, slots, A, D, Q⟩⟩ := X
  obtain ⟨hx, hb, hml, hown, hts, hK, hN, hA, hfr, hlo, hce, hsl⟩ := B
  intro H locs ls hP hD hS hl
  subst hk
  exact va_calli (va_runV (As := av) (rest := st) ⟨hx, hb, hml, hown, hts⟩ (hM H.size) ⟨callB_of av.length hts (lw_Gc F.1) rfl rfl rfl (hts _ F.2.2.2.1) (hts _ hlk) F.2.2.2.2 ⟨Nat.le_trans h1 hfr, Nat.le_trans h2 hlo⟩, hts _ F.2.1, hts _ F.2.2.1⟩ ⟨PrW.blind, va_recv hK hP hc he, fun U hU hW => ⟨rfl, by rw [hU], by rw [hU]; exact hP, va_K.moved hW.alike hK, hD.weaken (fun _ _ _ _ => trivial), hN.warm hW⟩⟩ rfl rfl hl.1 rfl (lv_room hst) hd ⟨hce, hsl⟩) hS (fun q _ h => va_Afree hD hS hA q h) (fun q h => va_Afree hD hS hA q h) (fun r0 u t H1 locs1 ht hvm hw hB hz1 hk1 hS1 => by
    have hw : r0 = r := hw
    subst hw
    obtain ⟨hP1, hK1, hD1⟩ := hB
    rw [ht] at hP1
    exact k H1 locs1 ls hP1 (hD1.weaken (fun _ q _ h => va_Afree hD hS hA q.1 h)) hS1 hl)
theorem r_cSL {X : Cx} {cc : ByteArray} {own : String} {K : Kt} {fr lo : Nat} {w : va_W} {pc : Nat} {loc : List (Option Value)} {st : List Value} (B : Bs X cc own K fr lo) {y : MethodName} {cc2 : ByteArray} {nL2 : Nat} {ty : FieldType} {fr2 lo2 i : Nat} {av : List Value} {w' : va_W} {r : Int64} {stk : List Value} (hM : CtL X.l y cc2 nL2 (some ty) fr2 lo2 X.D K av w r w') (F : FcS y cc2 nL2 (some ty) av.length) (hlk : Cond.methodLink own i y ∈ lw_T) (h1 : fr2 + 1 ≤ fr) (h2 : 8 + (nL2 + 11) + lo2 ≤ lo) (hst : (st.map fun v => v.category).sum ≤ 8) (hd : decode cc pc = .ok (.invokestatic i, 3)) (hk : av.reverse ++ st = stk) (k : MW X w' (pc + 3) loc (.long r :: st)) : MW X w pc loc stk := by
  obtain ⟨⟨p, l, e, R, s, m⟩, ⟨args, below, meth, c⟩, ⟨nL, cells, slots, A, D, Q⟩⟩ := X
  obtain ⟨hx, hb, hml, hown, hts, hK, hN, hA, hfr, hlo, hce, hsl⟩ := B
  intro H locs ls hP hD hS hl
  subst hk
  exact va_calll (va_runS (As := av) (rest := st) ⟨hx, hb, hml, hown, hts⟩ (hM H.size) ⟨callB_of av.length hts (lw_Gc F.1) rfl rfl rfl (hts _ F.2.2.1) (hts _ hlk) F.2.2.2 ⟨Nat.le_trans h1 hfr, Nat.le_trans h2 hlo⟩, hts _ F.2.1⟩ ⟨PrW.blind, fun U hU hW => ⟨rfl, by rw [hU], by rw [hU]; exact hP, va_K.moved hW.alike hK, hD.weaken (fun _ _ _ _ => trivial), hN.warm hW⟩⟩ rfl rfl hl.1 rfl (lv_room hst) hd ⟨hce, hsl⟩) hS (fun q _ h => va_Afree hD hS hA q h) (fun q h => va_Afree hD hS hA q h) (fun r0 u t H1 locs1 ht hvm hw hB hz1 hk1 hS1 => by
    have hw : r0 = r := hw
    subst hw
    obtain ⟨hP1, hK1, hD1⟩ := hB
    rw [ht] at hP1
    exact k H1 locs1 ls hP1 (hD1.weaken (fun _ q _ h => va_Afree hD hS hA q.1 h)) hS1 hl)
theorem r_cNL {X : Cx} {cc : ByteArray} {own : String} {K : Kt} {fr lo : Nat} {w : va_W} {pc : Nat} {loc : List (Option Value)} {st : List Value} (B : Bs X cc own K fr lo) {y : MethodName} {cc2 : ByteArray} {nL2 : Nat} {ty : FieldType} {fr2 lo2 i : Nat} {av : List Value} {w' : va_W} {r : Int64} {stk : List Value} (hM : CtL X.l y cc2 nL2 (some ty) fr2 lo2 X.D K av w r w') (F : FcS y cc2 nL2 (some ty) av.length) (hlk : (own, i, y) ∈ lw_nest) (h1 : fr2 + 1 ≤ fr) (h2 : 8 + (nL2 + 11) + lo2 ≤ lo) (hst : (st.map fun v => v.category).sum ≤ 8) (hd : decode cc pc = .ok (.invokestatic i, 3)) (hk : av.reverse ++ st = stk) (k : MW X w' (pc + 3) loc (.long r :: st)) : MW X w pc loc stk := by
  obtain ⟨⟨p, l, e, R, s, m⟩, ⟨args, below, meth, c⟩, ⟨nL, cells, slots, A, D, Q⟩⟩ := X
  obtain ⟨hx, hb, hml, hown, hts, hK, hN, hA, hfr, hlo, hce, hsl⟩ := B
  intro H locs ls hP hD hS hl
  subst hk
  exact va_calll (va_runSN (As := av) (rest := st) ⟨hx, hb, hml, hown, hts⟩ (hM H.size) ⟨va_cnB av.length hts (lw_Gc F.1) rfl rfl rfl (hN _ hlk) (hts _ F.2.2.1) F.2.2.2 ⟨Nat.le_trans h1 hfr, Nat.le_trans h2 hlo⟩, hts _ F.2.1, trivial⟩ ⟨PrW.blind, fun U hU hW => ⟨rfl, by rw [hU], by rw [hU]; exact hP, va_K.moved hW.alike hK, hD.weaken (fun _ _ _ _ => trivial), hN.warm hW⟩⟩ rfl rfl hl.1 rfl (lv_room hst) hd ⟨hce, hsl⟩) hS (fun q _ h => va_Afree hD hS hA q h) (fun q h => va_Afree hD hS hA q h) (fun r0 u t H1 locs1 ht hvm hw hB hz1 hk1 hS1 => by
    have hw : r0 = r := hw
    subst hw
    obtain ⟨hP1, hK1, hD1⟩ := hB
    rw [ht] at hP1
    exact k H1 locs1 ls hP1 (hD1.weaken (fun _ q _ h => va_Afree hD hS hA q.1 h)) hS1 hl)
theorem r_cVL {X : Cx} {cc : ByteArray} {own : String} {K : Kt} {fr lo : Nat} {w : va_W} {pc : Nat} {loc : List (Option Value)} {st : List Value} (B : Bs X cc own K fr lo) {y : MethodName} {cc2 : ByteArray} {nL2 : Nat} {ty : FieldType} {fr2 lo2 i : Nat} {av : List Value} {w' : va_W} {r : Int64} {stk : List Value} {q0 ci b N : Nat} {T : u_T} {fs : List Value} (hM : CtL X.l y cc2 nL2 (some ty) fr2 lo2 X.D K (.ref b :: av) w r w') (F : FcV y cc2 nL2 (some ty) av.length) (hlk : Cond.methodLink own i y ∈ lw_T) (he : w[q0]? = some (b, .inr (ci, fs))) (hc : vwCl[ci]? = some (y.cls, T, N)) (h1 : fr2 + 1 ≤ fr) (h2 : 8 + (nL2 + 11) + lo2 ≤ lo) (hst : (st.map fun v => v.category).sum ≤ 8) (hd : decode cc pc = .ok (.invokevirtual i, 3)) (hk : av.reverse ++ .ref b :: st = stk) (k : MW X w' (pc + 3) loc (.long r :: st)) : MW X w pc loc stk := by
  obtain ⟨⟨p, l, e, R, s, m⟩, ⟨args, below, meth, c⟩, ⟨nL, cells, slots, A, D, Q⟩⟩ := X
  obtain ⟨hx, hb, hml, hown, hts, hK, hN, hA, hfr, hlo, hce, hsl⟩ := B
  intro H locs ls hP hD hS hl
  subst hk
  exact va_calll (va_runV (As := av) (rest := st) ⟨hx, hb, hml, hown, hts⟩ (hM H.size) ⟨callB_of av.length hts (lw_Gc F.1) rfl rfl rfl (hts _ F.2.2.2.1) (hts _ hlk) F.2.2.2.2 ⟨Nat.le_trans h1 hfr, Nat.le_trans h2 hlo⟩, hts _ F.2.1, hts _ F.2.2.1⟩ ⟨PrW.blind, va_recv hK hP hc he, fun U hU hW => ⟨rfl, by rw [hU], by rw [hU]; exact hP, va_K.moved hW.alike hK, hD.weaken (fun _ _ _ _ => trivial), hN.warm hW⟩⟩ rfl rfl hl.1 rfl (lv_room hst) hd ⟨hce, hsl⟩) hS (fun q _ h => va_Afree hD hS hA q h) (fun q h => va_Afree hD hS hA q h) (fun r0 u t H1 locs1 ht hvm hw hB hz1 hk1 hS1 => by
    have hw : r0 = r := hw
    subst hw
    obtain ⟨hP1, hK1, hD1⟩ := hB
    rw [ht] at hP1
    exact k H1 locs1 ls hP1 (hD1.weaken (fun _ q _ h => va_Afree hD hS hA q.1 h)) hS1 hl)
theorem r_cSV {X : Cx} {cc : ByteArray} {own : String} {K : Kt} {fr lo : Nat} {w : va_W} {pc : Nat} {loc : List (Option Value)} {st : List Value} (B : Bs X cc own K fr lo) {y : MethodName} {cc2 : ByteArray} {nL2 : Nat} {fr2 lo2 i : Nat} {av : List Value} {w' : va_W} {stk : List Value} (hM : CtV X.l y cc2 nL2 none fr2 lo2 X.D K av w w') (F : FcS y cc2 nL2 none av.length) (hlk : Cond.methodLink own i y ∈ lw_T) (h1 : fr2 + 1 ≤ fr) (h2 : 8 + (nL2 + 11) + lo2 ≤ lo) (hst : (st.map fun v => v.category).sum ≤ 8) (hd : decode cc pc = .ok (.invokestatic i, 3)) (hk : av.reverse ++ st = stk) (k : MW X w' (pc + 3) loc (st)) : MW X w pc loc stk := by
  obtain ⟨⟨p, l, e, R, s, m⟩, ⟨args, below, meth, c⟩, ⟨nL, cells, slots, A, D, Q⟩⟩ := X
  obtain ⟨hx, hb, hml, hown, hts, hK, hN, hA, hfr, hlo, hce, hsl⟩ := B
  intro H locs ls hP hD hS hl
  subst hk
  exact va_callv (va_runS (As := av) (rest := st) ⟨hx, hb, hml, hown, hts⟩ (hM H.size) ⟨callB_of av.length hts (lw_Gc F.1) rfl rfl rfl (hts _ F.2.2.1) (hts _ hlk) F.2.2.2 ⟨Nat.le_trans h1 hfr, Nat.le_trans h2 hlo⟩, hts _ F.2.1⟩ ⟨PrW.blind, fun U hU hW => ⟨rfl, by rw [hU], by rw [hU]; exact hP, va_K.moved hW.alike hK, hD.weaken (fun _ _ _ _ => trivial), hN.warm hW⟩⟩ rfl rfl hl.1 rfl (lv_room hst) hd ⟨hce, hsl⟩) hS (fun q _ h => va_Afree hD hS hA q h) (fun q h => va_Afree hD hS hA q h) (fun u t H1 locs1 ht hvm hw hB hz1 hk1 hS1 => by
    obtain ⟨hP1, hK1, hD1⟩ := hB
    rw [ht] at hP1
    exact k H1 locs1 ls hP1 (hD1.weaken (fun _ q _ h => va_Afree hD hS hA q.1 h)) hS1 hl)
theorem r_cNV {X : Cx} {cc : ByteArray} {own : String} {K : Kt} {fr lo : Nat} {w : va_W} {pc : Nat} {loc : List (Option Value)} {st : List Value} (B : Bs X cc own K fr lo) {y : MethodName} {cc2 : ByteArray} {nL2 : Nat} {fr2 lo2 i : Nat} {av : List Value} {w' : va_W} {stk : List Value} (hM : CtV X.l y cc2 nL2 none fr2 lo2 X.D K av w w') (F : FcS y cc2 nL2 none av.length) (hlk : (own, i, y) ∈ lw_nest) (h1 : fr2 + 1 ≤ fr) (h2 : 8 + (nL2 + 11) + lo2 ≤ lo) (hst : (st.map fun v => v.category).sum ≤ 8) (hd : decode cc pc = .ok (.invokestatic i, 3)) (hk : av.reverse ++ st = stk) (k : MW X w' (pc + 3) loc (st)) : MW X w pc loc stk := by
  obtain ⟨⟨p, l, e, R, s, m⟩, ⟨args, below, meth, c⟩, ⟨nL, cells, slots, A, D, Q⟩⟩ := X
  obtain ⟨hx, hb, hml, hown, hts, hK, hN, hA, hfr, hlo, hce, hsl⟩ := B
  intro H locs ls hP hD hS hl
  subst hk
  exact va_callv (va_runSN (As := av) (rest := st) ⟨hx, hb, hml, hown, hts⟩ (hM H.size) ⟨va_cnB av.length hts (lw_Gc F.1) rfl rfl rfl (hN _ hlk) (hts _ F.2.2.1) F.2.2.2 ⟨Nat.le_trans h1 hfr, Nat.le_trans h2 hlo⟩, hts _ F.2.1, trivial⟩ ⟨PrW.blind, fun U hU hW => ⟨rfl, by rw [hU], by rw [hU]; exact hP, va_K.moved hW.alike hK, hD.weaken (fun _ _ _ _ => trivial), hN.warm hW⟩⟩ rfl rfl hl.1 rfl (lv_room hst) hd ⟨hce, hsl⟩) hS (fun q _ h => va_Afree hD hS hA q h) (fun q h => va_Afree hD hS hA q h) (fun u t H1 locs1 ht hvm hw hB hz1 hk1 hS1 => by
    obtain ⟨hP1, hK1, hD1⟩ := hB
    rw [ht] at hP1
    exact k H1 locs1 ls hP1 (hD1.weaken (fun _ q _ h => va_Afree hD hS hA q.1 h)) hS1 hl)
theorem r_cVV {X : Cx} {cc : ByteArray} {own : String} {K : Kt} {fr lo : Nat} {w : va_W} {pc : Nat} {loc : List (Option Value)} {st : List Value} (B : Bs X cc own K fr lo) {y : MethodName} {cc2 : ByteArray} {nL2 : Nat} {fr2 lo2 i : Nat} {av : List Value} {w' : va_W} {stk : List Value} {q0 ci b N : Nat} {T : u_T} {fs : List Value} (hM : CtV X.l y cc2 nL2 none fr2 lo2 X.D K (.ref b :: av) w w') (F : FcV y cc2 nL2 none av.length) (hlk : Cond.methodLink own i y ∈ lw_T) (he : w[q0]? = some (b, .inr (ci, fs))) (hc : vwCl[ci]? = some (y.cls, T, N)) (h1 : fr2 + 1 ≤ fr) (h2 : 8 + (nL2 + 11) + lo2 ≤ lo) (hst : (st.map fun v => v.category).sum ≤ 8) (hd : decode cc pc = .ok (.invokevirtual i, 3)) (hk : av.reverse ++ .ref b :: st = stk) (k : MW X w' (pc + 3) loc (st)) : MW X w pc loc stk := by
  obtain ⟨⟨p, l, e, R, s, m⟩, ⟨args, below, meth, c⟩, ⟨nL, cells, slots, A, D, Q⟩⟩ := X
  obtain ⟨hx, hb, hml, hown, hts, hK, hN, hA, hfr, hlo, hce, hsl⟩ := B
  intro H locs ls hP hD hS hl
  subst hk
  exact va_callv (va_runV (As := av) (rest := st) ⟨hx, hb, hml, hown, hts⟩ (hM H.size) ⟨callB_of av.length hts (lw_Gc F.1) rfl rfl rfl (hts _ F.2.2.2.1) (hts _ hlk) F.2.2.2.2 ⟨Nat.le_trans h1 hfr, Nat.le_trans h2 hlo⟩, hts _ F.2.1, hts _ F.2.2.1⟩ ⟨PrW.blind, va_recv hK hP hc he, fun U hU hW => ⟨rfl, by rw [hU], by rw [hU]; exact hP, va_K.moved hW.alike hK, hD.weaken (fun _ _ _ _ => trivial), hN.warm hW⟩⟩ rfl rfl hl.1 rfl (lv_room hst) hd ⟨hce, hsl⟩) hS (fun q _ h => va_Afree hD hS hA q h) (fun q h => va_Afree hD hS hA q h) (fun u t H1 locs1 ht hvm hw hB hz1 hk1 hS1 => by
    obtain ⟨hP1, hK1, hD1⟩ := hB
    rw [ht] at hP1
    exact k H1 locs1 ls hP1 (hD1.weaken (fun _ q _ h => va_Afree hD hS hA q.1 h)) hS1 hl)
theorem e_p {X : Cx} {F : St → va_W} {pc : Nat} {loc : List (Option Value)} {v r : Int32} {σ τ : St} (hf : some (v, σ) = some (r, τ)) (k : MW X (F τ) pc loc [.int r]) : MW X (F σ) pc loc [.int v] := by
  cases hf; exact k
theorem e_s {X : Cx} {F : St → va_W} {pc : Nat} {loc : List (Option Value)} {σ τ : St} (hf : some σ = some τ) (k : MW X (F τ) pc loc []) : MW X (F σ) pc loc [] := by
  cases hf; exact k
theorem e_r {X : Cx} {w : va_W} {pc : Nat} {loc : List (Option Value)} {v r : Int32} (hf : some v = some r) (k : MW X w pc loc [.int r]) : MW X w pc loc [.int v] := by
  cases hf; exact k
theorem e_t {X : Cx} {w : va_W} {pc : Nat} {loc : List (Option Value)} {v r : Int32} (hf : v = r) (k : MW X w pc loc [.int r]) : MW X w pc loc [.int v] := hf ▸ k
theorem e_rl {X : Cx} {w : va_W} {pc : Nat} {loc : List (Option Value)} {v r : Int64} (hf : some v = some r) (k : MW X w pc loc [.long r]) : MW X w pc loc [.long v] := by
  cases hf; exact k
theorem e_tl {X : Cx} {w : va_W} {pc : Nat} {loc : List (Option Value)} {v r : Int64} (hf : v = r) (k : MW X w pc loc [.long r]) : MW X w pc loc [.long v] := hf ▸ k
