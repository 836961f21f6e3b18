/-! THE CLAIM OUT OF ONE WALK OF THE LAW'S BODY. Your part is whole_start (and what it stands on); all else here is the same for every law, but numbers. -/
def R_law : String := "GraveNewsLaw"
def lw_P (b : Addr) (xs : List Int32) (args : Array Value) (s : State) : Prop := args = #[.ref b] ∧ s.IntsAt b xs ∧ xs.length ≤ 384 ∧ (Jvm.Cond.and given_1 narrow_1).before args s = true
def lw_Q (_ : Array Value) (s : State) (o : Outcome) (t : State) : Prop := o = .returned (some (.int 1)) ∧ Framed s o t [] 600000 7302250
def lw_Z (below : List Frame) (a : Array Value) (s : State) : State → Prop := fun t => ∃ o, t.status = .running ∧ Ended t below o ∧ lw_Q a s o t
/-- the law's own end, with 1 on the stack, nothing written that was there before, its room as the claim has it -/
theorem lw_ret {p : Program} {l : Launch} {e : Env} {s : State} {m : MethodId} {below : List Frame} {meth : Method} {c : Code} {b : Nat} (hx : p.tables.exec = Jvm.exec) (hb : c.code = code) (hr : meth.sig.returnType = ret) (hlocks : meth.locks = false) {pc : Nat} {H : Heap} {ls : Array Slot} (hdg : decode code pc = .ok (.ireturn, 1)) : W p l e room_1 s m #[Value.ref b] below meth c H [] 600000 7302250 (lw_Z below #[Value.ref b] s) (F0 m pc ls [.int 1]) := by
  intro T hT X
  obtain ⟨fs, hret, hrun, hended, hW, hframe⟩ := X.leave (v := some (.int 1)) (hlocks := hlocks) (fun h => by rw [hr] at h; cases h)
  have hmeth' : T.vm.method? m = some meth := X.method'
  refine ⟨T.setFrames fs, ?_, .returned (some (.int 1)), hrun, hended, rfl, ⟨_, rfl⟩, hW, hframe⟩
  jvm_step X.here [X.here.top, hx, hb, hdg, hmeth', hr, ret, narrow_b1]
  (try refine ⟨rfl, ?_⟩); (try refine ⟨rfl, ?_⟩)
  first | (intro acts; rw [hret _ acts rfl rfl rfl]) | rw [hret _ _ rfl rfl rfl]
  exact Steps.refl _
/-- what holds at the law's entry: the machine, the code, the tables' words (any of lw_tbl by 'hts w (by decide +kernel)'), the script of L ints xs at the cell b, what the Statement gives of the start (any of its parts by flat_of_before) -/
def lw_At (p : Program) (s : State) (m : MethodId) (meth : Method) (c : Code) (b L : Nat) (xs : Nat → Int32) : Prop :=
  p.tables.exec = Jvm.exec ∧ c.code = code ∧ meth.sig.returnType = ret ∧ c.maxLocals = 4 ∧ s.vm.findClass R_law = some m.cls ∧ (∀ w ∈ lw_tbl, w.before #[Value.ref b] s = true) ∧ va_X b L xs s s.heap ∧ b < s.heap.size ∧ meth.locks = false ∧ (Jvm.Cond.and given_1 narrow_1).before #[Value.ref b] s = true

theorem r_cL {X : Cx} {cc : ByteArray} {own : String} {K : Kt} {fr lo : Nat} {wa wb wa' : va_W} {pc : Nat} {loc : List (Option Value)} {st stk : List Value} (B : Bs X cc own K fr lo) {y : MethodName} {cc2 : ByteArray} {nL2 : Nat} {ty : FieldType} {fr2 lo2 i : Nat} {av : List Value} {r : Int32} {q0 ci b N : Nat} {T : u_T} {fs : List Value} (hM : CtI X.l y cc2 nL2 (some ty) fr2 lo2 X.D K (.ref b :: av) wa r wa') (F : FcV y cc2 nL2 (some ty) av.length) (hlk : Cond.methodLink own i y ∈ lw_T) (he : wa[q0]? = some (b, .inr (ci, fs))) (hc : vwCl[ci]? = some (y.cls, T, N)) (h1 : fr2 + 1 ≤ fr) (h2 : 8 + (nL2 + 11) + lo2 ≤ lo) (hst : (st.map fun v => v.category).sum ≤ 8) (hd : decode cc pc = .ok (.invokevirtual i, 3)) (hk : av.reverse ++ .ref b :: st = stk) (k : MW X (wa' ++ wb) (pc + 3) loc (.int r :: st)) : MW X (wa ++ wb) pc loc stk := by
  obtain ⟨⟨p, l, e, R, s, m⟩, ⟨args, below, meth, c⟩, ⟨nL, cells, slots, A, D, Q⟩⟩ := X
  obtain ⟨hx, hb, hml, hown, hts, hK, hN, hA, hfr, hlo, hce, hsl⟩ := B
  intro H locs ls hP hD hS hl
  subst hk
  obtain ⟨hPa, hPb, hDa, hDb, hap⟩ := w_split hP hD
  have hF := va_Afree hDa hS hA
  exact va_calli (va_runV (As := av) (rest := st) ⟨hx, hb, hml, hown, hts⟩ (hM H.size) ⟨callB_of av.length hts (lw_Gc F.1) rfl rfl rfl (hts _ F.2.2.2.1) (hts _ hlk) F.2.2.2.2 ⟨Nat.le_trans h1 hfr, Nat.le_trans h2 hlo⟩, hts _ F.2.1, hts _ F.2.2.1⟩ ⟨PrW.blind, va_recv hK hPa hc he, fun U hU hW => ⟨rfl, by rw [hU], by rw [hU]; exact hPa, va_K.moved hW.alike hK, hDa.weaken (fun _ _ _ _ => trivial), hN.warm hW⟩⟩ rfl rfl hl.1 rfl (lv_room hst) hd ⟨hce, hsl⟩) hS (fun q _ h => hF q h) (fun q h => hF q h) (fun r0 u t H1 locs1 ht hvm hw hB hz1 hk1 hS1 => by
    have hw : r0 = r := hw
    subst hw
    obtain ⟨hP1, hK1, hD1⟩ := hB
    rw [ht] at hP1
    obtain ⟨g1, g2⟩ := w_rest (A0 := A) hPb (fun i j p q hi hj e => hap j i q p hj hi e.symm) hk1 hD1
    exact k H1 locs1 ls (hP1.app g1) (va_D.app (hD1.weaken (fun _ q _ h => hF q.1 h)) hDb (fun i j p q hi hj e => g2 j i q p hj hi e.symm)) hS1 hl)
theorem r_cR {X : Cx} {cc : ByteArray} {own : String} {K : Kt} {fr lo : Nat} {wa wb wb' : va_W} {pc : Nat} {loc : List (Option Value)} {st stk : List Value} (B : Bs X cc own K fr lo) {y : MethodName} {cc2 : ByteArray} {nL2 : Nat} {ty : FieldType} {fr2 lo2 i : Nat} {av : List Value} {r : Int32} {q0 ci b N : Nat} {T : u_T} {fs : List Value} (hM : CtI X.l y cc2 nL2 (some ty) fr2 lo2 X.D K (.ref b :: av) wb r wb') (F : FcV y cc2 nL2 (some ty) av.length) (hlk : Cond.methodLink own i y ∈ lw_T) (he : wb[q0]? = some (b, .inr (ci, fs))) (hc : vwCl[ci]? = some (y.cls, T, N)) (h1 : fr2 + 1 ≤ fr) (h2 : 8 + (nL2 + 11) + lo2 ≤ lo) (hst : (st.map fun v => v.category).sum ≤ 8) (hd : decode cc pc = .ok (.invokevirtual i, 3)) (hk : av.reverse ++ .ref b :: st = stk) (k : MW X (wa ++ wb') (pc + 3) loc (.int r :: st)) : MW X (wa ++ wb) pc loc stk := by
  obtain ⟨⟨p, l, e, R, s, m⟩, ⟨args, below, meth, c⟩, ⟨nL, cells, slots, A, D, Q⟩⟩ := X
  obtain ⟨hx, hb, hml, hown, hts, hK, hN, hA, hfr, hlo, hce, hsl⟩ := B
  intro H locs ls hP hD hS hl
  subst hk
  obtain ⟨hPa, hPb, hDa, hDb, hap⟩ := w_split hP hD
  have hF := va_Afree hDb hS hA
  exact va_calli (va_runV (As := av) (rest := st) ⟨hx, hb, hml, hown, hts⟩ (hM H.size) ⟨callB_of av.length hts (lw_Gc F.1) rfl rfl rfl (hts _ F.2.2.2.1) (hts _ hlk) F.2.2.2.2 ⟨Nat.le_trans h1 hfr, Nat.le_trans h2 hlo⟩, hts _ F.2.1, hts _ F.2.2.1⟩ ⟨PrW.blind, va_recv hK hPb hc he, fun U hU hW => ⟨rfl, by rw [hU], by rw [hU]; exact hPb, va_K.moved hW.alike hK, hDb.weaken (fun _ _ _ _ => trivial), hN.warm hW⟩⟩ rfl rfl hl.1 rfl (lv_room hst) hd ⟨hce, hsl⟩) hS (fun q _ h => hF q h) (fun q h => hF q h) (fun r0 u t H1 locs1 ht hvm hw hB hz1 hk1 hS1 => by
    have hw : r0 = r := hw
    subst hw
    obtain ⟨hP1, hK1, hD1⟩ := hB
    rw [ht] at hP1
    obtain ⟨g1, g2⟩ := w_rest (A0 := A) hPa hap hk1 hD1
    exact k H1 locs1 ls (g1.app hP1) (va_D.app hDa (hD1.weaken (fun _ q _ h => hF q.1 h)) g2) hS1 hl)
theorem r_cLl {X : Cx} {cc : ByteArray} {own : String} {K : Kt} {fr lo : Nat} {wa wb wa' : va_W} {pc : Nat} {loc : List (Option Value)} {st stk : List Value} (B : Bs X cc own K fr lo) {y : MethodName} {cc2 : ByteArray} {nL2 : Nat} {fr2 lo2 i : Nat} {av : List Value} {r : Int64} {q0 ci b N : Nat} {T : u_T} {fs : List Value} (hM : CtL X.l y cc2 nL2 (some .long) fr2 lo2 X.D K (.ref b :: av) wa r wa') (F : FcV y cc2 nL2 (some .long) av.length) (hlk : Cond.methodLink own i y ∈ lw_T) (he : wa[q0]? = some (b, .inr (ci, fs))) (hc : vwCl[ci]? = some (y.cls, T, N)) (h1 : fr2 + 1 ≤ fr) (h2 : 8 + (nL2 + 11) + lo2 ≤ lo) (hst : (st.map fun v => v.category).sum ≤ 8) (hd : decode cc pc = .ok (.invokevirtual i, 3)) (hk : av.reverse ++ .ref b :: st = stk) (k : MW X (wa' ++ wb) (pc + 3) loc (.long r :: st)) : MW X (wa ++ wb) pc loc stk := by
  obtain ⟨⟨p, l, e, R, s, m⟩, ⟨args, below, meth, c⟩, ⟨nL, cells, slots, A, D, Q⟩⟩ := X
  obtain ⟨hx, hb, hml, hown, hts, hK, hN, hA, hfr, hlo, hce, hsl⟩ := B
  intro H locs ls hP hD hS hl
  subst hk
  obtain ⟨hPa, hPb, hDa, hDb, hap⟩ := w_split hP hD
  have hF := va_Afree hDa hS hA
  exact va_calll (va_runV (As := av) (rest := st) ⟨hx, hb, hml, hown, hts⟩ (hM H.size) ⟨callB_of av.length hts (lw_Gc F.1) rfl rfl rfl (hts _ F.2.2.2.1) (hts _ hlk) F.2.2.2.2 ⟨Nat.le_trans h1 hfr, Nat.le_trans h2 hlo⟩, hts _ F.2.1, hts _ F.2.2.1⟩ ⟨PrW.blind, va_recv hK hPa hc he, fun U hU hW => ⟨rfl, by rw [hU], by rw [hU]; exact hPa, va_K.moved hW.alike hK, hDa.weaken (fun _ _ _ _ => trivial), hN.warm hW⟩⟩ rfl rfl hl.1 rfl (lv_room hst) hd ⟨hce, hsl⟩) hS (fun q _ h => hF q h) (fun q h => hF q h) (fun r0 u t H1 locs1 ht hvm hw hB hz1 hk1 hS1 => by
    have hw : r0 = r := hw
    subst hw
    obtain ⟨hP1, hK1, hD1⟩ := hB
    rw [ht] at hP1
    obtain ⟨g1, g2⟩ := w_rest (A0 := A) hPb (fun i j p q hi hj e => hap j i q p hj hi e.symm) hk1 hD1
    exact k H1 locs1 ls (hP1.app g1) (va_D.app (hD1.weaken (fun _ q _ h => hF q.1 h)) hDb (fun i j p q hi hj e => g2 j i q p hj hi e.symm)) hS1 hl)
theorem r_cRl {X : Cx} {cc : ByteArray} {own : String} {K : Kt} {fr lo : Nat} {wa wb wb' : va_W} {pc : Nat} {loc : List (Option Value)} {st stk : List Value} (B : Bs X cc own K fr lo) {y : MethodName} {cc2 : ByteArray} {nL2 : Nat} {fr2 lo2 i : Nat} {av : List Value} {r : Int64} {q0 ci b N : Nat} {T : u_T} {fs : List Value} (hM : CtL X.l y cc2 nL2 (some .long) fr2 lo2 X.D K (.ref b :: av) wb r wb') (F : FcV y cc2 nL2 (some .long) av.length) (hlk : Cond.methodLink own i y ∈ lw_T) (he : wb[q0]? = some (b, .inr (ci, fs))) (hc : vwCl[ci]? = some (y.cls, T, N)) (h1 : fr2 + 1 ≤ fr) (h2 : 8 + (nL2 + 11) + lo2 ≤ lo) (hst : (st.map fun v => v.category).sum ≤ 8) (hd : decode cc pc = .ok (.invokevirtual i, 3)) (hk : av.reverse ++ .ref b :: st = stk) (k : MW X (wa ++ wb') (pc + 3) loc (.long r :: st)) : MW X (wa ++ wb) pc loc stk := by
  obtain ⟨⟨p, l, e, R, s, m⟩, ⟨args, below, meth, c⟩, ⟨nL, cells, slots, A, D, Q⟩⟩ := X
  obtain ⟨hx, hb, hml, hown, hts, hK, hN, hA, hfr, hlo, hce, hsl⟩ := B
  intro H locs ls hP hD hS hl
  subst hk
  obtain ⟨hPa, hPb, hDa, hDb, hap⟩ := w_split hP hD
  have hF := va_Afree hDb hS hA
  exact va_calll (va_runV (As := av) (rest := st) ⟨hx, hb, hml, hown, hts⟩ (hM H.size) ⟨callB_of av.length hts (lw_Gc F.1) rfl rfl rfl (hts _ F.2.2.2.1) (hts _ hlk) F.2.2.2.2 ⟨Nat.le_trans h1 hfr, Nat.le_trans h2 hlo⟩, hts _ F.2.1, hts _ F.2.2.1⟩ ⟨PrW.blind, va_recv hK hPb hc he, fun U hU hW => ⟨rfl, by rw [hU], by rw [hU]; exact hPb, va_K.moved hW.alike hK, hDb.weaken (fun _ _ _ _ => trivial), hN.warm hW⟩⟩ rfl rfl hl.1 rfl (lv_room hst) hd ⟨hce, hsl⟩) hS (fun q _ h => hF q h) (fun q h => hF q h) (fun r0 u t H1 locs1 ht hvm hw hB hz1 hk1 hS1 => by
    have hw : r0 = r := hw
    subst hw
    obtain ⟨hP1, hK1, hD1⟩ := hB
    rw [ht] at hP1
    obtain ⟨g1, g2⟩ := w_rest (A0 := A) hPa hap hk1 hD1
    exact k H1 locs1 ls (g1.app hP1) (va_D.app hDa (hD1.weaken (fun _ q _ h => hF q.1 h)) g2) hS1 hl)
theorem r_cLO {X : Cx} {cc : ByteArray} {own : String} {K : Kt} {fr lo : Nat} {wa wb : va_W} {pc : Nat} {loc : List (Option Value)} {st stk : List Value} (B : Bs X cc own K fr lo) {y : MethodName} {cc2 : ByteArray} {nL2 fr2 lo2 i : Nat} {ad : Nat → Nat} {av : List Value} {r : Int32} {nw' : Nat} {σ' : St} {q0 ci b N : Nat} {T : u_T} {fs : List Value} (hM : CtO X.l y cc2 nL2 fr2 lo2 X.D K ad (.ref b :: av) wa r nw' σ') (F : FcV y cc2 nL2 (some .int) av.length) (hlk : Cond.methodLink own i y ∈ lw_T) (he : wa[q0]? = some (b, .inr (ci, fs))) (hc : vwCl[ci]? = some (y.cls, T, N)) (hR : Rm X 1 4096) (h1 : fr2 + 1 ≤ fr) (h2 : 8 + (nL2 + 11) + lo2 ≤ lo) (hst : (st.map fun v => v.category).sum ≤ 8) (hd : decode cc pc = .ok (.invokevirtual i, 3)) (hk : av.reverse ++ .ref b :: st = stk) (k : ∀ ad' : Nat → Nat, ad' 0 = ad 0 → MW (X.up 1 4096) (wC ad' K nw' σ' ++ wb) (pc + 3) loc (.int r :: st)) : MW X (wa ++ wb) pc loc stk := by
  obtain ⟨⟨p, l, e, R, s, m⟩, ⟨args, below, meth, c⟩, ⟨nL, cells, slots, A, D, Q⟩⟩ := X
  obtain ⟨hx, hb, hml, hown, hts, hK, hN, hA, hfr, hlo, hce, hsl⟩ := B
  intro H locs ls hP hD hS hl
  subst hk
  obtain ⟨hPa, hPb, hDa, hDb, hap⟩ := w_split hP hD
  have hF := va_Afree hDa hS hA
  exact va_calli (va_runV (As := av) (rest := st) ⟨hx, hb, hml, hown, hts⟩ (hM H.size) ⟨callB_of av.length hts (lw_Gc F.1) rfl rfl rfl (hts _ F.2.2.2.1) (hts _ hlk) F.2.2.2.2 ⟨Nat.le_trans h1 hfr, Nat.le_trans h2 hlo⟩, hts _ F.2.1, hts _ F.2.2.1⟩ ⟨PrW.blind, va_recv hK hPa hc he, fun U hU hW => ⟨rfl, by rw [hU], by rw [hU]; exact hPa, va_K.moved hW.alike hK, hDa.weaken (fun _ _ _ _ => trivial), hN.warm hW⟩⟩ rfl rfl hl.1 rfl (lv_room hst) hd ⟨hR.1, hR.2⟩) hS (fun q _ h => hF q h) (fun q h => hF q h) (fun r0 ad' t H1 locs1 ht hvm hw hB hz1 hk1 hS1 => by
    obtain ⟨rfl, hq⟩ := hw
    obtain ⟨hP1, hK1, hD1⟩ := hB
    rw [ht] at hP1
    obtain ⟨g1, g2⟩ := w_rest (A0 := A) hPb (fun i j p q hi hj e => hap j i q p hj hi e.symm) hk1 hD1
    exact k ad' hq H1 locs1 ls (hP1.app g1) (va_D.app (hD1.weaken (fun _ q _ h => hF q.1 h)) hDb (fun i j p q hi hj e => g2 j i q p hj hi e.symm)) hS1 hl)
def Sc (X : Cx) (b L : Nat) (xs : Nat → Int32) : Prop := match X with
  | ((p, l, e, R, s, m), (args, below, meth, c), (nL, cells, slots, A, D, Q)) => va_X b L xs s s.heap ∧ b < s.heap.size ∧ ¬ A b
theorem Sc.up {X : Cx} {b L : Nat} {xs : Nat → Int32} {u v : Nat} (h : Sc X b L xs) : Sc (X.up u v) b L xs := by
  obtain ⟨⟨p, l, e, R, s, m⟩, ⟨args, below, meth, c⟩, ⟨nL, cells, slots, A, D, Q⟩⟩ := X
  exact h
theorem r_sld {X : Cx} {cc : ByteArray} {own : String} {K : Kt} {fr lo : Nat} {w : va_W} {pc : Nat} {loc : List (Option Value)} {st : List Value} (B : Bs X cc own K fr lo) {b L : Nat} {xs : Nat → Int32} (S : Sc X b L xs) {i : Int32} (hin : ¬ (i < 0 ∨ L ≤ ix i)) (hd : decode cc pc = .ok (.iaload, 1)) (k : MW X w (pc + 1) loc (.int (xs (ix i)) :: st)) : MW X w pc loc (.int i :: .ref b :: st) := by
  obtain ⟨⟨p, l, e, R, s, m⟩, ⟨args, below, meth, c⟩, ⟨nL, cells, slots, A, D, Q⟩⟩ := X
  obtain ⟨hx, hb, hml, hown, hts, hK, hN, hA, hfr, hlo, hce, hsl⟩ := B
  intro H locs ls hP hD hS hl
  exact va_sld hx hb S.1 S.2.1 S.2.2 hS hin hd (k H locs ls hP hD hS hl)
theorem r_slen {X : Cx} {cc : ByteArray} {own : String} {K : Kt} {fr lo : Nat} {w : va_W} {pc : Nat} {loc : List (Option Value)} {st : List Value} (B : Bs X cc own K fr lo) {b L : Nat} {xs : Nat → Int32} (S : Sc X b L xs) (hd : decode cc pc = .ok (.arraylength, 1)) (k : MW X w (pc + 1) loc (.int (Int32.ofNat L) :: st)) : MW X w pc loc (.ref b :: st) := by
  obtain ⟨⟨p, l, e, R, s, m⟩, ⟨args, below, meth, c⟩, ⟨nL, cells, slots, A, D, Q⟩⟩ := X
  obtain ⟨hx, hb, hml, hown, hts, hK, hN, hA, hfr, hlo, hce, hsl⟩ := B
  intro H locs ls hP hD hS hl
  exact va_slen hx hb S.1 S.2.1 S.2.2 hS hd (k H locs ls hP hD hS hl)
theorem lg_self (x : Int64) : lg_cmp x x = 0 := by simp [lg_cmp]
theorem F_X6_grave : FcV yX6_grave cX6_grave 4 (some .int) 3 := ⟨lw_Tm (tm2 (List.mem_of_getElem? (i := 26) rfl)) rfl, lw_Tm (tm2 (List.mem_of_getElem? (i := 24) (by decide +kernel))) rfl, lw_Tm (tm2 (List.mem_of_getElem? (i := 25) (by decide +kernel))) rfl, lw_Tm (tm1 (List.mem_of_getElem? (i := 1) (by decide +kernel))) rfl, by decide +kernel, by decide +kernel, by decide +kernel⟩
theorem lk_RL_13 : Cond.methodLink RL 13 yX6_grave ∈ lw_T := lw_Tm (tm2 (List.mem_of_getElem? (i := 23) (by decide +kernel))) rfl
theorem F_X7_grave : FcV yX7_grave cX7_grave 4 (some .int) 3 := ⟨lw_Tm (tm4 (List.mem_of_getElem? (i := 184) rfl)) rfl, lw_Tm (tm4 (List.mem_of_getElem? (i := 182) (by decide +kernel))) rfl, lw_Tm (tm4 (List.mem_of_getElem? (i := 183) (by decide +kernel))) rfl, lw_Tm (tm1 (List.mem_of_getElem? (i := 8) (by decide +kernel))) rfl, by decide +kernel, by decide +kernel, by decide +kernel⟩
theorem lk_RL_17 : Cond.methodLink RL 17 yX7_grave ∈ lw_T := lw_Tm (tm4 (List.mem_of_getElem? (i := 181) (by decide +kernel))) rfl
theorem F_X6_out : FcV yX6_out cX6_out 1 (some .int) 0 := ⟨lw_Tm (tm2 (List.mem_of_getElem? (i := 38) rfl)) rfl, lw_Tm (tm2 (List.mem_of_getElem? (i := 36) (by decide +kernel))) rfl, lw_Tm (tm2 (List.mem_of_getElem? (i := 37) (by decide +kernel))) rfl, lw_Tm (tm1 (List.mem_of_getElem? (i := 1) (by decide +kernel))) rfl, by decide +kernel, by decide +kernel, by decide +kernel⟩
theorem lk_RL_18 : Cond.methodLink RL 18 yX6_out ∈ lw_T := lw_Tm (tm2 (List.mem_of_getElem? (i := 35) (by decide +kernel))) rfl
theorem F_X7_out : FcV yX7_out cX7_out 1 (some .int) 0 := ⟨lw_Tm (tm4 (List.mem_of_getElem? (i := 201) rfl)) rfl, lw_Tm (tm4 (List.mem_of_getElem? (i := 199) (by decide +kernel))) rfl, lw_Tm (tm4 (List.mem_of_getElem? (i := 200) (by decide +kernel))) rfl, lw_Tm (tm1 (List.mem_of_getElem? (i := 8) (by decide +kernel))) rfl, by decide +kernel, by decide +kernel, by decide +kernel⟩
theorem lk_RL_22 : Cond.methodLink RL 22 yX7_out ∈ lw_T := lw_Tm (tm4 (List.mem_of_getElem? (i := 198) (by decide +kernel))) rfl
theorem F_X6_reader : FcV yX6_reader cX6_reader 2 (some .int) 1 := ⟨lw_Tm (tm2 (List.mem_of_getElem? (i := 42) rfl)) rfl, lw_Tm (tm2 (List.mem_of_getElem? (i := 40) (by decide +kernel))) rfl, lw_Tm (tm2 (List.mem_of_getElem? (i := 41) (by decide +kernel))) rfl, lw_Tm (tm1 (List.mem_of_getElem? (i := 1) (by decide +kernel))) rfl, by decide +kernel, by decide +kernel, by decide +kernel⟩
theorem lk_RL_23 : Cond.methodLink RL 23 yX6_reader ∈ lw_T := lw_Tm (tm2 (List.mem_of_getElem? (i := 39) (by decide +kernel))) rfl
theorem F_X7_reader : FcV yX7_reader cX7_reader 2 (some .int) 1 := ⟨lw_Tm (tm4 (List.mem_of_getElem? (i := 205) rfl)) rfl, lw_Tm (tm4 (List.mem_of_getElem? (i := 203) (by decide +kernel))) rfl, lw_Tm (tm4 (List.mem_of_getElem? (i := 204) (by decide +kernel))) rfl, lw_Tm (tm1 (List.mem_of_getElem? (i := 8) (by decide +kernel))) rfl, by decide +kernel, by decide +kernel, by decide +kernel⟩
theorem lk_RL_27 : Cond.methodLink RL 27 yX7_reader ∈ lw_T := lw_Tm (tm4 (List.mem_of_getElem? (i := 202) (by decide +kernel))) rfl
theorem F_X6_news : FcV yX6_news cX6_news 4 (some .int) 3 := ⟨lw_Tm (tm2 (List.mem_of_getElem? (i := 46) rfl)) rfl, lw_Tm (tm2 (List.mem_of_getElem? (i := 44) (by decide +kernel))) rfl, lw_Tm (tm2 (List.mem_of_getElem? (i := 45) (by decide +kernel))) rfl, lw_Tm (tm1 (List.mem_of_getElem? (i := 1) (by decide +kernel))) rfl, by decide +kernel, by decide +kernel, by decide +kernel⟩
theorem lk_RL_28 : Cond.methodLink RL 28 yX6_news ∈ lw_T := lw_Tm (tm2 (List.mem_of_getElem? (i := 43) (by decide +kernel))) rfl
theorem F_X7_news : FcV yX7_news cX7_news 4 (some .int) 3 := ⟨lw_Tm (tm4 (List.mem_of_getElem? (i := 210) rfl)) rfl, lw_Tm (tm4 (List.mem_of_getElem? (i := 208) (by decide +kernel))) rfl, lw_Tm (tm4 (List.mem_of_getElem? (i := 209) (by decide +kernel))) rfl, lw_Tm (tm1 (List.mem_of_getElem? (i := 8) (by decide +kernel))) rfl, by decide +kernel, by decide +kernel, by decide +kernel⟩
theorem lk_RL_31 : Cond.methodLink RL 31 yX7_news ∈ lw_T := lw_Tm (tm4 (List.mem_of_getElem? (i := 207) (by decide +kernel))) rfl
theorem F_X6_bar : FcV yX6_bar cX6_bar 4 (some .int) 2 := ⟨lw_Tm (tm2 (List.mem_of_getElem? (i := 65) rfl)) rfl, lw_Tm (tm2 (List.mem_of_getElem? (i := 63) (by decide +kernel))) rfl, lw_Tm (tm2 (List.mem_of_getElem? (i := 64) (by decide +kernel))) rfl, lw_Tm (tm1 (List.mem_of_getElem? (i := 1) (by decide +kernel))) rfl, by decide +kernel, by decide +kernel, by decide +kernel⟩
theorem lk_RL_32 : Cond.methodLink RL 32 yX6_bar ∈ lw_T := lw_Tm (tm2 (List.mem_of_getElem? (i := 62) (by decide +kernel))) rfl
theorem F_X7_bar : FcV yX7_bar cX7_bar 4 (some .int) 2 := ⟨lw_Tm (tm4 (List.mem_of_getElem? (i := 223) rfl)) rfl, lw_Tm (tm4 (List.mem_of_getElem? (i := 221) (by decide +kernel))) rfl, lw_Tm (tm4 (List.mem_of_getElem? (i := 222) (by decide +kernel))) rfl, lw_Tm (tm1 (List.mem_of_getElem? (i := 8) (by decide +kernel))) rfl, by decide +kernel, by decide +kernel, by decide +kernel⟩
theorem lk_RL_36 : Cond.methodLink RL 36 yX7_bar ∈ lw_T := lw_Tm (tm4 (List.mem_of_getElem? (i := 220) (by decide +kernel))) rfl
theorem F_X6_wind : FcV yX6_wind cX6_wind 3 (some .int) 1 := ⟨lw_Tm (tm2 (List.mem_of_getElem? (i := 73) rfl)) rfl, lw_Tm (tm2 (List.mem_of_getElem? (i := 71) (by decide +kernel))) rfl, lw_Tm (tm2 (List.mem_of_getElem? (i := 72) (by decide +kernel))) rfl, lw_Tm (tm1 (List.mem_of_getElem? (i := 1) (by decide +kernel))) rfl, by decide +kernel, by decide +kernel, by decide +kernel⟩
theorem lk_RL_37 : Cond.methodLink RL 37 yX6_wind ∈ lw_T := lw_Tm (tm2 (List.mem_of_getElem? (i := 70) (by decide +kernel))) rfl
theorem F_X7_wind : FcV yX7_wind cX7_wind 3 (some .int) 1 := ⟨lw_Tm (tm4 (List.mem_of_getElem? (i := 232) rfl)) rfl, lw_Tm (tm4 (List.mem_of_getElem? (i := 230) (by decide +kernel))) rfl, lw_Tm (tm4 (List.mem_of_getElem? (i := 231) (by decide +kernel))) rfl, lw_Tm (tm1 (List.mem_of_getElem? (i := 8) (by decide +kernel))) rfl, by decide +kernel, by decide +kernel, by decide +kernel⟩
theorem lk_RL_40 : Cond.methodLink RL 40 yX7_wind ∈ lw_T := lw_Tm (tm4 (List.mem_of_getElem? (i := 229) (by decide +kernel))) rfl
theorem F_X6_weight : FcV yX6_weight cX6_weight 4 (some .int) 2 := ⟨lw_Tm (tm2 (List.mem_of_getElem? (i := 80) rfl)) rfl, lw_Tm (tm2 (List.mem_of_getElem? (i := 78) (by decide +kernel))) rfl, lw_Tm (tm2 (List.mem_of_getElem? (i := 79) (by decide +kernel))) rfl, lw_Tm (tm1 (List.mem_of_getElem? (i := 1) (by decide +kernel))) rfl, by decide +kernel, by decide +kernel, by decide +kernel⟩
theorem lk_RL_41 : Cond.methodLink RL 41 yX6_weight ∈ lw_T := lw_Tm (tm2 (List.mem_of_getElem? (i := 77) (by decide +kernel))) rfl
theorem F_X7_weight : FcV yX7_weight cX7_weight 4 (some .int) 2 := ⟨lw_Tm (tm4 (List.mem_of_getElem? (i := 237) rfl)) rfl, lw_Tm (tm4 (List.mem_of_getElem? (i := 235) (by decide +kernel))) rfl, lw_Tm (tm4 (List.mem_of_getElem? (i := 236) (by decide +kernel))) rfl, lw_Tm (tm1 (List.mem_of_getElem? (i := 8) (by decide +kernel))) rfl, by decide +kernel, by decide +kernel, by decide +kernel⟩
theorem lk_RL_44 : Cond.methodLink RL 44 yX7_weight ∈ lw_T := lw_Tm (tm4 (List.mem_of_getElem? (i := 234) (by decide +kernel))) rfl
theorem F_X6_now : FcV yX6_now cX6_now 3 (some .int) 1 := ⟨lw_Tm (tm2 (List.mem_of_getElem? (i := 84) rfl)) rfl, lw_Tm (tm2 (List.mem_of_getElem? (i := 82) (by decide +kernel))) rfl, lw_Tm (tm2 (List.mem_of_getElem? (i := 83) (by decide +kernel))) rfl, lw_Tm (tm1 (List.mem_of_getElem? (i := 1) (by decide +kernel))) rfl, by decide +kernel, by decide +kernel, by decide +kernel⟩
theorem lk_RL_45 : Cond.methodLink RL 45 yX6_now ∈ lw_T := lw_Tm (tm2 (List.mem_of_getElem? (i := 81) (by decide +kernel))) rfl
theorem F_X7_now : FcV yX7_now cX7_now 3 (some .int) 1 := ⟨lw_Tm (tm5 (List.mem_of_getElem? (i := 1) rfl)) rfl, lw_Tm (tm4 (List.mem_of_getElem? (i := 239) (by decide +kernel))) rfl, lw_Tm (tm5 (List.mem_of_getElem? (i := 0) (by decide +kernel))) rfl, lw_Tm (tm1 (List.mem_of_getElem? (i := 8) (by decide +kernel))) rfl, by decide +kernel, by decide +kernel, by decide +kernel⟩
theorem lk_RL_48 : Cond.methodLink RL 48 yX7_now ∈ lw_T := lw_Tm (tm4 (List.mem_of_getElem? (i := 238) (by decide +kernel))) rfl
theorem F_X6_told : FcV yX6_told cX6_told 3 (some .int) 2 := ⟨lw_Tm (tm2 (List.mem_of_getElem? (i := 88) rfl)) rfl, lw_Tm (tm2 (List.mem_of_getElem? (i := 86) (by decide +kernel))) rfl, lw_Tm (tm2 (List.mem_of_getElem? (i := 87) (by decide +kernel))) rfl, lw_Tm (tm1 (List.mem_of_getElem? (i := 1) (by decide +kernel))) rfl, by decide +kernel, by decide +kernel, by decide +kernel⟩
theorem lk_RL_49 : Cond.methodLink RL 49 yX6_told ∈ lw_T := lw_Tm (tm2 (List.mem_of_getElem? (i := 85) (by decide +kernel))) rfl
theorem F_X7_told : FcV yX7_told cX7_told 3 (some .int) 2 := ⟨lw_Tm (tm5 (List.mem_of_getElem? (i := 5) rfl)) rfl, lw_Tm (tm5 (List.mem_of_getElem? (i := 3) (by decide +kernel))) rfl, lw_Tm (tm5 (List.mem_of_getElem? (i := 4) (by decide +kernel))) rfl, lw_Tm (tm1 (List.mem_of_getElem? (i := 8) (by decide +kernel))) rfl, by decide +kernel, by decide +kernel, by decide +kernel⟩
theorem lk_RL_52 : Cond.methodLink RL 52 yX7_told ∈ lw_T := lw_Tm (tm5 (List.mem_of_getElem? (i := 2) (by decide +kernel))) rfl
theorem F_X6_of : FcV yX6_of cX6_of 3 (some .int) 2 := ⟨lw_Tm (tm2 (List.mem_of_getElem? (i := 118) rfl)) rfl, lw_Tm (tm2 (List.mem_of_getElem? (i := 116) (by decide +kernel))) rfl, lw_Tm (tm2 (List.mem_of_getElem? (i := 117) (by decide +kernel))) rfl, lw_Tm (tm1 (List.mem_of_getElem? (i := 1) (by decide +kernel))) rfl, by decide +kernel, by decide +kernel, by decide +kernel⟩
theorem lk_RL_53 : Cond.methodLink RL 53 yX6_of ∈ lw_T := lw_Tm (tm2 (List.mem_of_getElem? (i := 115) (by decide +kernel))) rfl
theorem F_X7_of : FcV yX7_of cX7_of 6 (some .int) 2 := ⟨lw_Tm (tm5 (List.mem_of_getElem? (i := 33) rfl)) rfl, lw_Tm (tm5 (List.mem_of_getElem? (i := 31) (by decide +kernel))) rfl, lw_Tm (tm5 (List.mem_of_getElem? (i := 32) (by decide +kernel))) rfl, lw_Tm (tm1 (List.mem_of_getElem? (i := 8) (by decide +kernel))) rfl, by decide +kernel, by decide +kernel, by decide +kernel⟩
theorem lk_RL_56 : Cond.methodLink RL 56 yX7_of ∈ lw_T := lw_Tm (tm5 (List.mem_of_getElem? (i := 30) (by decide +kernel))) rfl
theorem F_X6_type : FcV yX6_type cX6_type 2 (some .int) 1 := ⟨lw_Tm (tm2 (List.mem_of_getElem? (i := 130) rfl)) rfl, lw_Tm (tm2 (List.mem_of_getElem? (i := 128) (by decide +kernel))) rfl, lw_Tm (tm2 (List.mem_of_getElem? (i := 129) (by decide +kernel))) rfl, lw_Tm (tm1 (List.mem_of_getElem? (i := 1) (by decide +kernel))) rfl, by decide +kernel, by decide +kernel, by decide +kernel⟩
theorem lk_RL_57 : Cond.methodLink RL 57 yX6_type ∈ lw_T := lw_Tm (tm2 (List.mem_of_getElem? (i := 127) (by decide +kernel))) rfl
theorem F_X7_type : FcV yX7_type cX7_type 2 (some .int) 1 := ⟨lw_Tm (tm5 (List.mem_of_getElem? (i := 37) rfl)) rfl, lw_Tm (tm5 (List.mem_of_getElem? (i := 35) (by decide +kernel))) rfl, lw_Tm (tm5 (List.mem_of_getElem? (i := 36) (by decide +kernel))) rfl, lw_Tm (tm1 (List.mem_of_getElem? (i := 8) (by decide +kernel))) rfl, by decide +kernel, by decide +kernel, by decide +kernel⟩
theorem lk_RL_60 : Cond.methodLink RL 60 yX7_type ∈ lw_T := lw_Tm (tm5 (List.mem_of_getElem? (i := 34) (by decide +kernel))) rfl
theorem F_X6_yard : FcV yX6_yard cX6_yard 2 (some .int) 0 := ⟨lw_Tm (tm2 (List.mem_of_getElem? (i := 138) rfl)) rfl, lw_Tm (tm2 (List.mem_of_getElem? (i := 136) (by decide +kernel))) rfl, lw_Tm (tm2 (List.mem_of_getElem? (i := 137) (by decide +kernel))) rfl, lw_Tm (tm1 (List.mem_of_getElem? (i := 1) (by decide +kernel))) rfl, by decide +kernel, by decide +kernel, by decide +kernel⟩
theorem lk_RL_61 : Cond.methodLink RL 61 yX6_yard ∈ lw_T := lw_Tm (tm2 (List.mem_of_getElem? (i := 135) (by decide +kernel))) rfl
theorem F_X7_yard : FcV yX7_yard cX7_yard 3 (some .int) 0 := ⟨lw_Tm (tm5 (List.mem_of_getElem? (i := 43) rfl)) rfl, lw_Tm (tm5 (List.mem_of_getElem? (i := 41) (by decide +kernel))) rfl, lw_Tm (tm5 (List.mem_of_getElem? (i := 42) (by decide +kernel))) rfl, lw_Tm (tm1 (List.mem_of_getElem? (i := 8) (by decide +kernel))) rfl, by decide +kernel, by decide +kernel, by decide +kernel⟩
theorem lk_RL_64 : Cond.methodLink RL 64 yX7_yard ∈ lw_T := lw_Tm (tm5 (List.mem_of_getElem? (i := 40) (by decide +kernel))) rfl
theorem F_X6_paper : FcV yX6_paper cX6_paper 2 (some .int) 0 := ⟨lw_Tm (tm2 (List.mem_of_getElem? (i := 184) rfl)) rfl, lw_Tm (tm2 (List.mem_of_getElem? (i := 182) (by decide +kernel))) rfl, lw_Tm (tm2 (List.mem_of_getElem? (i := 183) (by decide +kernel))) rfl, lw_Tm (tm1 (List.mem_of_getElem? (i := 1) (by decide +kernel))) rfl, by decide +kernel, by decide +kernel, by decide +kernel⟩
theorem lk_RL_65 : Cond.methodLink RL 65 yX6_paper ∈ lw_T := lw_Tm (tm2 (List.mem_of_getElem? (i := 181) (by decide +kernel))) rfl
theorem F_X7_paper : FcV yX7_paper cX7_paper 3 (some .int) 0 := ⟨lw_Tm (tm5 (List.mem_of_getElem? (i := 106) rfl)) rfl, lw_Tm (tm5 (List.mem_of_getElem? (i := 104) (by decide +kernel))) rfl, lw_Tm (tm5 (List.mem_of_getElem? (i := 105) (by decide +kernel))) rfl, lw_Tm (tm1 (List.mem_of_getElem? (i := 8) (by decide +kernel))) rfl, by decide +kernel, by decide +kernel, by decide +kernel⟩
theorem lk_RL_68 : Cond.methodLink RL 68 yX7_paper ∈ lw_T := lw_Tm (tm5 (List.mem_of_getElem? (i := 103) (by decide +kernel))) rfl
theorem F_X6_day : FcV yX6_day cX6_day 5 (some .int) 0 := ⟨lw_Tm (tm2 (List.mem_of_getElem? (i := 222) rfl)) rfl, lw_Tm (tm2 (List.mem_of_getElem? (i := 220) (by decide +kernel))) rfl, lw_Tm (tm2 (List.mem_of_getElem? (i := 221) (by decide +kernel))) rfl, lw_Tm (tm1 (List.mem_of_getElem? (i := 1) (by decide +kernel))) rfl, by decide +kernel, by decide +kernel, by decide +kernel⟩
theorem lk_RL_69 : Cond.methodLink RL 69 yX6_day ∈ lw_T := lw_Tm (tm2 (List.mem_of_getElem? (i := 219) (by decide +kernel))) rfl
theorem F_X7_day : FcV yX7_day cX7_day 5 (some .int) 0 := ⟨lw_Tm (tm5 (List.mem_of_getElem? (i := 110) rfl)) rfl, lw_Tm (tm5 (List.mem_of_getElem? (i := 108) (by decide +kernel))) rfl, lw_Tm (tm5 (List.mem_of_getElem? (i := 109) (by decide +kernel))) rfl, lw_Tm (tm1 (List.mem_of_getElem? (i := 8) (by decide +kernel))) rfl, by decide +kernel, by decide +kernel, by decide +kernel⟩
theorem lk_RL_72 : Cond.methodLink RL 72 yX7_day ∈ lw_T := lw_Tm (tm5 (List.mem_of_getElem? (i := 107) (by decide +kernel))) rfl
theorem F_X6_count : FcV yX6_count cX6_count 2 (some .int) 1 := ⟨lw_Tm (tm3 (List.mem_of_getElem? (i := 39) rfl)) rfl, lw_Tm (tm3 (List.mem_of_getElem? (i := 37) (by decide +kernel))) rfl, lw_Tm (tm3 (List.mem_of_getElem? (i := 38) (by decide +kernel))) rfl, lw_Tm (tm1 (List.mem_of_getElem? (i := 1) (by decide +kernel))) rfl, by decide +kernel, by decide +kernel, by decide +kernel⟩
theorem lk_RL_73 : Cond.methodLink RL 73 yX6_count ∈ lw_T := lw_Tm (tm3 (List.mem_of_getElem? (i := 36) (by decide +kernel))) rfl
theorem F_X7_count : FcV yX7_count cX7_count 7 (some .int) 1 := ⟨lw_Tm (tm5 (List.mem_of_getElem? (i := 147) rfl)) rfl, lw_Tm (tm5 (List.mem_of_getElem? (i := 145) (by decide +kernel))) rfl, lw_Tm (tm5 (List.mem_of_getElem? (i := 146) (by decide +kernel))) rfl, lw_Tm (tm1 (List.mem_of_getElem? (i := 8) (by decide +kernel))) rfl, by decide +kernel, by decide +kernel, by decide +kernel⟩
theorem lk_RL_76 : Cond.methodLink RL 76 yX7_count ∈ lw_T := lw_Tm (tm5 (List.mem_of_getElem? (i := 144) (by decide +kernel))) rfl
theorem F_X6_hears : FcV yX6_hears cX6_hears 3 (some .int) 2 := ⟨lw_Tm (tm3 (List.mem_of_getElem? (i := 66) rfl)) rfl, lw_Tm (tm3 (List.mem_of_getElem? (i := 64) (by decide +kernel))) rfl, lw_Tm (tm3 (List.mem_of_getElem? (i := 65) (by decide +kernel))) rfl, lw_Tm (tm1 (List.mem_of_getElem? (i := 1) (by decide +kernel))) rfl, by decide +kernel, by decide +kernel, by decide +kernel⟩
theorem lk_RL_77 : Cond.methodLink RL 77 yX6_hears ∈ lw_T := lw_Tm (tm3 (List.mem_of_getElem? (i := 63) (by decide +kernel))) rfl
theorem F_X7_hears : FcV yX7_hears cX7_hears 3 (some .int) 2 := ⟨lw_Tm (tm5 (List.mem_of_getElem? (i := 154) rfl)) rfl, lw_Tm (tm5 (List.mem_of_getElem? (i := 152) (by decide +kernel))) rfl, lw_Tm (tm5 (List.mem_of_getElem? (i := 153) (by decide +kernel))) rfl, lw_Tm (tm1 (List.mem_of_getElem? (i := 8) (by decide +kernel))) rfl, by decide +kernel, by decide +kernel, by decide +kernel⟩
theorem lk_RL_80 : Cond.methodLink RL 80 yX7_hears ∈ lw_T := lw_Tm (tm5 (List.mem_of_getElem? (i := 151) (by decide +kernel))) rfl
theorem F_X6_wronged : FcV yX6_wronged cX6_wronged 4 (some .int) 3 := ⟨lw_Tm (tm3 (List.mem_of_getElem? (i := 75) rfl)) rfl, lw_Tm (tm3 (List.mem_of_getElem? (i := 73) (by decide +kernel))) rfl, lw_Tm (tm3 (List.mem_of_getElem? (i := 74) (by decide +kernel))) rfl, lw_Tm (tm1 (List.mem_of_getElem? (i := 1) (by decide +kernel))) rfl, by decide +kernel, by decide +kernel, by decide +kernel⟩
theorem lk_RL_81 : Cond.methodLink RL 81 yX6_wronged ∈ lw_T := lw_Tm (tm3 (List.mem_of_getElem? (i := 72) (by decide +kernel))) rfl
theorem F_X7_wronged : FcV yX7_wronged cX7_wronged 4 (some .int) 3 := ⟨lw_Tm (tm5 (List.mem_of_getElem? (i := 158) rfl)) rfl, lw_Tm (tm5 (List.mem_of_getElem? (i := 156) (by decide +kernel))) rfl, lw_Tm (tm5 (List.mem_of_getElem? (i := 157) (by decide +kernel))) rfl, lw_Tm (tm1 (List.mem_of_getElem? (i := 8) (by decide +kernel))) rfl, by decide +kernel, by decide +kernel, by decide +kernel⟩
theorem lk_RL_84 : Cond.methodLink RL 84 yX7_wronged ∈ lw_T := lw_Tm (tm5 (List.mem_of_getElem? (i := 155) (by decide +kernel))) rfl
theorem F_X6_read : FcV yX6_read cX6_read 4 (some .int) 3 := ⟨lw_Tm (tm3 (List.mem_of_getElem? (i := 84) rfl)) rfl, lw_Tm (tm3 (List.mem_of_getElem? (i := 82) (by decide +kernel))) rfl, lw_Tm (tm3 (List.mem_of_getElem? (i := 83) (by decide +kernel))) rfl, lw_Tm (tm1 (List.mem_of_getElem? (i := 1) (by decide +kernel))) rfl, by decide +kernel, by decide +kernel, by decide +kernel⟩
theorem lk_RL_85 : Cond.methodLink RL 85 yX6_read ∈ lw_T := lw_Tm (tm3 (List.mem_of_getElem? (i := 81) (by decide +kernel))) rfl
theorem F_X7_read : FcV yX7_read cX7_read 4 (some .int) 3 := ⟨lw_Tm (tm5 (List.mem_of_getElem? (i := 166) rfl)) rfl, lw_Tm (tm5 (List.mem_of_getElem? (i := 164) (by decide +kernel))) rfl, lw_Tm (tm5 (List.mem_of_getElem? (i := 165) (by decide +kernel))) rfl, lw_Tm (tm1 (List.mem_of_getElem? (i := 8) (by decide +kernel))) rfl, by decide +kernel, by decide +kernel, by decide +kernel⟩
theorem lk_RL_88 : Cond.methodLink RL 88 yX7_read ∈ lw_T := lw_Tm (tm5 (List.mem_of_getElem? (i := 163) (by decide +kernel))) rfl
theorem F_X6_undo : FcV yX6_undo cX6_undo 1 (some .int) 0 := ⟨lw_Tm (tm3 (List.mem_of_getElem? (i := 88) rfl)) rfl, lw_Tm (tm3 (List.mem_of_getElem? (i := 86) (by decide +kernel))) rfl, lw_Tm (tm3 (List.mem_of_getElem? (i := 87) (by decide +kernel))) rfl, lw_Tm (tm1 (List.mem_of_getElem? (i := 1) (by decide +kernel))) rfl, by decide +kernel, by decide +kernel, by decide +kernel⟩
theorem lk_RL_89 : Cond.methodLink RL 89 yX6_undo ∈ lw_T := lw_Tm (tm3 (List.mem_of_getElem? (i := 85) (by decide +kernel))) rfl
theorem F_X7_undo : FcV yX7_undo cX7_undo 2 (some .int) 0 := ⟨lw_Tm (tm5 (List.mem_of_getElem? (i := 170) rfl)) rfl, lw_Tm (tm5 (List.mem_of_getElem? (i := 168) (by decide +kernel))) rfl, lw_Tm (tm5 (List.mem_of_getElem? (i := 169) (by decide +kernel))) rfl, lw_Tm (tm1 (List.mem_of_getElem? (i := 8) (by decide +kernel))) rfl, by decide +kernel, by decide +kernel, by decide +kernel⟩
theorem lk_RL_92 : Cond.methodLink RL 92 yX7_undo ∈ lw_T := lw_Tm (tm5 (List.mem_of_getElem? (i := 167) (by decide +kernel))) rfl
theorem F_X6_lots : FcV yX6_lots cX6_lots 6 (some .int) 1 := ⟨lw_Tm (tm3 (List.mem_of_getElem? (i := 96) rfl)) rfl, lw_Tm (tm3 (List.mem_of_getElem? (i := 94) (by decide +kernel))) rfl, lw_Tm (tm3 (List.mem_of_getElem? (i := 95) (by decide +kernel))) rfl, lw_Tm (tm1 (List.mem_of_getElem? (i := 1) (by decide +kernel))) rfl, by decide +kernel, by decide +kernel, by decide +kernel⟩
theorem lk_RL_93 : Cond.methodLink RL 93 yX6_lots ∈ lw_T := lw_Tm (tm3 (List.mem_of_getElem? (i := 93) (by decide +kernel))) rfl
theorem F_X7_lots : FcV yX7_lots cX7_lots 7 (some .int) 1 := ⟨lw_Tm (tm5 (List.mem_of_getElem? (i := 174) rfl)) rfl, lw_Tm (tm5 (List.mem_of_getElem? (i := 172) (by decide +kernel))) rfl, lw_Tm (tm5 (List.mem_of_getElem? (i := 173) (by decide +kernel))) rfl, lw_Tm (tm1 (List.mem_of_getElem? (i := 8) (by decide +kernel))) rfl, by decide +kernel, by decide +kernel, by decide +kernel⟩
theorem lk_RL_96 : Cond.methodLink RL 96 yX7_lots ∈ lw_T := lw_Tm (tm5 (List.mem_of_getElem? (i := 171) (by decide +kernel))) rfl
theorem F_X6_seed : FcV yX6_seed cX6_seed 3 (some .int) 1 := ⟨lw_Tm (tm3 (List.mem_of_getElem? (i := 106) rfl)) rfl, lw_Tm (tm3 (List.mem_of_getElem? (i := 104) (by decide +kernel))) rfl, lw_Tm (tm3 (List.mem_of_getElem? (i := 105) (by decide +kernel))) rfl, lw_Tm (tm1 (List.mem_of_getElem? (i := 1) (by decide +kernel))) rfl, by decide +kernel, by decide +kernel, by decide +kernel⟩
theorem lk_RL_97 : Cond.methodLink RL 97 yX6_seed ∈ lw_T := lw_Tm (tm3 (List.mem_of_getElem? (i := 103) (by decide +kernel))) rfl
theorem F_X7_seed : FcV yX7_seed cX7_seed 3 (some .int) 1 := ⟨lw_Tm (tm5 (List.mem_of_getElem? (i := 187) rfl)) rfl, lw_Tm (tm5 (List.mem_of_getElem? (i := 185) (by decide +kernel))) rfl, lw_Tm (tm5 (List.mem_of_getElem? (i := 186) (by decide +kernel))) rfl, lw_Tm (tm1 (List.mem_of_getElem? (i := 8) (by decide +kernel))) rfl, by decide +kernel, by decide +kernel, by decide +kernel⟩
theorem lk_RL_100 : Cond.methodLink RL 100 yX7_seed ∈ lw_T := lw_Tm (tm5 (List.mem_of_getElem? (i := 184) (by decide +kernel))) rfl
theorem F_X6_stand : FcV yX6_stand cX6_stand 9 (some .int) 2 := ⟨lw_Tm (tm3 (List.mem_of_getElem? (i := 110) rfl)) rfl, lw_Tm (tm3 (List.mem_of_getElem? (i := 108) (by decide +kernel))) rfl, lw_Tm (tm3 (List.mem_of_getElem? (i := 109) (by decide +kernel))) rfl, lw_Tm (tm1 (List.mem_of_getElem? (i := 1) (by decide +kernel))) rfl, by decide +kernel, by decide +kernel, by decide +kernel⟩
theorem lk_RL_101 : Cond.methodLink RL 101 yX6_stand ∈ lw_T := lw_Tm (tm3 (List.mem_of_getElem? (i := 107) (by decide +kernel))) rfl
theorem F_X7_stand : FcV yX7_stand cX7_stand 8 (some .int) 2 := ⟨lw_Tm (tm5 (List.mem_of_getElem? (i := 191) rfl)) rfl, lw_Tm (tm5 (List.mem_of_getElem? (i := 189) (by decide +kernel))) rfl, lw_Tm (tm5 (List.mem_of_getElem? (i := 190) (by decide +kernel))) rfl, lw_Tm (tm1 (List.mem_of_getElem? (i := 8) (by decide +kernel))) rfl, by decide +kernel, by decide +kernel, by decide +kernel⟩
theorem lk_RL_104 : Cond.methodLink RL 104 yX7_stand ∈ lw_T := lw_Tm (tm5 (List.mem_of_getElem? (i := 188) (by decide +kernel))) rfl
theorem F_X6_cover : FcV yX6_cover cX6_cover 7 (some .int) 3 := ⟨lw_Tm (tm3 (List.mem_of_getElem? (i := 121) rfl)) rfl, lw_Tm (tm3 (List.mem_of_getElem? (i := 119) (by decide +kernel))) rfl, lw_Tm (tm3 (List.mem_of_getElem? (i := 120) (by decide +kernel))) rfl, lw_Tm (tm1 (List.mem_of_getElem? (i := 1) (by decide +kernel))) rfl, by decide +kernel, by decide +kernel, by decide +kernel⟩
theorem lk_RL_105 : Cond.methodLink RL 105 yX6_cover ∈ lw_T := lw_Tm (tm3 (List.mem_of_getElem? (i := 118) (by decide +kernel))) rfl
theorem F_X7_cover : FcV yX7_cover cX7_cover 5 (some .int) 3 := ⟨lw_Tm (tm5 (List.mem_of_getElem? (i := 199) rfl)) rfl, lw_Tm (tm5 (List.mem_of_getElem? (i := 197) (by decide +kernel))) rfl, lw_Tm (tm5 (List.mem_of_getElem? (i := 198) (by decide +kernel))) rfl, lw_Tm (tm1 (List.mem_of_getElem? (i := 8) (by decide +kernel))) rfl, by decide +kernel, by decide +kernel, by decide +kernel⟩
theorem lk_RL_108 : Cond.methodLink RL 108 yX7_cover ∈ lw_T := lw_Tm (tm5 (List.mem_of_getElem? (i := 196) (by decide +kernel))) rfl
theorem lk_RL_109 : Cond.methodLink RL 109 yX6_orders ∈ lw_T := lw_Tm (tm3 (List.mem_of_getElem? (i := 150) (by decide +kernel))) rfl
theorem F_X7_orders : FcV yX7_orders cX7_orders 7 (some .int) 1 := ⟨lw_Tm (tm5 (List.mem_of_getElem? (i := 214) rfl)) rfl, lw_Tm (tm5 (List.mem_of_getElem? (i := 212) (by decide +kernel))) rfl, lw_Tm (tm5 (List.mem_of_getElem? (i := 213) (by decide +kernel))) rfl, lw_Tm (tm1 (List.mem_of_getElem? (i := 8) (by decide +kernel))) rfl, by decide +kernel, by decide +kernel, by decide +kernel⟩
theorem lk_RL_112 : Cond.methodLink RL 112 yX7_orders ∈ lw_T := lw_Tm (tm5 (List.mem_of_getElem? (i := 211) (by decide +kernel))) rfl
theorem F_X6_years : FcV yX6_years cX6_years 3 (some .int) 2 := ⟨lw_Tm (tm3 (List.mem_of_getElem? (i := 178) rfl)) rfl, lw_Tm (tm3 (List.mem_of_getElem? (i := 176) (by decide +kernel))) rfl, lw_Tm (tm3 (List.mem_of_getElem? (i := 177) (by decide +kernel))) rfl, lw_Tm (tm1 (List.mem_of_getElem? (i := 1) (by decide +kernel))) rfl, by decide +kernel, by decide +kernel, by decide +kernel⟩
theorem lk_RL_113 : Cond.methodLink RL 113 yX6_years ∈ lw_T := lw_Tm (tm3 (List.mem_of_getElem? (i := 175) (by decide +kernel))) rfl
theorem F_X7_years : FcV yX7_years cX7_years 8 (some .int) 2 := ⟨lw_Tm (tm5 (List.mem_of_getElem? (i := 219) rfl)) rfl, lw_Tm (tm5 (List.mem_of_getElem? (i := 217) (by decide +kernel))) rfl, lw_Tm (tm5 (List.mem_of_getElem? (i := 218) (by decide +kernel))) rfl, lw_Tm (tm1 (List.mem_of_getElem? (i := 8) (by decide +kernel))) rfl, by decide +kernel, by decide +kernel, by decide +kernel⟩
theorem lk_RL_116 : Cond.methodLink RL 116 yX7_years ∈ lw_T := lw_Tm (tm5 (List.mem_of_getElem? (i := 216) (by decide +kernel))) rfl
theorem F_X6_chance : FcV yX6_chance cX6_chance 7 (some .int) 4 := ⟨lw_Tm (tm3 (List.mem_of_getElem? (i := 190) rfl)) rfl, lw_Tm (tm3 (List.mem_of_getElem? (i := 188) (by decide +kernel))) rfl, lw_Tm (tm3 (List.mem_of_getElem? (i := 189) (by decide +kernel))) rfl, lw_Tm (tm1 (List.mem_of_getElem? (i := 1) (by decide +kernel))) rfl, by decide +kernel, by decide +kernel, by decide +kernel⟩
theorem lk_RL_117 : Cond.methodLink RL 117 yX6_chance ∈ lw_T := lw_Tm (tm3 (List.mem_of_getElem? (i := 187) (by decide +kernel))) rfl
theorem F_X7_chance : FcV yX7_chance cX7_chance 8 (some .int) 4 := ⟨lw_Tm (tm5 (List.mem_of_getElem? (i := 223) rfl)) rfl, lw_Tm (tm5 (List.mem_of_getElem? (i := 221) (by decide +kernel))) rfl, lw_Tm (tm5 (List.mem_of_getElem? (i := 222) (by decide +kernel))) rfl, lw_Tm (tm1 (List.mem_of_getElem? (i := 8) (by decide +kernel))) rfl, by decide +kernel, by decide +kernel, by decide +kernel⟩
theorem lk_RL_121 : Cond.methodLink RL 121 yX7_chance ∈ lw_T := lw_Tm (tm5 (List.mem_of_getElem? (i := 220) (by decide +kernel))) rfl
theorem F_X6_likeliest : FcV yX6_likeliest cX6_likeliest 7 (some .int) 2 := ⟨lw_Tm (tm3 (List.mem_of_getElem? (i := 212) rfl)) rfl, lw_Tm (tm3 (List.mem_of_getElem? (i := 210) (by decide +kernel))) rfl, lw_Tm (tm3 (List.mem_of_getElem? (i := 211) (by decide +kernel))) rfl, lw_Tm (tm1 (List.mem_of_getElem? (i := 1) (by decide +kernel))) rfl, by decide +kernel, by decide +kernel, by decide +kernel⟩
theorem lk_RL_122 : Cond.methodLink RL 122 yX6_likeliest ∈ lw_T := lw_Tm (tm3 (List.mem_of_getElem? (i := 209) (by decide +kernel))) rfl
theorem F_X7_likeliest : FcV yX7_likeliest cX7_likeliest 5 (some .int) 2 := ⟨lw_Tm (tm6 (List.mem_of_getElem? (i := 2) rfl)) rfl, lw_Tm (tm6 (List.mem_of_getElem? (i := 0) (by decide +kernel))) rfl, lw_Tm (tm6 (List.mem_of_getElem? (i := 1) (by decide +kernel))) rfl, lw_Tm (tm1 (List.mem_of_getElem? (i := 8) (by decide +kernel))) rfl, by decide +kernel, by decide +kernel, by decide +kernel⟩
theorem lk_RL_125 : Cond.methodLink RL 125 yX7_likeliest ∈ lw_T := lw_Tm (tm5 (List.mem_of_getElem? (i := 239) (by decide +kernel))) rfl
theorem F_X6_more : FcV yX6_more cX6_more 3 (some .int) 2 := ⟨lw_Tm (tm3 (List.mem_of_getElem? (i := 216) rfl)) rfl, lw_Tm (tm3 (List.mem_of_getElem? (i := 214) (by decide +kernel))) rfl, lw_Tm (tm3 (List.mem_of_getElem? (i := 215) (by decide +kernel))) rfl, lw_Tm (tm1 (List.mem_of_getElem? (i := 1) (by decide +kernel))) rfl, by decide +kernel, by decide +kernel, by decide +kernel⟩
theorem lk_RL_126 : Cond.methodLink RL 126 yX6_more ∈ lw_T := lw_Tm (tm3 (List.mem_of_getElem? (i := 213) (by decide +kernel))) rfl
theorem F_X7_more : FcV yX7_more cX7_more 3 (some .int) 2 := ⟨lw_Tm (tm6 (List.mem_of_getElem? (i := 6) rfl)) rfl, lw_Tm (tm6 (List.mem_of_getElem? (i := 4) (by decide +kernel))) rfl, lw_Tm (tm6 (List.mem_of_getElem? (i := 5) (by decide +kernel))) rfl, lw_Tm (tm1 (List.mem_of_getElem? (i := 8) (by decide +kernel))) rfl, by decide +kernel, by decide +kernel, by decide +kernel⟩
theorem lk_RL_129 : Cond.methodLink RL 129 yX7_more ∈ lw_T := lw_Tm (tm6 (List.mem_of_getElem? (i := 3) (by decide +kernel))) rfl
theorem F_X6_sooner : FcV yX6_sooner cX6_sooner 6 (some .int) 2 := ⟨lw_Tm (tm3 (List.mem_of_getElem? (i := 220) rfl)) rfl, lw_Tm (tm3 (List.mem_of_getElem? (i := 218) (by decide +kernel))) rfl, lw_Tm (tm3 (List.mem_of_getElem? (i := 219) (by decide +kernel))) rfl, lw_Tm (tm1 (List.mem_of_getElem? (i := 1) (by decide +kernel))) rfl, by decide +kernel, by decide +kernel, by decide +kernel⟩
theorem lk_RL_130 : Cond.methodLink RL 130 yX6_sooner ∈ lw_T := lw_Tm (tm3 (List.mem_of_getElem? (i := 217) (by decide +kernel))) rfl
theorem F_X7_sooner : FcV yX7_sooner cX7_sooner 9 (some .int) 2 := ⟨lw_Tm (tm6 (List.mem_of_getElem? (i := 10) rfl)) rfl, lw_Tm (tm6 (List.mem_of_getElem? (i := 8) (by decide +kernel))) rfl, lw_Tm (tm6 (List.mem_of_getElem? (i := 9) (by decide +kernel))) rfl, lw_Tm (tm1 (List.mem_of_getElem? (i := 8) (by decide +kernel))) rfl, by decide +kernel, by decide +kernel, by decide +kernel⟩
theorem lk_RL_133 : Cond.methodLink RL 133 yX7_sooner ∈ lw_T := lw_Tm (tm6 (List.mem_of_getElem? (i := 7) (by decide +kernel))) rfl
theorem F_X6_hidden : FcV yX6_hidden cX6_hidden 6 (some .long) 2 := ⟨lw_Tm (tm3 (List.mem_of_getElem? (i := 228) rfl)) rfl, lw_Tm (tm3 (List.mem_of_getElem? (i := 226) (by decide +kernel))) rfl, lw_Tm (tm3 (List.mem_of_getElem? (i := 227) (by decide +kernel))) rfl, lw_Tm (tm1 (List.mem_of_getElem? (i := 1) (by decide +kernel))) rfl, by decide +kernel, by decide +kernel, by decide +kernel⟩
theorem lk_RL_134 : Cond.methodLink RL 134 yX6_hidden ∈ lw_T := lw_Tm (tm3 (List.mem_of_getElem? (i := 225) (by decide +kernel))) rfl
theorem F_X7_hidden : FcV yX7_hidden cX7_hidden 6 (some .long) 2 := ⟨lw_Tm (tm6 (List.mem_of_getElem? (i := 14) rfl)) rfl, lw_Tm (tm6 (List.mem_of_getElem? (i := 12) (by decide +kernel))) rfl, lw_Tm (tm6 (List.mem_of_getElem? (i := 13) (by decide +kernel))) rfl, lw_Tm (tm1 (List.mem_of_getElem? (i := 8) (by decide +kernel))) rfl, by decide +kernel, by decide +kernel, by decide +kernel⟩
theorem lk_RL_138 : Cond.methodLink RL 138 yX7_hidden ∈ lw_T := lw_Tm (tm6 (List.mem_of_getElem? (i := 11) (by decide +kernel))) rfl
theorem F_X6_alone : FcV yX6_alone cX6_alone 4 (some .int) 2 := ⟨lw_Tm (tm3 (List.mem_of_getElem? (i := 233) rfl)) rfl, lw_Tm (tm3 (List.mem_of_getElem? (i := 231) (by decide +kernel))) rfl, lw_Tm (tm3 (List.mem_of_getElem? (i := 232) (by decide +kernel))) rfl, lw_Tm (tm1 (List.mem_of_getElem? (i := 1) (by decide +kernel))) rfl, by decide +kernel, by decide +kernel, by decide +kernel⟩
theorem lk_RL_139 : Cond.methodLink RL 139 yX6_alone ∈ lw_T := lw_Tm (tm3 (List.mem_of_getElem? (i := 230) (by decide +kernel))) rfl
theorem F_X7_alone : FcV yX7_alone cX7_alone 4 (some .int) 2 := ⟨lw_Tm (tm6 (List.mem_of_getElem? (i := 18) rfl)) rfl, lw_Tm (tm6 (List.mem_of_getElem? (i := 16) (by decide +kernel))) rfl, lw_Tm (tm6 (List.mem_of_getElem? (i := 17) (by decide +kernel))) rfl, lw_Tm (tm1 (List.mem_of_getElem? (i := 8) (by decide +kernel))) rfl, by decide +kernel, by decide +kernel, by decide +kernel⟩
theorem lk_RL_142 : Cond.methodLink RL 142 yX7_alone ∈ lw_T := lw_Tm (tm6 (List.mem_of_getElem? (i := 15) (by decide +kernel))) rfl
theorem F_X6_image : FcV yX6_image cX6_image 1 (some .int) 0 := ⟨lw_Tm (tm3 (List.mem_of_getElem? (i := 237) rfl)) rfl, lw_Tm (tm3 (List.mem_of_getElem? (i := 235) (by decide +kernel))) rfl, lw_Tm (tm3 (List.mem_of_getElem? (i := 236) (by decide +kernel))) rfl, lw_Tm (tm1 (List.mem_of_getElem? (i := 1) (by decide +kernel))) rfl, by decide +kernel, by decide +kernel, by decide +kernel⟩
theorem lk_RL_143 : Cond.methodLink RL 143 yX6_image ∈ lw_T := lw_Tm (tm3 (List.mem_of_getElem? (i := 234) (by decide +kernel))) rfl
theorem F_X7_image : FcV yX7_image cX7_image 2 (some .int) 0 := ⟨lw_Tm (tm6 (List.mem_of_getElem? (i := 22) rfl)) rfl, lw_Tm (tm6 (List.mem_of_getElem? (i := 20) (by decide +kernel))) rfl, lw_Tm (tm6 (List.mem_of_getElem? (i := 21) (by decide +kernel))) rfl, lw_Tm (tm1 (List.mem_of_getElem? (i := 8) (by decide +kernel))) rfl, by decide +kernel, by decide +kernel, by decide +kernel⟩
theorem lk_RL_146 : Cond.methodLink RL 146 yX7_image ∈ lw_T := lw_Tm (tm6 (List.mem_of_getElem? (i := 19) (by decide +kernel))) rfl
theorem F_X6_restore : FcV yX6_restore cX6_restore 1 (some .int) 0 := ⟨lw_Tm (tm4 (List.mem_of_getElem? (i := 7) rfl)) rfl, lw_Tm (tm4 (List.mem_of_getElem? (i := 5) (by decide +kernel))) rfl, lw_Tm (tm4 (List.mem_of_getElem? (i := 6) (by decide +kernel))) rfl, lw_Tm (tm1 (List.mem_of_getElem? (i := 1) (by decide +kernel))) rfl, by decide +kernel, by decide +kernel, by decide +kernel⟩
theorem lk_RL_147 : Cond.methodLink RL 147 yX6_restore ∈ lw_T := lw_Tm (tm4 (List.mem_of_getElem? (i := 4) (by decide +kernel))) rfl
theorem F_X7_restore : FcV yX7_restore cX7_restore 2 (some .int) 0 := ⟨lw_Tm (tm6 (List.mem_of_getElem? (i := 32) rfl)) rfl, lw_Tm (tm6 (List.mem_of_getElem? (i := 30) (by decide +kernel))) rfl, lw_Tm (tm6 (List.mem_of_getElem? (i := 31) (by decide +kernel))) rfl, lw_Tm (tm1 (List.mem_of_getElem? (i := 8) (by decide +kernel))) rfl, by decide +kernel, by decide +kernel, by decide +kernel⟩
theorem lk_RL_150 : Cond.methodLink RL 150 yX7_restore ∈ lw_T := lw_Tm (tm6 (List.mem_of_getElem? (i := 29) (by decide +kernel))) rfl
theorem F_X6_which : FcV yX6_which cX6_which 11 (some .int) 5 := ⟨lw_Tm (tm4 (List.mem_of_getElem? (i := 11) rfl)) rfl, lw_Tm (tm4 (List.mem_of_getElem? (i := 9) (by decide +kernel))) rfl, lw_Tm (tm4 (List.mem_of_getElem? (i := 10) (by decide +kernel))) rfl, lw_Tm (tm1 (List.mem_of_getElem? (i := 1) (by decide +kernel))) rfl, by decide +kernel, by decide +kernel, by decide +kernel⟩
theorem lk_RL_151 : Cond.methodLink RL 151 yX6_which ∈ lw_T := lw_Tm (tm4 (List.mem_of_getElem? (i := 8) (by decide +kernel))) rfl
theorem F_X7_which : FcV yX7_which cX7_which 13 (some .int) 5 := ⟨lw_Tm (tm6 (List.mem_of_getElem? (i := 59) rfl)) rfl, lw_Tm (tm6 (List.mem_of_getElem? (i := 57) (by decide +kernel))) rfl, lw_Tm (tm6 (List.mem_of_getElem? (i := 58) (by decide +kernel))) rfl, lw_Tm (tm1 (List.mem_of_getElem? (i := 8) (by decide +kernel))) rfl, by decide +kernel, by decide +kernel, by decide +kernel⟩
theorem lk_RL_155 : Cond.methodLink RL 155 yX7_which ∈ lw_T := lw_Tm (tm6 (List.mem_of_getElem? (i := 56) (by decide +kernel))) rfl
theorem F_X6_judged : FcV yX6_judged cX6_judged 11 (some .int) 4 := ⟨lw_Tm (tm4 (List.mem_of_getElem? (i := 38) rfl)) rfl, lw_Tm (tm4 (List.mem_of_getElem? (i := 36) (by decide +kernel))) rfl, lw_Tm (tm4 (List.mem_of_getElem? (i := 37) (by decide +kernel))) rfl, lw_Tm (tm1 (List.mem_of_getElem? (i := 1) (by decide +kernel))) rfl, by decide +kernel, by decide +kernel, by decide +kernel⟩
theorem lk_RL_156 : Cond.methodLink RL 156 yX6_judged ∈ lw_T := lw_Tm (tm4 (List.mem_of_getElem? (i := 35) (by decide +kernel))) rfl
theorem F_X7_judged : FcV yX7_judged cX7_judged 12 (some .int) 4 := ⟨lw_Tm (tm6 (List.mem_of_getElem? (i := 68) rfl)) rfl, lw_Tm (tm6 (List.mem_of_getElem? (i := 66) (by decide +kernel))) rfl, lw_Tm (tm6 (List.mem_of_getElem? (i := 67) (by decide +kernel))) rfl, lw_Tm (tm1 (List.mem_of_getElem? (i := 8) (by decide +kernel))) rfl, by decide +kernel, by decide +kernel, by decide +kernel⟩
theorem lk_RL_159 : Cond.methodLink RL 159 yX7_judged ∈ lw_T := lw_Tm (tm6 (List.mem_of_getElem? (i := 65) (by decide +kernel))) rfl
theorem F_X6_film : FcV yX6_film cX6_film 6 (some .int) 3 := ⟨lw_Tm (tm4 (List.mem_of_getElem? (i := 43) rfl)) rfl, lw_Tm (tm4 (List.mem_of_getElem? (i := 41) (by decide +kernel))) rfl, lw_Tm (tm4 (List.mem_of_getElem? (i := 42) (by decide +kernel))) rfl, lw_Tm (tm1 (List.mem_of_getElem? (i := 1) (by decide +kernel))) rfl, by decide +kernel, by decide +kernel, by decide +kernel⟩
theorem lk_RL_160 : Cond.methodLink RL 160 yX6_film ∈ lw_T := lw_Tm (tm4 (List.mem_of_getElem? (i := 40) (by decide +kernel))) rfl
theorem F_X7_film : FcV yX7_film cX7_film 6 (some .int) 3 := ⟨lw_Tm (tm6 (List.mem_of_getElem? (i := 72) rfl)) rfl, lw_Tm (tm6 (List.mem_of_getElem? (i := 70) (by decide +kernel))) rfl, lw_Tm (tm6 (List.mem_of_getElem? (i := 71) (by decide +kernel))) rfl, lw_Tm (tm1 (List.mem_of_getElem? (i := 8) (by decide +kernel))) rfl, by decide +kernel, by decide +kernel, by decide +kernel⟩
theorem lk_RL_163 : Cond.methodLink RL 163 yX7_film ∈ lw_T := lw_Tm (tm6 (List.mem_of_getElem? (i := 69) (by decide +kernel))) rfl
theorem F_X6_sheet : FcV yX6_sheet cX6_sheet 4 (some .int) 3 := ⟨lw_Tm (tm4 (List.mem_of_getElem? (i := 55) rfl)) rfl, lw_Tm (tm4 (List.mem_of_getElem? (i := 53) (by decide +kernel))) rfl, lw_Tm (tm4 (List.mem_of_getElem? (i := 54) (by decide +kernel))) rfl, lw_Tm (tm1 (List.mem_of_getElem? (i := 1) (by decide +kernel))) rfl, by decide +kernel, by decide +kernel, by decide +kernel⟩
theorem lk_RL_164 : Cond.methodLink RL 164 yX6_sheet ∈ lw_T := lw_Tm (tm4 (List.mem_of_getElem? (i := 52) (by decide +kernel))) rfl
theorem F_X7_sheet : FcV yX7_sheet cX7_sheet 5 (some .int) 3 := ⟨lw_Tm (tm6 (List.mem_of_getElem? (i := 36) rfl)) rfl, lw_Tm (tm6 (List.mem_of_getElem? (i := 34) (by decide +kernel))) rfl, lw_Tm (tm6 (List.mem_of_getElem? (i := 35) (by decide +kernel))) rfl, lw_Tm (tm1 (List.mem_of_getElem? (i := 8) (by decide +kernel))) rfl, by decide +kernel, by decide +kernel, by decide +kernel⟩
theorem lk_RL_167 : Cond.methodLink RL 167 yX7_sheet ∈ lw_T := lw_Tm (tm6 (List.mem_of_getElem? (i := 33) (by decide +kernel))) rfl
theorem F_X6_drop : FcV yX6_drop cX6_drop 2 (some .int) 1 := ⟨lw_Tm (tm4 (List.mem_of_getElem? (i := 66) rfl)) rfl, lw_Tm (tm4 (List.mem_of_getElem? (i := 64) (by decide +kernel))) rfl, lw_Tm (tm4 (List.mem_of_getElem? (i := 65) (by decide +kernel))) rfl, lw_Tm (tm1 (List.mem_of_getElem? (i := 1) (by decide +kernel))) rfl, by decide +kernel, by decide +kernel, by decide +kernel⟩
theorem lk_RL_168 : Cond.methodLink RL 168 yX6_drop ∈ lw_T := lw_Tm (tm4 (List.mem_of_getElem? (i := 63) (by decide +kernel))) rfl
theorem F_X7_drop : FcV yX7_drop cX7_drop 2 (some .int) 1 := ⟨lw_Tm (tm6 (List.mem_of_getElem? (i := 44) rfl)) rfl, lw_Tm (tm6 (List.mem_of_getElem? (i := 42) (by decide +kernel))) rfl, lw_Tm (tm6 (List.mem_of_getElem? (i := 43) (by decide +kernel))) rfl, lw_Tm (tm1 (List.mem_of_getElem? (i := 8) (by decide +kernel))) rfl, by decide +kernel, by decide +kernel, by decide +kernel⟩
theorem lk_RL_171 : Cond.methodLink RL 171 yX7_drop ∈ lw_T := lw_Tm (tm6 (List.mem_of_getElem? (i := 41) (by decide +kernel))) rfl
theorem kp_RL_172 : Cond.constantLong RL 172 4294967295 ∈ lw_T := lw_Tm (tm6 (List.mem_of_getElem? (i := 77) (by decide +kernel))) rfl
theorem F_X6_item : FcV yX6_item cX6_item 7 (some .int) 4 := ⟨lw_Tm (tm4 (List.mem_of_getElem? (i := 70) rfl)) rfl, lw_Tm (tm4 (List.mem_of_getElem? (i := 68) (by decide +kernel))) rfl, lw_Tm (tm4 (List.mem_of_getElem? (i := 69) (by decide +kernel))) rfl, lw_Tm (tm1 (List.mem_of_getElem? (i := 1) (by decide +kernel))) rfl, by decide +kernel, by decide +kernel, by decide +kernel⟩
theorem lk_RL_174 : Cond.methodLink RL 174 yX6_item ∈ lw_T := lw_Tm (tm4 (List.mem_of_getElem? (i := 67) (by decide +kernel))) rfl
theorem F_X7_item : FcV yX7_item cX7_item 7 (some .int) 4 := ⟨lw_Tm (tm6 (List.mem_of_getElem? (i := 48) rfl)) rfl, lw_Tm (tm6 (List.mem_of_getElem? (i := 46) (by decide +kernel))) rfl, lw_Tm (tm6 (List.mem_of_getElem? (i := 47) (by decide +kernel))) rfl, lw_Tm (tm1 (List.mem_of_getElem? (i := 8) (by decide +kernel))) rfl, by decide +kernel, by decide +kernel, by decide +kernel⟩
theorem lk_RL_178 : Cond.methodLink RL 178 yX7_item ∈ lw_T := lw_Tm (tm6 (List.mem_of_getElem? (i := 45) (by decide +kernel))) rfl
theorem F_X6_copy : FcV yX6_copy cX6_copy 8 (some .int) 5 := ⟨lw_Tm (tm4 (List.mem_of_getElem? (i := 74) rfl)) rfl, lw_Tm (tm4 (List.mem_of_getElem? (i := 72) (by decide +kernel))) rfl, lw_Tm (tm4 (List.mem_of_getElem? (i := 73) (by decide +kernel))) rfl, lw_Tm (tm1 (List.mem_of_getElem? (i := 1) (by decide +kernel))) rfl, by decide +kernel, by decide +kernel, by decide +kernel⟩
theorem lk_RL_179 : Cond.methodLink RL 179 yX6_copy ∈ lw_T := lw_Tm (tm4 (List.mem_of_getElem? (i := 71) (by decide +kernel))) rfl
theorem F_X7_copy : FcV yX7_copy cX7_copy 7 (some .int) 5 := ⟨lw_Tm (tm6 (List.mem_of_getElem? (i := 76) rfl)) rfl, lw_Tm (tm6 (List.mem_of_getElem? (i := 74) (by decide +kernel))) rfl, lw_Tm (tm6 (List.mem_of_getElem? (i := 75) (by decide +kernel))) rfl, lw_Tm (tm1 (List.mem_of_getElem? (i := 8) (by decide +kernel))) rfl, by decide +kernel, by decide +kernel, by decide +kernel⟩
theorem lk_RL_182 : Cond.methodLink RL 182 yX7_copy ∈ lw_T := lw_Tm (tm6 (List.mem_of_getElem? (i := 73) (by decide +kernel))) rfl
set_option maxHeartbeats 4000000 in
theorem law_c0 {X : Cx} {K : Kt} {b L : Nat} {xs : Nat → Int32} {v : Int32} {ad am : Nat → Nat} {nw : Nat} {σ μ : St} (B : Bs X cL_law RL K 10 408) (S : Sc X b L xs) (h1 : ¬ (v + 1 < 0 ∨ L ≤ ix (v + 1))) (h2 : ¬ (v + 2 < 0 ∨ L ≤ ix (v + 2))) (h3 : ¬ (v + 3 < 0 ∨ L ≤ ix (v + 3))) (h4 : ¬ (v + 4 < 0 ∨ L ≤ ix (v + 4))) (h5 : ¬ (v + 5 < 0 ∨ L ≤ ix (v + 5))) {r : Int32} {σ' : St} {μ' : St} (hC : f_X6_grave σ (xs (ix (v + 1))) (xs (ix (v + 2))) (xs (ix (v + 3))) = some (r, σ')) (hM : f_X7_grave μ (xs (ix (v + 1))) (xs (ix (v + 2))) (xs (ix (v + 3))) = some (r, μ')) (next : MW X (wC ad K nw σ' ++ wM am K μ') 1519 [some (.ref b), some (.ref (ad 0)), some (.ref (am 0)), some (.int v)] []) : MW X (wC ad K nw σ ++ wM am K μ) 208 [some (.ref b), some (.ref (ad 0)), some (.ref (am 0)), some (.int v)] [] := by
  refine r_aload_n B (pc := 208) dL_law_208 rfl rfl ?_
  refine r_aload_n B (pc := 209) dL_law_209 rfl rfl ?_
  refine r_iload_n B (pc := 210) dL_law_210 rfl rfl ?_
  refine r_iconst B (pc := 211) dL_law_211 kc_1 ?_
  refine r_iadd B (pc := 212) dL_law_212 ?_
  refine r_sld B S h1 (pc := 213) dL_law_213 ?_
  refine r_aload_n B (pc := 214) dL_law_214 rfl rfl ?_
  refine r_iload_n B (pc := 215) dL_law_215 rfl rfl ?_
  refine r_iconst B (pc := 216) dL_law_216 kc_2 ?_
  refine r_iadd B (pc := 217) dL_law_217 ?_
  refine r_sld B S h2 (pc := 218) dL_law_218 ?_
  refine r_aload_n B (pc := 219) dL_law_219 rfl rfl ?_
  refine r_iload_n B (pc := 220) dL_law_220 rfl rfl ?_
  refine r_iconst B (pc := 221) dL_law_221 kc_3 ?_
  refine r_iadd B (pc := 222) dL_law_222 ?_
  refine r_sld B S h3 (pc := 223) dL_law_223 ?_
  refine r_cL B (c_X6_grave X.l X.D K ad nw σ (xs (ix (v + 1))) (xs (ix (v + 2))) (xs (ix (v + 3))) hC) F_X6_grave lk_RL_13 (q0 := 0) (ci := 6) rfl rfl (Nat.le_of_ble_eq_true rfl) (Nat.le_of_ble_eq_true rfl) (Nat.le_of_ble_eq_true rfl) (pc := 224) dL_law_224 rfl ?_
  refine r_aload_n B (pc := 227) dL_law_227 rfl rfl ?_
  refine r_aload_n B (pc := 228) dL_law_228 rfl rfl ?_
  refine r_iload_n B (pc := 229) dL_law_229 rfl rfl ?_
  refine r_iconst B (pc := 230) dL_law_230 kc_1 ?_
  refine r_iadd B (pc := 231) dL_law_231 ?_
  refine r_sld B S h1 (pc := 232) dL_law_232 ?_
  refine r_aload_n B (pc := 233) dL_law_233 rfl rfl ?_
  refine r_iload_n B (pc := 234) dL_law_234 rfl rfl ?_
  refine r_iconst B (pc := 235) dL_law_235 kc_2 ?_
  refine r_iadd B (pc := 236) dL_law_236 ?_
  refine r_sld B S h2 (pc := 237) dL_law_237 ?_
  refine r_aload_n B (pc := 238) dL_law_238 rfl rfl ?_
  refine r_iload_n B (pc := 239) dL_law_239 rfl rfl ?_
  refine r_iconst B (pc := 240) dL_law_240 kc_3 ?_
  refine r_iadd B (pc := 241) dL_law_241 ?_
  refine r_sld B S h3 (pc := 242) dL_law_242 ?_
  refine r_cR B (c_X7_grave X.l X.D K am μ (xs (ix (v + 1))) (xs (ix (v + 2))) (xs (ix (v + 3))) hM) F_X7_grave lk_RL_17 (q0 := 0) (ci := 7) rfl rfl (Nat.le_of_ble_eq_true rfl) (Nat.le_of_ble_eq_true rfl) (Nat.le_of_ble_eq_true rfl) (pc := 243) dL_law_243 rfl ?_
  refine r_icmp_eq B (pc := 246) (tgt := 1519) (a := ()) (b := ()) (z := ()) dL_law_246 (by decide) (it_s _) (fun _ _ => ?_) (fun h _ => absurd rfl h)
  exact next
set_option maxHeartbeats 4000000 in
theorem law_c1 {X : Cx} {K : Kt} {b L : Nat} {xs : Nat → Int32} {v : Int32} {ad am : Nat → Nat} {nw : Nat} {σ μ : St} (B : Bs X cL_law RL K 10 408) (S : Sc X b L xs) (h1 : ¬ (v + 1 < 0 ∨ L ≤ ix (v + 1))) (h2 : ¬ (v + 2 < 0 ∨ L ≤ ix (v + 2))) (h3 : ¬ (v + 3 < 0 ∨ L ≤ ix (v + 3))) (h4 : ¬ (v + 4 < 0 ∨ L ≤ ix (v + 4))) (h5 : ¬ (v + 5 < 0 ∨ L ≤ ix (v + 5))) {r : Int32} {σ' : St} {μ' : St} (hC : f_X6_out σ = some (r, σ')) (hM : f_X7_out μ = some (r, μ')) (next : MW X (wC ad K nw σ' ++ wM am K μ') 1519 [some (.ref b), some (.ref (ad 0)), some (.ref (am 0)), some (.int v)] []) : MW X (wC ad K nw σ ++ wM am K μ) 251 [some (.ref b), some (.ref (ad 0)), some (.ref (am 0)), some (.int v)] [] := by
  refine r_aload_n B (pc := 251) dL_law_251 rfl rfl ?_
  refine r_cL B (c_X6_out X.l X.D K ad nw σ hC) F_X6_out lk_RL_18 (q0 := 0) (ci := 6) rfl rfl (Nat.le_of_ble_eq_true rfl) (Nat.le_of_ble_eq_true rfl) (Nat.le_of_ble_eq_true rfl) (pc := 252) dL_law_252 rfl ?_
  refine r_aload_n B (pc := 255) dL_law_255 rfl rfl ?_
  refine r_cR B (c_X7_out X.l X.D K am μ hM) F_X7_out lk_RL_22 (q0 := 0) (ci := 7) rfl rfl (Nat.le_of_ble_eq_true rfl) (Nat.le_of_ble_eq_true rfl) (Nat.le_of_ble_eq_true rfl) (pc := 256) dL_law_256 rfl ?_
  refine r_icmp_eq B (pc := 259) (tgt := 1519) (a := ()) (b := ()) (z := ()) dL_law_259 (by decide) (it_s _) (fun _ _ => ?_) (fun h _ => absurd rfl h)
  exact next
set_option maxHeartbeats 4000000 in
theorem law_c2 {X : Cx} {K : Kt} {b L : Nat} {xs : Nat → Int32} {v : Int32} {ad am : Nat → Nat} {nw : Nat} {σ μ : St} (B : Bs X cL_law RL K 10 408) (S : Sc X b L xs) (h1 : ¬ (v + 1 < 0 ∨ L ≤ ix (v + 1))) (h2 : ¬ (v + 2 < 0 ∨ L ≤ ix (v + 2))) (h3 : ¬ (v + 3 < 0 ∨ L ≤ ix (v + 3))) (h4 : ¬ (v + 4 < 0 ∨ L ≤ ix (v + 4))) (h5 : ¬ (v + 5 < 0 ∨ L ≤ ix (v + 5))) {r : Int32} {σ' : St} {μ' : St} (hC : f_X6_reader σ (xs (ix (v + 1))) = some (r, σ')) (hM : f_X7_reader μ (xs (ix (v + 1))) = some (r, μ')) (next : MW X (wC ad K nw σ' ++ wM am K μ') 1519 [some (.ref b), some (.ref (ad 0)), some (.ref (am 0)), some (.int v)] []) : MW X (wC ad K nw σ ++ wM am K μ) 264 [some (.ref b), some (.ref (ad 0)), some (.ref (am 0)), some (.int v)] [] := by
  refine r_aload_n B (pc := 264) dL_law_264 rfl rfl ?_
  refine r_aload_n B (pc := 265) dL_law_265 rfl rfl ?_
  refine r_iload_n B (pc := 266) dL_law_266 rfl rfl ?_
  refine r_iconst B (pc := 267) dL_law_267 kc_1 ?_
  refine r_iadd B (pc := 268) dL_law_268 ?_
  refine r_sld B S h1 (pc := 269) dL_law_269 ?_
  refine r_cL B (c_X6_reader X.l X.D K ad nw σ (xs (ix (v + 1))) hC) F_X6_reader lk_RL_23 (q0 := 0) (ci := 6) rfl rfl (Nat.le_of_ble_eq_true rfl) (Nat.le_of_ble_eq_true rfl) (Nat.le_of_ble_eq_true rfl) (pc := 270) dL_law_270 rfl ?_
  refine r_aload_n B (pc := 273) dL_law_273 rfl rfl ?_
  refine r_aload_n B (pc := 274) dL_law_274 rfl rfl ?_
  refine r_iload_n B (pc := 275) dL_law_275 rfl rfl ?_
  refine r_iconst B (pc := 276) dL_law_276 kc_1 ?_
  refine r_iadd B (pc := 277) dL_law_277 ?_
  refine r_sld B S h1 (pc := 278) dL_law_278 ?_
  refine r_cR B (c_X7_reader X.l X.D K am μ (xs (ix (v + 1))) hM) F_X7_reader lk_RL_27 (q0 := 0) (ci := 7) rfl rfl (Nat.le_of_ble_eq_true rfl) (Nat.le_of_ble_eq_true rfl) (Nat.le_of_ble_eq_true rfl) (pc := 279) dL_law_279 rfl ?_
  refine r_icmp_eq B (pc := 282) (tgt := 1519) (a := ()) (b := ()) (z := ()) dL_law_282 (by decide) (it_s _) (fun _ _ => ?_) (fun h _ => absurd rfl h)
  exact next
set_option maxHeartbeats 4000000 in
theorem law_c3 {X : Cx} {K : Kt} {b L : Nat} {xs : Nat → Int32} {v : Int32} {ad am : Nat → Nat} {nw : Nat} {σ μ : St} (B : Bs X cL_law RL K 10 408) (S : Sc X b L xs) (h1 : ¬ (v + 1 < 0 ∨ L ≤ ix (v + 1))) (h2 : ¬ (v + 2 < 0 ∨ L ≤ ix (v + 2))) (h3 : ¬ (v + 3 < 0 ∨ L ≤ ix (v + 3))) (h4 : ¬ (v + 4 < 0 ∨ L ≤ ix (v + 4))) (h5 : ¬ (v + 5 < 0 ∨ L ≤ ix (v + 5))) {r : Int32} {σ' : St} {μ' : St} (hC : f_X6_news σ (xs (ix (v + 1))) (xs (ix (v + 2))) (xs (ix (v + 3))) = some (r, σ')) (hM : f_X7_news μ (xs (ix (v + 1))) (xs (ix (v + 2))) (xs (ix (v + 3))) = some (r, μ')) (next : MW X (wC ad K nw σ' ++ wM am K μ') 1519 [some (.ref b), some (.ref (ad 0)), some (.ref (am 0)), some (.int v)] []) : MW X (wC ad K nw σ ++ wM am K μ) 287 [some (.ref b), some (.ref (ad 0)), some (.ref (am 0)), some (.int v)] [] := by
  refine r_aload_n B (pc := 287) dL_law_287 rfl rfl ?_
  refine r_aload_n B (pc := 288) dL_law_288 rfl rfl ?_
  refine r_iload_n B (pc := 289) dL_law_289 rfl rfl ?_
  refine r_iconst B (pc := 290) dL_law_290 kc_1 ?_
  refine r_iadd B (pc := 291) dL_law_291 ?_
  refine r_sld B S h1 (pc := 292) dL_law_292 ?_
  refine r_aload_n B (pc := 293) dL_law_293 rfl rfl ?_
  refine r_iload_n B (pc := 294) dL_law_294 rfl rfl ?_
  refine r_iconst B (pc := 295) dL_law_295 kc_2 ?_
  refine r_iadd B (pc := 296) dL_law_296 ?_
  refine r_sld B S h2 (pc := 297) dL_law_297 ?_
  refine r_aload_n B (pc := 298) dL_law_298 rfl rfl ?_
  refine r_iload_n B (pc := 299) dL_law_299 rfl rfl ?_
  refine r_iconst B (pc := 300) dL_law_300 kc_3 ?_
  refine r_iadd B (pc := 301) dL_law_301 ?_
  refine r_sld B S h3 (pc := 302) dL_law_302 ?_
  refine r_cL B (c_X6_news X.l X.D K ad nw σ (xs (ix (v + 1))) (xs (ix (v + 2))) (xs (ix (v + 3))) hC) F_X6_news lk_RL_28 (q0 := 0) (ci := 6) rfl rfl (Nat.le_of_ble_eq_true rfl) (Nat.le_of_ble_eq_true rfl) (Nat.le_of_ble_eq_true rfl) (pc := 303) dL_law_303 rfl ?_
  refine r_aload_n B (pc := 306) dL_law_306 rfl rfl ?_
  refine r_aload_n B (pc := 307) dL_law_307 rfl rfl ?_
  refine r_iload_n B (pc := 308) dL_law_308 rfl rfl ?_
  refine r_iconst B (pc := 309) dL_law_309 kc_1 ?_
  refine r_iadd B (pc := 310) dL_law_310 ?_
  refine r_sld B S h1 (pc := 311) dL_law_311 ?_
  refine r_aload_n B (pc := 312) dL_law_312 rfl rfl ?_
  refine r_iload_n B (pc := 313) dL_law_313 rfl rfl ?_
  refine r_iconst B (pc := 314) dL_law_314 kc_2 ?_
  refine r_iadd B (pc := 315) dL_law_315 ?_
  refine r_sld B S h2 (pc := 316) dL_law_316 ?_
  refine r_aload_n B (pc := 317) dL_law_317 rfl rfl ?_
  refine r_iload_n B (pc := 318) dL_law_318 rfl rfl ?_
  refine r_iconst B (pc := 319) dL_law_319 kc_3 ?_
  refine r_iadd B (pc := 320) dL_law_320 ?_
  refine r_sld B S h3 (pc := 321) dL_law_321 ?_
  refine r_cR B (c_X7_news X.l X.D K am μ (xs (ix (v + 1))) (xs (ix (v + 2))) (xs (ix (v + 3))) hM) F_X7_news lk_RL_31 (q0 := 0) (ci := 7) rfl rfl (Nat.le_of_ble_eq_true rfl) (Nat.le_of_ble_eq_true rfl) (Nat.le_of_ble_eq_true rfl) (pc := 322) dL_law_322 rfl ?_
  refine r_icmp_eq B (pc := 325) (tgt := 1519) (a := ()) (b := ()) (z := ()) dL_law_325 (by decide) (it_s _) (fun _ _ => ?_) (fun h _ => absurd rfl h)
  exact next
set_option maxHeartbeats 4000000 in
theorem law_c4 {X : Cx} {K : Kt} {b L : Nat} {xs : Nat → Int32} {v : Int32} {ad am : Nat → Nat} {nw : Nat} {σ μ : St} (B : Bs X cL_law RL K 10 408) (S : Sc X b L xs) (h1 : ¬ (v + 1 < 0 ∨ L ≤ ix (v + 1))) (h2 : ¬ (v + 2 < 0 ∨ L ≤ ix (v + 2))) (h3 : ¬ (v + 3 < 0 ∨ L ≤ ix (v + 3))) (h4 : ¬ (v + 4 < 0 ∨ L ≤ ix (v + 4))) (h5 : ¬ (v + 5 < 0 ∨ L ≤ ix (v + 5))) {r : Int32} {σ' : St} {μ' : St} (hC : f_X6_bar σ (xs (ix (v + 1))) (xs (ix (v + 2))) = some (r, σ')) (hM : f_X7_bar μ (xs (ix (v + 1))) (xs (ix (v + 2))) = some (r, μ')) (next : MW X (wC ad K nw σ' ++ wM am K μ') 1519 [some (.ref b), some (.ref (ad 0)), some (.ref (am 0)), some (.int v)] []) : MW X (wC ad K nw σ ++ wM am K μ) 330 [some (.ref b), some (.ref (ad 0)), some (.ref (am 0)), some (.int v)] [] := by
  refine r_aload_n B (pc := 330) dL_law_330 rfl rfl ?_
  refine r_aload_n B (pc := 331) dL_law_331 rfl rfl ?_
  refine r_iload_n B (pc := 332) dL_law_332 rfl rfl ?_
  refine r_iconst B (pc := 333) dL_law_333 kc_1 ?_
  refine r_iadd B (pc := 334) dL_law_334 ?_
  refine r_sld B S h1 (pc := 335) dL_law_335 ?_
  refine r_aload_n B (pc := 336) dL_law_336 rfl rfl ?_
  refine r_iload_n B (pc := 337) dL_law_337 rfl rfl ?_
  refine r_iconst B (pc := 338) dL_law_338 kc_2 ?_
  refine r_iadd B (pc := 339) dL_law_339 ?_
  refine r_sld B S h2 (pc := 340) dL_law_340 ?_
  refine r_cL B (c_X6_bar X.l X.D K ad nw σ (xs (ix (v + 1))) (xs (ix (v + 2))) hC) F_X6_bar lk_RL_32 (q0 := 0) (ci := 6) rfl rfl (Nat.le_of_ble_eq_true rfl) (Nat.le_of_ble_eq_true rfl) (Nat.le_of_ble_eq_true rfl) (pc := 341) dL_law_341 rfl ?_
  refine r_aload_n B (pc := 344) dL_law_344 rfl rfl ?_
  refine r_aload_n B (pc := 345) dL_law_345 rfl rfl ?_
  refine r_iload_n B (pc := 346) dL_law_346 rfl rfl ?_
  refine r_iconst B (pc := 347) dL_law_347 kc_1 ?_
  refine r_iadd B (pc := 348) dL_law_348 ?_
  refine r_sld B S h1 (pc := 349) dL_law_349 ?_
  refine r_aload_n B (pc := 350) dL_law_350 rfl rfl ?_
  refine r_iload_n B (pc := 351) dL_law_351 rfl rfl ?_
  refine r_iconst B (pc := 352) dL_law_352 kc_2 ?_
  refine r_iadd B (pc := 353) dL_law_353 ?_
  refine r_sld B S h2 (pc := 354) dL_law_354 ?_
  refine r_cR B (c_X7_bar X.l X.D K am μ (xs (ix (v + 1))) (xs (ix (v + 2))) hM) F_X7_bar lk_RL_36 (q0 := 0) (ci := 7) rfl rfl (Nat.le_of_ble_eq_true rfl) (Nat.le_of_ble_eq_true rfl) (Nat.le_of_ble_eq_true rfl) (pc := 355) dL_law_355 rfl ?_
  refine r_icmp_eq B (pc := 358) (tgt := 1519) (a := ()) (b := ()) (z := ()) dL_law_358 (by decide) (it_s _) (fun _ _ => ?_) (fun h _ => absurd rfl h)
  exact next
set_option maxHeartbeats 4000000 in
theorem law_c5 {X : Cx} {K : Kt} {b L : Nat} {xs : Nat → Int32} {v : Int32} {ad am : Nat → Nat} {nw : Nat} {σ μ : St} (B : Bs X cL_law RL K 10 408) (S : Sc X b L xs) (h1 : ¬ (v + 1 < 0 ∨ L ≤ ix (v + 1))) (h2 : ¬ (v + 2 < 0 ∨ L ≤ ix (v + 2))) (h3 : ¬ (v + 3 < 0 ∨ L ≤ ix (v + 3))) (h4 : ¬ (v + 4 < 0 ∨ L ≤ ix (v + 4))) (h5 : ¬ (v + 5 < 0 ∨ L ≤ ix (v + 5))) {r : Int32} {σ' : St} {μ' : St} (hC : f_X6_wind σ (xs (ix (v + 1))) = some (r, σ')) (hM : f_X7_wind μ (xs (ix (v + 1))) = some (r, μ')) (next : MW X (wC ad K nw σ' ++ wM am K μ') 1519 [some (.ref b), some (.ref (ad 0)), some (.ref (am 0)), some (.int v)] []) : MW X (wC ad K nw σ ++ wM am K μ) 363 [some (.ref b), some (.ref (ad 0)), some (.ref (am 0)), some (.int v)] [] := by
  refine r_aload_n B (pc := 363) dL_law_363 rfl rfl ?_
  refine r_aload_n B (pc := 364) dL_law_364 rfl rfl ?_
  refine r_iload_n B (pc := 365) dL_law_365 rfl rfl ?_
  refine r_iconst B (pc := 366) dL_law_366 kc_1 ?_
  refine r_iadd B (pc := 367) dL_law_367 ?_
  refine r_sld B S h1 (pc := 368) dL_law_368 ?_
  refine r_cL B (c_X6_wind X.l X.D K ad nw σ (xs (ix (v + 1))) hC) F_X6_wind lk_RL_37 (q0 := 0) (ci := 6) rfl rfl (Nat.le_of_ble_eq_true rfl) (Nat.le_of_ble_eq_true rfl) (Nat.le_of_ble_eq_true rfl) (pc := 369) dL_law_369 rfl ?_
  refine r_aload_n B (pc := 372) dL_law_372 rfl rfl ?_
  refine r_aload_n B (pc := 373) dL_law_373 rfl rfl ?_
  refine r_iload_n B (pc := 374) dL_law_374 rfl rfl ?_
  refine r_iconst B (pc := 375) dL_law_375 kc_1 ?_
  refine r_iadd B (pc := 376) dL_law_376 ?_
  refine r_sld B S h1 (pc := 377) dL_law_377 ?_
  refine r_cR B (c_X7_wind X.l X.D K am μ (xs (ix (v + 1))) hM) F_X7_wind lk_RL_40 (q0 := 0) (ci := 7) rfl rfl (Nat.le_of_ble_eq_true rfl) (Nat.le_of_ble_eq_true rfl) (Nat.le_of_ble_eq_true rfl) (pc := 378) dL_law_378 rfl ?_
  refine r_icmp_eq B (pc := 381) (tgt := 1519) (a := ()) (b := ()) (z := ()) dL_law_381 (by decide) (it_s _) (fun _ _ => ?_) (fun h _ => absurd rfl h)
  exact next
set_option maxHeartbeats 4000000 in
theorem law_c6 {X : Cx} {K : Kt} {b L : Nat} {xs : Nat → Int32} {v : Int32} {ad am : Nat → Nat} {nw : Nat} {σ μ : St} (B : Bs X cL_law RL K 10 408) (S : Sc X b L xs) (h1 : ¬ (v + 1 < 0 ∨ L ≤ ix (v + 1))) (h2 : ¬ (v + 2 < 0 ∨ L ≤ ix (v + 2))) (h3 : ¬ (v + 3 < 0 ∨ L ≤ ix (v + 3))) (h4 : ¬ (v + 4 < 0 ∨ L ≤ ix (v + 4))) (h5 : ¬ (v + 5 < 0 ∨ L ≤ ix (v + 5))) {r : Int32} {σ' : St} {μ' : St} (hC : f_X6_weight σ (xs (ix (v + 1))) (xs (ix (v + 2))) = some (r, σ')) (hM : f_X7_weight μ (xs (ix (v + 1))) (xs (ix (v + 2))) = some (r, μ')) (next : MW X (wC ad K nw σ' ++ wM am K μ') 1519 [some (.ref b), some (.ref (ad 0)), some (.ref (am 0)), some (.int v)] []) : MW X (wC ad K nw σ ++ wM am K μ) 386 [some (.ref b), some (.ref (ad 0)), some (.ref (am 0)), some (.int v)] [] := by
  refine r_aload_n B (pc := 386) dL_law_386 rfl rfl ?_
  refine r_aload_n B (pc := 387) dL_law_387 rfl rfl ?_
  refine r_iload_n B (pc := 388) dL_law_388 rfl rfl ?_
  refine r_iconst B (pc := 389) dL_law_389 kc_1 ?_
  refine r_iadd B (pc := 390) dL_law_390 ?_
  refine r_sld B S h1 (pc := 391) dL_law_391 ?_
  refine r_aload_n B (pc := 392) dL_law_392 rfl rfl ?_
  refine r_iload_n B (pc := 393) dL_law_393 rfl rfl ?_
  refine r_iconst B (pc := 394) dL_law_394 kc_2 ?_
  refine r_iadd B (pc := 395) dL_law_395 ?_
  refine r_sld B S h2 (pc := 396) dL_law_396 ?_
  refine r_cL B (c_X6_weight X.l X.D K ad nw σ (xs (ix (v + 1))) (xs (ix (v + 2))) hC) F_X6_weight lk_RL_41 (q0 := 0) (ci := 6) rfl rfl (Nat.le_of_ble_eq_true rfl) (Nat.le_of_ble_eq_true rfl) (Nat.le_of_ble_eq_true rfl) (pc := 397) dL_law_397 rfl ?_
  refine r_aload_n B (pc := 400) dL_law_400 rfl rfl ?_
  refine r_aload_n B (pc := 401) dL_law_401 rfl rfl ?_
  refine r_iload_n B (pc := 402) dL_law_402 rfl rfl ?_
  refine r_iconst B (pc := 403) dL_law_403 kc_1 ?_
  refine r_iadd B (pc := 404) dL_law_404 ?_
  refine r_sld B S h1 (pc := 405) dL_law_405 ?_
  refine r_aload_n B (pc := 406) dL_law_406 rfl rfl ?_
  refine r_iload_n B (pc := 407) dL_law_407 rfl rfl ?_
  refine r_iconst B (pc := 408) dL_law_408 kc_2 ?_
  refine r_iadd B (pc := 409) dL_law_409 ?_
  refine r_sld B S h2 (pc := 410) dL_law_410 ?_
  refine r_cR B (c_X7_weight X.l X.D K am μ (xs (ix (v + 1))) (xs (ix (v + 2))) hM) F_X7_weight lk_RL_44 (q0 := 0) (ci := 7) rfl rfl (Nat.le_of_ble_eq_true rfl) (Nat.le_of_ble_eq_true rfl) (Nat.le_of_ble_eq_true rfl) (pc := 411) dL_law_411 rfl ?_
  refine r_icmp_eq B (pc := 414) (tgt := 1519) (a := ()) (b := ()) (z := ()) dL_law_414 (by decide) (it_s _) (fun _ _ => ?_) (fun h _ => absurd rfl h)
  exact next
set_option maxHeartbeats 4000000 in
theorem law_c7 {X : Cx} {K : Kt} {b L : Nat} {xs : Nat → Int32} {v : Int32} {ad am : Nat → Nat} {nw : Nat} {σ μ : St} (B : Bs X cL_law RL K 10 408) (S : Sc X b L xs) (h1 : ¬ (v + 1 < 0 ∨ L ≤ ix (v + 1))) (h2 : ¬ (v + 2 < 0 ∨ L ≤ ix (v + 2))) (h3 : ¬ (v + 3 < 0 ∨ L ≤ ix (v + 3))) (h4 : ¬ (v + 4 < 0 ∨ L ≤ ix (v + 4))) (h5 : ¬ (v + 5 < 0 ∨ L ≤ ix (v + 5))) {r : Int32} {σ' : St} {μ' : St} (hC : f_X6_now σ (xs (ix (v + 1))) = some (r, σ')) (hM : f_X7_now μ (xs (ix (v + 1))) = some (r, μ')) (next : MW X (wC ad K nw σ' ++ wM am K μ') 1519 [some (.ref b), some (.ref (ad 0)), some (.ref (am 0)), some (.int v)] []) : MW X (wC ad K nw σ ++ wM am K μ) 419 [some (.ref b), some (.ref (ad 0)), some (.ref (am 0)), some (.int v)] [] := by
  refine r_aload_n B (pc := 419) dL_law_419 rfl rfl ?_
  refine r_aload_n B (pc := 420) dL_law_420 rfl rfl ?_
  refine r_iload_n B (pc := 421) dL_law_421 rfl rfl ?_
  refine r_iconst B (pc := 422) dL_law_422 kc_1 ?_
  refine r_iadd B (pc := 423) dL_law_423 ?_
  refine r_sld B S h1 (pc := 424) dL_law_424 ?_
  refine r_cL B (c_X6_now X.l X.D K ad nw σ (xs (ix (v + 1))) hC) F_X6_now lk_RL_45 (q0 := 0) (ci := 6) rfl rfl (Nat.le_of_ble_eq_true rfl) (Nat.le_of_ble_eq_true rfl) (Nat.le_of_ble_eq_true rfl) (pc := 425) dL_law_425 rfl ?_
  refine r_aload_n B (pc := 428) dL_law_428 rfl rfl ?_
  refine r_aload_n B (pc := 429) dL_law_429 rfl rfl ?_
  refine r_iload_n B (pc := 430) dL_law_430 rfl rfl ?_
  refine r_iconst B (pc := 431) dL_law_431 kc_1 ?_
  refine r_iadd B (pc := 432) dL_law_432 ?_
  refine r_sld B S h1 (pc := 433) dL_law_433 ?_
  refine r_cR B (c_X7_now X.l X.D K am μ (xs (ix (v + 1))) hM) F_X7_now lk_RL_48 (q0 := 0) (ci := 7) rfl rfl (Nat.le_of_ble_eq_true rfl) (Nat.le_of_ble_eq_true rfl) (Nat.le_of_ble_eq_true rfl) (pc := 434) dL_law_434 rfl ?_
  refine r_icmp_eq B (pc := 437) (tgt := 1519) (a := ()) (b := ()) (z := ()) dL_law_437 (by decide) (it_s _) (fun _ _ => ?_) (fun h _ => absurd rfl h)
  exact next
set_option maxHeartbeats 4000000 in
theorem law_c8 {X : Cx} {K : Kt} {b L : Nat} {xs : Nat → Int32} {v : Int32} {ad am : Nat → Nat} {nw : Nat} {σ μ : St} (B : Bs X cL_law RL K 10 408) (S : Sc X b L xs) (h1 : ¬ (v + 1 < 0 ∨ L ≤ ix (v + 1))) (h2 : ¬ (v + 2 < 0 ∨ L ≤ ix (v + 2))) (h3 : ¬ (v + 3 < 0 ∨ L ≤ ix (v + 3))) (h4 : ¬ (v + 4 < 0 ∨ L ≤ ix (v + 4))) (h5 : ¬ (v + 5 < 0 ∨ L ≤ ix (v + 5))) {r : Int32} (hC : f_X6_told σ (xs (ix (v + 1))) (xs (ix (v + 2))) = some r) (hM : f_X7_told μ (xs (ix (v + 1))) (xs (ix (v + 2))) = some r) (next : MW X (wC ad K nw σ ++ wM am K μ) 1519 [some (.ref b), some (.ref (ad 0)), some (.ref (am 0)), some (.int v)] []) : MW X (wC ad K nw σ ++ wM am K μ) 442 [some (.ref b), some (.ref (ad 0)), some (.ref (am 0)), some (.int v)] [] := by
  refine r_aload_n B (pc := 442) dL_law_442 rfl rfl ?_
  refine r_aload_n B (pc := 443) dL_law_443 rfl rfl ?_
  refine r_iload_n B (pc := 444) dL_law_444 rfl rfl ?_
  refine r_iconst B (pc := 445) dL_law_445 kc_1 ?_
  refine r_iadd B (pc := 446) dL_law_446 ?_
  refine r_sld B S h1 (pc := 447) dL_law_447 ?_
  refine r_aload_n B (pc := 448) dL_law_448 rfl rfl ?_
  refine r_iload_n B (pc := 449) dL_law_449 rfl rfl ?_
  refine r_iconst B (pc := 450) dL_law_450 kc_2 ?_
  refine r_iadd B (pc := 451) dL_law_451 ?_
  refine r_sld B S h2 (pc := 452) dL_law_452 ?_
  refine r_cL B (c_X6_told X.l X.D K ad nw σ (xs (ix (v + 1))) (xs (ix (v + 2))) hC) F_X6_told lk_RL_49 (q0 := 0) (ci := 6) rfl rfl (Nat.le_of_ble_eq_true rfl) (Nat.le_of_ble_eq_true rfl) (Nat.le_of_ble_eq_true rfl) (pc := 453) dL_law_453 rfl ?_
  refine r_aload_n B (pc := 456) dL_law_456 rfl rfl ?_
  refine r_aload_n B (pc := 457) dL_law_457 rfl rfl ?_
  refine r_iload_n B (pc := 458) dL_law_458 rfl rfl ?_
  refine r_iconst B (pc := 459) dL_law_459 kc_1 ?_
  refine r_iadd B (pc := 460) dL_law_460 ?_
  refine r_sld B S h1 (pc := 461) dL_law_461 ?_
  refine r_aload_n B (pc := 462) dL_law_462 rfl rfl ?_
  refine r_iload_n B (pc := 463) dL_law_463 rfl rfl ?_
  refine r_iconst B (pc := 464) dL_law_464 kc_2 ?_
  refine r_iadd B (pc := 465) dL_law_465 ?_
  refine r_sld B S h2 (pc := 466) dL_law_466 ?_
  refine r_cR B (c_X7_told X.l X.D K am μ (xs (ix (v + 1))) (xs (ix (v + 2))) hM) F_X7_told lk_RL_52 (q0 := 0) (ci := 7) rfl rfl (Nat.le_of_ble_eq_true rfl) (Nat.le_of_ble_eq_true rfl) (Nat.le_of_ble_eq_true rfl) (pc := 467) dL_law_467 rfl ?_
  refine r_icmp_eq B (pc := 470) (tgt := 1519) (a := ()) (b := ()) (z := ()) dL_law_470 (by decide) (it_s _) (fun _ _ => ?_) (fun h _ => absurd rfl h)
  exact next
set_option maxHeartbeats 4000000 in
theorem law_c9 {X : Cx} {K : Kt} {b L : Nat} {xs : Nat → Int32} {v : Int32} {ad am : Nat → Nat} {nw : Nat} {σ μ : St} (B : Bs X cL_law RL K 10 408) (S : Sc X b L xs) (h1 : ¬ (v + 1 < 0 ∨ L ≤ ix (v + 1))) (h2 : ¬ (v + 2 < 0 ∨ L ≤ ix (v + 2))) (h3 : ¬ (v + 3 < 0 ∨ L ≤ ix (v + 3))) (h4 : ¬ (v + 4 < 0 ∨ L ≤ ix (v + 4))) (h5 : ¬ (v + 5 < 0 ∨ L ≤ ix (v + 5))) {r : Int32} (hC : f_X6_of σ (xs (ix (v + 1))) (xs (ix (v + 2))) = some r) (hM : f_X7_of μ (xs (ix (v + 1))) (xs (ix (v + 2))) = some r) (next : MW X (wC ad K nw σ ++ wM am K μ) 1519 [some (.ref b), some (.ref (ad 0)), some (.ref (am 0)), some (.int v)] []) : MW X (wC ad K nw σ ++ wM am K μ) 475 [some (.ref b), some (.ref (ad 0)), some (.ref (am 0)), some (.int v)] [] := by
  refine r_aload_n B (pc := 475) dL_law_475 rfl rfl ?_
  refine r_aload_n B (pc := 476) dL_law_476 rfl rfl ?_
  refine r_iload_n B (pc := 477) dL_law_477 rfl rfl ?_
  refine r_iconst B (pc := 478) dL_law_478 kc_1 ?_
  refine r_iadd B (pc := 479) dL_law_479 ?_
  refine r_sld B S h1 (pc := 480) dL_law_480 ?_
  refine r_aload_n B (pc := 481) dL_law_481 rfl rfl ?_
  refine r_iload_n B (pc := 482) dL_law_482 rfl rfl ?_
  refine r_iconst B (pc := 483) dL_law_483 kc_2 ?_
  refine r_iadd B (pc := 484) dL_law_484 ?_
  refine r_sld B S h2 (pc := 485) dL_law_485 ?_
  refine r_cL B (c_X6_of X.l X.D K ad nw σ (xs (ix (v + 1))) (xs (ix (v + 2))) hC) F_X6_of lk_RL_53 (q0 := 0) (ci := 6) rfl rfl (Nat.le_of_ble_eq_true rfl) (Nat.le_of_ble_eq_true rfl) (Nat.le_of_ble_eq_true rfl) (pc := 486) dL_law_486 rfl ?_
  refine r_aload_n B (pc := 489) dL_law_489 rfl rfl ?_
  refine r_aload_n B (pc := 490) dL_law_490 rfl rfl ?_
  refine r_iload_n B (pc := 491) dL_law_491 rfl rfl ?_
  refine r_iconst B (pc := 492) dL_law_492 kc_1 ?_
  refine r_iadd B (pc := 493) dL_law_493 ?_
  refine r_sld B S h1 (pc := 494) dL_law_494 ?_
  refine r_aload_n B (pc := 495) dL_law_495 rfl rfl ?_
  refine r_iload_n B (pc := 496) dL_law_496 rfl rfl ?_
  refine r_iconst B (pc := 497) dL_law_497 kc_2 ?_
  refine r_iadd B (pc := 498) dL_law_498 ?_
  refine r_sld B S h2 (pc := 499) dL_law_499 ?_
  refine r_cR B (c_X7_of X.l X.D K am μ (xs (ix (v + 1))) (xs (ix (v + 2))) hM) F_X7_of lk_RL_56 (q0 := 0) (ci := 7) rfl rfl (Nat.le_of_ble_eq_true rfl) (Nat.le_of_ble_eq_true rfl) (Nat.le_of_ble_eq_true rfl) (pc := 500) dL_law_500 rfl ?_
  refine r_icmp_eq B (pc := 503) (tgt := 1519) (a := ()) (b := ()) (z := ()) dL_law_503 (by decide) (it_s _) (fun _ _ => ?_) (fun h _ => absurd rfl h)
  exact next
set_option maxHeartbeats 4000000 in
theorem law_c10 {X : Cx} {K : Kt} {b L : Nat} {xs : Nat → Int32} {v : Int32} {ad am : Nat → Nat} {nw : Nat} {σ μ : St} (B : Bs X cL_law RL K 10 408) (S : Sc X b L xs) (h1 : ¬ (v + 1 < 0 ∨ L ≤ ix (v + 1))) (h2 : ¬ (v + 2 < 0 ∨ L ≤ ix (v + 2))) (h3 : ¬ (v + 3 < 0 ∨ L ≤ ix (v + 3))) (h4 : ¬ (v + 4 < 0 ∨ L ≤ ix (v + 4))) (h5 : ¬ (v + 5 < 0 ∨ L ≤ ix (v + 5))) {r : Int32} {σ' : St} {μ' : St} (hC : f_X6_type σ (xs (ix (v + 1))) = some (r, σ')) (hM : f_X7_type μ (xs (ix (v + 1))) = some (r, μ')) (next : MW X (wC ad K nw σ' ++ wM am K μ') 1519 [some (.ref b), some (.ref (ad 0)), some (.ref (am 0)), some (.int v)] []) : MW X (wC ad K nw σ ++ wM am K μ) 508 [some (.ref b), some (.ref (ad 0)), some (.ref (am 0)), some (.int v)] [] := by
  refine r_aload_n B (pc := 508) dL_law_508 rfl rfl ?_
  refine r_aload_n B (pc := 509) dL_law_509 rfl rfl ?_
  refine r_iload_n B (pc := 510) dL_law_510 rfl rfl ?_
  refine r_iconst B (pc := 511) dL_law_511 kc_1 ?_
  refine r_iadd B (pc := 512) dL_law_512 ?_
  refine r_sld B S h1 (pc := 513) dL_law_513 ?_
  refine r_cL B (c_X6_type X.l X.D K ad nw σ (xs (ix (v + 1))) hC) F_X6_type lk_RL_57 (q0 := 0) (ci := 6) rfl rfl (Nat.le_of_ble_eq_true rfl) (Nat.le_of_ble_eq_true rfl) (Nat.le_of_ble_eq_true rfl) (pc := 514) dL_law_514 rfl ?_
  refine r_aload_n B (pc := 517) dL_law_517 rfl rfl ?_
  refine r_aload_n B (pc := 518) dL_law_518 rfl rfl ?_
  refine r_iload_n B (pc := 519) dL_law_519 rfl rfl ?_
  refine r_iconst B (pc := 520) dL_law_520 kc_1 ?_
  refine r_iadd B (pc := 521) dL_law_521 ?_
  refine r_sld B S h1 (pc := 522) dL_law_522 ?_
  refine r_cR B (c_X7_type X.l X.D K am μ (xs (ix (v + 1))) hM) F_X7_type lk_RL_60 (q0 := 0) (ci := 7) rfl rfl (Nat.le_of_ble_eq_true rfl) (Nat.le_of_ble_eq_true rfl) (Nat.le_of_ble_eq_true rfl) (pc := 523) dL_law_523 rfl ?_
  refine r_icmp_eq B (pc := 526) (tgt := 1519) (a := ()) (b := ()) (z := ()) dL_law_526 (by decide) (it_s _) (fun _ _ => ?_) (fun h _ => absurd rfl h)
  exact next
set_option maxHeartbeats 4000000 in
theorem law_c11 {X : Cx} {K : Kt} {b L : Nat} {xs : Nat → Int32} {v : Int32} {ad am : Nat → Nat} {nw : Nat} {σ μ : St} (B : Bs X cL_law RL K 10 408) (S : Sc X b L xs) (h1 : ¬ (v + 1 < 0 ∨ L ≤ ix (v + 1))) (h2 : ¬ (v + 2 < 0 ∨ L ≤ ix (v + 2))) (h3 : ¬ (v + 3 < 0 ∨ L ≤ ix (v + 3))) (h4 : ¬ (v + 4 < 0 ∨ L ≤ ix (v + 4))) (h5 : ¬ (v + 5 < 0 ∨ L ≤ ix (v + 5))) {r : Int32} {σ' : St} {μ' : St} (hC : f_X6_yard σ = some (r, σ')) (hM : f_X7_yard μ = some (r, μ')) (next : MW X (wC ad K nw σ' ++ wM am K μ') 1519 [some (.ref b), some (.ref (ad 0)), some (.ref (am 0)), some (.int v)] []) : MW X (wC ad K nw σ ++ wM am K μ) 531 [some (.ref b), some (.ref (ad 0)), some (.ref (am 0)), some (.int v)] [] := by
  refine r_aload_n B (pc := 531) dL_law_531 rfl rfl ?_
  refine r_cL B (c_X6_yard X.l X.D K ad nw σ hC) F_X6_yard lk_RL_61 (q0 := 0) (ci := 6) rfl rfl (Nat.le_of_ble_eq_true rfl) (Nat.le_of_ble_eq_true rfl) (Nat.le_of_ble_eq_true rfl) (pc := 532) dL_law_532 rfl ?_
  refine r_aload_n B (pc := 535) dL_law_535 rfl rfl ?_
  refine r_cR B (c_X7_yard X.l X.D K am μ hM) F_X7_yard lk_RL_64 (q0 := 0) (ci := 7) rfl rfl (Nat.le_of_ble_eq_true rfl) (Nat.le_of_ble_eq_true rfl) (Nat.le_of_ble_eq_true rfl) (pc := 536) dL_law_536 rfl ?_
  refine r_icmp_eq B (pc := 539) (tgt := 1519) (a := ()) (b := ()) (z := ()) dL_law_539 (by decide) (it_s _) (fun _ _ => ?_) (fun h _ => absurd rfl h)
  exact next
set_option maxHeartbeats 4000000 in
theorem law_c12 {X : Cx} {K : Kt} {b L : Nat} {xs : Nat → Int32} {v : Int32} {ad am : Nat → Nat} {nw : Nat} {σ μ : St} (B : Bs X cL_law RL K 10 408) (S : Sc X b L xs) (h1 : ¬ (v + 1 < 0 ∨ L ≤ ix (v + 1))) (h2 : ¬ (v + 2 < 0 ∨ L ≤ ix (v + 2))) (h3 : ¬ (v + 3 < 0 ∨ L ≤ ix (v + 3))) (h4 : ¬ (v + 4 < 0 ∨ L ≤ ix (v + 4))) (h5 : ¬ (v + 5 < 0 ∨ L ≤ ix (v + 5))) {r : Int32} {σ' : St} {μ' : St} (hC : f_X6_paper σ = some (r, σ')) (hM : f_X7_paper μ = some (r, μ')) (next : MW X (wC ad K nw σ' ++ wM am K μ') 1519 [some (.ref b), some (.ref (ad 0)), some (.ref (am 0)), some (.int v)] []) : MW X (wC ad K nw σ ++ wM am K μ) 544 [some (.ref b), some (.ref (ad 0)), some (.ref (am 0)), some (.int v)] [] := by
  refine r_aload_n B (pc := 544) dL_law_544 rfl rfl ?_
  refine r_cL B (c_X6_paper X.l X.D K ad nw σ hC) F_X6_paper lk_RL_65 (q0 := 0) (ci := 6) rfl rfl (Nat.le_of_ble_eq_true rfl) (Nat.le_of_ble_eq_true rfl) (Nat.le_of_ble_eq_true rfl) (pc := 545) dL_law_545 rfl ?_
  refine r_aload_n B (pc := 548) dL_law_548 rfl rfl ?_
  refine r_cR B (c_X7_paper X.l X.D K am μ hM) F_X7_paper lk_RL_68 (q0 := 0) (ci := 7) rfl rfl (Nat.le_of_ble_eq_true rfl) (Nat.le_of_ble_eq_true rfl) (Nat.le_of_ble_eq_true rfl) (pc := 549) dL_law_549 rfl ?_
  refine r_icmp_eq B (pc := 552) (tgt := 1519) (a := ()) (b := ()) (z := ()) dL_law_552 (by decide) (it_s _) (fun _ _ => ?_) (fun h _ => absurd rfl h)
  exact next
set_option maxHeartbeats 4000000 in
theorem law_c13 {X : Cx} {K : Kt} {b L : Nat} {xs : Nat → Int32} {v : Int32} {ad am : Nat → Nat} {nw : Nat} {σ μ : St} (B : Bs X cL_law RL K 10 408) (S : Sc X b L xs) (h1 : ¬ (v + 1 < 0 ∨ L ≤ ix (v + 1))) (h2 : ¬ (v + 2 < 0 ∨ L ≤ ix (v + 2))) (h3 : ¬ (v + 3 < 0 ∨ L ≤ ix (v + 3))) (h4 : ¬ (v + 4 < 0 ∨ L ≤ ix (v + 4))) (h5 : ¬ (v + 5 < 0 ∨ L ≤ ix (v + 5))) {r : Int32} {σ' : St} {μ' : St} (hC : f_X6_day σ = some (r, σ')) (hM : f_X7_day μ = some (r, μ')) (next : MW X (wC ad K nw σ' ++ wM am K μ') 1519 [some (.ref b), some (.ref (ad 0)), some (.ref (am 0)), some (.int v)] []) : MW X (wC ad K nw σ ++ wM am K μ) 557 [some (.ref b), some (.ref (ad 0)), some (.ref (am 0)), some (.int v)] [] := by
  refine r_aload_n B (pc := 557) dL_law_557 rfl rfl ?_
  refine r_cL B (c_X6_day X.l X.D K ad nw σ hC) F_X6_day lk_RL_69 (q0 := 0) (ci := 6) rfl rfl (Nat.le_of_ble_eq_true rfl) (Nat.le_of_ble_eq_true rfl) (Nat.le_of_ble_eq_true rfl) (pc := 558) dL_law_558 rfl ?_
  refine r_aload_n B (pc := 561) dL_law_561 rfl rfl ?_
  refine r_cR B (c_X7_day X.l X.D K am μ hM) F_X7_day lk_RL_72 (q0 := 0) (ci := 7) rfl rfl (Nat.le_of_ble_eq_true rfl) (Nat.le_of_ble_eq_true rfl) (Nat.le_of_ble_eq_true rfl) (pc := 562) dL_law_562 rfl ?_
  refine r_icmp_eq B (pc := 565) (tgt := 1519) (a := ()) (b := ()) (z := ()) dL_law_565 (by decide) (it_s _) (fun _ _ => ?_) (fun h _ => absurd rfl h)
  exact next
set_option maxHeartbeats 4000000 in
theorem law_c14 {X : Cx} {K : Kt} {b L : Nat} {xs : Nat → Int32} {v : Int32} {ad am : Nat → Nat} {nw : Nat} {σ μ : St} (B : Bs X cL_law RL K 10 408) (S : Sc X b L xs) (h1 : ¬ (v + 1 < 0 ∨ L ≤ ix (v + 1))) (h2 : ¬ (v + 2 < 0 ∨ L ≤ ix (v + 2))) (h3 : ¬ (v + 3 < 0 ∨ L ≤ ix (v + 3))) (h4 : ¬ (v + 4 < 0 ∨ L ≤ ix (v + 4))) (h5 : ¬ (v + 5 < 0 ∨ L ≤ ix (v + 5))) {r : Int32} (hC : f_X6_count σ (xs (ix (v + 1))) = some r) (hM : f_X7_count μ (xs (ix (v + 1))) = some r) (next : MW X (wC ad K nw σ ++ wM am K μ) 1519 [some (.ref b), some (.ref (ad 0)), some (.ref (am 0)), some (.int v)] []) : MW X (wC ad K nw σ ++ wM am K μ) 570 [some (.ref b), some (.ref (ad 0)), some (.ref (am 0)), some (.int v)] [] := by
  refine r_aload_n B (pc := 570) dL_law_570 rfl rfl ?_
  refine r_aload_n B (pc := 571) dL_law_571 rfl rfl ?_
  refine r_iload_n B (pc := 572) dL_law_572 rfl rfl ?_
  refine r_iconst B (pc := 573) dL_law_573 kc_1 ?_
  refine r_iadd B (pc := 574) dL_law_574 ?_
  refine r_sld B S h1 (pc := 575) dL_law_575 ?_
  refine r_cL B (c_X6_count X.l X.D K ad nw σ (xs (ix (v + 1))) hC) F_X6_count lk_RL_73 (q0 := 0) (ci := 6) rfl rfl (Nat.le_of_ble_eq_true rfl) (Nat.le_of_ble_eq_true rfl) (Nat.le_of_ble_eq_true rfl) (pc := 576) dL_law_576 rfl ?_
  refine r_aload_n B (pc := 579) dL_law_579 rfl rfl ?_
  refine r_aload_n B (pc := 580) dL_law_580 rfl rfl ?_
  refine r_iload_n B (pc := 581) dL_law_581 rfl rfl ?_
  refine r_iconst B (pc := 582) dL_law_582 kc_1 ?_
  refine r_iadd B (pc := 583) dL_law_583 ?_
  refine r_sld B S h1 (pc := 584) dL_law_584 ?_
  refine r_cR B (c_X7_count X.l X.D K am μ (xs (ix (v + 1))) hM) F_X7_count lk_RL_76 (q0 := 0) (ci := 7) rfl rfl (Nat.le_of_ble_eq_true rfl) (Nat.le_of_ble_eq_true rfl) (Nat.le_of_ble_eq_true rfl) (pc := 585) dL_law_585 rfl ?_
  refine r_icmp_eq B (pc := 588) (tgt := 1519) (a := ()) (b := ()) (z := ()) dL_law_588 (by decide) (it_s _) (fun _ _ => ?_) (fun h _ => absurd rfl h)
  exact next
set_option maxHeartbeats 4000000 in
theorem law_c15 {X : Cx} {K : Kt} {b L : Nat} {xs : Nat → Int32} {v : Int32} {ad am : Nat → Nat} {nw : Nat} {σ μ : St} (B : Bs X cL_law RL K 10 408) (S : Sc X b L xs) (h1 : ¬ (v + 1 < 0 ∨ L ≤ ix (v + 1))) (h2 : ¬ (v + 2 < 0 ∨ L ≤ ix (v + 2))) (h3 : ¬ (v + 3 < 0 ∨ L ≤ ix (v + 3))) (h4 : ¬ (v + 4 < 0 ∨ L ≤ ix (v + 4))) (h5 : ¬ (v + 5 < 0 ∨ L ≤ ix (v + 5))) {r : Int32} (hC : f_X6_hears σ (xs (ix (v + 1))) (xs (ix (v + 2))) = some r) (hM : f_X7_hears μ (xs (ix (v + 1))) (xs (ix (v + 2))) = some r) (next : MW X (wC ad K nw σ ++ wM am K μ) 1519 [some (.ref b), some (.ref (ad 0)), some (.ref (am 0)), some (.int v)] []) : MW X (wC ad K nw σ ++ wM am K μ) 593 [some (.ref b), some (.ref (ad 0)), some (.ref (am 0)), some (.int v)] [] := by
  refine r_aload_n B (pc := 593) dL_law_593 rfl rfl ?_
  refine r_aload_n B (pc := 594) dL_law_594 rfl rfl ?_
  refine r_iload_n B (pc := 595) dL_law_595 rfl rfl ?_
  refine r_iconst B (pc := 596) dL_law_596 kc_1 ?_
  refine r_iadd B (pc := 597) dL_law_597 ?_
  refine r_sld B S h1 (pc := 598) dL_law_598 ?_
  refine r_aload_n B (pc := 599) dL_law_599 rfl rfl ?_
  refine r_iload_n B (pc := 600) dL_law_600 rfl rfl ?_
  refine r_iconst B (pc := 601) dL_law_601 kc_2 ?_
  refine r_iadd B (pc := 602) dL_law_602 ?_
  refine r_sld B S h2 (pc := 603) dL_law_603 ?_
  refine r_cL B (c_X6_hears X.l X.D K ad nw σ (xs (ix (v + 1))) (xs (ix (v + 2))) hC) F_X6_hears lk_RL_77 (q0 := 0) (ci := 6) rfl rfl (Nat.le_of_ble_eq_true rfl) (Nat.le_of_ble_eq_true rfl) (Nat.le_of_ble_eq_true rfl) (pc := 604) dL_law_604 rfl ?_
  refine r_aload_n B (pc := 607) dL_law_607 rfl rfl ?_
  refine r_aload_n B (pc := 608) dL_law_608 rfl rfl ?_
  refine r_iload_n B (pc := 609) dL_law_609 rfl rfl ?_
  refine r_iconst B (pc := 610) dL_law_610 kc_1 ?_
  refine r_iadd B (pc := 611) dL_law_611 ?_
  refine r_sld B S h1 (pc := 612) dL_law_612 ?_
  refine r_aload_n B (pc := 613) dL_law_613 rfl rfl ?_
  refine r_iload_n B (pc := 614) dL_law_614 rfl rfl ?_
  refine r_iconst B (pc := 615) dL_law_615 kc_2 ?_
  refine r_iadd B (pc := 616) dL_law_616 ?_
  refine r_sld B S h2 (pc := 617) dL_law_617 ?_
  refine r_cR B (c_X7_hears X.l X.D K am μ (xs (ix (v + 1))) (xs (ix (v + 2))) hM) F_X7_hears lk_RL_80 (q0 := 0) (ci := 7) rfl rfl (Nat.le_of_ble_eq_true rfl) (Nat.le_of_ble_eq_true rfl) (Nat.le_of_ble_eq_true rfl) (pc := 618) dL_law_618 rfl ?_
  refine r_icmp_eq B (pc := 621) (tgt := 1519) (a := ()) (b := ()) (z := ()) dL_law_621 (by decide) (it_s _) (fun _ _ => ?_) (fun h _ => absurd rfl h)
  exact next
set_option maxHeartbeats 4000000 in
theorem law_c16 {X : Cx} {K : Kt} {b L : Nat} {xs : Nat → Int32} {v : Int32} {ad am : Nat → Nat} {nw : Nat} {σ μ : St} (B : Bs X cL_law RL K 10 408) (S : Sc X b L xs) (h1 : ¬ (v + 1 < 0 ∨ L ≤ ix (v + 1))) (h2 : ¬ (v + 2 < 0 ∨ L ≤ ix (v + 2))) (h3 : ¬ (v + 3 < 0 ∨ L ≤ ix (v + 3))) (h4 : ¬ (v + 4 < 0 ∨ L ≤ ix (v + 4))) (h5 : ¬ (v + 5 < 0 ∨ L ≤ ix (v + 5))) {r : Int32} (hC : f_X6_wronged σ (xs (ix (v + 1))) (xs (ix (v + 2))) (xs (ix (v + 3))) = some r) (hM : f_X7_wronged μ (xs (ix (v + 1))) (xs (ix (v + 2))) (xs (ix (v + 3))) = some r) (next : MW X (wC ad K nw σ ++ wM am K μ) 1519 [some (.ref b), some (.ref (ad 0)), some (.ref (am 0)), some (.int v)] []) : MW X (wC ad K nw σ ++ wM am K μ) 626 [some (.ref b), some (.ref (ad 0)), some (.ref (am 0)), some (.int v)] [] := by
  refine r_aload_n B (pc := 626) dL_law_626 rfl rfl ?_
  refine r_aload_n B (pc := 627) dL_law_627 rfl rfl ?_
  refine r_iload_n B (pc := 628) dL_law_628 rfl rfl ?_
  refine r_iconst B (pc := 629) dL_law_629 kc_1 ?_
  refine r_iadd B (pc := 630) dL_law_630 ?_
  refine r_sld B S h1 (pc := 631) dL_law_631 ?_
  refine r_aload_n B (pc := 632) dL_law_632 rfl rfl ?_
  refine r_iload_n B (pc := 633) dL_law_633 rfl rfl ?_
  refine r_iconst B (pc := 634) dL_law_634 kc_2 ?_
  refine r_iadd B (pc := 635) dL_law_635 ?_
  refine r_sld B S h2 (pc := 636) dL_law_636 ?_
  refine r_aload_n B (pc := 637) dL_law_637 rfl rfl ?_
  refine r_iload_n B (pc := 638) dL_law_638 rfl rfl ?_
  refine r_iconst B (pc := 639) dL_law_639 kc_3 ?_
  refine r_iadd B (pc := 640) dL_law_640 ?_
  refine r_sld B S h3 (pc := 641) dL_law_641 ?_
  refine r_cL B (c_X6_wronged X.l X.D K ad nw σ (xs (ix (v + 1))) (xs (ix (v + 2))) (xs (ix (v + 3))) hC) F_X6_wronged lk_RL_81 (q0 := 0) (ci := 6) rfl rfl (Nat.le_of_ble_eq_true rfl) (Nat.le_of_ble_eq_true rfl) (Nat.le_of_ble_eq_true rfl) (pc := 642) dL_law_642 rfl ?_
  refine r_aload_n B (pc := 645) dL_law_645 rfl rfl ?_
  refine r_aload_n B (pc := 646) dL_law_646 rfl rfl ?_
  refine r_iload_n B (pc := 647) dL_law_647 rfl rfl ?_
  refine r_iconst B (pc := 648) dL_law_648 kc_1 ?_
  refine r_iadd B (pc := 649) dL_law_649 ?_
  refine r_sld B S h1 (pc := 650) dL_law_650 ?_
  refine r_aload_n B (pc := 651) dL_law_651 rfl rfl ?_
  refine r_iload_n B (pc := 652) dL_law_652 rfl rfl ?_
  refine r_iconst B (pc := 653) dL_law_653 kc_2 ?_
  refine r_iadd B (pc := 654) dL_law_654 ?_
  refine r_sld B S h2 (pc := 655) dL_law_655 ?_
  refine r_aload_n B (pc := 656) dL_law_656 rfl rfl ?_
  refine r_iload_n B (pc := 657) dL_law_657 rfl rfl ?_
  refine r_iconst B (pc := 658) dL_law_658 kc_3 ?_
  refine r_iadd B (pc := 659) dL_law_659 ?_
  refine r_sld B S h3 (pc := 660) dL_law_660 ?_
  refine r_cR B (c_X7_wronged X.l X.D K am μ (xs (ix (v + 1))) (xs (ix (v + 2))) (xs (ix (v + 3))) hM) F_X7_wronged lk_RL_84 (q0 := 0) (ci := 7) rfl rfl (Nat.le_of_ble_eq_true rfl) (Nat.le_of_ble_eq_true rfl) (Nat.le_of_ble_eq_true rfl) (pc := 661) dL_law_661 rfl ?_
  refine r_icmp_eq B (pc := 664) (tgt := 1519) (a := ()) (b := ()) (z := ()) dL_law_664 (by decide) (it_s _) (fun _ _ => ?_) (fun h _ => absurd rfl h)
  exact next
set_option maxHeartbeats 4000000 in
theorem law_c17 {X : Cx} {K : Kt} {b L : Nat} {xs : Nat → Int32} {v : Int32} {ad am : Nat → Nat} {nw : Nat} {σ μ : St} (B : Bs X cL_law RL K 10 408) (S : Sc X b L xs) (h1 : ¬ (v + 1 < 0 ∨ L ≤ ix (v + 1))) (h2 : ¬ (v + 2 < 0 ∨ L ≤ ix (v + 2))) (h3 : ¬ (v + 3 < 0 ∨ L ≤ ix (v + 3))) (h4 : ¬ (v + 4 < 0 ∨ L ≤ ix (v + 4))) (h5 : ¬ (v + 5 < 0 ∨ L ≤ ix (v + 5))) {r : Int32} {σ' : St} {μ' : St} (hC : f_X6_read σ (xs (ix (v + 1))) (xs (ix (v + 2))) (xs (ix (v + 3))) = some (r, σ')) (hM : f_X7_read μ (xs (ix (v + 1))) (xs (ix (v + 2))) (xs (ix (v + 3))) = some (r, μ')) (next : MW X (wC ad K nw σ' ++ wM am K μ') 1519 [some (.ref b), some (.ref (ad 0)), some (.ref (am 0)), some (.int v)] []) : MW X (wC ad K nw σ ++ wM am K μ) 669 [some (.ref b), some (.ref (ad 0)), some (.ref (am 0)), some (.int v)] [] := by
  refine r_aload_n B (pc := 669) dL_law_669 rfl rfl ?_
  refine r_aload_n B (pc := 670) dL_law_670 rfl rfl ?_
  refine r_iload_n B (pc := 671) dL_law_671 rfl rfl ?_
  refine r_iconst B (pc := 672) dL_law_672 kc_1 ?_
  refine r_iadd B (pc := 673) dL_law_673 ?_
  refine r_sld B S h1 (pc := 674) dL_law_674 ?_
  refine r_aload_n B (pc := 675) dL_law_675 rfl rfl ?_
  refine r_iload_n B (pc := 676) dL_law_676 rfl rfl ?_
  refine r_iconst B (pc := 677) dL_law_677 kc_2 ?_
  refine r_iadd B (pc := 678) dL_law_678 ?_
  refine r_sld B S h2 (pc := 679) dL_law_679 ?_
  refine r_aload_n B (pc := 680) dL_law_680 rfl rfl ?_
  refine r_iload_n B (pc := 681) dL_law_681 rfl rfl ?_
  refine r_iconst B (pc := 682) dL_law_682 kc_3 ?_
  refine r_iadd B (pc := 683) dL_law_683 ?_
  refine r_sld B S h3 (pc := 684) dL_law_684 ?_
  refine r_cL B (c_X6_read X.l X.D K ad nw σ (xs (ix (v + 1))) (xs (ix (v + 2))) (xs (ix (v + 3))) hC) F_X6_read lk_RL_85 (q0 := 0) (ci := 6) rfl rfl (Nat.le_of_ble_eq_true rfl) (Nat.le_of_ble_eq_true rfl) (Nat.le_of_ble_eq_true rfl) (pc := 685) dL_law_685 rfl ?_
  refine r_aload_n B (pc := 688) dL_law_688 rfl rfl ?_
  refine r_aload_n B (pc := 689) dL_law_689 rfl rfl ?_
  refine r_iload_n B (pc := 690) dL_law_690 rfl rfl ?_
  refine r_iconst B (pc := 691) dL_law_691 kc_1 ?_
  refine r_iadd B (pc := 692) dL_law_692 ?_
  refine r_sld B S h1 (pc := 693) dL_law_693 ?_
  refine r_aload_n B (pc := 694) dL_law_694 rfl rfl ?_
  refine r_iload_n B (pc := 695) dL_law_695 rfl rfl ?_
  refine r_iconst B (pc := 696) dL_law_696 kc_2 ?_
  refine r_iadd B (pc := 697) dL_law_697 ?_
  refine r_sld B S h2 (pc := 698) dL_law_698 ?_
  refine r_aload_n B (pc := 699) dL_law_699 rfl rfl ?_
  refine r_iload_n B (pc := 700) dL_law_700 rfl rfl ?_
  refine r_iconst B (pc := 701) dL_law_701 kc_3 ?_
  refine r_iadd B (pc := 702) dL_law_702 ?_
  refine r_sld B S h3 (pc := 703) dL_law_703 ?_
  refine r_cR B (c_X7_read X.l X.D K am μ (xs (ix (v + 1))) (xs (ix (v + 2))) (xs (ix (v + 3))) hM) F_X7_read lk_RL_88 (q0 := 0) (ci := 7) rfl rfl (Nat.le_of_ble_eq_true rfl) (Nat.le_of_ble_eq_true rfl) (Nat.le_of_ble_eq_true rfl) (pc := 704) dL_law_704 rfl ?_
  refine r_icmp_eq B (pc := 707) (tgt := 1519) (a := ()) (b := ()) (z := ()) dL_law_707 (by decide) (it_s _) (fun _ _ => ?_) (fun h _ => absurd rfl h)
  exact next
set_option maxHeartbeats 4000000 in
theorem law_c18 {X : Cx} {K : Kt} {b L : Nat} {xs : Nat → Int32} {v : Int32} {ad am : Nat → Nat} {nw : Nat} {σ μ : St} (B : Bs X cL_law RL K 10 408) (S : Sc X b L xs) (h1 : ¬ (v + 1 < 0 ∨ L ≤ ix (v + 1))) (h2 : ¬ (v + 2 < 0 ∨ L ≤ ix (v + 2))) (h3 : ¬ (v + 3 < 0 ∨ L ≤ ix (v + 3))) (h4 : ¬ (v + 4 < 0 ∨ L ≤ ix (v + 4))) (h5 : ¬ (v + 5 < 0 ∨ L ≤ ix (v + 5))) {r : Int32} {σ' : St} {μ' : St} (hC : f_X6_undo σ = some (r, σ')) (hM : f_X7_undo μ = some (r, μ')) (next : MW X (wC ad K nw σ' ++ wM am K μ') 1519 [some (.ref b), some (.ref (ad 0)), some (.ref (am 0)), some (.int v)] []) : MW X (wC ad K nw σ ++ wM am K μ) 712 [some (.ref b), some (.ref (ad 0)), some (.ref (am 0)), some (.int v)] [] := by
  refine r_aload_n B (pc := 712) dL_law_712 rfl rfl ?_
  refine r_cL B (c_X6_undo X.l X.D K ad nw σ hC) F_X6_undo lk_RL_89 (q0 := 0) (ci := 6) rfl rfl (Nat.le_of_ble_eq_true rfl) (Nat.le_of_ble_eq_true rfl) (Nat.le_of_ble_eq_true rfl) (pc := 713) dL_law_713 rfl ?_
  refine r_aload_n B (pc := 716) dL_law_716 rfl rfl ?_
  refine r_cR B (c_X7_undo X.l X.D K am μ hM) F_X7_undo lk_RL_92 (q0 := 0) (ci := 7) rfl rfl (Nat.le_of_ble_eq_true rfl) (Nat.le_of_ble_eq_true rfl) (Nat.le_of_ble_eq_true rfl) (pc := 717) dL_law_717 rfl ?_
  refine r_icmp_eq B (pc := 720) (tgt := 1519) (a := ()) (b := ()) (z := ()) dL_law_720 (by decide) (it_s _) (fun _ _ => ?_) (fun h _ => absurd rfl h)
  exact next
set_option maxHeartbeats 4000000 in
theorem law_c19 {X : Cx} {K : Kt} {b L : Nat} {xs : Nat → Int32} {v : Int32} {ad am : Nat → Nat} {nw : Nat} {σ μ : St} (B : Bs X cL_law RL K 10 408) (S : Sc X b L xs) (h1 : ¬ (v + 1 < 0 ∨ L ≤ ix (v + 1))) (h2 : ¬ (v + 2 < 0 ∨ L ≤ ix (v + 2))) (h3 : ¬ (v + 3 < 0 ∨ L ≤ ix (v + 3))) (h4 : ¬ (v + 4 < 0 ∨ L ≤ ix (v + 4))) (h5 : ¬ (v + 5 < 0 ∨ L ≤ ix (v + 5))) {r : Int32} {σ' : St} {μ' : St} (hC : f_X6_lots σ (xs (ix (v + 1))) = some (r, σ')) (hM : f_X7_lots μ (xs (ix (v + 1))) = some (r, μ')) (next : MW X (wC ad K nw σ' ++ wM am K μ') 1519 [some (.ref b), some (.ref (ad 0)), some (.ref (am 0)), some (.int v)] []) : MW X (wC ad K nw σ ++ wM am K μ) 725 [some (.ref b), some (.ref (ad 0)), some (.ref (am 0)), some (.int v)] [] := by
  refine r_aload_n B (pc := 725) dL_law_725 rfl rfl ?_
  refine r_aload_n B (pc := 726) dL_law_726 rfl rfl ?_
  refine r_iload_n B (pc := 727) dL_law_727 rfl rfl ?_
  refine r_iconst B (pc := 728) dL_law_728 kc_1 ?_
  refine r_iadd B (pc := 729) dL_law_729 ?_
  refine r_sld B S h1 (pc := 730) dL_law_730 ?_
  refine r_cL B (c_X6_lots X.l X.D K ad nw σ (xs (ix (v + 1))) hC) F_X6_lots lk_RL_93 (q0 := 0) (ci := 6) rfl rfl (Nat.le_of_ble_eq_true rfl) (Nat.le_of_ble_eq_true rfl) (Nat.le_of_ble_eq_true rfl) (pc := 731) dL_law_731 rfl ?_
  refine r_aload_n B (pc := 734) dL_law_734 rfl rfl ?_
  refine r_aload_n B (pc := 735) dL_law_735 rfl rfl ?_
  refine r_iload_n B (pc := 736) dL_law_736 rfl rfl ?_
  refine r_iconst B (pc := 737) dL_law_737 kc_1 ?_
  refine r_iadd B (pc := 738) dL_law_738 ?_
  refine r_sld B S h1 (pc := 739) dL_law_739 ?_
  refine r_cR B (c_X7_lots X.l X.D K am μ (xs (ix (v + 1))) hM) F_X7_lots lk_RL_96 (q0 := 0) (ci := 7) rfl rfl (Nat.le_of_ble_eq_true rfl) (Nat.le_of_ble_eq_true rfl) (Nat.le_of_ble_eq_true rfl) (pc := 740) dL_law_740 rfl ?_
  refine r_icmp_eq B (pc := 743) (tgt := 1519) (a := ()) (b := ()) (z := ()) dL_law_743 (by decide) (it_s _) (fun _ _ => ?_) (fun h _ => absurd rfl h)
  exact next
set_option maxHeartbeats 4000000 in
theorem law_c20 {X : Cx} {K : Kt} {b L : Nat} {xs : Nat → Int32} {v : Int32} {ad am : Nat → Nat} {nw : Nat} {σ μ : St} (B : Bs X cL_law RL K 10 408) (S : Sc X b L xs) (h1 : ¬ (v + 1 < 0 ∨ L ≤ ix (v + 1))) (h2 : ¬ (v + 2 < 0 ∨ L ≤ ix (v + 2))) (h3 : ¬ (v + 3 < 0 ∨ L ≤ ix (v + 3))) (h4 : ¬ (v + 4 < 0 ∨ L ≤ ix (v + 4))) (h5 : ¬ (v + 5 < 0 ∨ L ≤ ix (v + 5))) {r : Int32} {σ' : St} {μ' : St} (hC : f_X6_seed σ (xs (ix (v + 1))) = some (r, σ')) (hM : f_X7_seed μ (xs (ix (v + 1))) = some (r, μ')) (next : MW X (wC ad K nw σ' ++ wM am K μ') 1519 [some (.ref b), some (.ref (ad 0)), some (.ref (am 0)), some (.int v)] []) : MW X (wC ad K nw σ ++ wM am K μ) 748 [some (.ref b), some (.ref (ad 0)), some (.ref (am 0)), some (.int v)] [] := by
  refine r_aload_n B (pc := 748) dL_law_748 rfl rfl ?_
  refine r_aload_n B (pc := 749) dL_law_749 rfl rfl ?_
  refine r_iload_n B (pc := 750) dL_law_750 rfl rfl ?_
  refine r_iconst B (pc := 751) dL_law_751 kc_1 ?_
  refine r_iadd B (pc := 752) dL_law_752 ?_
  refine r_sld B S h1 (pc := 753) dL_law_753 ?_
  refine r_cL B (c_X6_seed X.l X.D K ad nw σ (xs (ix (v + 1))) hC) F_X6_seed lk_RL_97 (q0 := 0) (ci := 6) rfl rfl (Nat.le_of_ble_eq_true rfl) (Nat.le_of_ble_eq_true rfl) (Nat.le_of_ble_eq_true rfl) (pc := 754) dL_law_754 rfl ?_
  refine r_aload_n B (pc := 757) dL_law_757 rfl rfl ?_
  refine r_aload_n B (pc := 758) dL_law_758 rfl rfl ?_
  refine r_iload_n B (pc := 759) dL_law_759 rfl rfl ?_
  refine r_iconst B (pc := 760) dL_law_760 kc_1 ?_
  refine r_iadd B (pc := 761) dL_law_761 ?_
  refine r_sld B S h1 (pc := 762) dL_law_762 ?_
  refine r_cR B (c_X7_seed X.l X.D K am μ (xs (ix (v + 1))) hM) F_X7_seed lk_RL_100 (q0 := 0) (ci := 7) rfl rfl (Nat.le_of_ble_eq_true rfl) (Nat.le_of_ble_eq_true rfl) (Nat.le_of_ble_eq_true rfl) (pc := 763) dL_law_763 rfl ?_
  refine r_icmp_eq B (pc := 766) (tgt := 1519) (a := ()) (b := ()) (z := ()) dL_law_766 (by decide) (it_s _) (fun _ _ => ?_) (fun h _ => absurd rfl h)
  exact next
set_option maxHeartbeats 4000000 in
theorem law_c21 {X : Cx} {K : Kt} {b L : Nat} {xs : Nat → Int32} {v : Int32} {ad am : Nat → Nat} {nw : Nat} {σ μ : St} (B : Bs X cL_law RL K 10 408) (S : Sc X b L xs) (h1 : ¬ (v + 1 < 0 ∨ L ≤ ix (v + 1))) (h2 : ¬ (v + 2 < 0 ∨ L ≤ ix (v + 2))) (h3 : ¬ (v + 3 < 0 ∨ L ≤ ix (v + 3))) (h4 : ¬ (v + 4 < 0 ∨ L ≤ ix (v + 4))) (h5 : ¬ (v + 5 < 0 ∨ L ≤ ix (v + 5))) {r : Int32} (hC : f_X6_stand σ (xs (ix (v + 1))) (xs (ix (v + 2))) = some r) (hM : f_X7_stand μ (xs (ix (v + 1))) (xs (ix (v + 2))) = some r) (next : MW X (wC ad K nw σ ++ wM am K μ) 1519 [some (.ref b), some (.ref (ad 0)), some (.ref (am 0)), some (.int v)] []) : MW X (wC ad K nw σ ++ wM am K μ) 771 [some (.ref b), some (.ref (ad 0)), some (.ref (am 0)), some (.int v)] [] := by
  refine r_aload_n B (pc := 771) dL_law_771 rfl rfl ?_
  refine r_aload_n B (pc := 772) dL_law_772 rfl rfl ?_
  refine r_iload_n B (pc := 773) dL_law_773 rfl rfl ?_
  refine r_iconst B (pc := 774) dL_law_774 kc_1 ?_
  refine r_iadd B (pc := 775) dL_law_775 ?_
  refine r_sld B S h1 (pc := 776) dL_law_776 ?_
  refine r_aload_n B (pc := 777) dL_law_777 rfl rfl ?_
  refine r_iload_n B (pc := 778) dL_law_778 rfl rfl ?_
  refine r_iconst B (pc := 779) dL_law_779 kc_2 ?_
  refine r_iadd B (pc := 780) dL_law_780 ?_
  refine r_sld B S h2 (pc := 781) dL_law_781 ?_
  refine r_cL B (c_X6_stand X.l X.D K ad nw σ (xs (ix (v + 1))) (xs (ix (v + 2))) hC) F_X6_stand lk_RL_101 (q0 := 0) (ci := 6) rfl rfl (Nat.le_of_ble_eq_true rfl) (Nat.le_of_ble_eq_true rfl) (Nat.le_of_ble_eq_true rfl) (pc := 782) dL_law_782 rfl ?_
  refine r_aload_n B (pc := 785) dL_law_785 rfl rfl ?_
  refine r_aload_n B (pc := 786) dL_law_786 rfl rfl ?_
  refine r_iload_n B (pc := 787) dL_law_787 rfl rfl ?_
  refine r_iconst B (pc := 788) dL_law_788 kc_1 ?_
  refine r_iadd B (pc := 789) dL_law_789 ?_
  refine r_sld B S h1 (pc := 790) dL_law_790 ?_
  refine r_aload_n B (pc := 791) dL_law_791 rfl rfl ?_
  refine r_iload_n B (pc := 792) dL_law_792 rfl rfl ?_
  refine r_iconst B (pc := 793) dL_law_793 kc_2 ?_
  refine r_iadd B (pc := 794) dL_law_794 ?_
  refine r_sld B S h2 (pc := 795) dL_law_795 ?_
  refine r_cR B (c_X7_stand X.l X.D K am μ (xs (ix (v + 1))) (xs (ix (v + 2))) hM) F_X7_stand lk_RL_104 (q0 := 0) (ci := 7) rfl rfl (Nat.le_of_ble_eq_true rfl) (Nat.le_of_ble_eq_true rfl) (Nat.le_of_ble_eq_true rfl) (pc := 796) dL_law_796 rfl ?_
  refine r_icmp_eq B (pc := 799) (tgt := 1519) (a := ()) (b := ()) (z := ()) dL_law_799 (by decide) (it_s _) (fun _ _ => ?_) (fun h _ => absurd rfl h)
  exact next
set_option maxHeartbeats 4000000 in
theorem law_c22 {X : Cx} {K : Kt} {b L : Nat} {xs : Nat → Int32} {v : Int32} {ad am : Nat → Nat} {nw : Nat} {σ μ : St} (B : Bs X cL_law RL K 10 408) (S : Sc X b L xs) (h1 : ¬ (v + 1 < 0 ∨ L ≤ ix (v + 1))) (h2 : ¬ (v + 2 < 0 ∨ L ≤ ix (v + 2))) (h3 : ¬ (v + 3 < 0 ∨ L ≤ ix (v + 3))) (h4 : ¬ (v + 4 < 0 ∨ L ≤ ix (v + 4))) (h5 : ¬ (v + 5 < 0 ∨ L ≤ ix (v + 5))) {r : Int32} {σ' : St} {μ' : St} (hC : f_X6_cover σ (xs (ix (v + 1))) (xs (ix (v + 2))) (xs (ix (v + 3))) = some (r, σ')) (hM : f_X7_cover μ (xs (ix (v + 1))) (xs (ix (v + 2))) (xs (ix (v + 3))) = some (r, μ')) (next : MW X (wC ad K nw σ' ++ wM am K μ') 1519 [some (.ref b), some (.ref (ad 0)), some (.ref (am 0)), some (.int v)] []) : MW X (wC ad K nw σ ++ wM am K μ) 804 [some (.ref b), some (.ref (ad 0)), some (.ref (am 0)), some (.int v)] [] := by
  refine r_aload_n B (pc := 804) dL_law_804 rfl rfl ?_
  refine r_aload_n B (pc := 805) dL_law_805 rfl rfl ?_
  refine r_iload_n B (pc := 806) dL_law_806 rfl rfl ?_
  refine r_iconst B (pc := 807) dL_law_807 kc_1 ?_
  refine r_iadd B (pc := 808) dL_law_808 ?_
  refine r_sld B S h1 (pc := 809) dL_law_809 ?_
  refine r_aload_n B (pc := 810) dL_law_810 rfl rfl ?_
  refine r_iload_n B (pc := 811) dL_law_811 rfl rfl ?_
  refine r_iconst B (pc := 812) dL_law_812 kc_2 ?_
  refine r_iadd B (pc := 813) dL_law_813 ?_
  refine r_sld B S h2 (pc := 814) dL_law_814 ?_
  refine r_aload_n B (pc := 815) dL_law_815 rfl rfl ?_
  refine r_iload_n B (pc := 816) dL_law_816 rfl rfl ?_
  refine r_iconst B (pc := 817) dL_law_817 kc_3 ?_
  refine r_iadd B (pc := 818) dL_law_818 ?_
  refine r_sld B S h3 (pc := 819) dL_law_819 ?_
  refine r_cL B (c_X6_cover X.l X.D K ad nw σ (xs (ix (v + 1))) (xs (ix (v + 2))) (xs (ix (v + 3))) hC) F_X6_cover lk_RL_105 (q0 := 0) (ci := 6) rfl rfl (Nat.le_of_ble_eq_true rfl) (Nat.le_of_ble_eq_true rfl) (Nat.le_of_ble_eq_true rfl) (pc := 820) dL_law_820 rfl ?_
  refine r_aload_n B (pc := 823) dL_law_823 rfl rfl ?_
  refine r_aload_n B (pc := 824) dL_law_824 rfl rfl ?_
  refine r_iload_n B (pc := 825) dL_law_825 rfl rfl ?_
  refine r_iconst B (pc := 826) dL_law_826 kc_1 ?_
  refine r_iadd B (pc := 827) dL_law_827 ?_
  refine r_sld B S h1 (pc := 828) dL_law_828 ?_
  refine r_aload_n B (pc := 829) dL_law_829 rfl rfl ?_
  refine r_iload_n B (pc := 830) dL_law_830 rfl rfl ?_
  refine r_iconst B (pc := 831) dL_law_831 kc_2 ?_
  refine r_iadd B (pc := 832) dL_law_832 ?_
  refine r_sld B S h2 (pc := 833) dL_law_833 ?_
  refine r_aload_n B (pc := 834) dL_law_834 rfl rfl ?_
  refine r_iload_n B (pc := 835) dL_law_835 rfl rfl ?_
  refine r_iconst B (pc := 836) dL_law_836 kc_3 ?_
  refine r_iadd B (pc := 837) dL_law_837 ?_
  refine r_sld B S h3 (pc := 838) dL_law_838 ?_
  refine r_cR B (c_X7_cover X.l X.D K am μ (xs (ix (v + 1))) (xs (ix (v + 2))) (xs (ix (v + 3))) hM) F_X7_cover lk_RL_108 (q0 := 0) (ci := 7) rfl rfl (Nat.le_of_ble_eq_true rfl) (Nat.le_of_ble_eq_true rfl) (Nat.le_of_ble_eq_true rfl) (pc := 839) dL_law_839 rfl ?_
  refine r_icmp_eq B (pc := 842) (tgt := 1519) (a := ()) (b := ()) (z := ()) dL_law_842 (by decide) (it_s _) (fun _ _ => ?_) (fun h _ => absurd rfl h)
  exact next
set_option maxHeartbeats 4000000 in
theorem law_c23 {X : Cx} {K : Kt} {b L : Nat} {xs : Nat → Int32} {v : Int32} {ad am : Nat → Nat} {nw : Nat} {σ μ : St} (B : Bs X cL_law RL K 10 408) (S : Sc X b L xs) (h1 : ¬ (v + 1 < 0 ∨ L ≤ ix (v + 1))) (h2 : ¬ (v + 2 < 0 ∨ L ≤ ix (v + 2))) (h3 : ¬ (v + 3 < 0 ∨ L ≤ ix (v + 3))) (h4 : ¬ (v + 4 < 0 ∨ L ≤ ix (v + 4))) (h5 : ¬ (v + 5 < 0 ∨ L ≤ ix (v + 5))) (hR : Rm X 1 4096) {r : Int32} {nw' : Nat} {σ' : St} {μ' : St} (hC : f_X6_orders nw σ (xs (ix (v + 1))) = some (r, nw', σ')) (hM : f_X7_orders μ (xs (ix (v + 1))) = some (r, μ')) (next : ∀ ad2 : Nat → Nat, ad2 0 = ad 0 → MW (X.up 1 4096) (wC ad2 K nw' σ' ++ wM am K μ') 1519 [some (.ref b), some (.ref (ad2 0)), some (.ref (am 0)), some (.int v)] []) : MW X (wC ad K nw σ ++ wM am K μ) 847 [some (.ref b), some (.ref (ad 0)), some (.ref (am 0)), some (.int v)] [] := by
  refine r_aload_n B (pc := 847) dL_law_847 rfl rfl ?_
  refine r_aload_n B (pc := 848) dL_law_848 rfl rfl ?_
  refine r_iload_n B (pc := 849) dL_law_849 rfl rfl ?_
  refine r_iconst B (pc := 850) dL_law_850 kc_1 ?_
  refine r_iadd B (pc := 851) dL_law_851 ?_
  refine r_sld B S h1 (pc := 852) dL_law_852 ?_
  refine r_cLO B (c_X6_orders X.l X.D K ad nw σ (xs (ix (v + 1))) hC) F_X6_orders lk_RL_109 (q0 := 0) (ci := 6) rfl rfl hR (Nat.le_of_ble_eq_true rfl) (Nat.le_of_ble_eq_true rfl) (Nat.le_of_ble_eq_true rfl) (pc := 853) dL_law_853 rfl (fun ad2 hq => ?_)
  have B2 := B.up hR
  refine r_aload_n B2 (pc := 856) dL_law_856 rfl rfl ?_
  refine r_aload_n B2 (pc := 857) dL_law_857 rfl rfl ?_
  refine r_iload_n B2 (pc := 858) dL_law_858 rfl rfl ?_
  refine r_iconst B2 (pc := 859) dL_law_859 kc_1 ?_
  refine r_iadd B2 (pc := 860) dL_law_860 ?_
  refine r_sld B2 S.up h1 (pc := 861) dL_law_861 ?_
  refine r_cR B2 (c_X7_orders (X.up 1 4096).l (X.up 1 4096).D K am μ (xs (ix (v + 1))) hM) F_X7_orders lk_RL_112 (q0 := 0) (ci := 7) rfl rfl (Nat.le_of_ble_eq_true rfl) (Nat.le_of_ble_eq_true rfl) (Nat.le_of_ble_eq_true rfl) (pc := 862) dL_law_862 rfl ?_
  refine r_icmp_eq B2 (pc := 865) (tgt := 1519) (a := ()) (b := ()) (z := ()) dL_law_865 (by decide) (it_s _) (fun _ _ => ?_) (fun h _ => absurd rfl h)
  exact r_lc (by rw [hq]) (next ad2 hq)
set_option maxHeartbeats 4000000 in
theorem law_c24 {X : Cx} {K : Kt} {b L : Nat} {xs : Nat → Int32} {v : Int32} {ad am : Nat → Nat} {nw : Nat} {σ μ : St} (B : Bs X cL_law RL K 10 408) (S : Sc X b L xs) (h1 : ¬ (v + 1 < 0 ∨ L ≤ ix (v + 1))) (h2 : ¬ (v + 2 < 0 ∨ L ≤ ix (v + 2))) (h3 : ¬ (v + 3 < 0 ∨ L ≤ ix (v + 3))) (h4 : ¬ (v + 4 < 0 ∨ L ≤ ix (v + 4))) (h5 : ¬ (v + 5 < 0 ∨ L ≤ ix (v + 5))) {r : Int32} (hC : f_X6_years σ (xs (ix (v + 1))) (xs (ix (v + 2))) = some r) (hM : f_X7_years μ (xs (ix (v + 1))) (xs (ix (v + 2))) = some r) (next : MW X (wC ad K nw σ ++ wM am K μ) 1519 [some (.ref b), some (.ref (ad 0)), some (.ref (am 0)), some (.int v)] []) : MW X (wC ad K nw σ ++ wM am K μ) 870 [some (.ref b), some (.ref (ad 0)), some (.ref (am 0)), some (.int v)] [] := by
  refine r_aload_n B (pc := 870) dL_law_870 rfl rfl ?_
  refine r_aload_n B (pc := 871) dL_law_871 rfl rfl ?_
  refine r_iload_n B (pc := 872) dL_law_872 rfl rfl ?_
  refine r_iconst B (pc := 873) dL_law_873 kc_1 ?_
  refine r_iadd B (pc := 874) dL_law_874 ?_
  refine r_sld B S h1 (pc := 875) dL_law_875 ?_
  refine r_aload_n B (pc := 876) dL_law_876 rfl rfl ?_
  refine r_iload_n B (pc := 877) dL_law_877 rfl rfl ?_
  refine r_iconst B (pc := 878) dL_law_878 kc_2 ?_
  refine r_iadd B (pc := 879) dL_law_879 ?_
  refine r_sld B S h2 (pc := 880) dL_law_880 ?_
  refine r_cL B (c_X6_years X.l X.D K ad nw σ (xs (ix (v + 1))) (xs (ix (v + 2))) hC) F_X6_years lk_RL_113 (q0 := 0) (ci := 6) rfl rfl (Nat.le_of_ble_eq_true rfl) (Nat.le_of_ble_eq_true rfl) (Nat.le_of_ble_eq_true rfl) (pc := 881) dL_law_881 rfl ?_
  refine r_aload_n B (pc := 884) dL_law_884 rfl rfl ?_
  refine r_aload_n B (pc := 885) dL_law_885 rfl rfl ?_
  refine r_iload_n B (pc := 886) dL_law_886 rfl rfl ?_
  refine r_iconst B (pc := 887) dL_law_887 kc_1 ?_
  refine r_iadd B (pc := 888) dL_law_888 ?_
  refine r_sld B S h1 (pc := 889) dL_law_889 ?_
  refine r_aload_n B (pc := 890) dL_law_890 rfl rfl ?_
  refine r_iload_n B (pc := 891) dL_law_891 rfl rfl ?_
  refine r_iconst B (pc := 892) dL_law_892 kc_2 ?_
  refine r_iadd B (pc := 893) dL_law_893 ?_
  refine r_sld B S h2 (pc := 894) dL_law_894 ?_
  refine r_cR B (c_X7_years X.l X.D K am μ (xs (ix (v + 1))) (xs (ix (v + 2))) hM) F_X7_years lk_RL_116 (q0 := 0) (ci := 7) rfl rfl (Nat.le_of_ble_eq_true rfl) (Nat.le_of_ble_eq_true rfl) (Nat.le_of_ble_eq_true rfl) (pc := 895) dL_law_895 rfl ?_
  refine r_icmp_eq B (pc := 898) (tgt := 1519) (a := ()) (b := ()) (z := ()) dL_law_898 (by decide) (it_s _) (fun _ _ => ?_) (fun h _ => absurd rfl h)
  exact next
set_option maxHeartbeats 4000000 in
theorem law_c25 {X : Cx} {K : Kt} {b L : Nat} {xs : Nat → Int32} {v : Int32} {ad am : Nat → Nat} {nw : Nat} {σ μ : St} (B : Bs X cL_law RL K 10 408) (S : Sc X b L xs) (h1 : ¬ (v + 1 < 0 ∨ L ≤ ix (v + 1))) (h2 : ¬ (v + 2 < 0 ∨ L ≤ ix (v + 2))) (h3 : ¬ (v + 3 < 0 ∨ L ≤ ix (v + 3))) (h4 : ¬ (v + 4 < 0 ∨ L ≤ ix (v + 4))) (h5 : ¬ (v + 5 < 0 ∨ L ≤ ix (v + 5))) {r : Int32} (hC : f_X6_chance σ (xs (ix (v + 1))) (xs (ix (v + 2))) (xs (ix (v + 3))) (xs (ix (v + 4))) = some r) (hM : f_X7_chance μ (xs (ix (v + 1))) (xs (ix (v + 2))) (xs (ix (v + 3))) (xs (ix (v + 4))) = some r) (next : MW X (wC ad K nw σ ++ wM am K μ) 1519 [some (.ref b), some (.ref (ad 0)), some (.ref (am 0)), some (.int v)] []) : MW X (wC ad K nw σ ++ wM am K μ) 903 [some (.ref b), some (.ref (ad 0)), some (.ref (am 0)), some (.int v)] [] := by
  refine r_aload_n B (pc := 903) dL_law_903 rfl rfl ?_
  refine r_aload_n B (pc := 904) dL_law_904 rfl rfl ?_
  refine r_iload_n B (pc := 905) dL_law_905 rfl rfl ?_
  refine r_iconst B (pc := 906) dL_law_906 kc_1 ?_
  refine r_iadd B (pc := 907) dL_law_907 ?_
  refine r_sld B S h1 (pc := 908) dL_law_908 ?_
  refine r_aload_n B (pc := 909) dL_law_909 rfl rfl ?_
  refine r_iload_n B (pc := 910) dL_law_910 rfl rfl ?_
  refine r_iconst B (pc := 911) dL_law_911 kc_2 ?_
  refine r_iadd B (pc := 912) dL_law_912 ?_
  refine r_sld B S h2 (pc := 913) dL_law_913 ?_
  refine r_aload_n B (pc := 914) dL_law_914 rfl rfl ?_
  refine r_iload_n B (pc := 915) dL_law_915 rfl rfl ?_
  refine r_iconst B (pc := 916) dL_law_916 kc_3 ?_
  refine r_iadd B (pc := 917) dL_law_917 ?_
  refine r_sld B S h3 (pc := 918) dL_law_918 ?_
  refine r_aload_n B (pc := 919) dL_law_919 rfl rfl ?_
  refine r_iload_n B (pc := 920) dL_law_920 rfl rfl ?_
  refine r_iconst B (pc := 921) dL_law_921 kc_4 ?_
  refine r_iadd B (pc := 922) dL_law_922 ?_
  refine r_sld B S h4 (pc := 923) dL_law_923 ?_
  refine r_cL B (c_X6_chance X.l X.D K ad nw σ (xs (ix (v + 1))) (xs (ix (v + 2))) (xs (ix (v + 3))) (xs (ix (v + 4))) hC) F_X6_chance lk_RL_117 (q0 := 0) (ci := 6) rfl rfl (Nat.le_of_ble_eq_true rfl) (Nat.le_of_ble_eq_true rfl) (Nat.le_of_ble_eq_true rfl) (pc := 924) dL_law_924 rfl ?_
  refine r_aload_n B (pc := 927) dL_law_927 rfl rfl ?_
  refine r_aload_n B (pc := 928) dL_law_928 rfl rfl ?_
  refine r_iload_n B (pc := 929) dL_law_929 rfl rfl ?_
  refine r_iconst B (pc := 930) dL_law_930 kc_1 ?_
  refine r_iadd B (pc := 931) dL_law_931 ?_
  refine r_sld B S h1 (pc := 932) dL_law_932 ?_
  refine r_aload_n B (pc := 933) dL_law_933 rfl rfl ?_
  refine r_iload_n B (pc := 934) dL_law_934 rfl rfl ?_
  refine r_iconst B (pc := 935) dL_law_935 kc_2 ?_
  refine r_iadd B (pc := 936) dL_law_936 ?_
  refine r_sld B S h2 (pc := 937) dL_law_937 ?_
  refine r_aload_n B (pc := 938) dL_law_938 rfl rfl ?_
  refine r_iload_n B (pc := 939) dL_law_939 rfl rfl ?_
  refine r_iconst B (pc := 940) dL_law_940 kc_3 ?_
  refine r_iadd B (pc := 941) dL_law_941 ?_
  refine r_sld B S h3 (pc := 942) dL_law_942 ?_
  refine r_aload_n B (pc := 943) dL_law_943 rfl rfl ?_
  refine r_iload_n B (pc := 944) dL_law_944 rfl rfl ?_
  refine r_iconst B (pc := 945) dL_law_945 kc_4 ?_
  refine r_iadd B (pc := 946) dL_law_946 ?_
  refine r_sld B S h4 (pc := 947) dL_law_947 ?_
  refine r_cR B (c_X7_chance X.l X.D K am μ (xs (ix (v + 1))) (xs (ix (v + 2))) (xs (ix (v + 3))) (xs (ix (v + 4))) hM) F_X7_chance lk_RL_121 (q0 := 0) (ci := 7) rfl rfl (Nat.le_of_ble_eq_true rfl) (Nat.le_of_ble_eq_true rfl) (Nat.le_of_ble_eq_true rfl) (pc := 948) dL_law_948 rfl ?_
  refine r_icmp_eq B (pc := 951) (tgt := 1519) (a := ()) (b := ()) (z := ()) dL_law_951 (by decide) (it_s _) (fun _ _ => ?_) (fun h _ => absurd rfl h)
  exact next
set_option maxHeartbeats 4000000 in
theorem law_c26 {X : Cx} {K : Kt} {b L : Nat} {xs : Nat → Int32} {v : Int32} {ad am : Nat → Nat} {nw : Nat} {σ μ : St} (B : Bs X cL_law RL K 10 408) (S : Sc X b L xs) (h1 : ¬ (v + 1 < 0 ∨ L ≤ ix (v + 1))) (h2 : ¬ (v + 2 < 0 ∨ L ≤ ix (v + 2))) (h3 : ¬ (v + 3 < 0 ∨ L ≤ ix (v + 3))) (h4 : ¬ (v + 4 < 0 ∨ L ≤ ix (v + 4))) (h5 : ¬ (v + 5 < 0 ∨ L ≤ ix (v + 5))) {r : Int32} (hC : f_X6_likeliest σ (xs (ix (v + 1))) (xs (ix (v + 2))) = some r) (hM : f_X7_likeliest μ (xs (ix (v + 1))) (xs (ix (v + 2))) = some r) (next : MW X (wC ad K nw σ ++ wM am K μ) 1519 [some (.ref b), some (.ref (ad 0)), some (.ref (am 0)), some (.int v)] []) : MW X (wC ad K nw σ ++ wM am K μ) 956 [some (.ref b), some (.ref (ad 0)), some (.ref (am 0)), some (.int v)] [] := by
  refine r_aload_n B (pc := 956) dL_law_956 rfl rfl ?_
  refine r_aload_n B (pc := 957) dL_law_957 rfl rfl ?_
  refine r_iload_n B (pc := 958) dL_law_958 rfl rfl ?_
  refine r_iconst B (pc := 959) dL_law_959 kc_1 ?_
  refine r_iadd B (pc := 960) dL_law_960 ?_
  refine r_sld B S h1 (pc := 961) dL_law_961 ?_
  refine r_aload_n B (pc := 962) dL_law_962 rfl rfl ?_
  refine r_iload_n B (pc := 963) dL_law_963 rfl rfl ?_
  refine r_iconst B (pc := 964) dL_law_964 kc_2 ?_
  refine r_iadd B (pc := 965) dL_law_965 ?_
  refine r_sld B S h2 (pc := 966) dL_law_966 ?_
  refine r_cL B (c_X6_likeliest X.l X.D K ad nw σ (xs (ix (v + 1))) (xs (ix (v + 2))) hC) F_X6_likeliest lk_RL_122 (q0 := 0) (ci := 6) rfl rfl (Nat.le_of_ble_eq_true rfl) (Nat.le_of_ble_eq_true rfl) (Nat.le_of_ble_eq_true rfl) (pc := 967) dL_law_967 rfl ?_
  refine r_aload_n B (pc := 970) dL_law_970 rfl rfl ?_
  refine r_aload_n B (pc := 971) dL_law_971 rfl rfl ?_
  refine r_iload_n B (pc := 972) dL_law_972 rfl rfl ?_
  refine r_iconst B (pc := 973) dL_law_973 kc_1 ?_
  refine r_iadd B (pc := 974) dL_law_974 ?_
  refine r_sld B S h1 (pc := 975) dL_law_975 ?_
  refine r_aload_n B (pc := 976) dL_law_976 rfl rfl ?_
  refine r_iload_n B (pc := 977) dL_law_977 rfl rfl ?_
  refine r_iconst B (pc := 978) dL_law_978 kc_2 ?_
  refine r_iadd B (pc := 979) dL_law_979 ?_
  refine r_sld B S h2 (pc := 980) dL_law_980 ?_
  refine r_cR B (c_X7_likeliest X.l X.D K am μ (xs (ix (v + 1))) (xs (ix (v + 2))) hM) F_X7_likeliest lk_RL_125 (q0 := 0) (ci := 7) rfl rfl (Nat.le_of_ble_eq_true rfl) (Nat.le_of_ble_eq_true rfl) (Nat.le_of_ble_eq_true rfl) (pc := 981) dL_law_981 rfl ?_
  refine r_icmp_eq B (pc := 984) (tgt := 1519) (a := ()) (b := ()) (z := ()) dL_law_984 (by decide) (it_s _) (fun _ _ => ?_) (fun h _ => absurd rfl h)
  exact next
set_option maxHeartbeats 4000000 in
theorem law_c27 {X : Cx} {K : Kt} {b L : Nat} {xs : Nat → Int32} {v : Int32} {ad am : Nat → Nat} {nw : Nat} {σ μ : St} (B : Bs X cL_law RL K 10 408) (S : Sc X b L xs) (h1 : ¬ (v + 1 < 0 ∨ L ≤ ix (v + 1))) (h2 : ¬ (v + 2 < 0 ∨ L ≤ ix (v + 2))) (h3 : ¬ (v + 3 < 0 ∨ L ≤ ix (v + 3))) (h4 : ¬ (v + 4 < 0 ∨ L ≤ ix (v + 4))) (h5 : ¬ (v + 5 < 0 ∨ L ≤ ix (v + 5))) {r : Int32} (hC : f_X6_more σ (xs (ix (v + 1))) (xs (ix (v + 2))) = some r) (hM : f_X7_more μ (xs (ix (v + 1))) (xs (ix (v + 2))) = some r) (next : MW X (wC ad K nw σ ++ wM am K μ) 1519 [some (.ref b), some (.ref (ad 0)), some (.ref (am 0)), some (.int v)] []) : MW X (wC ad K nw σ ++ wM am K μ) 989 [some (.ref b), some (.ref (ad 0)), some (.ref (am 0)), some (.int v)] [] := by
  refine r_aload_n B (pc := 989) dL_law_989 rfl rfl ?_
  refine r_aload_n B (pc := 990) dL_law_990 rfl rfl ?_
  refine r_iload_n B (pc := 991) dL_law_991 rfl rfl ?_
  refine r_iconst B (pc := 992) dL_law_992 kc_1 ?_
  refine r_iadd B (pc := 993) dL_law_993 ?_
  refine r_sld B S h1 (pc := 994) dL_law_994 ?_
  refine r_aload_n B (pc := 995) dL_law_995 rfl rfl ?_
  refine r_iload_n B (pc := 996) dL_law_996 rfl rfl ?_
  refine r_iconst B (pc := 997) dL_law_997 kc_2 ?_
  refine r_iadd B (pc := 998) dL_law_998 ?_
  refine r_sld B S h2 (pc := 999) dL_law_999 ?_
  refine r_cL B (c_X6_more X.l X.D K ad nw σ (xs (ix (v + 1))) (xs (ix (v + 2))) hC) F_X6_more lk_RL_126 (q0 := 0) (ci := 6) rfl rfl (Nat.le_of_ble_eq_true rfl) (Nat.le_of_ble_eq_true rfl) (Nat.le_of_ble_eq_true rfl) (pc := 1000) dL_law_1000 rfl ?_
  refine r_aload_n B (pc := 1003) dL_law_1003 rfl rfl ?_
  refine r_aload_n B (pc := 1004) dL_law_1004 rfl rfl ?_
  refine r_iload_n B (pc := 1005) dL_law_1005 rfl rfl ?_
  refine r_iconst B (pc := 1006) dL_law_1006 kc_1 ?_
  refine r_iadd B (pc := 1007) dL_law_1007 ?_
  refine r_sld B S h1 (pc := 1008) dL_law_1008 ?_
  refine r_aload_n B (pc := 1009) dL_law_1009 rfl rfl ?_
  refine r_iload_n B (pc := 1010) dL_law_1010 rfl rfl ?_
  refine r_iconst B (pc := 1011) dL_law_1011 kc_2 ?_
  refine r_iadd B (pc := 1012) dL_law_1012 ?_
  refine r_sld B S h2 (pc := 1013) dL_law_1013 ?_
  refine r_cR B (c_X7_more X.l X.D K am μ (xs (ix (v + 1))) (xs (ix (v + 2))) hM) F_X7_more lk_RL_129 (q0 := 0) (ci := 7) rfl rfl (Nat.le_of_ble_eq_true rfl) (Nat.le_of_ble_eq_true rfl) (Nat.le_of_ble_eq_true rfl) (pc := 1014) dL_law_1014 rfl ?_
  refine r_icmp_eq B (pc := 1017) (tgt := 1519) (a := ()) (b := ()) (z := ()) dL_law_1017 (by decide) (it_s _) (fun _ _ => ?_) (fun h _ => absurd rfl h)
  exact next
set_option maxHeartbeats 4000000 in
theorem law_c28 {X : Cx} {K : Kt} {b L : Nat} {xs : Nat → Int32} {v : Int32} {ad am : Nat → Nat} {nw : Nat} {σ μ : St} (B : Bs X cL_law RL K 10 408) (S : Sc X b L xs) (h1 : ¬ (v + 1 < 0 ∨ L ≤ ix (v + 1))) (h2 : ¬ (v + 2 < 0 ∨ L ≤ ix (v + 2))) (h3 : ¬ (v + 3 < 0 ∨ L ≤ ix (v + 3))) (h4 : ¬ (v + 4 < 0 ∨ L ≤ ix (v + 4))) (h5 : ¬ (v + 5 < 0 ∨ L ≤ ix (v + 5))) {r : Int32} (hC : f_X6_sooner σ (xs (ix (v + 1))) (xs (ix (v + 2))) = some r) (hM : f_X7_sooner μ (xs (ix (v + 1))) (xs (ix (v + 2))) = some r) (next : MW X (wC ad K nw σ ++ wM am K μ) 1519 [some (.ref b), some (.ref (ad 0)), some (.ref (am 0)), some (.int v)] []) : MW X (wC ad K nw σ ++ wM am K μ) 1022 [some (.ref b), some (.ref (ad 0)), some (.ref (am 0)), some (.int v)] [] := by
  refine r_aload_n B (pc := 1022) dL_law_1022 rfl rfl ?_
  refine r_aload_n B (pc := 1023) dL_law_1023 rfl rfl ?_
  refine r_iload_n B (pc := 1024) dL_law_1024 rfl rfl ?_
  refine r_iconst B (pc := 1025) dL_law_1025 kc_1 ?_
  refine r_iadd B (pc := 1026) dL_law_1026 ?_
  refine r_sld B S h1 (pc := 1027) dL_law_1027 ?_
  refine r_aload_n B (pc := 1028) dL_law_1028 rfl rfl ?_
  refine r_iload_n B (pc := 1029) dL_law_1029 rfl rfl ?_
  refine r_iconst B (pc := 1030) dL_law_1030 kc_2 ?_
  refine r_iadd B (pc := 1031) dL_law_1031 ?_
  refine r_sld B S h2 (pc := 1032) dL_law_1032 ?_
  refine r_cL B (c_X6_sooner X.l X.D K ad nw σ (xs (ix (v + 1))) (xs (ix (v + 2))) hC) F_X6_sooner lk_RL_130 (q0 := 0) (ci := 6) rfl rfl (Nat.le_of_ble_eq_true rfl) (Nat.le_of_ble_eq_true rfl) (Nat.le_of_ble_eq_true rfl) (pc := 1033) dL_law_1033 rfl ?_
  refine r_aload_n B (pc := 1036) dL_law_1036 rfl rfl ?_
  refine r_aload_n B (pc := 1037) dL_law_1037 rfl rfl ?_
  refine r_iload_n B (pc := 1038) dL_law_1038 rfl rfl ?_
  refine r_iconst B (pc := 1039) dL_law_1039 kc_1 ?_
  refine r_iadd B (pc := 1040) dL_law_1040 ?_
  refine r_sld B S h1 (pc := 1041) dL_law_1041 ?_
  refine r_aload_n B (pc := 1042) dL_law_1042 rfl rfl ?_
  refine r_iload_n B (pc := 1043) dL_law_1043 rfl rfl ?_
  refine r_iconst B (pc := 1044) dL_law_1044 kc_2 ?_
  refine r_iadd B (pc := 1045) dL_law_1045 ?_
  refine r_sld B S h2 (pc := 1046) dL_law_1046 ?_
  refine r_cR B (c_X7_sooner X.l X.D K am μ (xs (ix (v + 1))) (xs (ix (v + 2))) hM) F_X7_sooner lk_RL_133 (q0 := 0) (ci := 7) rfl rfl (Nat.le_of_ble_eq_true rfl) (Nat.le_of_ble_eq_true rfl) (Nat.le_of_ble_eq_true rfl) (pc := 1047) dL_law_1047 rfl ?_
  refine r_icmp_eq B (pc := 1050) (tgt := 1519) (a := ()) (b := ()) (z := ()) dL_law_1050 (by decide) (it_s _) (fun _ _ => ?_) (fun h _ => absurd rfl h)
  exact next
set_option maxHeartbeats 4000000 in
theorem law_c29 {X : Cx} {K : Kt} {b L : Nat} {xs : Nat → Int32} {v : Int32} {ad am : Nat → Nat} {nw : Nat} {σ μ : St} (B : Bs X cL_law RL K 10 408) (S : Sc X b L xs) (h1 : ¬ (v + 1 < 0 ∨ L ≤ ix (v + 1))) (h2 : ¬ (v + 2 < 0 ∨ L ≤ ix (v + 2))) (h3 : ¬ (v + 3 < 0 ∨ L ≤ ix (v + 3))) (h4 : ¬ (v + 4 < 0 ∨ L ≤ ix (v + 4))) (h5 : ¬ (v + 5 < 0 ∨ L ≤ ix (v + 5))) {r : Int64} (hC : f_X6_hidden σ (xs (ix (v + 1))) (xs (ix (v + 2))) = some r) (hM : f_X7_hidden μ (xs (ix (v + 1))) (xs (ix (v + 2))) = some r) (next : MW X (wC ad K nw σ ++ wM am K μ) 1519 [some (.ref b), some (.ref (ad 0)), some (.ref (am 0)), some (.int v)] []) : MW X (wC ad K nw σ ++ wM am K μ) 1055 [some (.ref b), some (.ref (ad 0)), some (.ref (am 0)), some (.int v)] [] := by
  refine r_aload_n B (pc := 1055) dL_law_1055 rfl rfl ?_
  refine r_aload_n B (pc := 1056) dL_law_1056 rfl rfl ?_
  refine r_iload_n B (pc := 1057) dL_law_1057 rfl rfl ?_
  refine r_iconst B (pc := 1058) dL_law_1058 kc_1 ?_
  refine r_iadd B (pc := 1059) dL_law_1059 ?_
  refine r_sld B S h1 (pc := 1060) dL_law_1060 ?_
  refine r_aload_n B (pc := 1061) dL_law_1061 rfl rfl ?_
  refine r_iload_n B (pc := 1062) dL_law_1062 rfl rfl ?_
  refine r_iconst B (pc := 1063) dL_law_1063 kc_2 ?_
  refine r_iadd B (pc := 1064) dL_law_1064 ?_
  refine r_sld B S h2 (pc := 1065) dL_law_1065 ?_
  refine r_cLl B (c_X6_hidden X.l X.D K ad nw σ (xs (ix (v + 1))) (xs (ix (v + 2))) hC) F_X6_hidden lk_RL_134 (q0 := 0) (ci := 6) rfl rfl (Nat.le_of_ble_eq_true rfl) (Nat.le_of_ble_eq_true rfl) (Nat.le_of_ble_eq_true rfl) (pc := 1066) dL_law_1066 rfl ?_
  refine r_aload_n B (pc := 1069) dL_law_1069 rfl rfl ?_
  refine r_aload_n B (pc := 1070) dL_law_1070 rfl rfl ?_
  refine r_iload_n B (pc := 1071) dL_law_1071 rfl rfl ?_
  refine r_iconst B (pc := 1072) dL_law_1072 kc_1 ?_
  refine r_iadd B (pc := 1073) dL_law_1073 ?_
  refine r_sld B S h1 (pc := 1074) dL_law_1074 ?_
  refine r_aload_n B (pc := 1075) dL_law_1075 rfl rfl ?_
  refine r_iload_n B (pc := 1076) dL_law_1076 rfl rfl ?_
  refine r_iconst B (pc := 1077) dL_law_1077 kc_2 ?_
  refine r_iadd B (pc := 1078) dL_law_1078 ?_
  refine r_sld B S h2 (pc := 1079) dL_law_1079 ?_
  refine r_cRl B (c_X7_hidden X.l X.D K am μ (xs (ix (v + 1))) (xs (ix (v + 2))) hM) F_X7_hidden lk_RL_138 (q0 := 0) (ci := 7) rfl rfl (Nat.le_of_ble_eq_true rfl) (Nat.le_of_ble_eq_true rfl) (Nat.le_of_ble_eq_true rfl) (pc := 1080) dL_law_1080 rfl ?_
  refine r_lcmp B (pc := 1083) dL_law_1083 ?_
  refine r_if_eq B (pc := 1084) (tgt := 1519) (a := ()) (b := ()) (z := ()) dL_law_1084 (by decide) (it_s _) (fun _ _ => ?_) (fun h _ => absurd (lg_self _) h)
  exact next
set_option maxHeartbeats 4000000 in
theorem law_c30 {X : Cx} {K : Kt} {b L : Nat} {xs : Nat → Int32} {v : Int32} {ad am : Nat → Nat} {nw : Nat} {σ μ : St} (B : Bs X cL_law RL K 10 408) (S : Sc X b L xs) (h1 : ¬ (v + 1 < 0 ∨ L ≤ ix (v + 1))) (h2 : ¬ (v + 2 < 0 ∨ L ≤ ix (v + 2))) (h3 : ¬ (v + 3 < 0 ∨ L ≤ ix (v + 3))) (h4 : ¬ (v + 4 < 0 ∨ L ≤ ix (v + 4))) (h5 : ¬ (v + 5 < 0 ∨ L ≤ ix (v + 5))) {r : Int32} (hC : f_X6_alone σ (xs (ix (v + 1))) (xs (ix (v + 2))) = some r) (hM : f_X7_alone μ (xs (ix (v + 1))) (xs (ix (v + 2))) = some r) (next : MW X (wC ad K nw σ ++ wM am K μ) 1519 [some (.ref b), some (.ref (ad 0)), some (.ref (am 0)), some (.int v)] []) : MW X (wC ad K nw σ ++ wM am K μ) 1089 [some (.ref b), some (.ref (ad 0)), some (.ref (am 0)), some (.int v)] [] := by
  refine r_aload_n B (pc := 1089) dL_law_1089 rfl rfl ?_
  refine r_aload_n B (pc := 1090) dL_law_1090 rfl rfl ?_
  refine r_iload_n B (pc := 1091) dL_law_1091 rfl rfl ?_
  refine r_iconst B (pc := 1092) dL_law_1092 kc_1 ?_
  refine r_iadd B (pc := 1093) dL_law_1093 ?_
  refine r_sld B S h1 (pc := 1094) dL_law_1094 ?_
  refine r_aload_n B (pc := 1095) dL_law_1095 rfl rfl ?_
  refine r_iload_n B (pc := 1096) dL_law_1096 rfl rfl ?_
  refine r_iconst B (pc := 1097) dL_law_1097 kc_2 ?_
  refine r_iadd B (pc := 1098) dL_law_1098 ?_
  refine r_sld B S h2 (pc := 1099) dL_law_1099 ?_
  refine r_cL B (c_X6_alone X.l X.D K ad nw σ (xs (ix (v + 1))) (xs (ix (v + 2))) hC) F_X6_alone lk_RL_139 (q0 := 0) (ci := 6) rfl rfl (Nat.le_of_ble_eq_true rfl) (Nat.le_of_ble_eq_true rfl) (Nat.le_of_ble_eq_true rfl) (pc := 1100) dL_law_1100 rfl ?_
  refine r_aload_n B (pc := 1103) dL_law_1103 rfl rfl ?_
  refine r_aload_n B (pc := 1104) dL_law_1104 rfl rfl ?_
  refine r_iload_n B (pc := 1105) dL_law_1105 rfl rfl ?_
  refine r_iconst B (pc := 1106) dL_law_1106 kc_1 ?_
  refine r_iadd B (pc := 1107) dL_law_1107 ?_
  refine r_sld B S h1 (pc := 1108) dL_law_1108 ?_
  refine r_aload_n B (pc := 1109) dL_law_1109 rfl rfl ?_
  refine r_iload_n B (pc := 1110) dL_law_1110 rfl rfl ?_
  refine r_iconst B (pc := 1111) dL_law_1111 kc_2 ?_
  refine r_iadd B (pc := 1112) dL_law_1112 ?_
  refine r_sld B S h2 (pc := 1113) dL_law_1113 ?_
  refine r_cR B (c_X7_alone X.l X.D K am μ (xs (ix (v + 1))) (xs (ix (v + 2))) hM) F_X7_alone lk_RL_142 (q0 := 0) (ci := 7) rfl rfl (Nat.le_of_ble_eq_true rfl) (Nat.le_of_ble_eq_true rfl) (Nat.le_of_ble_eq_true rfl) (pc := 1114) dL_law_1114 rfl ?_
  refine r_icmp_eq B (pc := 1117) (tgt := 1519) (a := ()) (b := ()) (z := ()) dL_law_1117 (by decide) (it_s _) (fun _ _ => ?_) (fun h _ => absurd rfl h)
  exact next
set_option maxHeartbeats 4000000 in
theorem law_c31 {X : Cx} {K : Kt} {b L : Nat} {xs : Nat → Int32} {v : Int32} {ad am : Nat → Nat} {nw : Nat} {σ μ : St} (B : Bs X cL_law RL K 10 408) (S : Sc X b L xs) (h1 : ¬ (v + 1 < 0 ∨ L ≤ ix (v + 1))) (h2 : ¬ (v + 2 < 0 ∨ L ≤ ix (v + 2))) (h3 : ¬ (v + 3 < 0 ∨ L ≤ ix (v + 3))) (h4 : ¬ (v + 4 < 0 ∨ L ≤ ix (v + 4))) (h5 : ¬ (v + 5 < 0 ∨ L ≤ ix (v + 5))) {r : Int32} {σ' : St} {μ' : St} (hC : f_X6_image σ = some (r, σ')) (hM : f_X7_image μ = some (r, μ')) (next : MW X (wC ad K nw σ' ++ wM am K μ') 1519 [some (.ref b), some (.ref (ad 0)), some (.ref (am 0)), some (.int v)] []) : MW X (wC ad K nw σ ++ wM am K μ) 1122 [some (.ref b), some (.ref (ad 0)), some (.ref (am 0)), some (.int v)] [] := by
  refine r_aload_n B (pc := 1122) dL_law_1122 rfl rfl ?_
  refine r_cL B (c_X6_image X.l X.D K ad nw σ hC) F_X6_image lk_RL_143 (q0 := 0) (ci := 6) rfl rfl (Nat.le_of_ble_eq_true rfl) (Nat.le_of_ble_eq_true rfl) (Nat.le_of_ble_eq_true rfl) (pc := 1123) dL_law_1123 rfl ?_
  refine r_aload_n B (pc := 1126) dL_law_1126 rfl rfl ?_
  refine r_cR B (c_X7_image X.l X.D K am μ hM) F_X7_image lk_RL_146 (q0 := 0) (ci := 7) rfl rfl (Nat.le_of_ble_eq_true rfl) (Nat.le_of_ble_eq_true rfl) (Nat.le_of_ble_eq_true rfl) (pc := 1127) dL_law_1127 rfl ?_
  refine r_icmp_eq B (pc := 1130) (tgt := 1519) (a := ()) (b := ()) (z := ()) dL_law_1130 (by decide) (it_s _) (fun _ _ => ?_) (fun h _ => absurd rfl h)
  exact next
set_option maxHeartbeats 4000000 in
theorem law_c32 {X : Cx} {K : Kt} {b L : Nat} {xs : Nat → Int32} {v : Int32} {ad am : Nat → Nat} {nw : Nat} {σ μ : St} (B : Bs X cL_law RL K 10 408) (S : Sc X b L xs) (h1 : ¬ (v + 1 < 0 ∨ L ≤ ix (v + 1))) (h2 : ¬ (v + 2 < 0 ∨ L ≤ ix (v + 2))) (h3 : ¬ (v + 3 < 0 ∨ L ≤ ix (v + 3))) (h4 : ¬ (v + 4 < 0 ∨ L ≤ ix (v + 4))) (h5 : ¬ (v + 5 < 0 ∨ L ≤ ix (v + 5))) {r : Int32} {σ' : St} {μ' : St} (hC : f_X6_restore σ = some (r, σ')) (hM : f_X7_restore μ = some (r, μ')) (next : MW X (wC ad K nw σ' ++ wM am K μ') 1519 [some (.ref b), some (.ref (ad 0)), some (.ref (am 0)), some (.int v)] []) : MW X (wC ad K nw σ ++ wM am K μ) 1135 [some (.ref b), some (.ref (ad 0)), some (.ref (am 0)), some (.int v)] [] := by
  refine r_aload_n B (pc := 1135) dL_law_1135 rfl rfl ?_
  refine r_cL B (c_X6_restore X.l X.D K ad nw σ hC) F_X6_restore lk_RL_147 (q0 := 0) (ci := 6) rfl rfl (Nat.le_of_ble_eq_true rfl) (Nat.le_of_ble_eq_true rfl) (Nat.le_of_ble_eq_true rfl) (pc := 1136) dL_law_1136 rfl ?_
  refine r_aload_n B (pc := 1139) dL_law_1139 rfl rfl ?_
  refine r_cR B (c_X7_restore X.l X.D K am μ hM) F_X7_restore lk_RL_150 (q0 := 0) (ci := 7) rfl rfl (Nat.le_of_ble_eq_true rfl) (Nat.le_of_ble_eq_true rfl) (Nat.le_of_ble_eq_true rfl) (pc := 1140) dL_law_1140 rfl ?_
  refine r_icmp_eq B (pc := 1143) (tgt := 1519) (a := ()) (b := ()) (z := ()) dL_law_1143 (by decide) (it_s _) (fun _ _ => ?_) (fun h _ => absurd rfl h)
  exact next
set_option maxHeartbeats 4000000 in
theorem law_c33 {X : Cx} {K : Kt} {b L : Nat} {xs : Nat → Int32} {v : Int32} {ad am : Nat → Nat} {nw : Nat} {σ μ : St} (B : Bs X cL_law RL K 10 408) (S : Sc X b L xs) (h1 : ¬ (v + 1 < 0 ∨ L ≤ ix (v + 1))) (h2 : ¬ (v + 2 < 0 ∨ L ≤ ix (v + 2))) (h3 : ¬ (v + 3 < 0 ∨ L ≤ ix (v + 3))) (h4 : ¬ (v + 4 < 0 ∨ L ≤ ix (v + 4))) (h5 : ¬ (v + 5 < 0 ∨ L ≤ ix (v + 5))) {r : Int32} {σ' : St} (hC : f_X6_which σ (xs (ix (v + 1))) (xs (ix (v + 2))) (xs (ix (v + 3))) (xs (ix (v + 4))) (xs (ix (v + 5))) = some (r, σ')) (hM : f_X7_which μ (xs (ix (v + 1))) (xs (ix (v + 2))) (xs (ix (v + 3))) (xs (ix (v + 4))) (xs (ix (v + 5))) = some r) (next : MW X (wC ad K nw σ' ++ wM am K μ) 1519 [some (.ref b), some (.ref (ad 0)), some (.ref (am 0)), some (.int v)] []) : MW X (wC ad K nw σ ++ wM am K μ) 1148 [some (.ref b), some (.ref (ad 0)), some (.ref (am 0)), some (.int v)] [] := by
  refine r_aload_n B (pc := 1148) dL_law_1148 rfl rfl ?_
  refine r_aload_n B (pc := 1149) dL_law_1149 rfl rfl ?_
  refine r_iload_n B (pc := 1150) dL_law_1150 rfl rfl ?_
  refine r_iconst B (pc := 1151) dL_law_1151 kc_1 ?_
  refine r_iadd B (pc := 1152) dL_law_1152 ?_
  refine r_sld B S h1 (pc := 1153) dL_law_1153 ?_
  refine r_aload_n B (pc := 1154) dL_law_1154 rfl rfl ?_
  refine r_iload_n B (pc := 1155) dL_law_1155 rfl rfl ?_
  refine r_iconst B (pc := 1156) dL_law_1156 kc_2 ?_
  refine r_iadd B (pc := 1157) dL_law_1157 ?_
  refine r_sld B S h2 (pc := 1158) dL_law_1158 ?_
  refine r_aload_n B (pc := 1159) dL_law_1159 rfl rfl ?_
  refine r_iload_n B (pc := 1160) dL_law_1160 rfl rfl ?_
  refine r_iconst B (pc := 1161) dL_law_1161 kc_3 ?_
  refine r_iadd B (pc := 1162) dL_law_1162 ?_
  refine r_sld B S h3 (pc := 1163) dL_law_1163 ?_
  refine r_aload_n B (pc := 1164) dL_law_1164 rfl rfl ?_
  refine r_iload_n B (pc := 1165) dL_law_1165 rfl rfl ?_
  refine r_iconst B (pc := 1166) dL_law_1166 kc_4 ?_
  refine r_iadd B (pc := 1167) dL_law_1167 ?_
  refine r_sld B S h4 (pc := 1168) dL_law_1168 ?_
  refine r_aload_n B (pc := 1169) dL_law_1169 rfl rfl ?_
  refine r_iload_n B (pc := 1170) dL_law_1170 rfl rfl ?_
  refine r_iconst B (pc := 1171) dL_law_1171 kc_5 ?_
  refine r_iadd B (pc := 1172) dL_law_1172 ?_
  refine r_sld B S h5 (pc := 1173) dL_law_1173 ?_
  refine r_cL B (c_X6_which X.l X.D K ad nw σ (xs (ix (v + 1))) (xs (ix (v + 2))) (xs (ix (v + 3))) (xs (ix (v + 4))) (xs (ix (v + 5))) hC) F_X6_which lk_RL_151 (q0 := 0) (ci := 6) rfl rfl (Nat.le_of_ble_eq_true rfl) (Nat.le_of_ble_eq_true rfl) (Nat.le_of_ble_eq_true rfl) (pc := 1174) dL_law_1174 rfl ?_
  refine r_aload_n B (pc := 1177) dL_law_1177 rfl rfl ?_
  refine r_aload_n B (pc := 1178) dL_law_1178 rfl rfl ?_
  refine r_iload_n B (pc := 1179) dL_law_1179 rfl rfl ?_
  refine r_iconst B (pc := 1180) dL_law_1180 kc_1 ?_
  refine r_iadd B (pc := 1181) dL_law_1181 ?_
  refine r_sld B S h1 (pc := 1182) dL_law_1182 ?_
  refine r_aload_n B (pc := 1183) dL_law_1183 rfl rfl ?_
  refine r_iload_n B (pc := 1184) dL_law_1184 rfl rfl ?_
  refine r_iconst B (pc := 1185) dL_law_1185 kc_2 ?_
  refine r_iadd B (pc := 1186) dL_law_1186 ?_
  refine r_sld B S h2 (pc := 1187) dL_law_1187 ?_
  refine r_aload_n B (pc := 1188) dL_law_1188 rfl rfl ?_
  refine r_iload_n B (pc := 1189) dL_law_1189 rfl rfl ?_
  refine r_iconst B (pc := 1190) dL_law_1190 kc_3 ?_
  refine r_iadd B (pc := 1191) dL_law_1191 ?_
  refine r_sld B S h3 (pc := 1192) dL_law_1192 ?_
  refine r_aload_n B (pc := 1193) dL_law_1193 rfl rfl ?_
  refine r_iload_n B (pc := 1194) dL_law_1194 rfl rfl ?_
  refine r_iconst B (pc := 1195) dL_law_1195 kc_4 ?_
  refine r_iadd B (pc := 1196) dL_law_1196 ?_
  refine r_sld B S h4 (pc := 1197) dL_law_1197 ?_
  refine r_aload_n B (pc := 1198) dL_law_1198 rfl rfl ?_
  refine r_iload_n B (pc := 1199) dL_law_1199 rfl rfl ?_
  refine r_iconst B (pc := 1200) dL_law_1200 kc_5 ?_
  refine r_iadd B (pc := 1201) dL_law_1201 ?_
  refine r_sld B S h5 (pc := 1202) dL_law_1202 ?_
  refine r_cR B (c_X7_which X.l X.D K am μ (xs (ix (v + 1))) (xs (ix (v + 2))) (xs (ix (v + 3))) (xs (ix (v + 4))) (xs (ix (v + 5))) hM) F_X7_which lk_RL_155 (q0 := 0) (ci := 7) rfl rfl (Nat.le_of_ble_eq_true rfl) (Nat.le_of_ble_eq_true rfl) (Nat.le_of_ble_eq_true rfl) (pc := 1203) dL_law_1203 rfl ?_
  refine r_icmp_eq B (pc := 1206) (tgt := 1519) (a := ()) (b := ()) (z := ()) dL_law_1206 (by decide) (it_s _) (fun _ _ => ?_) (fun h _ => absurd rfl h)
  exact next
set_option maxHeartbeats 4000000 in
theorem law_c34 {X : Cx} {K : Kt} {b L : Nat} {xs : Nat → Int32} {v : Int32} {ad am : Nat → Nat} {nw : Nat} {σ μ : St} (B : Bs X cL_law RL K 10 408) (S : Sc X b L xs) (h1 : ¬ (v + 1 < 0 ∨ L ≤ ix (v + 1))) (h2 : ¬ (v + 2 < 0 ∨ L ≤ ix (v + 2))) (h3 : ¬ (v + 3 < 0 ∨ L ≤ ix (v + 3))) (h4 : ¬ (v + 4 < 0 ∨ L ≤ ix (v + 4))) (h5 : ¬ (v + 5 < 0 ∨ L ≤ ix (v + 5))) {r : Int32} {σ' : St} {μ' : St} (hC : f_X6_judged σ (xs (ix (v + 1))) (xs (ix (v + 2))) (xs (ix (v + 3))) (xs (ix (v + 4))) = some (r, σ')) (hM : f_X7_judged μ (xs (ix (v + 1))) (xs (ix (v + 2))) (xs (ix (v + 3))) (xs (ix (v + 4))) = some (r, μ')) (next : MW X (wC ad K nw σ' ++ wM am K μ') 1519 [some (.ref b), some (.ref (ad 0)), some (.ref (am 0)), some (.int v)] []) : MW X (wC ad K nw σ ++ wM am K μ) 1211 [some (.ref b), some (.ref (ad 0)), some (.ref (am 0)), some (.int v)] [] := by
  refine r_aload_n B (pc := 1211) dL_law_1211 rfl rfl ?_
  refine r_aload_n B (pc := 1212) dL_law_1212 rfl rfl ?_
  refine r_iload_n B (pc := 1213) dL_law_1213 rfl rfl ?_
  refine r_iconst B (pc := 1214) dL_law_1214 kc_1 ?_
  refine r_iadd B (pc := 1215) dL_law_1215 ?_
  refine r_sld B S h1 (pc := 1216) dL_law_1216 ?_
  refine r_aload_n B (pc := 1217) dL_law_1217 rfl rfl ?_
  refine r_iload_n B (pc := 1218) dL_law_1218 rfl rfl ?_
  refine r_iconst B (pc := 1219) dL_law_1219 kc_2 ?_
  refine r_iadd B (pc := 1220) dL_law_1220 ?_
  refine r_sld B S h2 (pc := 1221) dL_law_1221 ?_
  refine r_aload_n B (pc := 1222) dL_law_1222 rfl rfl ?_
  refine r_iload_n B (pc := 1223) dL_law_1223 rfl rfl ?_
  refine r_iconst B (pc := 1224) dL_law_1224 kc_3 ?_
  refine r_iadd B (pc := 1225) dL_law_1225 ?_
  refine r_sld B S h3 (pc := 1226) dL_law_1226 ?_
  refine r_aload_n B (pc := 1227) dL_law_1227 rfl rfl ?_
  refine r_iload_n B (pc := 1228) dL_law_1228 rfl rfl ?_
  refine r_iconst B (pc := 1229) dL_law_1229 kc_4 ?_
  refine r_iadd B (pc := 1230) dL_law_1230 ?_
  refine r_sld B S h4 (pc := 1231) dL_law_1231 ?_
  refine r_cL B (c_X6_judged X.l X.D K ad nw σ (xs (ix (v + 1))) (xs (ix (v + 2))) (xs (ix (v + 3))) (xs (ix (v + 4))) hC) F_X6_judged lk_RL_156 (q0 := 0) (ci := 6) rfl rfl (Nat.le_of_ble_eq_true rfl) (Nat.le_of_ble_eq_true rfl) (Nat.le_of_ble_eq_true rfl) (pc := 1232) dL_law_1232 rfl ?_
  refine r_aload_n B (pc := 1235) dL_law_1235 rfl rfl ?_
  refine r_aload_n B (pc := 1236) dL_law_1236 rfl rfl ?_
  refine r_iload_n B (pc := 1237) dL_law_1237 rfl rfl ?_
  refine r_iconst B (pc := 1238) dL_law_1238 kc_1 ?_
  refine r_iadd B (pc := 1239) dL_law_1239 ?_
  refine r_sld B S h1 (pc := 1240) dL_law_1240 ?_
  refine r_aload_n B (pc := 1241) dL_law_1241 rfl rfl ?_
  refine r_iload_n B (pc := 1242) dL_law_1242 rfl rfl ?_
  refine r_iconst B (pc := 1243) dL_law_1243 kc_2 ?_
  refine r_iadd B (pc := 1244) dL_law_1244 ?_
  refine r_sld B S h2 (pc := 1245) dL_law_1245 ?_
  refine r_aload_n B (pc := 1246) dL_law_1246 rfl rfl ?_
  refine r_iload_n B (pc := 1247) dL_law_1247 rfl rfl ?_
  refine r_iconst B (pc := 1248) dL_law_1248 kc_3 ?_
  refine r_iadd B (pc := 1249) dL_law_1249 ?_
  refine r_sld B S h3 (pc := 1250) dL_law_1250 ?_
  refine r_aload_n B (pc := 1251) dL_law_1251 rfl rfl ?_
  refine r_iload_n B (pc := 1252) dL_law_1252 rfl rfl ?_
  refine r_iconst B (pc := 1253) dL_law_1253 kc_4 ?_
  refine r_iadd B (pc := 1254) dL_law_1254 ?_
  refine r_sld B S h4 (pc := 1255) dL_law_1255 ?_
  refine r_cR B (c_X7_judged X.l X.D K am μ (xs (ix (v + 1))) (xs (ix (v + 2))) (xs (ix (v + 3))) (xs (ix (v + 4))) hM) F_X7_judged lk_RL_159 (q0 := 0) (ci := 7) rfl rfl (Nat.le_of_ble_eq_true rfl) (Nat.le_of_ble_eq_true rfl) (Nat.le_of_ble_eq_true rfl) (pc := 1256) dL_law_1256 rfl ?_
  refine r_icmp_eq B (pc := 1259) (tgt := 1519) (a := ()) (b := ()) (z := ()) dL_law_1259 (by decide) (it_s _) (fun _ _ => ?_) (fun h _ => absurd rfl h)
  exact next
set_option maxHeartbeats 4000000 in
theorem law_c35 {X : Cx} {K : Kt} {b L : Nat} {xs : Nat → Int32} {v : Int32} {ad am : Nat → Nat} {nw : Nat} {σ μ : St} (B : Bs X cL_law RL K 10 408) (S : Sc X b L xs) (h1 : ¬ (v + 1 < 0 ∨ L ≤ ix (v + 1))) (h2 : ¬ (v + 2 < 0 ∨ L ≤ ix (v + 2))) (h3 : ¬ (v + 3 < 0 ∨ L ≤ ix (v + 3))) (h4 : ¬ (v + 4 < 0 ∨ L ≤ ix (v + 4))) (h5 : ¬ (v + 5 < 0 ∨ L ≤ ix (v + 5))) {r : Int32} {σ' : St} {μ' : St} (hC : f_X6_film σ (xs (ix (v + 1))) (xs (ix (v + 2))) (xs (ix (v + 3))) = some (r, σ')) (hM : f_X7_film μ (xs (ix (v + 1))) (xs (ix (v + 2))) (xs (ix (v + 3))) = some (r, μ')) (next : MW X (wC ad K nw σ' ++ wM am K μ') 1519 [some (.ref b), some (.ref (ad 0)), some (.ref (am 0)), some (.int v)] []) : MW X (wC ad K nw σ ++ wM am K μ) 1264 [some (.ref b), some (.ref (ad 0)), some (.ref (am 0)), some (.int v)] [] := by
  refine r_aload_n B (pc := 1264) dL_law_1264 rfl rfl ?_
  refine r_aload_n B (pc := 1265) dL_law_1265 rfl rfl ?_
  refine r_iload_n B (pc := 1266) dL_law_1266 rfl rfl ?_
  refine r_iconst B (pc := 1267) dL_law_1267 kc_1 ?_
  refine r_iadd B (pc := 1268) dL_law_1268 ?_
  refine r_sld B S h1 (pc := 1269) dL_law_1269 ?_
  refine r_aload_n B (pc := 1270) dL_law_1270 rfl rfl ?_
  refine r_iload_n B (pc := 1271) dL_law_1271 rfl rfl ?_
  refine r_iconst B (pc := 1272) dL_law_1272 kc_2 ?_
  refine r_iadd B (pc := 1273) dL_law_1273 ?_
  refine r_sld B S h2 (pc := 1274) dL_law_1274 ?_
  refine r_aload_n B (pc := 1275) dL_law_1275 rfl rfl ?_
  refine r_iload_n B (pc := 1276) dL_law_1276 rfl rfl ?_
  refine r_iconst B (pc := 1277) dL_law_1277 kc_3 ?_
  refine r_iadd B (pc := 1278) dL_law_1278 ?_
  refine r_sld B S h3 (pc := 1279) dL_law_1279 ?_
  refine r_cL B (c_X6_film X.l X.D K ad nw σ (xs (ix (v + 1))) (xs (ix (v + 2))) (xs (ix (v + 3))) hC) F_X6_film lk_RL_160 (q0 := 0) (ci := 6) rfl rfl (Nat.le_of_ble_eq_true rfl) (Nat.le_of_ble_eq_true rfl) (Nat.le_of_ble_eq_true rfl) (pc := 1280) dL_law_1280 rfl ?_
  refine r_aload_n B (pc := 1283) dL_law_1283 rfl rfl ?_
  refine r_aload_n B (pc := 1284) dL_law_1284 rfl rfl ?_
  refine r_iload_n B (pc := 1285) dL_law_1285 rfl rfl ?_
  refine r_iconst B (pc := 1286) dL_law_1286 kc_1 ?_
  refine r_iadd B (pc := 1287) dL_law_1287 ?_
  refine r_sld B S h1 (pc := 1288) dL_law_1288 ?_
  refine r_aload_n B (pc := 1289) dL_law_1289 rfl rfl ?_
  refine r_iload_n B (pc := 1290) dL_law_1290 rfl rfl ?_
  refine r_iconst B (pc := 1291) dL_law_1291 kc_2 ?_
  refine r_iadd B (pc := 1292) dL_law_1292 ?_
  refine r_sld B S h2 (pc := 1293) dL_law_1293 ?_
  refine r_aload_n B (pc := 1294) dL_law_1294 rfl rfl ?_
  refine r_iload_n B (pc := 1295) dL_law_1295 rfl rfl ?_
  refine r_iconst B (pc := 1296) dL_law_1296 kc_3 ?_
  refine r_iadd B (pc := 1297) dL_law_1297 ?_
  refine r_sld B S h3 (pc := 1298) dL_law_1298 ?_
  refine r_cR B (c_X7_film X.l X.D K am μ (xs (ix (v + 1))) (xs (ix (v + 2))) (xs (ix (v + 3))) hM) F_X7_film lk_RL_163 (q0 := 0) (ci := 7) rfl rfl (Nat.le_of_ble_eq_true rfl) (Nat.le_of_ble_eq_true rfl) (Nat.le_of_ble_eq_true rfl) (pc := 1299) dL_law_1299 rfl ?_
  refine r_icmp_eq B (pc := 1302) (tgt := 1519) (a := ()) (b := ()) (z := ()) dL_law_1302 (by decide) (it_s _) (fun _ _ => ?_) (fun h _ => absurd rfl h)
  exact next
set_option maxHeartbeats 4000000 in
theorem law_c36 {X : Cx} {K : Kt} {b L : Nat} {xs : Nat → Int32} {v : Int32} {ad am : Nat → Nat} {nw : Nat} {σ μ : St} (B : Bs X cL_law RL K 10 408) (S : Sc X b L xs) (h1 : ¬ (v + 1 < 0 ∨ L ≤ ix (v + 1))) (h2 : ¬ (v + 2 < 0 ∨ L ≤ ix (v + 2))) (h3 : ¬ (v + 3 < 0 ∨ L ≤ ix (v + 3))) (h4 : ¬ (v + 4 < 0 ∨ L ≤ ix (v + 4))) (h5 : ¬ (v + 5 < 0 ∨ L ≤ ix (v + 5))) {r : Int32} {σ' : St} {μ' : St} (hC : f_X6_sheet σ (xs (ix (v + 1))) (xs (ix (v + 2))) (xs (ix (v + 3))) = some (r, σ')) (hM : f_X7_sheet μ (xs (ix (v + 1))) (xs (ix (v + 2))) (xs (ix (v + 3))) = some (r, μ')) (next : MW X (wC ad K nw σ' ++ wM am K μ') 1519 [some (.ref b), some (.ref (ad 0)), some (.ref (am 0)), some (.int v)] []) : MW X (wC ad K nw σ ++ wM am K μ) 1307 [some (.ref b), some (.ref (ad 0)), some (.ref (am 0)), some (.int v)] [] := by
  refine r_aload_n B (pc := 1307) dL_law_1307 rfl rfl ?_
  refine r_aload_n B (pc := 1308) dL_law_1308 rfl rfl ?_
  refine r_iload_n B (pc := 1309) dL_law_1309 rfl rfl ?_
  refine r_iconst B (pc := 1310) dL_law_1310 kc_1 ?_
  refine r_iadd B (pc := 1311) dL_law_1311 ?_
  refine r_sld B S h1 (pc := 1312) dL_law_1312 ?_
  refine r_aload_n B (pc := 1313) dL_law_1313 rfl rfl ?_
  refine r_iload_n B (pc := 1314) dL_law_1314 rfl rfl ?_
  refine r_iconst B (pc := 1315) dL_law_1315 kc_2 ?_
  refine r_iadd B (pc := 1316) dL_law_1316 ?_
  refine r_sld B S h2 (pc := 1317) dL_law_1317 ?_
  refine r_aload_n B (pc := 1318) dL_law_1318 rfl rfl ?_
  refine r_iload_n B (pc := 1319) dL_law_1319 rfl rfl ?_
  refine r_iconst B (pc := 1320) dL_law_1320 kc_3 ?_
  refine r_iadd B (pc := 1321) dL_law_1321 ?_
  refine r_sld B S h3 (pc := 1322) dL_law_1322 ?_
  refine r_cL B (c_X6_sheet X.l X.D K ad nw σ (xs (ix (v + 1))) (xs (ix (v + 2))) (xs (ix (v + 3))) hC) F_X6_sheet lk_RL_164 (q0 := 0) (ci := 6) rfl rfl (Nat.le_of_ble_eq_true rfl) (Nat.le_of_ble_eq_true rfl) (Nat.le_of_ble_eq_true rfl) (pc := 1323) dL_law_1323 rfl ?_
  refine r_aload_n B (pc := 1326) dL_law_1326 rfl rfl ?_
  refine r_aload_n B (pc := 1327) dL_law_1327 rfl rfl ?_
  refine r_iload_n B (pc := 1328) dL_law_1328 rfl rfl ?_
  refine r_iconst B (pc := 1329) dL_law_1329 kc_1 ?_
  refine r_iadd B (pc := 1330) dL_law_1330 ?_
  refine r_sld B S h1 (pc := 1331) dL_law_1331 ?_
  refine r_aload_n B (pc := 1332) dL_law_1332 rfl rfl ?_
  refine r_iload_n B (pc := 1333) dL_law_1333 rfl rfl ?_
  refine r_iconst B (pc := 1334) dL_law_1334 kc_2 ?_
  refine r_iadd B (pc := 1335) dL_law_1335 ?_
  refine r_sld B S h2 (pc := 1336) dL_law_1336 ?_
  refine r_aload_n B (pc := 1337) dL_law_1337 rfl rfl ?_
  refine r_iload_n B (pc := 1338) dL_law_1338 rfl rfl ?_
  refine r_iconst B (pc := 1339) dL_law_1339 kc_3 ?_
  refine r_iadd B (pc := 1340) dL_law_1340 ?_
  refine r_sld B S h3 (pc := 1341) dL_law_1341 ?_
  refine r_cR B (c_X7_sheet X.l X.D K am μ (xs (ix (v + 1))) (xs (ix (v + 2))) (xs (ix (v + 3))) hM) F_X7_sheet lk_RL_167 (q0 := 0) (ci := 7) rfl rfl (Nat.le_of_ble_eq_true rfl) (Nat.le_of_ble_eq_true rfl) (Nat.le_of_ble_eq_true rfl) (pc := 1342) dL_law_1342 rfl ?_
  refine r_icmp_eq B (pc := 1345) (tgt := 1519) (a := ()) (b := ()) (z := ()) dL_law_1345 (by decide) (it_s _) (fun _ _ => ?_) (fun h _ => absurd rfl h)
  exact next
set_option maxHeartbeats 4000000 in
theorem law_c37 {X : Cx} {K : Kt} {b L : Nat} {xs : Nat → Int32} {v : Int32} {ad am : Nat → Nat} {nw : Nat} {σ μ : St} (B : Bs X cL_law RL K 10 408) (S : Sc X b L xs) (h1 : ¬ (v + 1 < 0 ∨ L ≤ ix (v + 1))) (h2 : ¬ (v + 2 < 0 ∨ L ≤ ix (v + 2))) (h3 : ¬ (v + 3 < 0 ∨ L ≤ ix (v + 3))) (h4 : ¬ (v + 4 < 0 ∨ L ≤ ix (v + 4))) (h5 : ¬ (v + 5 < 0 ∨ L ≤ ix (v + 5))) {r : Int32} {σ' : St} {μ' : St} (hC : f_X6_drop σ (xs (ix (v + 1))) = some (r, σ')) (hM : f_X7_drop μ (xs (ix (v + 1))) = some (r, μ')) (next : MW X (wC ad K nw σ' ++ wM am K μ') 1519 [some (.ref b), some (.ref (ad 0)), some (.ref (am 0)), some (.int v)] []) : MW X (wC ad K nw σ ++ wM am K μ) 1350 [some (.ref b), some (.ref (ad 0)), some (.ref (am 0)), some (.int v)] [] := by
  refine r_aload_n B (pc := 1350) dL_law_1350 rfl rfl ?_
  refine r_aload_n B (pc := 1351) dL_law_1351 rfl rfl ?_
  refine r_iload_n B (pc := 1352) dL_law_1352 rfl rfl ?_
  refine r_iconst B (pc := 1353) dL_law_1353 kc_1 ?_
  refine r_iadd B (pc := 1354) dL_law_1354 ?_
  refine r_sld B S h1 (pc := 1355) dL_law_1355 ?_
  refine r_cL B (c_X6_drop X.l X.D K ad nw σ (xs (ix (v + 1))) hC) F_X6_drop lk_RL_168 (q0 := 0) (ci := 6) rfl rfl (Nat.le_of_ble_eq_true rfl) (Nat.le_of_ble_eq_true rfl) (Nat.le_of_ble_eq_true rfl) (pc := 1356) dL_law_1356 rfl ?_
  refine r_aload_n B (pc := 1359) dL_law_1359 rfl rfl ?_
  refine r_aload_n B (pc := 1360) dL_law_1360 rfl rfl ?_
  refine r_iload_n B (pc := 1361) dL_law_1361 rfl rfl ?_
  refine r_iconst B (pc := 1362) dL_law_1362 kc_1 ?_
  refine r_iadd B (pc := 1363) dL_law_1363 ?_
  refine r_sld B S h1 (pc := 1364) dL_law_1364 ?_
  refine r_cR B (c_X7_drop X.l X.D K am μ (xs (ix (v + 1))) hM) F_X7_drop lk_RL_171 (q0 := 0) (ci := 7) rfl rfl (Nat.le_of_ble_eq_true rfl) (Nat.le_of_ble_eq_true rfl) (Nat.le_of_ble_eq_true rfl) (pc := 1365) dL_law_1365 rfl ?_
  refine r_icmp_eq B (pc := 1368) (tgt := 1519) (a := ()) (b := ()) (z := ()) dL_law_1368 (by decide) (it_s _) (fun _ _ => ?_) (fun h _ => absurd rfl h)
  exact next
set_option maxHeartbeats 4000000 in
theorem law_c38 {X : Cx} {K : Kt} {b L : Nat} {xs : Nat → Int32} {v : Int32} {ad am : Nat → Nat} {nw : Nat} {σ μ : St} (B : Bs X cL_law RL K 10 408) (S : Sc X b L xs) (h1 : ¬ (v + 1 < 0 ∨ L ≤ ix (v + 1))) (h2 : ¬ (v + 2 < 0 ∨ L ≤ ix (v + 2))) (h3 : ¬ (v + 3 < 0 ∨ L ≤ ix (v + 3))) (h4 : ¬ (v + 4 < 0 ∨ L ≤ ix (v + 4))) (h5 : ¬ (v + 5 < 0 ∨ L ≤ ix (v + 5))) {r : Int32} {σ' : St} {μ' : St} (hC : f_X6_item σ (xs (ix (v + 1))) (xs (ix (v + 2))) (xs (ix (v + 3))) (((lsl (xs (ix (v + 4))).toInt64 32) ||| (((xs (ix (v + 5))).toInt64) &&& 4294967295))) = some (r, σ')) (hM : f_X7_item μ (xs (ix (v + 1))) (xs (ix (v + 2))) (xs (ix (v + 3))) (((lsl (xs (ix (v + 4))).toInt64 32) ||| (((xs (ix (v + 5))).toInt64) &&& 4294967295))) = some (r, μ')) (next : MW X (wC ad K nw σ' ++ wM am K μ') 1519 [some (.ref b), some (.ref (ad 0)), some (.ref (am 0)), some (.int v)] []) : MW X (wC ad K nw σ ++ wM am K μ) 1373 [some (.ref b), some (.ref (ad 0)), some (.ref (am 0)), some (.int v)] [] := by
  refine r_aload_n B (pc := 1373) dL_law_1373 rfl rfl ?_
  refine r_aload_n B (pc := 1374) dL_law_1374 rfl rfl ?_
  refine r_iload_n B (pc := 1375) dL_law_1375 rfl rfl ?_
  refine r_iconst B (pc := 1376) dL_law_1376 kc_1 ?_
  refine r_iadd B (pc := 1377) dL_law_1377 ?_
  refine r_sld B S h1 (pc := 1378) dL_law_1378 ?_
  refine r_aload_n B (pc := 1379) dL_law_1379 rfl rfl ?_
  refine r_iload_n B (pc := 1380) dL_law_1380 rfl rfl ?_
  refine r_iconst B (pc := 1381) dL_law_1381 kc_2 ?_
  refine r_iadd B (pc := 1382) dL_law_1382 ?_
  refine r_sld B S h2 (pc := 1383) dL_law_1383 ?_
  refine r_aload_n B (pc := 1384) dL_law_1384 rfl rfl ?_
  refine r_iload_n B (pc := 1385) dL_law_1385 rfl rfl ?_
  refine r_iconst B (pc := 1386) dL_law_1386 kc_3 ?_
  refine r_iadd B (pc := 1387) dL_law_1387 ?_
  refine r_sld B S h3 (pc := 1388) dL_law_1388 ?_
  refine r_aload_n B (pc := 1389) dL_law_1389 rfl rfl ?_
  refine r_iload_n B (pc := 1390) dL_law_1390 rfl rfl ?_
  refine r_iconst B (pc := 1391) dL_law_1391 kc_4 ?_
  refine r_iadd B (pc := 1392) dL_law_1392 ?_
  refine r_sld B S h4 (pc := 1393) dL_law_1393 ?_
  refine r_i2l B (pc := 1394) dL_law_1394 ?_
  refine r_bipush B (pc := 1395) dL_law_1395 kb_32 ?_
  refine r_lshl B (pc := 1397) dL_law_1397 ?_
  refine r_aload_n B (pc := 1398) dL_law_1398 rfl rfl ?_
  refine r_iload_n B (pc := 1399) dL_law_1399 rfl rfl ?_
  refine r_iconst B (pc := 1400) dL_law_1400 kc_5 ?_
  refine r_iadd B (pc := 1401) dL_law_1401 ?_
  refine r_sld B S h5 (pc := 1402) dL_law_1402 ?_
  refine r_i2l B (pc := 1403) dL_law_1403 ?_
  refine r_ldc2 B (pc := 1404) kp_RL_172 dL_law_1404 ?_
  refine r_land B (pc := 1407) dL_law_1407 ?_
  refine r_lor B (pc := 1408) dL_law_1408 ?_
  refine r_cL B (c_X6_item X.l X.D K ad nw σ (xs (ix (v + 1))) (xs (ix (v + 2))) (xs (ix (v + 3))) (((lsl (xs (ix (v + 4))).toInt64 32) ||| (((xs (ix (v + 5))).toInt64) &&& 4294967295))) hC) F_X6_item lk_RL_174 (q0 := 0) (ci := 6) rfl rfl (Nat.le_of_ble_eq_true rfl) (Nat.le_of_ble_eq_true rfl) (Nat.le_of_ble_eq_true rfl) (pc := 1409) dL_law_1409 rfl ?_
  refine r_aload_n B (pc := 1412) dL_law_1412 rfl rfl ?_
  refine r_aload_n B (pc := 1413) dL_law_1413 rfl rfl ?_
  refine r_iload_n B (pc := 1414) dL_law_1414 rfl rfl ?_
  refine r_iconst B (pc := 1415) dL_law_1415 kc_1 ?_
  refine r_iadd B (pc := 1416) dL_law_1416 ?_
  refine r_sld B S h1 (pc := 1417) dL_law_1417 ?_
  refine r_aload_n B (pc := 1418) dL_law_1418 rfl rfl ?_
  refine r_iload_n B (pc := 1419) dL_law_1419 rfl rfl ?_
  refine r_iconst B (pc := 1420) dL_law_1420 kc_2 ?_
  refine r_iadd B (pc := 1421) dL_law_1421 ?_
  refine r_sld B S h2 (pc := 1422) dL_law_1422 ?_
  refine r_aload_n B (pc := 1423) dL_law_1423 rfl rfl ?_
  refine r_iload_n B (pc := 1424) dL_law_1424 rfl rfl ?_
  refine r_iconst B (pc := 1425) dL_law_1425 kc_3 ?_
  refine r_iadd B (pc := 1426) dL_law_1426 ?_
  refine r_sld B S h3 (pc := 1427) dL_law_1427 ?_
  refine r_aload_n B (pc := 1428) dL_law_1428 rfl rfl ?_
  refine r_iload_n B (pc := 1429) dL_law_1429 rfl rfl ?_
  refine r_iconst B (pc := 1430) dL_law_1430 kc_4 ?_
  refine r_iadd B (pc := 1431) dL_law_1431 ?_
  refine r_sld B S h4 (pc := 1432) dL_law_1432 ?_
  refine r_i2l B (pc := 1433) dL_law_1433 ?_
  refine r_bipush B (pc := 1434) dL_law_1434 kb_32 ?_
  refine r_lshl B (pc := 1436) dL_law_1436 ?_
  refine r_aload_n B (pc := 1437) dL_law_1437 rfl rfl ?_
  refine r_iload_n B (pc := 1438) dL_law_1438 rfl rfl ?_
  refine r_iconst B (pc := 1439) dL_law_1439 kc_5 ?_
  refine r_iadd B (pc := 1440) dL_law_1440 ?_
  refine r_sld B S h5 (pc := 1441) dL_law_1441 ?_
  refine r_i2l B (pc := 1442) dL_law_1442 ?_
  refine r_ldc2 B (pc := 1443) kp_RL_172 dL_law_1443 ?_
  refine r_land B (pc := 1446) dL_law_1446 ?_
  refine r_lor B (pc := 1447) dL_law_1447 ?_
  refine r_cR B (c_X7_item X.l X.D K am μ (xs (ix (v + 1))) (xs (ix (v + 2))) (xs (ix (v + 3))) (((lsl (xs (ix (v + 4))).toInt64 32) ||| (((xs (ix (v + 5))).toInt64) &&& 4294967295))) hM) F_X7_item lk_RL_178 (q0 := 0) (ci := 7) rfl rfl (Nat.le_of_ble_eq_true rfl) (Nat.le_of_ble_eq_true rfl) (Nat.le_of_ble_eq_true rfl) (pc := 1448) dL_law_1448 rfl ?_
  refine r_icmp_eq B (pc := 1451) (tgt := 1519) (a := ()) (b := ()) (z := ()) dL_law_1451 (by decide) (it_s _) (fun _ _ => ?_) (fun h _ => absurd rfl h)
  exact next
set_option maxHeartbeats 4000000 in
theorem law_c39 {X : Cx} {K : Kt} {b L : Nat} {xs : Nat → Int32} {v : Int32} {ad am : Nat → Nat} {nw : Nat} {σ μ : St} (B : Bs X cL_law RL K 10 408) (S : Sc X b L xs) (h1 : ¬ (v + 1 < 0 ∨ L ≤ ix (v + 1))) (h2 : ¬ (v + 2 < 0 ∨ L ≤ ix (v + 2))) (h3 : ¬ (v + 3 < 0 ∨ L ≤ ix (v + 3))) (h4 : ¬ (v + 4 < 0 ∨ L ≤ ix (v + 4))) (h5 : ¬ (v + 5 < 0 ∨ L ≤ ix (v + 5))) {r : Int32} {σ' : St} {μ' : St} (hC : f_X6_copy σ (xs (ix (v + 1))) (xs (ix (v + 2))) (xs (ix (v + 3))) (xs (ix (v + 4))) (xs (ix (v + 5))) = some (r, σ')) (hM : f_X7_copy μ (xs (ix (v + 1))) (xs (ix (v + 2))) (xs (ix (v + 3))) (xs (ix (v + 4))) (xs (ix (v + 5))) = some (r, μ')) (next : MW X (wC ad K nw σ' ++ wM am K μ') 1519 [some (.ref b), some (.ref (ad 0)), some (.ref (am 0)), some (.int v)] []) : MW X (wC ad K nw σ ++ wM am K μ) 1456 [some (.ref b), some (.ref (ad 0)), some (.ref (am 0)), some (.int v)] [] := by
  refine r_aload_n B (pc := 1456) dL_law_1456 rfl rfl ?_
  refine r_aload_n B (pc := 1457) dL_law_1457 rfl rfl ?_
  refine r_iload_n B (pc := 1458) dL_law_1458 rfl rfl ?_
  refine r_iconst B (pc := 1459) dL_law_1459 kc_1 ?_
  refine r_iadd B (pc := 1460) dL_law_1460 ?_
  refine r_sld B S h1 (pc := 1461) dL_law_1461 ?_
  refine r_aload_n B (pc := 1462) dL_law_1462 rfl rfl ?_
  refine r_iload_n B (pc := 1463) dL_law_1463 rfl rfl ?_
  refine r_iconst B (pc := 1464) dL_law_1464 kc_2 ?_
  refine r_iadd B (pc := 1465) dL_law_1465 ?_
  refine r_sld B S h2 (pc := 1466) dL_law_1466 ?_
  refine r_aload_n B (pc := 1467) dL_law_1467 rfl rfl ?_
  refine r_iload_n B (pc := 1468) dL_law_1468 rfl rfl ?_
  refine r_iconst B (pc := 1469) dL_law_1469 kc_3 ?_
  refine r_iadd B (pc := 1470) dL_law_1470 ?_
  refine r_sld B S h3 (pc := 1471) dL_law_1471 ?_
  refine r_aload_n B (pc := 1472) dL_law_1472 rfl rfl ?_
  refine r_iload_n B (pc := 1473) dL_law_1473 rfl rfl ?_
  refine r_iconst B (pc := 1474) dL_law_1474 kc_4 ?_
  refine r_iadd B (pc := 1475) dL_law_1475 ?_
  refine r_sld B S h4 (pc := 1476) dL_law_1476 ?_
  refine r_aload_n B (pc := 1477) dL_law_1477 rfl rfl ?_
  refine r_iload_n B (pc := 1478) dL_law_1478 rfl rfl ?_
  refine r_iconst B (pc := 1479) dL_law_1479 kc_5 ?_
  refine r_iadd B (pc := 1480) dL_law_1480 ?_
  refine r_sld B S h5 (pc := 1481) dL_law_1481 ?_
  refine r_cL B (c_X6_copy X.l X.D K ad nw σ (xs (ix (v + 1))) (xs (ix (v + 2))) (xs (ix (v + 3))) (xs (ix (v + 4))) (xs (ix (v + 5))) hC) F_X6_copy lk_RL_179 (q0 := 0) (ci := 6) rfl rfl (Nat.le_of_ble_eq_true rfl) (Nat.le_of_ble_eq_true rfl) (Nat.le_of_ble_eq_true rfl) (pc := 1482) dL_law_1482 rfl ?_
  refine r_aload_n B (pc := 1485) dL_law_1485 rfl rfl ?_
  refine r_aload_n B (pc := 1486) dL_law_1486 rfl rfl ?_
  refine r_iload_n B (pc := 1487) dL_law_1487 rfl rfl ?_
  refine r_iconst B (pc := 1488) dL_law_1488 kc_1 ?_
  refine r_iadd B (pc := 1489) dL_law_1489 ?_
  refine r_sld B S h1 (pc := 1490) dL_law_1490 ?_
  refine r_aload_n B (pc := 1491) dL_law_1491 rfl rfl ?_
  refine r_iload_n B (pc := 1492) dL_law_1492 rfl rfl ?_
  refine r_iconst B (pc := 1493) dL_law_1493 kc_2 ?_
  refine r_iadd B (pc := 1494) dL_law_1494 ?_
  refine r_sld B S h2 (pc := 1495) dL_law_1495 ?_
  refine r_aload_n B (pc := 1496) dL_law_1496 rfl rfl ?_
  refine r_iload_n B (pc := 1497) dL_law_1497 rfl rfl ?_
  refine r_iconst B (pc := 1498) dL_law_1498 kc_3 ?_
  refine r_iadd B (pc := 1499) dL_law_1499 ?_
  refine r_sld B S h3 (pc := 1500) dL_law_1500 ?_
  refine r_aload_n B (pc := 1501) dL_law_1501 rfl rfl ?_
  refine r_iload_n B (pc := 1502) dL_law_1502 rfl rfl ?_
  refine r_iconst B (pc := 1503) dL_law_1503 kc_4 ?_
  refine r_iadd B (pc := 1504) dL_law_1504 ?_
  refine r_sld B S h4 (pc := 1505) dL_law_1505 ?_
  refine r_aload_n B (pc := 1506) dL_law_1506 rfl rfl ?_
  refine r_iload_n B (pc := 1507) dL_law_1507 rfl rfl ?_
  refine r_iconst B (pc := 1508) dL_law_1508 kc_5 ?_
  refine r_iadd B (pc := 1509) dL_law_1509 ?_
  refine r_sld B S h5 (pc := 1510) dL_law_1510 ?_
  refine r_cR B (c_X7_copy X.l X.D K am μ (xs (ix (v + 1))) (xs (ix (v + 2))) (xs (ix (v + 3))) (xs (ix (v + 4))) (xs (ix (v + 5))) hM) F_X7_copy lk_RL_182 (q0 := 0) (ci := 7) rfl rfl (Nat.le_of_ble_eq_true rfl) (Nat.le_of_ble_eq_true rfl) (Nat.le_of_ble_eq_true rfl) (pc := 1511) dL_law_1511 rfl ?_
  refine r_icmp_eq B (pc := 1514) (tgt := 1519) (a := ()) (b := ()) (z := ()) dL_law_1514 (by decide) (it_s _) (fun _ _ => ?_) (fun h _ => absurd rfl h)
  exact next
