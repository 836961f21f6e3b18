theorem gC_RX6_65_0 {X : Cx} {cc : ByteArray} {K : Kt} {fr lo : Nat} {ad : Nat → Nat} {nw : Nat} {σ : St} {pc : Nat} {loc : List (Option Value)} {st : List Value} (B : Bs X cc RX6 K fr lo) (hd : decode cc pc = .ok (.getfield 65, 3)) (k : MW X (wC ad K nw σ) (pc + 3) loc (.ref (ad 66) :: st)) : MW X (wC ad K nw σ) pc loc (.ref (ad 0) :: st) := r_get B (q0 := 0) (ci := 6) 10 rfl rfl inT_X6 (by decide) fl_RX6_65 rfl hd k
theorem fl_RX6_271 : Cond.fieldLink RX6 271 (TX2 1).1 (TX2 1).2.1 (TX2 1).2.2.1 ∈ lw_T := lw_Tm (tm1 (List.mem_of_getElem? (i := 81) (by decide +kernel))) rfl
theorem gC_RX6_271_9 {X : Cx} {cc : ByteArray} {K : Kt} {fr lo : Nat} {ad : Nat → Nat} {nw : Nat} {σ : St} {pc : Nat} {loc : List (Option Value)} {st : List Value} (B : Bs X cc RX6 K fr lo) (hd : decode cc pc = .ok (.getfield 271, 3)) (k : MW X (wC ad K nw σ) (pc + 3) loc (.int (σ.1 9 1) :: st)) : MW X (wC ad K nw σ) pc loc (.ref (ad 9) :: st) := r_get B (q0 := 9) (ci := 2) 1 rfl rfl inT_X2 (by decide) fl_RX6_271 rfl hd k
theorem pC_RX6_271_9 {X : Cx} {cc : ByteArray} {K : Kt} {fr lo : Nat} {ad : Nat → Nat} {nw : Nat} {σ : St} {pc : Nat} {loc : List (Option Value)} {st : List Value} {β : Type} {q : St → β} {z : β} {x : Int32} (B : Bs X cc RX6 K fr lo) (hd : decode cc pc = .ok (.putfield 271, 3)) (hf : sq (wr σ 9 1 x) q = z) (k : ∀ τ : St, q τ = z → MW X (wC ad K nw τ) (pc + 3) loc st) : MW X (wC ad K nw σ) pc loc (.int x :: .ref (ad 9) :: st) := r_put B (q0 := 9) (ci := 2) 1 rfl rfl inT_X2 tyX2 tyX2_ok nmX2 (by decide) fl_RX6_271 rfl (tyX2_ok 1 (by decide)) rfl rfl (Nat.le_of_ble_eq_true rfl) rfl hd (k _ hf)
theorem F_X2_countInto : FcV yX2_countInto cX2_countInto 5 (some .int) 1 := ⟨lw_Tm (tm3 (List.mem_of_getElem? (i := 161) rfl)) rfl, lw_Tm (tm3 (List.mem_of_getElem? (i := 159) (by decide +kernel))) rfl, lw_Tm (tm3 (List.mem_of_getElem? (i := 160) (by decide +kernel))) rfl, lw_Tm (tm1 (List.mem_of_getElem? (i := 4) (by decide +kernel))) rfl, by decide +kernel, by decide +kernel, by decide +kernel⟩
theorem lk_RX6_358 : Cond.methodLink RX6 358 yX2_countInto ∈ lw_T := lw_Tm (tm3 (List.mem_of_getElem? (i := 158) (by decide +kernel))) rfl
theorem F_X2_inLastOrder : FcV yX2_inLastOrder cX2_inLastOrder 5 (some .int) 1 := ⟨lw_Tm (tm3 (List.mem_of_getElem? (i := 170) rfl)) rfl, lw_Tm (tm3 (List.mem_of_getElem? (i := 168) (by decide +kernel))) rfl, lw_Tm (tm3 (List.mem_of_getElem? (i := 169) (by decide +kernel))) rfl, lw_Tm (tm1 (List.mem_of_getElem? (i := 4) (by decide +kernel))) rfl, by decide +kernel, by decide +kernel, by decide +kernel⟩
theorem lk_RX6_277 : Cond.methodLink RX6 277 yX2_inLastOrder ∈ lw_T := lw_Tm (tm3 (List.mem_of_getElem? (i := 167) (by decide +kernel))) rfl
theorem F_X6_countOrders : FcV yX6_countOrders cX6_countOrders 2 (some .int) 0 := ⟨lw_Tm (tm3 (List.mem_of_getElem? (i := 157) rfl)) rfl, lw_Tm (tm3 (List.mem_of_getElem? (i := 156) (by decide +kernel))) rfl, lw_Tm (tm0 (List.mem_of_getElem? (i := 14) (by decide +kernel))) rfl, lw_Tm (tm1 (List.mem_of_getElem? (i := 1) (by decide +kernel))) rfl, by decide +kernel, by decide +kernel, by decide +kernel⟩
theorem lk_RX6_274 : Cond.methodLink RX6 274 yX6_countOrders ∈ lw_T := lw_Tm (tm3 (List.mem_of_getElem? (i := 154) (by decide +kernel))) rfl
theorem F_X6_orders : FcV yX6_orders cX6_orders 2 (some .int) 1 := ⟨lw_Tm (tm3 (List.mem_of_getElem? (i := 153) rfl)) rfl, lw_Tm (tm3 (List.mem_of_getElem? (i := 151) (by decide +kernel))) rfl, lw_Tm (tm3 (List.mem_of_getElem? (i := 152) (by decide +kernel))) rfl, lw_Tm (tm1 (List.mem_of_getElem? (i := 1) (by decide +kernel))) rfl, by decide +kernel, by decide +kernel, by decide +kernel⟩
def f_cO2 (nw : Nat) (σ : St) : Option (Int32 × Nat × St) := bdp (f_X2_countInto_66 nw σ) fun r s1 => sq (wr s1 9 1 r) fun s2 => some (s2.1 9 1, nw, s2)
def f_X6_countOrders (nw : Nat) (σ : St) : Option (Int32 × Nat × St) := sq (isl 1 (σ.1 9 0)) fun y1 => if y1 ≤ (Int32.ofNat nw) then f_cO2 nw σ else (if y1 < 0 ∨ 4096 < ix y1 then none else f_cO2 (ix y1) (wrow σ 66 (fun _ => 0)))
def f_X6_orders (nw : Nat) (σ : St) (x1 : Int32) : Option (Int32 × Nat × St) := if x1 < (-1) then some ((-1), nw, σ) else (if x1 < 12 then (if x1 = (-1) then (if (σ.1 9 1) ≤ 0 then f_X6_countOrders nw σ else some (σ.1 9 1, nw, σ)) else (if (σ.1 9 0) ≤ x1 then some ((-4), nw, σ) else bdr (f_X2_inLastOrder σ x1) fun r => some (r, nw, σ))) else some ((-1), nw, σ))
def CtO (l : Launch) (y : MethodName) (cc : ByteArray) (nL : Nat) (fr lo : Nat) (D : va_G) (K : Kt) (ad : Nat → Nat) (av : List Value) (w : va_W) (r : Int32) (nw' : Nat) (σ' : St) : Prop := ∀ sz : Nat, Met l y (.code y cc nL (some .int) :: lw_T) { frames := fr, cells := 1, slots := 4096, locals := lo } (PrW l D K av w sz) (va_Qi (fun (r' : Int32) (ad' : Nat → Nat) => r' = r ∧ ad' 0 = ad 0) (fun ad' t => va_P D vwCl (wC ad' K nw' σ') t.heap ∧ va_K D vwCl (tyL K) t ∧ va_D (va_A w sz) (wC ad' K nw' σ')) (va_A w sz)) 1 4096 (va_A w sz)
theorem met_o {l : Launch} {y : MethodName} {cc : ByteArray} {nL : Nat} {fr lo : Nat} {D : va_G} {K : Kt} {ad : Nat → Nat} {av : List Value} {w : va_W} {r : Int32} {nw' : Nat} {σ' : St} (hy : plainName y.cls = true) (hlen : (lg_sl av).length ≤ nL)
    (body : ∀ X : Cx, X.2.2.1 = nL → Bs X cc y.cls K fr lo → Rm X 1 4096 → (∀ (ad' : Nat → Nat) (pc : Nat) (loc : List (Option Value)), ad' 0 = ad 0 → decode cc pc = .ok (.ireturn, 1) → MW (X.up 1 4096) (wC ad' K nw' σ') pc loc [.int r]) → MW X w 0 (lent av nL) []) : CtO l y cc nL fr lo D K ad av w r nw' σ' := by
  intro sz
  refine Met.ofW (cc := cc) (maxL := nL) (ret := some .int) hy rfl ?_
  intro p e s m args below meth c s₁ B hml hv
  obtain ⟨rfl, hsz, hP, hK, hD0, hN⟩ := hv
  have hx := B.exec
  have hb := B.bytes
  have hr := B.returns
  have hts := atoms_spec (ws := .code y cc nL (some .int) :: lw_T) B.pre
  have hown : s.vm.findClass y.cls = some m.cls := findClass_of_methodNamed B.named
  have hlocks := B.notSynchronized
  subst hsz
  have hD := hD0.self (sz := s.heap.size)
  have hS : va_S (va_A w s.heap.size) s.heap s.heap [] := va_S.rf
  have hl := lo_entry av hlen
  rw [lg_entry_eq]
  refine body ((p, l, e, { frames := fr, cells := 1, slots := 4096, locals := lo }, s, m), (av.toArray, below, meth, c), (nL, 0, 0, va_A w s.heap.size, D, MQ below (va_Qi (fun (r' : Int32) (ad' : Nat → Nat) => r' = r ∧ ad' 0 = ad 0) (fun ad' t => va_P D vwCl (wC ad' K nw' σ') t.heap ∧ va_K D vwCl (tyL K) t ∧ va_D (va_A w s.heap.size) (wC ad' K nw' σ')) (va_A w s.heap.size)) av.toArray s 1 4096 (va_A w s.heap.size))) rfl ⟨hx, hb, hml, hown, fun w hw => hts w (List.mem_cons_of_mem _ hw), hK, hN, fun q h => Or.inr h, Nat.le_refl _, Nat.le_refl _, Nat.zero_le _, Nat.zero_le _⟩ ⟨Nat.le_of_eq (Nat.zero_add _), Nat.le_of_eq (Nat.zero_add _)⟩ ?_ s.heap [] _ hP hD hS hl
  intro ad' pc loc hq hd H locs ls hP hD hS hl
  show W _ _ _ _ _ _ _ _ _ _ _ _ (0 + 1) (0 + 4096) _ _
  rw [Nat.zero_add, Nat.zero_add]
  exact W.iret hx hb hr (fun t ht hW => ⟨⟨r, ad', rfl, ⟨rfl, hq⟩, by rw [ht]; exact hP, va_K.moved hW.alike hK, hD⟩, hS.F ht⟩) hS.2.2 hd
/-- a call that may make a row of ways, over the whole world -/
theorem r_cO {X : Cx} {cc : ByteArray} {own : String} {K : Kt} {fr lo : Nat} {w : va_W} {pc : Nat} {loc : List (Option Value)} {st stk : List Value} (B : Bs X cc own K fr lo) {y : MethodName} {cc2 : ByteArray} {nL2 fr2 lo2 i : Nat} {ad : Nat → Nat} {av : List Value} {r : Int32} {nw' : Nat} {σ' : St} {q0 ci b N : Nat} {T : u_T} {fs : List Value} (hM : CtO X.l y cc2 nL2 fr2 lo2 X.D K ad (.ref b :: av) w r nw' σ') (F : FcV y cc2 nL2 (some .int) av.length) (hlk : Cond.methodLink own i y ∈ lw_T) (he : w[q0]? = some (b, .inr (ci, fs))) (hc : vwCl[ci]? = some (y.cls, T, N)) (hR : Rm X 1 4096) (h1 : fr2 + 1 ≤ fr) (h2 : 8 + (nL2 + 11) + lo2 ≤ lo) (hst : (st.map fun v => v.category).sum ≤ 8) (hd : decode cc pc = .ok (.invokevirtual i, 3)) (hk : av.reverse ++ .ref b :: st = stk) (k : ∀ ad' : Nat → Nat, ad' 0 = ad 0 → MW (X.up 1 4096) (wC ad' K nw' σ') (pc + 3) loc (.int r :: st)) : MW X w pc loc stk := by
  obtain ⟨⟨p, l, e, R, s, m⟩, ⟨args, below, meth, c⟩, ⟨nL, cells, slots, A, D, Q⟩⟩ := X
  obtain ⟨hx, hb, hml, hown, hts, hK, hN, hA, hfr, hlo, hce, hsl⟩ := B
  intro H locs ls hP hD hS hl
  subst hk
  exact va_calli (va_runV (As := av) (rest := st) ⟨hx, hb, hml, hown, hts⟩ (hM H.size) ⟨callB_of av.length hts (lw_Gc F.1) rfl rfl rfl (hts _ F.2.2.2.1) (hts _ hlk) F.2.2.2.2 ⟨Nat.le_trans h1 hfr, Nat.le_trans h2 hlo⟩, hts _ F.2.1, hts _ F.2.2.1⟩ ⟨PrW.blind, va_recv hK hP hc he, fun U hU hW => ⟨rfl, by rw [hU], by rw [hU]; exact hP, va_K.moved hW.alike hK, hD.weaken (fun _ _ _ _ => trivial), hN.warm hW⟩⟩ rfl rfl hl.1 rfl (lv_room hst) hd ⟨hR.1, hR.2⟩) hS (fun q _ h => va_Afree hD hS hA q h) (fun q h => va_Afree hD hS hA q h) (fun r0 ad' t H1 locs1 ht hvm hw hB hz1 hk1 hS1 => by
    obtain ⟨rfl, hq⟩ := hw
    obtain ⟨hP1, hK1, hD1⟩ := hB
    rw [ht] at hP1
    exact k ad' hq H1 locs1 ls hP1 (hD1.weaken (fun _ q _ h => va_Afree hD hS hA q.1 h)) hS1 hl)
def adW (ad : Nat → Nat) (q : Nat) : Nat → Nat := fun i => if i = 66 then q else ad i
theorem adW_sh (ad : Nat → Nat) (q : Nat) : (fun j => some (adW ad q (53 + 2 * j))) = (fun j => some (ad (53 + 2 * j))) := by
  funext j
  unfold adW
  rw [if_neg (by omega)]
set_option maxHeartbeats 4000000 in
set_option maxRecDepth 20000 in
theorem c_X6_countOrders (l : Launch) (D : va_G) (K : Kt) (ad : Nat → Nat) (nw : Nat) (σ : St) {r : Int32} {nw' : Nat} {τ : St} (hf : f_X6_countOrders nw σ = some (r, nw', τ)) : CtO l yX6_countOrders cX6_countOrders 2 3 67 D K ad [.ref (ad 0)] (wC ad K nw σ) r nw' τ := by
  refine met_o pl_RX6 (Nat.le_of_ble_eq_true rfl) (fun X hnL B0 hR RET => ?_)
  suffices h : MW X (wC ad K nw σ) 0 [some (.ref (ad 0)), none] [] from h
  have B := B0.up (hR.sub 1 4096 (Nat.le_of_ble_eq_true rfl) (Nat.le_of_ble_eq_true rfl))
  have k29 : ∀ (ad' : Nat → Nat) (nv : Nat) (σ1 : St), ad' 0 = ad 0 → f_cO2 nv σ1 = some (r, nw', τ) → MW (X.up 1 4096) (wC ad' K nv σ1) 29 [some (.ref (ad' 0)), none] [] := by
    intro ad' nv σ1 hq hf
    unfold f_cO2 at hf
    refine r_aload_n B (pc := 29) dX6_countOrders_29 rfl rfl ?_
    refine gC_RX6_10_0 B (pc := 30) dX6_countOrders_30 ?_
    refine gC_RX6_96_1 B (pc := 33) dX6_countOrders_33 ?_
    refine r_aload_n B (pc := 36) dX6_countOrders_36 rfl rfl ?_
    refine gC_RX6_10_0 B (pc := 37) dX6_countOrders_37 ?_
    refine gC_RX6_96_1 B (pc := 40) dX6_countOrders_40 ?_
    refine r_aload_n B (pc := 43) dX6_countOrders_43 rfl rfl ?_
    refine gC_RX6_65_0 B (pc := 44) dX6_countOrders_44 ?_
    obtain ⟨r1, s1, hc1, hf⟩ := bdp_e hf
    refine r_cVI B (c_X2_countInto_66 X.l X.D K ad' nv σ1 hc1) F_X2_countInto lk_RX6_358 (q0 := 9) (ci := 2) rfl rfl (Nat.le_of_ble_eq_true rfl) (Nat.le_of_ble_eq_true rfl) (Nat.le_of_ble_eq_true rfl) (pc := 47) dX6_countOrders_47 rfl ?_
    refine pC_RX6_271_9 B (pc := 50) dX6_countOrders_50 hf (fun s2 hf => ?_)
    refine r_aload_n B (pc := 53) dX6_countOrders_53 rfl rfl ?_
    refine gC_RX6_10_0 B (pc := 54) dX6_countOrders_54 ?_
    refine gC_RX6_96_1 B (pc := 57) dX6_countOrders_57 ?_
    refine gC_RX6_271_9 B (pc := 60) dX6_countOrders_60 ?_
    have e1 := Option.some.inj hf
    have e2 : s2.1 9 1 = r := congrArg Prod.fst e1
    have e3 : nv = nw' := congrArg (fun z => z.2.1) e1
    have e4 : s2 = τ := congrArg (fun z => z.2.2) e1
    subst e3; subst e4
    rw [e2]
    exact RET ad' 63 _ hq dX6_countOrders_63
  unfold f_X6_countOrders at hf
  refine r_iconst B0 (pc := 0) dX6_countOrders_0 kc_1 ?_
  refine r_aload_n B0 (pc := 1) dX6_countOrders_1 rfl rfl ?_
  refine gC_RX6_10_0 B0 (pc := 2) dX6_countOrders_2 ?_
  refine gC_RX6_96_1 B0 (pc := 5) dX6_countOrders_5 ?_
  refine gC_RX6_103_9 B0 (pc := 8) dX6_countOrders_8 ?_
  refine r_ishl B0 (pc := 11) dX6_countOrders_11 ?_
  refine r_nm hf (fun y1 hf => ?_)
  refine r_istore_n B0 hnL (pc := 12) dX6_countOrders_12 rfl (by decide) ?_
  refine r_lc (loc' := [some (.ref (ad 0)), some (.int y1)]) rfl ?_
  refine r_aload_n B0 (pc := 13) dX6_countOrders_13 rfl rfl ?_
  refine gC_RX6_65_0 B0 (pc := 14) dX6_countOrders_14 ?_
  refine lenC_66 B0 (pc := 17) dX6_countOrders_17 ?_
  refine r_iload_n B0 (pc := 18) dX6_countOrders_18 rfl rfl ?_
  refine r_icmp_ge B0 (pc := 19) (tgt := 29) dX6_countOrders_19 (by decide) hf (fun _ hf => ?_) (fun _ hf => ?_)
  · refine r_widen 1 4096 ?_
    exact r_mask [true, false] rfl (k29 ad nw σ rfl hf)
  · have hy := (it_n hf).1
    have hf := (it_n hf).2
    have hy4 : ix y1 ≤ 4096 := Nat.not_lt.mp fun h => hy (Or.inr h)
    refine r_aload_n B0 (pc := 22) dX6_countOrders_22 rfl rfl ?_
    refine r_iload_n B0 (pc := 23) dX6_countOrders_23 rfl rfl ?_
    refine r_newai B0 (ix y1) (hR.sub 1 (ix y1) (Nat.le_of_ble_eq_true rfl) hy4) aw_i (fun h => hy (Or.inl h)) rfl (by omega) (pc := 24) dX6_countOrders_24 (fun q => ?_)
    have B1 := B0.up (hR.sub 1 (ix y1) (Nat.le_of_ble_eq_true rfl) hy4)
    refine r_put B1 (q0 := 0) (ci := 6) 10 (ty := tyX6 10) (w' := (wC ad K nw σ).set 0 (ad 0, .inr (6, [.ref (ad 1), .ref (ad 19), .int (σ.1 0 2), .ref (ad 37), .ref (ad 39), .ref (ad 46), .ref (ad 51), .ref (ad 52), .ref (ad 61), .ref (ad 62), .ref q])) ++ [(q, .inl (K.1, ix y1, .inl (fun _ => 0)))]) rfl rfl inT_X6 tyX6 tyX6_ok nmX6 (by decide) fl_RX6_65 rfl (tyX6_ok 10 (by decide)) rfl rfl (Nat.le_of_ble_eq_true rfl) rfl (pc := 26) dX6_countOrders_26 ?_
    refine r_perm (w' := wC (adW ad q) K (ix y1) (wrow σ 66 (fun _ => 0))) [0, 1, 2, 3, 4, 5, 6, 7, 8, 9, 10, 11, 12, 13, 14, 15, 16, 17, 18, 19, 20, 21, 22, 23, 24, 25, 26, 27, 28, 29, 30, 31, 32, 33, 34, 35, 36, 37, 38, 39, 40, 41, 42, 43, 44, 45, 46, 47, 48, 49, 50, 51, 52, 53, 54, 55, 56, 57, 58, 59, 60, 61, 62, 63, 64, 65, 67] (by unfold wC; rw [adW_sh]; rfl) (by decide) ?_
    refine r_widen 0 (4096 - ix y1) ?_
    refine r_up2 (a' := 1) (b' := 4096) rfl (by omega) ?_
    exact r_mask [true, false] rfl (k29 (adW ad q) (ix y1) (wrow σ 66 (fun _ => 0)) rfl hf)
set_option maxHeartbeats 4000000 in
set_option maxRecDepth 20000 in
theorem c_X6_orders (l : Launch) (D : va_G) (K : Kt) (ad : Nat → Nat) (nw : Nat) (σ : St) (x1 : Int32) {r : Int32} {nw' : Nat} {τ : St} (hf : f_X6_orders nw σ x1 = some (r, nw', τ)) : CtO l yX6_orders cX6_orders 2 4 89 D K ad [.ref (ad 0), .int x1] (wC ad K nw σ) r nw' τ := by
  refine met_o pl_RX6 (Nat.le_of_ble_eq_true rfl) (fun X hnL B hR RET => ?_)
  suffices h : MW X (wC ad K nw σ) 0 [some (.ref (ad 0)), some (.int x1)] [] from h
  have ret : ∀ (v : Int32) (pc : Nat), some (v, nw, σ) = some (r, nw', τ) → decode cX6_orders pc = .ok (.ireturn, 1) → MW X (wC ad K nw σ) pc [some (.ref (ad 0)), some (.int x1)] [.int v] := by
    intro v pc hf hd
    have e1 := Option.some.inj hf
    have e2 : v = r := congrArg Prod.fst e1
    have e3 : nw = nw' := congrArg (fun z => z.2.1) e1
    have e4 : σ = τ := congrArg (fun z => z.2.2) e1
    subst e2; subst e3; subst e4
    exact r_widen 1 4096 (RET ad pc _ rfl hd)
  unfold f_X6_orders at hf
  refine r_iload_n B (pc := 0) dX6_orders_0 rfl rfl ?_
  refine r_iconst B (pc := 1) dX6_orders_1 kc_m1 ?_
  refine r_icmp_lt B (pc := 2) (tgt := 11) dX6_orders_2 (by decide) hf (fun _ hf => ?_) (fun _ hf => ?_)
  · refine r_iconst B (pc := 11) dX6_orders_11 kc_m1 ?_
    exact ret _ 12 hf dX6_orders_12
  · refine r_iload_n B (pc := 5) dX6_orders_5 rfl rfl ?_
    refine r_bipush B (pc := 6) dX6_orders_6 kb_12 ?_
    refine r_icmp_lt B (pc := 8) (tgt := 13) dX6_orders_8 (by decide) hf (fun _ hf => ?_) (fun _ hf => ?_)
    · refine r_iload_n B (pc := 13) dX6_orders_13 rfl rfl ?_
      refine r_iconst B (pc := 14) dX6_orders_14 kc_m1 ?_
      refine r_icmp_ne B (pc := 15) (tgt := 49) dX6_orders_15 (by decide) hf (fun _ hf => ?_) (fun _ hf => ?_)
      · refine r_iload_n B (pc := 49) dX6_orders_49 rfl rfl ?_
        refine r_aload_n B (pc := 50) dX6_orders_50 rfl rfl ?_
        refine gC_RX6_10_0 B (pc := 51) dX6_orders_51 ?_
        refine gC_RX6_96_1 B (pc := 54) dX6_orders_54 ?_
        refine gC_RX6_103_9 B (pc := 57) dX6_orders_57 ?_
        refine r_icmp_ge B (pc := 60) (tgt := 77) dX6_orders_60 (by decide) hf (fun _ hf => ?_) (fun _ hf => ?_)
        · refine r_bipush B (pc := 77) dX6_orders_77 kb_m4 ?_
          exact ret _ 79 hf dX6_orders_79
        · refine r_aload_n B (pc := 63) dX6_orders_63 rfl rfl ?_
          refine gC_RX6_10_0 B (pc := 64) dX6_orders_64 ?_
          refine gC_RX6_96_1 B (pc := 67) dX6_orders_67 ?_
          refine r_iload_n B (pc := 70) dX6_orders_70 rfl rfl ?_
          obtain ⟨r1, hc1, hf⟩ := bdr_e hf
          refine r_cVI B (c_X2_inLastOrder X.l X.D K ad nw σ x1 hc1) F_X2_inLastOrder lk_RX6_277 (q0 := 9) (ci := 2) rfl rfl (Nat.le_of_ble_eq_true rfl) (Nat.le_of_ble_eq_true rfl) (Nat.le_of_ble_eq_true rfl) (pc := 71) dX6_orders_71 rfl ?_
          refine r_goto B (pc := 74) (tgt := 79) dX6_orders_74 (by decide) ?_
          exact ret _ 79 hf dX6_orders_79
      · refine r_aload_n B (pc := 18) dX6_orders_18 rfl rfl ?_
        refine gC_RX6_10_0 B (pc := 19) dX6_orders_19 ?_
        refine gC_RX6_96_1 B (pc := 22) dX6_orders_22 ?_
        refine gC_RX6_271_9 B (pc := 25) dX6_orders_25 ?_
        refine r_if_le B (pc := 28) (tgt := 44) dX6_orders_28 (by decide) hf (fun _ hf => ?_) (fun _ hf => ?_)
        · refine r_aload_n B (pc := 44) dX6_orders_44 rfl rfl ?_
          refine r_cO B (c_X6_countOrders X.l X.D K ad nw σ hf) F_X6_countOrders lk_RX6_274 (q0 := 0) (ci := 6) rfl rfl hR (Nat.le_of_ble_eq_true rfl) (Nat.le_of_ble_eq_true rfl) (Nat.le_of_ble_eq_true rfl) (pc := 45) dX6_orders_45 rfl (fun ad' hq => ?_)
          exact RET ad' 48 _ hq dX6_orders_48
        · refine r_aload_n B (pc := 31) dX6_orders_31 rfl rfl ?_
          refine gC_RX6_10_0 B (pc := 32) dX6_orders_32 ?_
          refine gC_RX6_96_1 B (pc := 35) dX6_orders_35 ?_
          refine gC_RX6_271_9 B (pc := 38) dX6_orders_38 ?_
          refine r_goto B (pc := 41) (tgt := 48) dX6_orders_41 (by decide) ?_
          exact ret _ 48 hf dX6_orders_48
    · refine r_iconst B (pc := 11) dX6_orders_11 kc_m1 ?_
      exact ret _ 12 hf dX6_orders_12
