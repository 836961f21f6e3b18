theorem cl_RL_7 : Cond.classLink RL 7 RX6 ∈ lw_T := lw_Tm (tm1 (List.mem_of_getElem? (i := 13) (by decide +kernel))) rfl
theorem is_X6 : Cond.instantiable RX6 11 ∈ lw_T := lw_Tm (tm1 (List.mem_of_getElem? (i := 14) (by decide +kernel))) rfl
theorem in_X6 : Cond.initialized RX6 ∈ lw_T := lw_Tm (tm1 (List.mem_of_getElem? (i := 1) (by decide +kernel))) rfl
theorem df_X6 : ∀ j, j < 11 → defaultValue (tyX6 j) = vp_V [.null, .null, .int 0, .null, .null, .null, .null, .null, .null, .null, .null] j := by decide +kernel
theorem Fi_X6_initc : Cond.code yX6_init cX6_init 1 none ∈ lw_T := lw_Tm (tm1 (List.mem_of_getElem? (i := 17) rfl)) rfl
theorem Fi_X6_initi : Cond.instanceMethod yX6_init ∈ lw_T := lw_Tm (tm1 (List.mem_of_getElem? (i := 16) (by decide +kernel))) rfl
theorem Fi_X6_initn : Cond.initialized yX6_init.cls ∈ lw_T := lw_Tm (tm1 (List.mem_of_getElem? (i := 1) (by decide +kernel))) rfl
theorem Fi_X6_inity : yX6_init.name = "<init>" ∧ yX6_init.cls ≠ "java/lang/invoke/MethodHandle" ∧ yX6_init.cls ≠ "java/lang/invoke/VarHandle" ∧ (parseMethodDescriptor yX6_init.desc).map (fun d => d.parameters.length) = some 0 := ⟨by decide +kernel, by decide +kernel, by decide +kernel, by decide +kernel⟩
theorem lk_RL_9 : Cond.methodLink RL 9 yX6_init ∈ lw_T := lw_Tm (tm1 (List.mem_of_getElem? (i := 15) (by decide +kernel))) rfl
theorem cl_RL_10 : Cond.classLink RL 10 RX7 ∈ lw_T := lw_Tm (tm4 (List.mem_of_getElem? (i := 75) (by decide +kernel))) rfl
theorem is_X7 : Cond.instantiable RX7 33 ∈ lw_T := lw_Tm (tm4 (List.mem_of_getElem? (i := 76) (by decide +kernel))) rfl
theorem in_X7 : Cond.initialized RX7 ∈ lw_T := lw_Tm (tm1 (List.mem_of_getElem? (i := 8) (by decide +kernel))) rfl
theorem df_X7 : ∀ j, j < 33 → defaultValue (tyX7 j) = vp_V [.null, .null, .null, .int 0, .null, .null, .null, .int 0, .int 0, .null, .int 0, .int 0, .null, .int 0, .int 0, .null, .null, .int 0, .null, .int 0, .int 0, .int 0, .null, .null, .null, .null, .int 0, .null, .null, .null, .null, .null, .null] j := by decide +kernel
theorem Fi_X7_initc : Cond.code yX7_init cX7_init 2 none ∈ lw_T := lw_Tm (tm4 (List.mem_of_getElem? (i := 79) rfl)) rfl
theorem Fi_X7_initi : Cond.instanceMethod yX7_init ∈ lw_T := lw_Tm (tm4 (List.mem_of_getElem? (i := 78) (by decide +kernel))) rfl
theorem Fi_X7_initn : Cond.initialized yX7_init.cls ∈ lw_T := lw_Tm (tm1 (List.mem_of_getElem? (i := 8) (by decide +kernel))) rfl
theorem Fi_X7_inity : yX7_init.name = "<init>" ∧ yX7_init.cls ≠ "java/lang/invoke/MethodHandle" ∧ yX7_init.cls ≠ "java/lang/invoke/VarHandle" ∧ (parseMethodDescriptor yX7_init.desc).map (fun d => d.parameters.length) = some 0 := ⟨by decide +kernel, by decide +kernel, by decide +kernel, by decide +kernel⟩
theorem lk_RL_12 : Cond.methodLink RL 12 yX7_init ∈ lw_T := lw_Tm (tm4 (List.mem_of_getElem? (i := 77) (by decide +kernel))) rfl
def Op0 (R : St → Nat → St → Prop) : Prop := ∀ (σ : St) (nw : Nat) (μ : St), R σ nw μ → ∀ (a1 : Int32) (a2 : Int32) (a3 : Int32), ∃ (r : Int32) (σ' : St) (μ' : St), f_X6_grave σ a1 a2 a3 = some (r, σ') ∧ f_X7_grave μ a1 a2 a3 = some (r, μ') ∧ R σ' nw μ'
def Op1 (R : St → Nat → St → Prop) : Prop := ∀ (σ : St) (nw : Nat) (μ : St), R σ nw μ → ∃ (r : Int32) (σ' : St) (μ' : St), f_X6_out σ = some (r, σ') ∧ f_X7_out μ = some (r, μ') ∧ R σ' nw μ'
def Op2 (R : St → Nat → St → Prop) : Prop := ∀ (σ : St) (nw : Nat) (μ : St), R σ nw μ → ∀ (a1 : Int32), ∃ (r : Int32) (σ' : St) (μ' : St), f_X6_reader σ a1 = some (r, σ') ∧ f_X7_reader μ a1 = some (r, μ') ∧ R σ' nw μ'
def Op3 (R : St → Nat → St → Prop) : Prop := ∀ (σ : St) (nw : Nat) (μ : St), R σ nw μ → ∀ (a1 : Int32) (a2 : Int32) (a3 : Int32), ∃ (r : Int32) (σ' : St) (μ' : St), f_X6_news σ a1 a2 a3 = some (r, σ') ∧ f_X7_news μ a1 a2 a3 = some (r, μ') ∧ R σ' nw μ'
def Op4 (R : St → Nat → St → Prop) : Prop := ∀ (σ : St) (nw : Nat) (μ : St), R σ nw μ → ∀ (a1 : Int32) (a2 : Int32), ∃ (r : Int32) (σ' : St) (μ' : St), f_X6_bar σ a1 a2 = some (r, σ') ∧ f_X7_bar μ a1 a2 = some (r, μ') ∧ R σ' nw μ'
def Op5 (R : St → Nat → St → Prop) : Prop := ∀ (σ : St) (nw : Nat) (μ : St), R σ nw μ → ∀ (a1 : Int32), ∃ (r : Int32) (σ' : St) (μ' : St), f_X6_wind σ a1 = some (r, σ') ∧ f_X7_wind μ a1 = some (r, μ') ∧ R σ' nw μ'
def Op6 (R : St → Nat → St → Prop) : Prop := ∀ (σ : St) (nw : Nat) (μ : St), R σ nw μ → ∀ (a1 : Int32) (a2 : Int32), ∃ (r : Int32) (σ' : St) (μ' : St), f_X6_weight σ a1 a2 = some (r, σ') ∧ f_X7_weight μ a1 a2 = some (r, μ') ∧ R σ' nw μ'
def Op7 (R : St → Nat → St → Prop) : Prop := ∀ (σ : St) (nw : Nat) (μ : St), R σ nw μ → ∀ (a1 : Int32), ∃ (r : Int32) (σ' : St) (μ' : St), f_X6_now σ a1 = some (r, σ') ∧ f_X7_now μ a1 = some (r, μ') ∧ R σ' nw μ'
def Op8 (R : St → Nat → St → Prop) : Prop := ∀ (σ : St) (nw : Nat) (μ : St), R σ nw μ → ∀ (a1 : Int32) (a2 : Int32), ∃ (r : Int32), f_X6_told σ a1 a2 = some r ∧ f_X7_told μ a1 a2 = some r ∧ R σ nw μ
def Op9 (R : St → Nat → St → Prop) : Prop := ∀ (σ : St) (nw : Nat) (μ : St), R σ nw μ → ∀ (a1 : Int32) (a2 : Int32), ∃ (r : Int32), f_X6_of σ a1 a2 = some r ∧ f_X7_of μ a1 a2 = some r ∧ R σ nw μ
def Op10 (R : St → Nat → St → Prop) : Prop := ∀ (σ : St) (nw : Nat) (μ : St), R σ nw μ → ∀ (a1 : Int32), ∃ (r : Int32) (σ' : St) (μ' : St), f_X6_type σ a1 = some (r, σ') ∧ f_X7_type μ a1 = some (r, μ') ∧ R σ' nw μ'
def Op11 (R : St → Nat → St → Prop) : Prop := ∀ (σ : St) (nw : Nat) (μ : St), R σ nw μ → ∃ (r : Int32) (σ' : St) (μ' : St), f_X6_yard σ = some (r, σ') ∧ f_X7_yard μ = some (r, μ') ∧ R σ' nw μ'
def Op12 (R : St → Nat → St → Prop) : Prop := ∀ (σ : St) (nw : Nat) (μ : St), R σ nw μ → ∃ (r : Int32) (σ' : St) (μ' : St), f_X6_paper σ = some (r, σ') ∧ f_X7_paper μ = some (r, μ') ∧ R σ' nw μ'
def Op13 (R : St → Nat → St → Prop) : Prop := ∀ (σ : St) (nw : Nat) (μ : St), R σ nw μ → ∃ (r : Int32) (σ' : St) (μ' : St), f_X6_day σ = some (r, σ') ∧ f_X7_day μ = some (r, μ') ∧ R σ' nw μ'
def Op14 (R : St → Nat → St → Prop) : Prop := ∀ (σ : St) (nw : Nat) (μ : St), R σ nw μ → ∀ (a1 : Int32), ∃ (r : Int32), f_X6_count σ a1 = some r ∧ f_X7_count μ a1 = some r ∧ R σ nw μ
def Op15 (R : St → Nat → St → Prop) : Prop := ∀ (σ : St) (nw : Nat) (μ : St), R σ nw μ → ∀ (a1 : Int32) (a2 : Int32), ∃ (r : Int32), f_X6_hears σ a1 a2 = some r ∧ f_X7_hears μ a1 a2 = some r ∧ R σ nw μ
def Op16 (R : St → Nat → St → Prop) : Prop := ∀ (σ : St) (nw : Nat) (μ : St), R σ nw μ → ∀ (a1 : Int32) (a2 : Int32) (a3 : Int32), ∃ (r : Int32), f_X6_wronged σ a1 a2 a3 = some r ∧ f_X7_wronged μ a1 a2 a3 = some r ∧ R σ nw μ
def Op17 (R : St → Nat → St → Prop) : Prop := ∀ (σ : St) (nw : Nat) (μ : St), R σ nw μ → ∀ (a1 : Int32) (a2 : Int32) (a3 : Int32), ∃ (r : Int32) (σ' : St) (μ' : St), f_X6_read σ a1 a2 a3 = some (r, σ') ∧ f_X7_read μ a1 a2 a3 = some (r, μ') ∧ R σ' nw μ'
def Op18 (R : St → Nat → St → Prop) : Prop := ∀ (σ : St) (nw : Nat) (μ : St), R σ nw μ → ∃ (r : Int32) (σ' : St) (μ' : St), f_X6_undo σ = some (r, σ') ∧ f_X7_undo μ = some (r, μ') ∧ R σ' nw μ'
def Op19 (R : St → Nat → St → Prop) : Prop := ∀ (σ : St) (nw : Nat) (μ : St), R σ nw μ → ∀ (a1 : Int32), ∃ (r : Int32) (σ' : St) (μ' : St), f_X6_lots σ a1 = some (r, σ') ∧ f_X7_lots μ a1 = some (r, μ') ∧ R σ' nw μ'
def Op20 (R : St → Nat → St → Prop) : Prop := ∀ (σ : St) (nw : Nat) (μ : St), R σ nw μ → ∀ (a1 : Int32), ∃ (r : Int32) (σ' : St) (μ' : St), f_X6_seed σ a1 = some (r, σ') ∧ f_X7_seed μ a1 = some (r, μ') ∧ R σ' nw μ'
def Op21 (R : St → Nat → St → Prop) : Prop := ∀ (σ : St) (nw : Nat) (μ : St), R σ nw μ → ∀ (a1 : Int32) (a2 : Int32), ∃ (r : Int32), f_X6_stand σ a1 a2 = some r ∧ f_X7_stand μ a1 a2 = some r ∧ R σ nw μ
def Op22 (R : St → Nat → St → Prop) : Prop := ∀ (σ : St) (nw : Nat) (μ : St), R σ nw μ → ∀ (a1 : Int32) (a2 : Int32) (a3 : Int32), ∃ (r : Int32) (σ' : St) (μ' : St), f_X6_cover σ a1 a2 a3 = some (r, σ') ∧ f_X7_cover μ a1 a2 a3 = some (r, μ') ∧ R σ' nw μ'
def Op23 (R : St → Nat → St → Prop) : Prop := ∀ (σ : St) (nw : Nat) (μ : St), R σ nw μ → ∀ (a1 : Int32), ∃ (r : Int32) (nw' : Nat) (σ' : St) (μ' : St), f_X6_orders nw σ a1 = some (r, nw', σ') ∧ f_X7_orders μ a1 = some (r, μ') ∧ R σ' nw' μ'
def Op24 (R : St → Nat → St → Prop) : Prop := ∀ (σ : St) (nw : Nat) (μ : St), R σ nw μ → ∀ (a1 : Int32) (a2 : Int32), ∃ (r : Int32), f_X6_years σ a1 a2 = some r ∧ f_X7_years μ a1 a2 = some r ∧ R σ nw μ
def Op25 (R : St → Nat → St → Prop) : Prop := ∀ (σ : St) (nw : Nat) (μ : St), R σ nw μ → ∀ (a1 : Int32) (a2 : Int32) (a3 : Int32) (a4 : Int32), ∃ (r : Int32), f_X6_chance σ a1 a2 a3 a4 = some r ∧ f_X7_chance μ a1 a2 a3 a4 = some r ∧ R σ nw μ
def Op26 (R : St → Nat → St → Prop) : Prop := ∀ (σ : St) (nw : Nat) (μ : St), R σ nw μ → ∀ (a1 : Int32) (a2 : Int32), ∃ (r : Int32), f_X6_likeliest σ a1 a2 = some r ∧ f_X7_likeliest μ a1 a2 = some r ∧ R σ nw μ
def Op27 (R : St → Nat → St → Prop) : Prop := ∀ (σ : St) (nw : Nat) (μ : St), R σ nw μ → ∀ (a1 : Int32) (a2 : Int32), ∃ (r : Int32), f_X6_more σ a1 a2 = some r ∧ f_X7_more μ a1 a2 = some r ∧ R σ nw μ
def Op28 (R : St → Nat → St → Prop) : Prop := ∀ (σ : St) (nw : Nat) (μ : St), R σ nw μ → ∀ (a1 : Int32) (a2 : Int32), ∃ (r : Int32), f_X6_sooner σ a1 a2 = some r ∧ f_X7_sooner μ a1 a2 = some r ∧ R σ nw μ
def Op29 (R : St → Nat → St → Prop) : Prop := ∀ (σ : St) (nw : Nat) (μ : St), R σ nw μ → ∀ (a1 : Int32) (a2 : Int32), ∃ (r : Int64), f_X6_hidden σ a1 a2 = some r ∧ f_X7_hidden μ a1 a2 = some r ∧ R σ nw μ
def Op30 (R : St → Nat → St → Prop) : Prop := ∀ (σ : St) (nw : Nat) (μ : St), R σ nw μ → ∀ (a1 : Int32) (a2 : Int32), ∃ (r : Int32), f_X6_alone σ a1 a2 = some r ∧ f_X7_alone μ a1 a2 = some r ∧ R σ nw μ
def Op31 (R : St → Nat → St → Prop) : Prop := ∀ (σ : St) (nw : Nat) (μ : St), R σ nw μ → ∃ (r : Int32) (σ' : St) (μ' : St), f_X6_image σ = some (r, σ') ∧ f_X7_image μ = some (r, μ') ∧ R σ' nw μ'
def Op32 (R : St → Nat → St → Prop) : Prop := ∀ (σ : St) (nw : Nat) (μ : St), R σ nw μ → ∃ (r : Int32) (σ' : St) (μ' : St), f_X6_restore σ = some (r, σ') ∧ f_X7_restore μ = some (r, μ') ∧ R σ' nw μ'
def Op33 (R : St → Nat → St → Prop) : Prop := ∀ (σ : St) (nw : Nat) (μ : St), R σ nw μ → ∀ (a1 : Int32) (a2 : Int32) (a3 : Int32) (a4 : Int32) (a5 : Int32), ∃ (r : Int32) (σ' : St), f_X6_which σ a1 a2 a3 a4 a5 = some (r, σ') ∧ f_X7_which μ a1 a2 a3 a4 a5 = some r ∧ R σ' nw μ
def Op34 (R : St → Nat → St → Prop) : Prop := ∀ (σ : St) (nw : Nat) (μ : St), R σ nw μ → ∀ (a1 : Int32) (a2 : Int32) (a3 : Int32) (a4 : Int32), ∃ (r : Int32) (σ' : St) (μ' : St), f_X6_judged σ a1 a2 a3 a4 = some (r, σ') ∧ f_X7_judged μ a1 a2 a3 a4 = some (r, μ') ∧ R σ' nw μ'
def Op35 (R : St → Nat → St → Prop) : Prop := ∀ (σ : St) (nw : Nat) (μ : St), R σ nw μ → ∀ (a1 : Int32) (a2 : Int32) (a3 : Int32), ∃ (r : Int32) (σ' : St) (μ' : St), f_X6_film σ a1 a2 a3 = some (r, σ') ∧ f_X7_film μ a1 a2 a3 = some (r, μ') ∧ R σ' nw μ'
def Op36 (R : St → Nat → St → Prop) : Prop := ∀ (σ : St) (nw : Nat) (μ : St), R σ nw μ → ∀ (a1 : Int32) (a2 : Int32) (a3 : Int32), ∃ (r : Int32) (σ' : St) (μ' : St), f_X6_sheet σ a1 a2 a3 = some (r, σ') ∧ f_X7_sheet μ a1 a2 a3 = some (r, μ') ∧ R σ' nw μ'
def Op37 (R : St → Nat → St → Prop) : Prop := ∀ (σ : St) (nw : Nat) (μ : St), R σ nw μ → ∀ (a1 : Int32), ∃ (r : Int32) (σ' : St) (μ' : St), f_X6_drop σ a1 = some (r, σ') ∧ f_X7_drop μ a1 = some (r, μ') ∧ R σ' nw μ'
def Op38 (R : St → Nat → St → Prop) : Prop := ∀ (σ : St) (nw : Nat) (μ : St), R σ nw μ → ∀ (a1 : Int32) (a2 : Int32) (a3 : Int32) (a4 : Int64), ∃ (r : Int32) (σ' : St) (μ' : St), f_X6_item σ a1 a2 a3 a4 = some (r, σ') ∧ f_X7_item μ a1 a2 a3 a4 = some (r, μ') ∧ R σ' nw μ'
def Op39 (R : St → Nat → St → Prop) : Prop := ∀ (σ : St) (nw : Nat) (μ : St), R σ nw μ → ∀ (a1 : Int32) (a2 : Int32) (a3 : Int32) (a4 : Int32) (a5 : Int32), ∃ (r : Int32) (σ' : St) (μ' : St), f_X6_copy σ a1 a2 a3 a4 a5 = some (r, σ') ∧ f_X7_copy μ a1 a2 a3 a4 a5 = some (r, μ') ∧ R σ' nw μ'
theorem r_cellq {X : Cx} {K : Kt} {w : va_W} {pc : Nat} {loc : List (Option Value)} {st : List Value} {p a n : Nat} {f g : Nat → Option Nat} (hp : w[p]? = some (a, .inl (K.2.2.2, n, .inr (.inr (.inr (.inr f)))))) (hfg : ∀ j, j < n → f j = g j) (k : MW X (w.set p (a, .inl (K.2.2.2, n, .inr (.inr (.inr (.inr g)))))) pc loc st) : MW X w pc loc st := by
  obtain ⟨⟨p, l, e, R, s, m⟩, ⟨args, below, meth, c⟩, ⟨nL, cells, slots, A, D, Q⟩⟩ := X
  intro H locs ls hP hD hS hl
  refine k H locs ls (hP.set hD hp ?_ (fun _ _ => rfl)) (hD.set hp) hS hl
  have h1 : H[a]? = some (vp_cell K.2.2.2 (n, .inr (.inr (.inr (.inr f))))) := hP _ _ hp
  show H[a]? = some (vp_cell K.2.2.2 (n, .inr (.inr (.inr (.inr g)))))
  rw [h1, vp_cell_q, vp_cell_q]
  have e : (fun j : Fin n => va_rf (f j.val)) = (fun j : Fin n => va_rf (g j.val)) := funext fun j => by rw [hfg j.val j.isLt]
  show some ({ cls := K.2.2.2, slots := Array.ofFn (n := n) fun j => va_rf (f j.val), vm := .none } : Cell) = some { cls := K.2.2.2, slots := Array.ofFn (n := n) fun j => va_rf (g j.val), vm := .none }
  rw [e]
theorem law_in {i L : Nat} (k : Nat) (hL : L ≤ 384) (h : 6 * i + 6 ≤ L) (hk : k < 6) : ¬ (nI (6 * i) + nI k < 0 ∨ L ≤ ix (nI (6 * i) + nI k)) := by
  rw [nI_add]
  have e : ix (nI (6 * i + k)) = 6 * i + k := nI_clamp (by omega)
  rw [e]
  intro q
  rcases q with q | q
  · exact nI_pos (by omega) q
  · omega
theorem law_in0 {i L : Nat} (hL : L ≤ 384) (h : 6 * i + 6 ≤ L) : ¬ (nI (6 * i) < 0 ∨ L ≤ ix (nI (6 * i))) := by
  have e : ix (nI (6 * i)) = 6 * i := nI_clamp (by omega)
  rw [e]
  intro q
  rcases q with q | q
  · exact nI_pos (by omega) q
  · omega
theorem law_head {X : Cx} {K : Kt} {b L : Nat} {xs : Nat → Int32} {w : va_W} {r1 r2 : Nat} {i : Nat} (B : Bs X cL_law RL K 10 408) (S : Sc X b L xs) (hL : L ≤ 384) (hi : i ≤ 64) (k1 : MW X w 1526 [some (.ref b), some (.ref r1), some (.ref r2), some (.int (nI (6 * i)))] [.int 1]) (k2 : 6 * i + 6 ≤ L → MW X w 33 [some (.ref b), some (.ref r1), some (.ref r2), some (.int (nI (6 * i)))] [.int (xs (ix (nI (6 * i))) &&& 63)]) : MW X w 18 [some (.ref b), some (.ref r1), some (.ref r2), some (.int (nI (6 * i)))] [] := by
  refine r_iload_n B (pc := 18) dL_law_18 rfl rfl ?_
  refine r_aload_n B (pc := 19) dL_law_19 rfl rfl ?_
  refine r_slen B S (pc := 20) dL_law_20 ?_
  refine r_bipush B (pc := 21) dL_law_21 kb_6 ?_
  refine r_isub B (pc := 23) dL_law_23 ?_
  have e1 : (nI (6 * i)).toInt = ((6 * i : Nat) : Int) := nI_toInt (by omega)
  have e2 : (Int32.ofNat L - 6).toInt = (L : Int) - 6 := by
    have h1 : (Int32.ofNat L).toInt = (L : Int) := nI_toInt (show L < 2 ^ 31 by omega)
    have h6 : (6 : Int32).toInt = 6 := by decide
    rw [fb_subI (by rw [h1, h6]; omega) (by rw [h1, h6]; omega), h1, h6]
  refine r_icmp_gt B (pc := 24) (tgt := 1525) (a := ()) (b := ()) (z := ()) dL_law_24 (by decide) (it_s _) (fun h _ => ?_) (fun h _ => ?_)
  · refine r_iconst B (pc := 1525) dL_law_1525 kc_1 ?_
    exact k1
  · rw [Int32.lt_iff_toInt_lt, e1, e2] at h
    have hl : 6 * i + 6 ≤ L := by omega
    refine r_aload_n B (pc := 27) dL_law_27 rfl rfl ?_
    refine r_iload_n B (pc := 28) dL_law_28 rfl rfl ?_
    refine r_sld B S (law_in0 hL hl) (pc := 29) dL_law_29 ?_
    refine r_bipush B (pc := 30) dL_law_30 kb_63 ?_
    refine r_iand B (pc := 32) dL_law_32 ?_
    exact k2 hl
theorem law_step {X : Cx} {K : Kt} {b : Nat} {w : va_W} {r1 r2 i : Nat} (hnL : X.2.2.1 = 4) (B : Bs X cL_law RL K 10 408) (k : MW X w 18 [some (.ref b), some (.ref r1), some (.ref r2), some (.int (nI (6 * (i + 1))))] []) : MW X w 1519 [some (.ref b), some (.ref r1), some (.ref r2), some (.int (nI (6 * i)))] [] := by
  refine r_iinc B hnL (pc := 1519) (v := nI (6 * (i + 1))) dL_law_1519 rfl ?_ (by decide) ?_
  · rw [show 6 * (i + 1) = 6 * i + 6 by omega, ← nI_add]; rfl
  refine r_lc (loc' := [some (.ref b), some (.ref r1), some (.ref r2), some (.int (nI (6 * (i + 1))))]) rfl ?_
  exact r_goto B (pc := 1522) (tgt := 18) dL_law_1522 (by decide) k
set_option maxHeartbeats 16000000 in
set_option maxRecDepth 20000 in
theorem law_loop {R : St → Nat → St → Prop} (o0 : Op0 R) (o1 : Op1 R) (o2 : Op2 R) (o3 : Op3 R) (o4 : Op4 R) (o5 : Op5 R) (o6 : Op6 R) (o7 : Op7 R) (o8 : Op8 R) (o9 : Op9 R) (o10 : Op10 R) (o11 : Op11 R) (o12 : Op12 R) (o13 : Op13 R) (o14 : Op14 R) (o15 : Op15 R) (o16 : Op16 R) (o17 : Op17 R) (o18 : Op18 R) (o19 : Op19 R) (o20 : Op20 R) (o21 : Op21 R) (o22 : Op22 R) (o23 : Op23 R) (o24 : Op24 R) (o25 : Op25 R) (o26 : Op26 R) (o27 : Op27 R) (o28 : Op28 R) (o29 : Op29 R) (o30 : Op30 R) (o31 : Op31 R) (o32 : Op32 R) (o33 : Op33 R) (o34 : Op34 R) (o35 : Op35 R) (o36 : Op36 R) (o37 : Op37 R) (o38 : Op38 R) (o39 : Op39 R) {X0 : Cx} {K : Kt} {b L : Nat} {xs : Nat → Int32} (hnL : X0.2.2.1 = 4) (B0 : Bs X0 cL_law RL K 10 408) (S0 : Sc X0 b L xs) (hR0 : Rm X0 66 (4096 * 66)) (hL : L ≤ 384) (fin : ∀ (a d : Nat) (w : va_W) (loc : List (Option Value)), Rm X0 a d → MW (X0.up a d) w 1526 loc [.int 1]) : ∀ (n i : Nat) (ad : Nat → Nat) (nw : Nat) (σ : St) (am : Nat → Nat) (μ : St), 64 ≤ i + n → i ≤ 64 → R σ nw μ → MW (X0.up i (4096 * i)) (wC ad K nw σ ++ wM am K μ) 18 [some (.ref b), some (.ref (ad 0)), some (.ref (am 0)), some (.int (nI (6 * i)))] [] := by
  intro n
  induction n with
  | zero =>
    intro i ad nw σ am μ h1 h2 hr
    exact law_head (B0.up (hR0.sub i (4096 * i) (by omega) (by omega))) S0.up hL h2 (fin _ _ _ _ (hR0.sub i (4096 * i) (by omega) (by omega))) (fun hl => absurd hl (by omega))
  | succ n ih =>
    intro i ad nw σ am μ h1 h2 hr
    have B := B0.up (hR0.sub i (4096 * i) (by omega) (by omega))
    have S : Sc (X0.up i (4096 * i)) b L xs := S0.up
    refine law_head B S hL h2 (fin _ _ _ _ (hR0.sub i (4096 * i) (by omega) (by omega))) (fun hl => ?_)
    have hi : i < 64 := by omega
    have nxt : ∀ (ad2 : Nat → Nat) (nw2 : Nat) (σ2 μ2 : St), R σ2 nw2 μ2 → MW (X0.up (i + 1) (4096 * (i + 1))) (wC ad2 K nw2 σ2 ++ wM am K μ2) 1519 [some (.ref b), some (.ref (ad2 0)), some (.ref (am 0)), some (.int (nI (6 * i)))] [] := fun ad2 nw2 σ2 μ2 hr2 => law_step hnL (B0.up (hR0.sub (i + 1) (4096 * (i + 1)) (by omega) (by omega))) (ih (i + 1) ad2 nw2 σ2 am μ2 (by omega) (by omega) hr2)
    have nx1 : ∀ (ad2 : Nat → Nat) (nw2 : Nat) (σ2 μ2 : St), R σ2 nw2 μ2 → MW (X0.up i (4096 * i)) (wC ad2 K nw2 σ2 ++ wM am K μ2) 1519 [some (.ref b), some (.ref (ad2 0)), some (.ref (am 0)), some (.int (nI (6 * i)))] [] := fun ad2 nw2 σ2 μ2 hr2 => r_widen 1 4096 (r_up2 (a' := i + 1) (b' := 4096 * (i + 1)) rfl (by omega) (nxt ad2 nw2 σ2 μ2 hr2))
    by_cases q0 : xs (ix (nI (6 * i))) &&& 63 = 0
    · refine r_tsw B (pc := 33) (off := 175) (tgt := 208) dL_law_33 (by rw [q0]; decide) (by rw [q0]; decide) (by rw [q0]; decide) (by decide) ?_
      obtain ⟨r, σ', μ', hC, hM, hR⟩ := o0 σ nw μ hr (xs (ix (nI (6 * i) + 1))) (xs (ix (nI (6 * i) + 2))) (xs (ix (nI (6 * i) + 3)))
      exact law_c0 B S (law_in 1 hL hl (by decide)) (law_in 2 hL hl (by decide)) (law_in 3 hL hl (by decide)) (law_in 4 hL hl (by decide)) (law_in 5 hL hl (by decide)) hC hM (nx1 ad nw σ' μ' hR)
    by_cases q1 : xs (ix (nI (6 * i))) &&& 63 = 1
    · refine r_tsw B (pc := 33) (off := 218) (tgt := 251) dL_law_33 (by rw [q1]; decide) (by rw [q1]; decide) (by rw [q1]; decide) (by decide) ?_
      obtain ⟨r, σ', μ', hC, hM, hR⟩ := o1 σ nw μ hr
      exact law_c1 B S (law_in 1 hL hl (by decide)) (law_in 2 hL hl (by decide)) (law_in 3 hL hl (by decide)) (law_in 4 hL hl (by decide)) (law_in 5 hL hl (by decide)) hC hM (nx1 ad nw σ' μ' hR)
    by_cases q2 : xs (ix (nI (6 * i))) &&& 63 = 2
    · refine r_tsw B (pc := 33) (off := 231) (tgt := 264) dL_law_33 (by rw [q2]; decide) (by rw [q2]; decide) (by rw [q2]; decide) (by decide) ?_
      obtain ⟨r, σ', μ', hC, hM, hR⟩ := o2 σ nw μ hr (xs (ix (nI (6 * i) + 1)))
      exact law_c2 B S (law_in 1 hL hl (by decide)) (law_in 2 hL hl (by decide)) (law_in 3 hL hl (by decide)) (law_in 4 hL hl (by decide)) (law_in 5 hL hl (by decide)) hC hM (nx1 ad nw σ' μ' hR)
    by_cases q3 : xs (ix (nI (6 * i))) &&& 63 = 3
    · refine r_tsw B (pc := 33) (off := 254) (tgt := 287) dL_law_33 (by rw [q3]; decide) (by rw [q3]; decide) (by rw [q3]; decide) (by decide) ?_
      obtain ⟨r, σ', μ', hC, hM, hR⟩ := o3 σ nw μ hr (xs (ix (nI (6 * i) + 1))) (xs (ix (nI (6 * i) + 2))) (xs (ix (nI (6 * i) + 3)))
      exact law_c3 B S (law_in 1 hL hl (by decide)) (law_in 2 hL hl (by decide)) (law_in 3 hL hl (by decide)) (law_in 4 hL hl (by decide)) (law_in 5 hL hl (by decide)) hC hM (nx1 ad nw σ' μ' hR)
    by_cases q4 : xs (ix (nI (6 * i))) &&& 63 = 4
    · refine r_tsw B (pc := 33) (off := 297) (tgt := 330) dL_law_33 (by rw [q4]; decide) (by rw [q4]; decide) (by rw [q4]; decide) (by decide) ?_
      obtain ⟨r, σ', μ', hC, hM, hR⟩ := o4 σ nw μ hr (xs (ix (nI (6 * i) + 1))) (xs (ix (nI (6 * i) + 2)))
      exact law_c4 B S (law_in 1 hL hl (by decide)) (law_in 2 hL hl (by decide)) (law_in 3 hL hl (by decide)) (law_in 4 hL hl (by decide)) (law_in 5 hL hl (by decide)) hC hM (nx1 ad nw σ' μ' hR)
    by_cases q5 : xs (ix (nI (6 * i))) &&& 63 = 5
    · refine r_tsw B (pc := 33) (off := 330) (tgt := 363) dL_law_33 (by rw [q5]; decide) (by rw [q5]; decide) (by rw [q5]; decide) (by decide) ?_
      obtain ⟨r, σ', μ', hC, hM, hR⟩ := o5 σ nw μ hr (xs (ix (nI (6 * i) + 1)))
      exact law_c5 B S (law_in 1 hL hl (by decide)) (law_in 2 hL hl (by decide)) (law_in 3 hL hl (by decide)) (law_in 4 hL hl (by decide)) (law_in 5 hL hl (by decide)) hC hM (nx1 ad nw σ' μ' hR)
    by_cases q6 : xs (ix (nI (6 * i))) &&& 63 = 6
    · refine r_tsw B (pc := 33) (off := 353) (tgt := 386) dL_law_33 (by rw [q6]; decide) (by rw [q6]; decide) (by rw [q6]; decide) (by decide) ?_
      obtain ⟨r, σ', μ', hC, hM, hR⟩ := o6 σ nw μ hr (xs (ix (nI (6 * i) + 1))) (xs (ix (nI (6 * i) + 2)))
      exact law_c6 B S (law_in 1 hL hl (by decide)) (law_in 2 hL hl (by decide)) (law_in 3 hL hl (by decide)) (law_in 4 hL hl (by decide)) (law_in 5 hL hl (by decide)) hC hM (nx1 ad nw σ' μ' hR)
    by_cases q7 : xs (ix (nI (6 * i))) &&& 63 = 7
    · refine r_tsw B (pc := 33) (off := 386) (tgt := 419) dL_law_33 (by rw [q7]; decide) (by rw [q7]; decide) (by rw [q7]; decide) (by decide) ?_
      obtain ⟨r, σ', μ', hC, hM, hR⟩ := o7 σ nw μ hr (xs (ix (nI (6 * i) + 1)))
      exact law_c7 B S (law_in 1 hL hl (by decide)) (law_in 2 hL hl (by decide)) (law_in 3 hL hl (by decide)) (law_in 4 hL hl (by decide)) (law_in 5 hL hl (by decide)) hC hM (nx1 ad nw σ' μ' hR)
    by_cases q8 : xs (ix (nI (6 * i))) &&& 63 = 8
    · refine r_tsw B (pc := 33) (off := 409) (tgt := 442) dL_law_33 (by rw [q8]; decide) (by rw [q8]; decide) (by rw [q8]; decide) (by decide) ?_
      obtain ⟨r, hC, hM, hR⟩ := o8 σ nw μ hr (xs (ix (nI (6 * i) + 1))) (xs (ix (nI (6 * i) + 2)))
      exact law_c8 B S (law_in 1 hL hl (by decide)) (law_in 2 hL hl (by decide)) (law_in 3 hL hl (by decide)) (law_in 4 hL hl (by decide)) (law_in 5 hL hl (by decide)) hC hM (nx1 ad nw σ μ hR)
    by_cases q9 : xs (ix (nI (6 * i))) &&& 63 = 9
    · refine r_tsw B (pc := 33) (off := 442) (tgt := 475) dL_law_33 (by rw [q9]; decide) (by rw [q9]; decide) (by rw [q9]; decide) (by decide) ?_
      obtain ⟨r, hC, hM, hR⟩ := o9 σ nw μ hr (xs (ix (nI (6 * i) + 1))) (xs (ix (nI (6 * i) + 2)))
      exact law_c9 B S (law_in 1 hL hl (by decide)) (law_in 2 hL hl (by decide)) (law_in 3 hL hl (by decide)) (law_in 4 hL hl (by decide)) (law_in 5 hL hl (by decide)) hC hM (nx1 ad nw σ μ hR)
    by_cases q10 : xs (ix (nI (6 * i))) &&& 63 = 10
    · refine r_tsw B (pc := 33) (off := 475) (tgt := 508) dL_law_33 (by rw [q10]; decide) (by rw [q10]; decide) (by rw [q10]; decide) (by decide) ?_
      obtain ⟨r, σ', μ', hC, hM, hR⟩ := o10 σ nw μ hr (xs (ix (nI (6 * i) + 1)))
      exact law_c10 B S (law_in 1 hL hl (by decide)) (law_in 2 hL hl (by decide)) (law_in 3 hL hl (by decide)) (law_in 4 hL hl (by decide)) (law_in 5 hL hl (by decide)) hC hM (nx1 ad nw σ' μ' hR)
    by_cases q11 : xs (ix (nI (6 * i))) &&& 63 = 11
    · refine r_tsw B (pc := 33) (off := 498) (tgt := 531) dL_law_33 (by rw [q11]; decide) (by rw [q11]; decide) (by rw [q11]; decide) (by decide) ?_
      obtain ⟨r, σ', μ', hC, hM, hR⟩ := o11 σ nw μ hr
      exact law_c11 B S (law_in 1 hL hl (by decide)) (law_in 2 hL hl (by decide)) (law_in 3 hL hl (by decide)) (law_in 4 hL hl (by decide)) (law_in 5 hL hl (by decide)) hC hM (nx1 ad nw σ' μ' hR)
    by_cases q12 : xs (ix (nI (6 * i))) &&& 63 = 12
    · refine r_tsw B (pc := 33) (off := 511) (tgt := 544) dL_law_33 (by rw [q12]; decide) (by rw [q12]; decide) (by rw [q12]; decide) (by decide) ?_
      obtain ⟨r, σ', μ', hC, hM, hR⟩ := o12 σ nw μ hr
      exact law_c12 B S (law_in 1 hL hl (by decide)) (law_in 2 hL hl (by decide)) (law_in 3 hL hl (by decide)) (law_in 4 hL hl (by decide)) (law_in 5 hL hl (by decide)) hC hM (nx1 ad nw σ' μ' hR)
    by_cases q13 : xs (ix (nI (6 * i))) &&& 63 = 13
    · refine r_tsw B (pc := 33) (off := 524) (tgt := 557) dL_law_33 (by rw [q13]; decide) (by rw [q13]; decide) (by rw [q13]; decide) (by decide) ?_
      obtain ⟨r, σ', μ', hC, hM, hR⟩ := o13 σ nw μ hr
      exact law_c13 B S (law_in 1 hL hl (by decide)) (law_in 2 hL hl (by decide)) (law_in 3 hL hl (by decide)) (law_in 4 hL hl (by decide)) (law_in 5 hL hl (by decide)) hC hM (nx1 ad nw σ' μ' hR)
    by_cases q14 : xs (ix (nI (6 * i))) &&& 63 = 14
    · refine r_tsw B (pc := 33) (off := 537) (tgt := 570) dL_law_33 (by rw [q14]; decide) (by rw [q14]; decide) (by rw [q14]; decide) (by decide) ?_
      obtain ⟨r, hC, hM, hR⟩ := o14 σ nw μ hr (xs (ix (nI (6 * i) + 1)))
      exact law_c14 B S (law_in 1 hL hl (by decide)) (law_in 2 hL hl (by decide)) (law_in 3 hL hl (by decide)) (law_in 4 hL hl (by decide)) (law_in 5 hL hl (by decide)) hC hM (nx1 ad nw σ μ hR)
    by_cases q15 : xs (ix (nI (6 * i))) &&& 63 = 15
    · refine r_tsw B (pc := 33) (off := 560) (tgt := 593) dL_law_33 (by rw [q15]; decide) (by rw [q15]; decide) (by rw [q15]; decide) (by decide) ?_
      obtain ⟨r, hC, hM, hR⟩ := o15 σ nw μ hr (xs (ix (nI (6 * i) + 1))) (xs (ix (nI (6 * i) + 2)))
      exact law_c15 B S (law_in 1 hL hl (by decide)) (law_in 2 hL hl (by decide)) (law_in 3 hL hl (by decide)) (law_in 4 hL hl (by decide)) (law_in 5 hL hl (by decide)) hC hM (nx1 ad nw σ μ hR)
    by_cases q16 : xs (ix (nI (6 * i))) &&& 63 = 16
    · refine r_tsw B (pc := 33) (off := 593) (tgt := 626) dL_law_33 (by rw [q16]; decide) (by rw [q16]; decide) (by rw [q16]; decide) (by decide) ?_
      obtain ⟨r, hC, hM, hR⟩ := o16 σ nw μ hr (xs (ix (nI (6 * i) + 1))) (xs (ix (nI (6 * i) + 2))) (xs (ix (nI (6 * i) + 3)))
      exact law_c16 B S (law_in 1 hL hl (by decide)) (law_in 2 hL hl (by decide)) (law_in 3 hL hl (by decide)) (law_in 4 hL hl (by decide)) (law_in 5 hL hl (by decide)) hC hM (nx1 ad nw σ μ hR)
    by_cases q17 : xs (ix (nI (6 * i))) &&& 63 = 17
    · refine r_tsw B (pc := 33) (off := 636) (tgt := 669) dL_law_33 (by rw [q17]; decide) (by rw [q17]; decide) (by rw [q17]; decide) (by decide) ?_
      obtain ⟨r, σ', μ', hC, hM, hR⟩ := o17 σ nw μ hr (xs (ix (nI (6 * i) + 1))) (xs (ix (nI (6 * i) + 2))) (xs (ix (nI (6 * i) + 3)))
      exact law_c17 B S (law_in 1 hL hl (by decide)) (law_in 2 hL hl (by decide)) (law_in 3 hL hl (by decide)) (law_in 4 hL hl (by decide)) (law_in 5 hL hl (by decide)) hC hM (nx1 ad nw σ' μ' hR)
    by_cases q18 : xs (ix (nI (6 * i))) &&& 63 = 18
    · refine r_tsw B (pc := 33) (off := 679) (tgt := 712) dL_law_33 (by rw [q18]; decide) (by rw [q18]; decide) (by rw [q18]; decide) (by decide) ?_
      obtain ⟨r, σ', μ', hC, hM, hR⟩ := o18 σ nw μ hr
      exact law_c18 B S (law_in 1 hL hl (by decide)) (law_in 2 hL hl (by decide)) (law_in 3 hL hl (by decide)) (law_in 4 hL hl (by decide)) (law_in 5 hL hl (by decide)) hC hM (nx1 ad nw σ' μ' hR)
    by_cases q19 : xs (ix (nI (6 * i))) &&& 63 = 19
    · refine r_tsw B (pc := 33) (off := 692) (tgt := 725) dL_law_33 (by rw [q19]; decide) (by rw [q19]; decide) (by rw [q19]; decide) (by decide) ?_
      obtain ⟨r, σ', μ', hC, hM, hR⟩ := o19 σ nw μ hr (xs (ix (nI (6 * i) + 1)))
      exact law_c19 B S (law_in 1 hL hl (by decide)) (law_in 2 hL hl (by decide)) (law_in 3 hL hl (by decide)) (law_in 4 hL hl (by decide)) (law_in 5 hL hl (by decide)) hC hM (nx1 ad nw σ' μ' hR)
    by_cases q20 : xs (ix (nI (6 * i))) &&& 63 = 20
    · refine r_tsw B (pc := 33) (off := 715) (tgt := 748) dL_law_33 (by rw [q20]; decide) (by rw [q20]; decide) (by rw [q20]; decide) (by decide) ?_
      obtain ⟨r, σ', μ', hC, hM, hR⟩ := o20 σ nw μ hr (xs (ix (nI (6 * i) + 1)))
      exact law_c20 B S (law_in 1 hL hl (by decide)) (law_in 2 hL hl (by decide)) (law_in 3 hL hl (by decide)) (law_in 4 hL hl (by decide)) (law_in 5 hL hl (by decide)) hC hM (nx1 ad nw σ' μ' hR)
    by_cases q21 : xs (ix (nI (6 * i))) &&& 63 = 21
    · refine r_tsw B (pc := 33) (off := 738) (tgt := 771) dL_law_33 (by rw [q21]; decide) (by rw [q21]; decide) (by rw [q21]; decide) (by decide) ?_
      obtain ⟨r, hC, hM, hR⟩ := o21 σ nw μ hr (xs (ix (nI (6 * i) + 1))) (xs (ix (nI (6 * i) + 2)))
      exact law_c21 B S (law_in 1 hL hl (by decide)) (law_in 2 hL hl (by decide)) (law_in 3 hL hl (by decide)) (law_in 4 hL hl (by decide)) (law_in 5 hL hl (by decide)) hC hM (nx1 ad nw σ μ hR)
    by_cases q22 : xs (ix (nI (6 * i))) &&& 63 = 22
    · refine r_tsw B (pc := 33) (off := 771) (tgt := 804) dL_law_33 (by rw [q22]; decide) (by rw [q22]; decide) (by rw [q22]; decide) (by decide) ?_
      obtain ⟨r, σ', μ', hC, hM, hR⟩ := o22 σ nw μ hr (xs (ix (nI (6 * i) + 1))) (xs (ix (nI (6 * i) + 2))) (xs (ix (nI (6 * i) + 3)))
      exact law_c22 B S (law_in 1 hL hl (by decide)) (law_in 2 hL hl (by decide)) (law_in 3 hL hl (by decide)) (law_in 4 hL hl (by decide)) (law_in 5 hL hl (by decide)) hC hM (nx1 ad nw σ' μ' hR)
    by_cases q23 : xs (ix (nI (6 * i))) &&& 63 = 23
    · refine r_tsw B (pc := 33) (off := 814) (tgt := 847) dL_law_33 (by rw [q23]; decide) (by rw [q23]; decide) (by rw [q23]; decide) (by decide) ?_
      obtain ⟨r, nw', σ', μ', hC, hM, hR⟩ := o23 σ nw μ hr (xs (ix (nI (6 * i) + 1)))
      exact law_c23 B S (law_in 1 hL hl (by decide)) (law_in 2 hL hl (by decide)) (law_in 3 hL hl (by decide)) (law_in 4 hL hl (by decide)) (law_in 5 hL hl (by decide)) (hR0.up 1 4096 (by omega) (by omega)) hC hM (fun ad2 hq => r_up2 (a' := i + 1) (b' := 4096 * (i + 1)) rfl (by omega) (nxt ad2 nw' σ' μ' hR))
    by_cases q24 : xs (ix (nI (6 * i))) &&& 63 = 24
    · refine r_tsw B (pc := 33) (off := 837) (tgt := 870) dL_law_33 (by rw [q24]; decide) (by rw [q24]; decide) (by rw [q24]; decide) (by decide) ?_
      obtain ⟨r, hC, hM, hR⟩ := o24 σ nw μ hr (xs (ix (nI (6 * i) + 1))) (xs (ix (nI (6 * i) + 2)))
      exact law_c24 B S (law_in 1 hL hl (by decide)) (law_in 2 hL hl (by decide)) (law_in 3 hL hl (by decide)) (law_in 4 hL hl (by decide)) (law_in 5 hL hl (by decide)) hC hM (nx1 ad nw σ μ hR)
    by_cases q25 : xs (ix (nI (6 * i))) &&& 63 = 25
    · refine r_tsw B (pc := 33) (off := 870) (tgt := 903) dL_law_33 (by rw [q25]; decide) (by rw [q25]; decide) (by rw [q25]; decide) (by decide) ?_
      obtain ⟨r, hC, hM, hR⟩ := o25 σ nw μ hr (xs (ix (nI (6 * i) + 1))) (xs (ix (nI (6 * i) + 2))) (xs (ix (nI (6 * i) + 3))) (xs (ix (nI (6 * i) + 4)))
      exact law_c25 B S (law_in 1 hL hl (by decide)) (law_in 2 hL hl (by decide)) (law_in 3 hL hl (by decide)) (law_in 4 hL hl (by decide)) (law_in 5 hL hl (by decide)) hC hM (nx1 ad nw σ μ hR)
    by_cases q26 : xs (ix (nI (6 * i))) &&& 63 = 26
    · refine r_tsw B (pc := 33) (off := 923) (tgt := 956) dL_law_33 (by rw [q26]; decide) (by rw [q26]; decide) (by rw [q26]; decide) (by decide) ?_
      obtain ⟨r, hC, hM, hR⟩ := o26 σ nw μ hr (xs (ix (nI (6 * i) + 1))) (xs (ix (nI (6 * i) + 2)))
      exact law_c26 B S (law_in 1 hL hl (by decide)) (law_in 2 hL hl (by decide)) (law_in 3 hL hl (by decide)) (law_in 4 hL hl (by decide)) (law_in 5 hL hl (by decide)) hC hM (nx1 ad nw σ μ hR)
    by_cases q27 : xs (ix (nI (6 * i))) &&& 63 = 27
    · refine r_tsw B (pc := 33) (off := 956) (tgt := 989) dL_law_33 (by rw [q27]; decide) (by rw [q27]; decide) (by rw [q27]; decide) (by decide) ?_
      obtain ⟨r, hC, hM, hR⟩ := o27 σ nw μ hr (xs (ix (nI (6 * i) + 1))) (xs (ix (nI (6 * i) + 2)))
      exact law_c27 B S (law_in 1 hL hl (by decide)) (law_in 2 hL hl (by decide)) (law_in 3 hL hl (by decide)) (law_in 4 hL hl (by decide)) (law_in 5 hL hl (by decide)) hC hM (nx1 ad nw σ μ hR)
    by_cases q28 : xs (ix (nI (6 * i))) &&& 63 = 28
    · refine r_tsw B (pc := 33) (off := 989) (tgt := 1022) dL_law_33 (by rw [q28]; decide) (by rw [q28]; decide) (by rw [q28]; decide) (by decide) ?_
      obtain ⟨r, hC, hM, hR⟩ := o28 σ nw μ hr (xs (ix (nI (6 * i) + 1))) (xs (ix (nI (6 * i) + 2)))
      exact law_c28 B S (law_in 1 hL hl (by decide)) (law_in 2 hL hl (by decide)) (law_in 3 hL hl (by decide)) (law_in 4 hL hl (by decide)) (law_in 5 hL hl (by decide)) hC hM (nx1 ad nw σ μ hR)
    by_cases q29 : xs (ix (nI (6 * i))) &&& 63 = 29
    · refine r_tsw B (pc := 33) (off := 1022) (tgt := 1055) dL_law_33 (by rw [q29]; decide) (by rw [q29]; decide) (by rw [q29]; decide) (by decide) ?_
      obtain ⟨r, hC, hM, hR⟩ := o29 σ nw μ hr (xs (ix (nI (6 * i) + 1))) (xs (ix (nI (6 * i) + 2)))
      exact law_c29 B S (law_in 1 hL hl (by decide)) (law_in 2 hL hl (by decide)) (law_in 3 hL hl (by decide)) (law_in 4 hL hl (by decide)) (law_in 5 hL hl (by decide)) hC hM (nx1 ad nw σ μ hR)
    by_cases q30 : xs (ix (nI (6 * i))) &&& 63 = 30
    · refine r_tsw B (pc := 33) (off := 1056) (tgt := 1089) dL_law_33 (by rw [q30]; decide) (by rw [q30]; decide) (by rw [q30]; decide) (by decide) ?_
      obtain ⟨r, hC, hM, hR⟩ := o30 σ nw μ hr (xs (ix (nI (6 * i) + 1))) (xs (ix (nI (6 * i) + 2)))
      exact law_c30 B S (law_in 1 hL hl (by decide)) (law_in 2 hL hl (by decide)) (law_in 3 hL hl (by decide)) (law_in 4 hL hl (by decide)) (law_in 5 hL hl (by decide)) hC hM (nx1 ad nw σ μ hR)
    by_cases q31 : xs (ix (nI (6 * i))) &&& 63 = 31
    · refine r_tsw B (pc := 33) (off := 1089) (tgt := 1122) dL_law_33 (by rw [q31]; decide) (by rw [q31]; decide) (by rw [q31]; decide) (by decide) ?_
      obtain ⟨r, σ', μ', hC, hM, hR⟩ := o31 σ nw μ hr
      exact law_c31 B S (law_in 1 hL hl (by decide)) (law_in 2 hL hl (by decide)) (law_in 3 hL hl (by decide)) (law_in 4 hL hl (by decide)) (law_in 5 hL hl (by decide)) hC hM (nx1 ad nw σ' μ' hR)
    by_cases q32 : xs (ix (nI (6 * i))) &&& 63 = 32
    · refine r_tsw B (pc := 33) (off := 1102) (tgt := 1135) dL_law_33 (by rw [q32]; decide) (by rw [q32]; decide) (by rw [q32]; decide) (by decide) ?_
      obtain ⟨r, σ', μ', hC, hM, hR⟩ := o32 σ nw μ hr
      exact law_c32 B S (law_in 1 hL hl (by decide)) (law_in 2 hL hl (by decide)) (law_in 3 hL hl (by decide)) (law_in 4 hL hl (by decide)) (law_in 5 hL hl (by decide)) hC hM (nx1 ad nw σ' μ' hR)
    by_cases q33 : xs (ix (nI (6 * i))) &&& 63 = 33
    · refine r_tsw B (pc := 33) (off := 1115) (tgt := 1148) dL_law_33 (by rw [q33]; decide) (by rw [q33]; decide) (by rw [q33]; decide) (by decide) ?_
      obtain ⟨r, σ', hC, hM, hR⟩ := o33 σ nw μ hr (xs (ix (nI (6 * i) + 1))) (xs (ix (nI (6 * i) + 2))) (xs (ix (nI (6 * i) + 3))) (xs (ix (nI (6 * i) + 4))) (xs (ix (nI (6 * i) + 5)))
      exact law_c33 B S (law_in 1 hL hl (by decide)) (law_in 2 hL hl (by decide)) (law_in 3 hL hl (by decide)) (law_in 4 hL hl (by decide)) (law_in 5 hL hl (by decide)) hC hM (nx1 ad nw σ' μ hR)
    by_cases q34 : xs (ix (nI (6 * i))) &&& 63 = 34
    · refine r_tsw B (pc := 33) (off := 1178) (tgt := 1211) dL_law_33 (by rw [q34]; decide) (by rw [q34]; decide) (by rw [q34]; decide) (by decide) ?_
      obtain ⟨r, σ', μ', hC, hM, hR⟩ := o34 σ nw μ hr (xs (ix (nI (6 * i) + 1))) (xs (ix (nI (6 * i) + 2))) (xs (ix (nI (6 * i) + 3))) (xs (ix (nI (6 * i) + 4)))
      exact law_c34 B S (law_in 1 hL hl (by decide)) (law_in 2 hL hl (by decide)) (law_in 3 hL hl (by decide)) (law_in 4 hL hl (by decide)) (law_in 5 hL hl (by decide)) hC hM (nx1 ad nw σ' μ' hR)
    by_cases q35 : xs (ix (nI (6 * i))) &&& 63 = 35
    · refine r_tsw B (pc := 33) (off := 1231) (tgt := 1264) dL_law_33 (by rw [q35]; decide) (by rw [q35]; decide) (by rw [q35]; decide) (by decide) ?_
      obtain ⟨r, σ', μ', hC, hM, hR⟩ := o35 σ nw μ hr (xs (ix (nI (6 * i) + 1))) (xs (ix (nI (6 * i) + 2))) (xs (ix (nI (6 * i) + 3)))
      exact law_c35 B S (law_in 1 hL hl (by decide)) (law_in 2 hL hl (by decide)) (law_in 3 hL hl (by decide)) (law_in 4 hL hl (by decide)) (law_in 5 hL hl (by decide)) hC hM (nx1 ad nw σ' μ' hR)
    by_cases q36 : xs (ix (nI (6 * i))) &&& 63 = 36
    · refine r_tsw B (pc := 33) (off := 1274) (tgt := 1307) dL_law_33 (by rw [q36]; decide) (by rw [q36]; decide) (by rw [q36]; decide) (by decide) ?_
      obtain ⟨r, σ', μ', hC, hM, hR⟩ := o36 σ nw μ hr (xs (ix (nI (6 * i) + 1))) (xs (ix (nI (6 * i) + 2))) (xs (ix (nI (6 * i) + 3)))
      exact law_c36 B S (law_in 1 hL hl (by decide)) (law_in 2 hL hl (by decide)) (law_in 3 hL hl (by decide)) (law_in 4 hL hl (by decide)) (law_in 5 hL hl (by decide)) hC hM (nx1 ad nw σ' μ' hR)
    by_cases q37 : xs (ix (nI (6 * i))) &&& 63 = 37
    · refine r_tsw B (pc := 33) (off := 1317) (tgt := 1350) dL_law_33 (by rw [q37]; decide) (by rw [q37]; decide) (by rw [q37]; decide) (by decide) ?_
      obtain ⟨r, σ', μ', hC, hM, hR⟩ := o37 σ nw μ hr (xs (ix (nI (6 * i) + 1)))
      exact law_c37 B S (law_in 1 hL hl (by decide)) (law_in 2 hL hl (by decide)) (law_in 3 hL hl (by decide)) (law_in 4 hL hl (by decide)) (law_in 5 hL hl (by decide)) hC hM (nx1 ad nw σ' μ' hR)
    by_cases q38 : xs (ix (nI (6 * i))) &&& 63 = 38
    · refine r_tsw B (pc := 33) (off := 1340) (tgt := 1373) dL_law_33 (by rw [q38]; decide) (by rw [q38]; decide) (by rw [q38]; decide) (by decide) ?_
      obtain ⟨r, σ', μ', hC, hM, hR⟩ := o38 σ nw μ hr (xs (ix (nI (6 * i) + 1))) (xs (ix (nI (6 * i) + 2))) (xs (ix (nI (6 * i) + 3))) (((lsl (xs (ix (nI (6 * i) + 4))).toInt64 32) ||| (((xs (ix (nI (6 * i) + 5))).toInt64) &&& 4294967295)))
      exact law_c38 B S (law_in 1 hL hl (by decide)) (law_in 2 hL hl (by decide)) (law_in 3 hL hl (by decide)) (law_in 4 hL hl (by decide)) (law_in 5 hL hl (by decide)) hC hM (nx1 ad nw σ' μ' hR)
    by_cases q39 : xs (ix (nI (6 * i))) &&& 63 = 39
    · refine r_tsw B (pc := 33) (off := 1423) (tgt := 1456) dL_law_33 (by rw [q39]; decide) (by rw [q39]; decide) (by rw [q39]; decide) (by decide) ?_
      obtain ⟨r, σ', μ', hC, hM, hR⟩ := o39 σ nw μ hr (xs (ix (nI (6 * i) + 1))) (xs (ix (nI (6 * i) + 2))) (xs (ix (nI (6 * i) + 3))) (xs (ix (nI (6 * i) + 4))) (xs (ix (nI (6 * i) + 5)))
      exact law_c39 B S (law_in 1 hL hl (by decide)) (law_in 2 hL hl (by decide)) (law_in 3 hL hl (by decide)) (law_in 4 hL hl (by decide)) (law_in 5 hL hl (by decide)) hC hM (nx1 ad nw σ' μ' hR)
    refine r_tswd B (pc := 33) (tgt := 1519) dL_law_33 (sw_out 40 0 (fun k hk => match k, hk with | 0, _ => fun e => q0 (Int32.toInt_inj.mp (e.trans (by decide))) | 1, _ => fun e => q1 (Int32.toInt_inj.mp (e.trans (by decide))) | 2, _ => fun e => q2 (Int32.toInt_inj.mp (e.trans (by decide))) | 3, _ => fun e => q3 (Int32.toInt_inj.mp (e.trans (by decide))) | 4, _ => fun e => q4 (Int32.toInt_inj.mp (e.trans (by decide))) | 5, _ => fun e => q5 (Int32.toInt_inj.mp (e.trans (by decide))) | 6, _ => fun e => q6 (Int32.toInt_inj.mp (e.trans (by decide))) | 7, _ => fun e => q7 (Int32.toInt_inj.mp (e.trans (by decide))) | 8, _ => fun e => q8 (Int32.toInt_inj.mp (e.trans (by decide))) | 9, _ => fun e => q9 (Int32.toInt_inj.mp (e.trans (by decide))) | 10, _ => fun e => q10 (Int32.toInt_inj.mp (e.trans (by decide))) | 11, _ => fun e => q11 (Int32.toInt_inj.mp (e.trans (by decide))) | 12, _ => fun e => q12 (Int32.toInt_inj.mp (e.trans (by decide))) | 13, _ => fun e => q13 (Int32.toInt_inj.mp (e.trans (by decide))) | 14, _ => fun e => q14 (Int32.toInt_inj.mp (e.trans (by decide))) | 15, _ => fun e => q15 (Int32.toInt_inj.mp (e.trans (by decide))) | 16, _ => fun e => q16 (Int32.toInt_inj.mp (e.trans (by decide))) | 17, _ => fun e => q17 (Int32.toInt_inj.mp (e.trans (by decide))) | 18, _ => fun e => q18 (Int32.toInt_inj.mp (e.trans (by decide))) | 19, _ => fun e => q19 (Int32.toInt_inj.mp (e.trans (by decide))) | 20, _ => fun e => q20 (Int32.toInt_inj.mp (e.trans (by decide))) | 21, _ => fun e => q21 (Int32.toInt_inj.mp (e.trans (by decide))) | 22, _ => fun e => q22 (Int32.toInt_inj.mp (e.trans (by decide))) | 23, _ => fun e => q23 (Int32.toInt_inj.mp (e.trans (by decide))) | 24, _ => fun e => q24 (Int32.toInt_inj.mp (e.trans (by decide))) | 25, _ => fun e => q25 (Int32.toInt_inj.mp (e.trans (by decide))) | 26, _ => fun e => q26 (Int32.toInt_inj.mp (e.trans (by decide))) | 27, _ => fun e => q27 (Int32.toInt_inj.mp (e.trans (by decide))) | 28, _ => fun e => q28 (Int32.toInt_inj.mp (e.trans (by decide))) | 29, _ => fun e => q29 (Int32.toInt_inj.mp (e.trans (by decide))) | 30, _ => fun e => q30 (Int32.toInt_inj.mp (e.trans (by decide))) | 31, _ => fun e => q31 (Int32.toInt_inj.mp (e.trans (by decide))) | 32, _ => fun e => q32 (Int32.toInt_inj.mp (e.trans (by decide))) | 33, _ => fun e => q33 (Int32.toInt_inj.mp (e.trans (by decide))) | 34, _ => fun e => q34 (Int32.toInt_inj.mp (e.trans (by decide))) | 35, _ => fun e => q35 (Int32.toInt_inj.mp (e.trans (by decide))) | 36, _ => fun e => q36 (Int32.toInt_inj.mp (e.trans (by decide))) | 37, _ => fun e => q37 (Int32.toInt_inj.mp (e.trans (by decide))) | 38, _ => fun e => q38 (Int32.toInt_inj.mp (e.trans (by decide))) | 39, _ => fun e => q39 (Int32.toInt_inj.mp (e.trans (by decide))) | k + 40, hk => absurd hk (by omega))) (by decide) ?_
    exact nx1 ad nw σ μ hr
def w5 : Nat → Int32 := upd (upd (upd (upd (upd (fun _ => 0) (ix 0) 1) (ix 1) 1) (ix 2) 1) (ix 3) 1) (ix 4) 1
def l4 : Nat → Int32 := upd (upd (upd (upd (fun _ => 0) (ix 0) (-1)) (ix 1) (-1)) (ix 2) (-1)) (ix 3) (-1)
def σ0 : St := (fun c => if c = 15 then w5 else if c = 33 then w5 else if c = 1 then (fun i => if i = 7 then 1 else 0) else if c = 19 then (fun i => if i = 7 then 1 else 0) else (fun _ => 0), fun _ _ => 0)
def μ0 : St := (fun c => if c = 8 then w5 else if c = 17 then l4 else if c = 0 then (fun i => if i = 14 then 1 else 0) else (fun _ => 0), fun _ _ => 0)
def adH (h : Nat) (ad : Nat → Nat) : Nat → Nat := fun i => if i = 0 then h else ad i
theorem wC_init (h : Nat) (ad : Nat → Nat) (K : Kt) : ([(h, .inr (6, [.ref (ad 1), .ref (ad 19), .int 0, .ref (ad 37), .ref (ad 39), .ref (ad 46), .ref (ad 51), .ref (ad 52), .ref (ad 61), .ref (ad 62), .ref (ad 66)])), ((ad 1), .inr (3, [.ref (ad 2), .ref (ad 9), .int 0, .ref (ad 14), .int 0, .ref (ad 15), .int 0, .int 1, .int 0, .int 0, .ref (ad 16), .ref (ad 17), .ref (ad 18)])), ((ad 2), .inr (1, [.int 0, .ref (ad 3), .ref (ad 4), .ref (ad 5), .ref (ad 6), .ref (ad 7), .ref (ad 8)])), ((ad 3), .inl (K.1, 10, .inl (fun _ => 0))), ((ad 4), .inl (K.1, 10, .inl (fun _ => 0))), ((ad 5), .inl (K.1, 10, .inl (fun _ => 0))), ((ad 6), .inl (K.1, 10, .inl (fun _ => 0))), ((ad 7), .inl (K.1, 10, .inl (fun _ => 0))), ((ad 8), .inl (K.1, 120, .inl (fun _ => 0))), ((ad 9), .inr (2, [.int 0, .int 0, .ref (ad 10), .ref (ad 11), .ref (ad 12), .ref (ad 13)])), ((ad 10), .inl (K.1, 12, .inl (fun _ => 0))), ((ad 11), .inl (K.1, 12, .inl (fun _ => 0))), ((ad 12), .inl (K.1, 12, .inl (fun _ => 0))), ((ad 13), .inl (K.1, 12, .inl (fun _ => 0))), ((ad 14), .inl (K.1, 4, .inl (fun _ => 0))), ((ad 15), .inl (K.1, 5, .inl (upd (upd (upd (upd (upd (fun _ => 0) (ix 0) 1) (ix 1) 1) (ix 2) 1) (ix 3) 1) (ix 4) 1))), ((ad 16), .inl (K.1, 10, .inl (fun _ => 0))), ((ad 17), .inl (K.1, 10, .inl (fun _ => 0))), ((ad 18), .inl (K.1, 10, .inl (fun _ => 0))), ((ad 19), .inr (3, [.ref (ad 20), .ref (ad 27), .int 0, .ref (ad 32), .int 0, .ref (ad 33), .int 0, .int 1, .int 0, .int 0, .ref (ad 34), .ref (ad 35), .ref (ad 36)])), ((ad 20), .inr (1, [.int 0, .ref (ad 21), .ref (ad 22), .ref (ad 23), .ref (ad 24), .ref (ad 25), .ref (ad 26)])), ((ad 21), .inl (K.1, 10, .inl (fun _ => 0))), ((ad 22), .inl (K.1, 10, .inl (fun _ => 0))), ((ad 23), .inl (K.1, 10, .inl (fun _ => 0))), ((ad 24), .inl (K.1, 10, .inl (fun _ => 0))), ((ad 25), .inl (K.1, 10, .inl (fun _ => 0))), ((ad 26), .inl (K.1, 120, .inl (fun _ => 0))), ((ad 27), .inr (2, [.int 0, .int 0, .ref (ad 28), .ref (ad 29), .ref (ad 30), .ref (ad 31)])), ((ad 28), .inl (K.1, 12, .inl (fun _ => 0))), ((ad 29), .inl (K.1, 12, .inl (fun _ => 0))), ((ad 30), .inl (K.1, 12, .inl (fun _ => 0))), ((ad 31), .inl (K.1, 12, .inl (fun _ => 0))), ((ad 32), .inl (K.1, 4, .inl (fun _ => 0))), ((ad 33), .inl (K.1, 5, .inl (upd (upd (upd (upd (upd (fun _ => 0) (ix 0) 1) (ix 1) 1) (ix 2) 1) (ix 3) 1) (ix 4) 1))), ((ad 34), .inl (K.1, 10, .inl (fun _ => 0))), ((ad 35), .inl (K.1, 10, .inl (fun _ => 0))), ((ad 36), .inl (K.1, 10, .inl (fun _ => 0))), ((ad 37), .inr (5, [.int 0, .int 0, .ref (ad 38)])), ((ad 38), .inl (K.2.2.1, 160, .inl (fun _ => 0))), ((ad 39), .inr (1, [.int 0, .ref (ad 40), .ref (ad 41), .ref (ad 42), .ref (ad 43), .ref (ad 44), .ref (ad 45)])), ((ad 40), .inl (K.1, 10, .inl (fun _ => 0))), ((ad 41), .inl (K.1, 10, .inl (fun _ => 0))), ((ad 42), .inl (K.1, 10, .inl (fun _ => 0))), ((ad 43), .inl (K.1, 10, .inl (fun _ => 0))), ((ad 44), .inl (K.1, 10, .inl (fun _ => 0))), ((ad 45), .inl (K.1, 120, .inl (fun _ => 0))), ((ad 46), .inr (2, [.int 0, .int 0, .ref (ad 47), .ref (ad 48), .ref (ad 49), .ref (ad 50)])), ((ad 47), .inl (K.1, 12, .inl (fun _ => 0))), ((ad 48), .inl (K.1, 12, .inl (fun _ => 0))), ((ad 49), .inl (K.1, 12, .inl (fun _ => 0))), ((ad 50), .inl (K.1, 12, .inl (fun _ => 0))), ((ad 51), .inl (K.1, 32, .inl (fun _ => 0))), ((ad 52), .inl (K.2.2.2, 4, .inr (.inr (.inr (.inr (va_up (va_up (va_up (va_up (fun _ => none) (ix 0) (some (ad 53))) (ix 1) (some (ad 55))) (ix 2) (some (ad 57))) (ix 3) (some (ad 59)))))))), ((ad 53), .inr (4, [.int 0, .int 0, .int 0, .ref (ad 54)])), ((ad 54), .inl (K.2.1, 36, .inr (.inl (fun _ => 0)))), ((ad 55), .inr (4, [.int 0, .int 0, .int 0, .ref (ad 56)])), ((ad 56), .inl (K.2.1, 36, .inr (.inl (fun _ => 0)))), ((ad 57), .inr (4, [.int 0, .int 0, .int 0, .ref (ad 58)])), ((ad 58), .inl (K.2.1, 36, .inr (.inl (fun _ => 0)))), ((ad 59), .inr (4, [.int 0, .int 0, .int 0, .ref (ad 60)])), ((ad 60), .inl (K.2.1, 36, .inr (.inl (fun _ => 0)))), ((ad 61), .inl (K.1, 10, .inl (fun _ => 0))), ((ad 62), .inr (0, [.int 0, .ref (ad 63), .ref (ad 64), .int 0, .ref (ad 65)])), ((ad 63), .inl (K.1, 36, .inl (fun _ => 0))), ((ad 64), .inl (K.1, 36, .inl (fun _ => 0))), ((ad 65), .inl (K.1, 3, .inl (fun _ => 0))), ((ad 66), .inl (K.1, 1, .inl (fun _ => 0)))] : va_W).set 52 (ad 52, .inl (K.2.2.2, 4, .inr (.inr (.inr (.inr (fun j => some (adH h ad (53 + 2 * j)))))))) = wC (adH h ad) K 1 σ0 := rfl
theorem wM_init (h : Nat) (ad : Nat → Nat) (K : Kt) : ([(h, .inr (7, [.ref (ad 1), .ref (ad 2), .ref (ad 3), .int 0, .ref (ad 4), .ref (ad 5), .ref (ad 6), .int 0, .int 0, .ref (ad 7), .int 0, .int 0, .ref (ad 8), .int 0, .int 1, .ref (ad 9), .ref (ad 10), .int 0, .ref (ad 11), .int 0, .int 0, .int 0, .ref (ad 12), .ref (ad 13), .ref (ad 14), .ref (ad 15), .int 0, .ref (ad 16), .ref (ad 17), .ref (ad 18), .ref (ad 19), .ref (ad 20), .ref (ad 21)])), ((ad 1), .inl (K.1, 10, .inl (fun _ => 0))), ((ad 2), .inl (K.1, 10, .inl (fun _ => 0))), ((ad 3), .inl (K.1, 10, .inl (fun _ => 0))), ((ad 4), .inl (K.1, 12, .inl (fun _ => 0))), ((ad 5), .inl (K.1, 12, .inl (fun _ => 0))), ((ad 6), .inl (K.1, 12, .inl (fun _ => 0))), ((ad 7), .inl (K.1, 4, .inl (fun _ => 0))), ((ad 8), .inl (K.1, 5, .inl (upd (upd (upd (upd (upd (fun _ => 0) (ix 0) 1) (ix 1) 1) (ix 2) 1) (ix 3) 1) (ix 4) 1))), ((ad 9), .inl (K.1, 141, .inl (fun _ => 0))), ((ad 10), .inl (K.1, 1410, .inl (fun _ => 0))), ((ad 11), .inl (K.1, 160, .inl (fun _ => 0))), ((ad 12), .inl (K.1, 128, .inl (fun _ => 0))), ((ad 13), .inl (K.1, 36, .inl (fun _ => 0))), ((ad 14), .inl (K.1, 3, .inl (fun _ => 0))), ((ad 15), .inl (K.1, 4096, .inl (fun _ => 0))), ((ad 16), .inl (K.1, 1650, .inl (fun _ => 0))), ((ad 17), .inl (K.1, 4, .inl (upd (upd (upd (upd (fun _ => 0) (ix 0) (-1)) (ix 1) (-1)) (ix 2) (-1)) (ix 3) (-1)))), ((ad 18), .inl (K.1, 4, .inl (fun _ => 0))), ((ad 19), .inl (K.2.1, 144, .inr (.inl (fun _ => 0)))), ((ad 20), .inl (K.1, 141, .inl (fun _ => 0))), ((ad 21), .inl (K.2.1, 36, .inr (.inl (fun _ => 0))))] : va_W) = wM (adH h ad) K μ0 := rfl
theorem f52_ok (h : Nat) (ad : Nat → Nat) : ∀ j, j < 4 → (va_up (va_up (va_up (va_up (fun _ => none) (ix 0) (some (ad 53))) (ix 1) (some (ad 55))) (ix 2) (some (ad 57))) (ix 3) (some (ad 59))) j = some (adH h ad (53 + 2 * j)) := by
  intro j hj
  match j, hj with
  | 0, _ => rfl
  | 1, _ => rfl
  | 2, _ => rfl
  | 3, _ => rfl
theorem nest_in : ∀ q ∈ lw_nest, Cond.methodLinkNest q.1 q.2.1 q.2.2 "GraveNews" ∈ lw_tbl := by decide +kernel
theorem over_in : Cond.arrayOver (.object "GraveNews$Sheet") ∈ lw_tbl := by decide +kernel
theorem law_K {s : State} {args : Array Value} (hts : ∀ w ∈ lw_T, w.before args s = true) (hov : va_AO "GraveNews$Sheet" s) : ∃ K : Kt, ∀ (k : Nat) (q : ClassId × FieldType), (tyL K)[k]? = some q → ArrOfT s q.1 q.2 ∧ va_RA s q.1 q.2 := by
  obtain ⟨c1, k1, m1, f1, g1, e1⟩ := Cond.arrayClass_spec (hts _ aw_i)
  obtain ⟨c2, k2, m2, f2, g2, e2⟩ := Cond.arrayClass_spec (hts _ aw_l)
  obtain ⟨c3, k3, m3, f3, g3, e3⟩ := Cond.arrayClass_spec (hts _ aw_b)
  obtain ⟨comp, c4, k4, h1, h2, h3, h4, h5⟩ := Cond.arrayOver_spec hov
  refine ⟨(c1, c2, c3, c4), ?_⟩
  intro k q hk
  match k, hk with
  | 0, hk => cases hk; exact ⟨fun n z => ⟨fun k h => (by cases h), k1, g1, m1, e1⟩, f1⟩
  | 1, hk => cases hk; exact ⟨fun n z => ⟨fun k h => (by cases h), k2, g2, m2, e2⟩, f2⟩
  | 2, hk => cases hk; exact ⟨fun n z => ⟨fun k h => (by cases h), k3, g3, m3, e3⟩, f3⟩
  | 3, hk => cases hk; exact ⟨fun n z => ⟨fun k h => (by cases h), k4, h3, comp, h4⟩, k4, comp, h3, h4, h1, h5⟩
  | k + 4, hk => simp at hk
theorem law_D {s : State} {args : Array Value} (hts : ∀ w ∈ lw_T, w.before args s = true) : ∃ D : va_G, ∀ (k : Nat) (q : vw_C), vwCl[k]? = some q → u_Kn s q.1 q.2.1 q.2.2 (D.1 k) (D.2 k) := by
  obtain ⟨c0, iS0, hKn0⟩ := u_known (C := RX0) (T := TX0) (N := 5) (n := 5) hts inT_X0 (hts (.instantiable RX0 5) is_X0)
  obtain ⟨c1, iS1, hKn1⟩ := u_known (C := RX1) (T := TX1) (N := 7) (n := 7) hts inT_X1 (hts (.instantiable RX1 7) is_X1)
  obtain ⟨c2, iS2, hKn2⟩ := u_known (C := RX2) (T := TX2) (N := 6) (n := 6) hts inT_X2 (hts (.instantiable RX2 6) is_X2)
  obtain ⟨c3, iS3, hKn3⟩ := u_known (C := RX3) (T := TX3) (N := 13) (n := 13) hts inT_X3 (hts (.instantiable RX3 13) is_X3)
  obtain ⟨c4, iS4, hKn4⟩ := u_known (C := RX4) (T := TX4) (N := 4) (n := 4) hts inT_X4 (hts (.instantiable RX4 4) is_X4)
  obtain ⟨c5, iS5, hKn5⟩ := u_known (C := RX5) (T := TX5) (N := 3) (n := 3) hts inT_X5 (hts (.instantiable RX5 3) is_X5)
  obtain ⟨c6, iS6, hKn6⟩ := u_known (C := RX6) (T := TX6) (N := 11) (n := 11) hts inT_X6 (hts (.instantiable RX6 11) is_X6)
  obtain ⟨c7, iS7, hKn7⟩ := u_known (C := RX7) (T := TX7) (N := 33) (n := 33) hts inT_X7 (hts (.instantiable RX7 33) is_X7)
  refine ⟨(fun k => if k = 0 then c0 else if k = 1 then c1 else if k = 2 then c2 else if k = 3 then c3 else if k = 4 then c4 else if k = 5 then c5 else if k = 6 then c6 else c7, fun k => if k = 0 then iS0 else if k = 1 then iS1 else if k = 2 then iS2 else if k = 3 then iS3 else if k = 4 then iS4 else if k = 5 then iS5 else if k = 6 then iS6 else iS7), ?_⟩
  intro k q hq
  match k, hq with
  | 0, hq => cases hq; exact hKn0
  | 1, hq => cases hq; exact hKn1
  | 2, hq => cases hq; exact hKn2
  | 3, hq => cases hq; exact hKn3
  | 4, hq => cases hq; exact hKn4
  | 5, hq => cases hq; exact hKn5
  | 6, hq => cases hq; exact hKn6
  | 7, hq => cases hq; exact hKn7
  | k + 8, hq => simp at hq
set_option maxHeartbeats 16000000 in
set_option maxRecDepth 40000 in
theorem whole_of {R : St → Nat → St → Prop} (o0 : Op0 R) (o1 : Op1 R) (o2 : Op2 R) (o3 : Op3 R) (o4 : Op4 R) (o5 : Op5 R) (o6 : Op6 R) (o7 : Op7 R) (o8 : Op8 R) (o9 : Op9 R) (o10 : Op10 R) (o11 : Op11 R) (o12 : Op12 R) (o13 : Op13 R) (o14 : Op14 R) (o15 : Op15 R) (o16 : Op16 R) (o17 : Op17 R) (o18 : Op18 R) (o19 : Op19 R) (o20 : Op20 R) (o21 : Op21 R) (o22 : Op22 R) (o23 : Op23 R) (o24 : Op24 R) (o25 : Op25 R) (o26 : Op26 R) (o27 : Op27 R) (o28 : Op28 R) (o29 : Op29 R) (o30 : Op30 R) (o31 : Op31 R) (o32 : Op32 R) (o33 : Op33 R) (o34 : Op34 R) (o35 : Op35 R) (o36 : Op36 R) (o37 : Op37 R) (o38 : Op38 R) (o39 : Op39 R) (hinit : R σ0 1 μ0) {p : Program} {e : Env} {s : State} {m : MethodId} {below : List Frame} {meth : Method} {c : Code} (l : Launch) {b L : Nat} {xs : Nat → Int32} (hL : L ≤ 384) (C0 : lw_At p s m meth c b L xs) : W p l e room_1 s m #[Value.ref b] below meth c s.heap [] 0 0 (lw_Z below #[Value.ref b] s) (entryFrame m ([Value.ref b] : List Value).toArray 4) := by
  obtain ⟨hx, hb, hr, hml, hown, hts0, hX, hbl, hlocks, hgv⟩ := id C0
  have hts := lw_Ts hts0
  have hN : lw_N s := fun q hq => va_Nw.of rfl (hts0 _ (nest_in q hq))
  have hAO : va_AO "GraveNews$Sheet" s := va_AO.of (hts0 _ over_in)
  obtain ⟨K, hK2⟩ := law_K hts hAO
  obtain ⟨D, hK1⟩ := law_D hts
  have hK : va_K D vwCl (tyL K) s := ⟨hK1, hK2⟩
  have hP : va_P D vwCl [] s.heap := fun k q h => by simp at h
  have hD : va_D (fun q : Nat => s.heap.size ≤ q) [] := ⟨fun i j p q h => by simp at h, fun k q h => by simp at h⟩
  have hS : va_S (fun q : Nat => s.heap.size ≤ q) s.heap s.heap [] := va_S.rf
  have hl := lo_entry [.ref b] (n := 4) (Nat.le_of_ble_eq_true rfl)
  rw [lg_entry_eq]
  obtain ⟨X, hXe⟩ : ∃ X : Cx, X = ((p, l, e, room_1, s, m), (#[Value.ref b], below, meth, c), (4, 0, 0, (fun q : Nat => s.heap.size ≤ q), D, lw_Z below #[Value.ref b] s)) := ⟨_, rfl⟩
  have B : Bs X cL_law RL K 10 408 := by
    rw [hXe]
    exact ⟨hx, hb, hml, hown, hts, hK, hN, fun _ h => h, Nat.le_refl _, Nat.le_refl _, Nat.zero_le _, Nat.zero_le _⟩
  have S : Sc X b L xs := by
    rw [hXe]
    exact ⟨hX, hbl, Nat.not_le.mpr hbl⟩
  have hR : Rm X 600000 7302250 := by
    rw [hXe]
    exact ⟨Nat.le_of_eq (Nat.zero_add _), Nat.le_of_eq (Nat.zero_add _)⟩
  have hnL : X.2.2.1 = 4 := by rw [hXe]
  have hAX : va_AO "GraveNews$Sheet" X.s := by rw [hXe]; exact hAO
  have fin : ∀ (a d : Nat) (w : va_W) (loc : List (Option Value)), Rm X a d → MW (X.up a d) w 1526 loc [.int 1] := by
    intro a d w loc hRad
    rw [hXe] at hRad
    rw [hXe]
    intro H locs ls hP hD hS hl
    refine va_forget (fun q h => hS.2.2 q h) ?_
    exact W.widen hRad.1 hRad.2 (lw_ret hx hb hr hlocks dL_law_1526)
  suffices go : MW X [] 0 [some (.ref b), none, none, none] [] by
    rw [hXe] at go
    exact go s.heap [] _ hP hD hS hl
  clear hXe
  refine r_new B (ci := 6) (fs := [.null, .null, .int 0, .null, .null, .null, .null, .null, .null, .null, .null]) (hR.sub 1 11 (Nat.le_of_ble_eq_true rfl) (Nat.le_of_ble_eq_true rfl)) inT_X6 tyX6 tyX6_ok cl_RL_7 is_X6 in_X6 rfl df_X6 (pc := 0) dL_law_0 (fun q1 => ?_)
  have B1 := B.up (hR.sub 1 11 (Nat.le_of_ble_eq_true rfl) (Nat.le_of_ble_eq_true rfl))
  refine r_dup B1 (pc := 3) dL_law_3 rfl ?_
  refine r_cI (wr := []) (wc := [(q1, .inr (6, [.null, .null, .int 0, .null, .null, .null, .null, .null, .null, .null, .null]))]) (st := [.ref q1]) B1 hAX (c_X6_init X.l X.D K q1) Fi_X6_initc Fi_X6_initi Fi_X6_initn Fi_X6_inity (Or.inr lk_RL_9) (hR.up (a := 1) (b := 11) 66 1247 (Nat.le_of_ble_eq_true rfl) (Nat.le_of_ble_eq_true rfl)) (Nat.le_of_ble_eq_true rfl) (Nat.le_of_ble_eq_true rfl) (Nat.le_of_ble_eq_true rfl) (pc := 4) dL_law_4 (fun ad1 => ?_)
  refine r_up2 (a' := 67) (b' := 1258) rfl rfl ?_
  refine r_wq (w' := [(q1, .inr (6, [.ref (ad1 1), .ref (ad1 19), .int 0, .ref (ad1 37), .ref (ad1 39), .ref (ad1 46), .ref (ad1 51), .ref (ad1 52), .ref (ad1 61), .ref (ad1 62), .ref (ad1 66)])), ((ad1 1), .inr (3, [.ref (ad1 2), .ref (ad1 9), .int 0, .ref (ad1 14), .int 0, .ref (ad1 15), .int 0, .int 1, .int 0, .int 0, .ref (ad1 16), .ref (ad1 17), .ref (ad1 18)])), ((ad1 2), .inr (1, [.int 0, .ref (ad1 3), .ref (ad1 4), .ref (ad1 5), .ref (ad1 6), .ref (ad1 7), .ref (ad1 8)])), ((ad1 3), .inl (K.1, 10, .inl (fun _ => 0))), ((ad1 4), .inl (K.1, 10, .inl (fun _ => 0))), ((ad1 5), .inl (K.1, 10, .inl (fun _ => 0))), ((ad1 6), .inl (K.1, 10, .inl (fun _ => 0))), ((ad1 7), .inl (K.1, 10, .inl (fun _ => 0))), ((ad1 8), .inl (K.1, 120, .inl (fun _ => 0))), ((ad1 9), .inr (2, [.int 0, .int 0, .ref (ad1 10), .ref (ad1 11), .ref (ad1 12), .ref (ad1 13)])), ((ad1 10), .inl (K.1, 12, .inl (fun _ => 0))), ((ad1 11), .inl (K.1, 12, .inl (fun _ => 0))), ((ad1 12), .inl (K.1, 12, .inl (fun _ => 0))), ((ad1 13), .inl (K.1, 12, .inl (fun _ => 0))), ((ad1 14), .inl (K.1, 4, .inl (fun _ => 0))), ((ad1 15), .inl (K.1, 5, .inl (upd (upd (upd (upd (upd (fun _ => 0) (ix 0) 1) (ix 1) 1) (ix 2) 1) (ix 3) 1) (ix 4) 1))), ((ad1 16), .inl (K.1, 10, .inl (fun _ => 0))), ((ad1 17), .inl (K.1, 10, .inl (fun _ => 0))), ((ad1 18), .inl (K.1, 10, .inl (fun _ => 0))), ((ad1 19), .inr (3, [.ref (ad1 20), .ref (ad1 27), .int 0, .ref (ad1 32), .int 0, .ref (ad1 33), .int 0, .int 1, .int 0, .int 0, .ref (ad1 34), .ref (ad1 35), .ref (ad1 36)])), ((ad1 20), .inr (1, [.int 0, .ref (ad1 21), .ref (ad1 22), .ref (ad1 23), .ref (ad1 24), .ref (ad1 25), .ref (ad1 26)])), ((ad1 21), .inl (K.1, 10, .inl (fun _ => 0))), ((ad1 22), .inl (K.1, 10, .inl (fun _ => 0))), ((ad1 23), .inl (K.1, 10, .inl (fun _ => 0))), ((ad1 24), .inl (K.1, 10, .inl (fun _ => 0))), ((ad1 25), .inl (K.1, 10, .inl (fun _ => 0))), ((ad1 26), .inl (K.1, 120, .inl (fun _ => 0))), ((ad1 27), .inr (2, [.int 0, .int 0, .ref (ad1 28), .ref (ad1 29), .ref (ad1 30), .ref (ad1 31)])), ((ad1 28), .inl (K.1, 12, .inl (fun _ => 0))), ((ad1 29), .inl (K.1, 12, .inl (fun _ => 0))), ((ad1 30), .inl (K.1, 12, .inl (fun _ => 0))), ((ad1 31), .inl (K.1, 12, .inl (fun _ => 0))), ((ad1 32), .inl (K.1, 4, .inl (fun _ => 0))), ((ad1 33), .inl (K.1, 5, .inl (upd (upd (upd (upd (upd (fun _ => 0) (ix 0) 1) (ix 1) 1) (ix 2) 1) (ix 3) 1) (ix 4) 1))), ((ad1 34), .inl (K.1, 10, .inl (fun _ => 0))), ((ad1 35), .inl (K.1, 10, .inl (fun _ => 0))), ((ad1 36), .inl (K.1, 10, .inl (fun _ => 0))), ((ad1 37), .inr (5, [.int 0, .int 0, .ref (ad1 38)])), ((ad1 38), .inl (K.2.2.1, 160, .inl (fun _ => 0))), ((ad1 39), .inr (1, [.int 0, .ref (ad1 40), .ref (ad1 41), .ref (ad1 42), .ref (ad1 43), .ref (ad1 44), .ref (ad1 45)])), ((ad1 40), .inl (K.1, 10, .inl (fun _ => 0))), ((ad1 41), .inl (K.1, 10, .inl (fun _ => 0))), ((ad1 42), .inl (K.1, 10, .inl (fun _ => 0))), ((ad1 43), .inl (K.1, 10, .inl (fun _ => 0))), ((ad1 44), .inl (K.1, 10, .inl (fun _ => 0))), ((ad1 45), .inl (K.1, 120, .inl (fun _ => 0))), ((ad1 46), .inr (2, [.int 0, .int 0, .ref (ad1 47), .ref (ad1 48), .ref (ad1 49), .ref (ad1 50)])), ((ad1 47), .inl (K.1, 12, .inl (fun _ => 0))), ((ad1 48), .inl (K.1, 12, .inl (fun _ => 0))), ((ad1 49), .inl (K.1, 12, .inl (fun _ => 0))), ((ad1 50), .inl (K.1, 12, .inl (fun _ => 0))), ((ad1 51), .inl (K.1, 32, .inl (fun _ => 0))), ((ad1 52), .inl (K.2.2.2, 4, .inr (.inr (.inr (.inr (va_up (va_up (va_up (va_up (fun _ => none) (ix 0) (some (ad1 53))) (ix 1) (some (ad1 55))) (ix 2) (some (ad1 57))) (ix 3) (some (ad1 59)))))))), ((ad1 53), .inr (4, [.int 0, .int 0, .int 0, .ref (ad1 54)])), ((ad1 54), .inl (K.2.1, 36, .inr (.inl (fun _ => 0)))), ((ad1 55), .inr (4, [.int 0, .int 0, .int 0, .ref (ad1 56)])), ((ad1 56), .inl (K.2.1, 36, .inr (.inl (fun _ => 0)))), ((ad1 57), .inr (4, [.int 0, .int 0, .int 0, .ref (ad1 58)])), ((ad1 58), .inl (K.2.1, 36, .inr (.inl (fun _ => 0)))), ((ad1 59), .inr (4, [.int 0, .int 0, .int 0, .ref (ad1 60)])), ((ad1 60), .inl (K.2.1, 36, .inr (.inl (fun _ => 0)))), ((ad1 61), .inl (K.1, 10, .inl (fun _ => 0))), ((ad1 62), .inr (0, [.int 0, .ref (ad1 63), .ref (ad1 64), .int 0, .ref (ad1 65)])), ((ad1 63), .inl (K.1, 36, .inl (fun _ => 0))), ((ad1 64), .inl (K.1, 36, .inl (fun _ => 0))), ((ad1 65), .inl (K.1, 3, .inl (fun _ => 0))), ((ad1 66), .inl (K.1, 1, .inl (fun _ => 0)))]) rfl ?_
  refine r_cellq (p := 52) (K := K) rfl (f52_ok q1 ad1) ?_
  refine r_wq (wC_init q1 ad1 K) ?_
  have B2 := B.up (hR.sub 67 1258 (Nat.le_of_ble_eq_true rfl) (Nat.le_of_ble_eq_true rfl))
  refine r_astore_n B2 hnL (pc := 7) dL_law_7 rfl (by decide) ?_
  refine r_lc (loc' := [some (.ref b), some (.ref q1), none, none]) rfl ?_
  refine r_new B2 (ci := 7) (fs := [.null, .null, .null, .int 0, .null, .null, .null, .int 0, .int 0, .null, .int 0, .int 0, .null, .int 0, .int 0, .null, .null, .int 0, .null, .int 0, .int 0, .int 0, .null, .null, .null, .null, .int 0, .null, .null, .null, .null, .null, .null]) (hR.up (a := 67) (b := 1258) 1 33 (Nat.le_of_ble_eq_true rfl) (Nat.le_of_ble_eq_true rfl)) inT_X7 tyX7 tyX7_ok cl_RL_10 is_X7 in_X7 rfl df_X7 (pc := 8) dL_law_8 (fun q2 => ?_)
  refine r_up2 (a' := 68) (b' := 1291) rfl rfl ?_
  have B3 := B.up (hR.sub 68 1291 (Nat.le_of_ble_eq_true rfl) (Nat.le_of_ble_eq_true rfl))
  refine r_dup B3 (pc := 11) dL_law_11 rfl ?_
  refine r_cI (wr := wC (adH q1 ad1) K 1 σ0) (wc := [(q2, .inr (7, [.null, .null, .null, .int 0, .null, .null, .null, .int 0, .int 0, .null, .int 0, .int 0, .null, .int 0, .int 0, .null, .null, .int 0, .null, .int 0, .int 0, .int 0, .null, .null, .null, .null, .int 0, .null, .null, .null, .null, .null, .null]))]) (st := [.ref q2]) B3 hAX (c_X7_init X.l X.D K q2) Fi_X7_initc Fi_X7_initi Fi_X7_initn Fi_X7_inity (Or.inr lk_RL_12) (hR.up (a := 68) (b := 1291) 21 8028 (Nat.le_of_ble_eq_true rfl) (Nat.le_of_ble_eq_true rfl)) (Nat.le_of_ble_eq_true rfl) (Nat.le_of_ble_eq_true rfl) (Nat.le_of_ble_eq_true rfl) (pc := 12) dL_law_12 (fun ad2 => ?_)
  refine r_up2 (a' := 89) (b' := 9319) rfl rfl ?_
  refine r_wq (w' := wC (adH q1 ad1) K 1 σ0 ++ wM (adH q2 ad2) K μ0) (congrArg (fun z => wC (adH q1 ad1) K 1 σ0 ++ z) (wM_init q2 ad2 K)) ?_
  have B4 := B.up (hR.sub 89 9319 (Nat.le_of_ble_eq_true rfl) (Nat.le_of_ble_eq_true rfl))
  refine r_astore_n B4 hnL (pc := 15) dL_law_15 rfl (by decide) ?_
  refine r_lc (loc' := [some (.ref b), some (.ref q1), some (.ref q2), none]) rfl ?_
  refine r_iconst B4 (pc := 16) dL_law_16 kc_0 ?_
  refine r_istore_n B4 hnL (pc := 17) dL_law_17 rfl (by decide) ?_
  refine r_lc (loc' := [some (.ref b), some (.ref (adH q1 ad1 0)), some (.ref (adH q2 ad2 0)), some (.int (nI (6 * 0)))]) rfl ?_
  have hfin2 : ∀ (a d : Nat) (w : va_W) (loc : List (Option Value)), Rm (X.up 89 9319) a d → MW ((X.up 89 9319).up a d) w 1526 loc [.int 1] := by
    intro a d w loc hRad
    refine r_up2 (a' := 89 + a) (b' := 9319 + d) rfl rfl ?_
    refine fin _ _ _ _ ?_
    have h1 := hRad.1
    have h2 := hRad.2
    exact ⟨by rw [← Nat.add_assoc]; exact h1, by rw [← Nat.add_assoc]; exact h2⟩
  have := law_loop o0 o1 o2 o3 o4 o5 o6 o7 o8 o9 o10 o11 o12 o13 o14 o15 o16 o17 o18 o19 o20 o21 o22 o23 o24 o25 o26 o27 o28 o29 o30 o31 o32 o33 o34 o35 o36 o37 o38 o39 (X0 := X.up 89 9319) hnL B4 S.up (hR.up (a := 89) (b := 9319) 66 (4096 * 66) (Nat.le_of_ble_eq_true rfl) (Nat.le_of_ble_eq_true rfl)) hL hfin2 64 0 (adH q1 ad1) 1 σ0 (adH q2 ad2) μ0 (by decide) (by decide) hinit
  exact r_widen 0 0 this
