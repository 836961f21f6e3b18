/-! ===== the letters of the tape ===== -/
def PC (σ : St) (p : Nat) : St := wr σ 37 1 (nI p)
def PM (μ : St) (p : Nat) : St := wr μ 0 20 (nI p)
theorem wr_wr (σ : St) (c i : Nat) (x y : Int32) : wr (wr σ c i x) c i y = wr σ c i y := by
  unfold wr
  refine Prod.ext ?_ rfl
  funext d
  by_cases h : d = c
  · subst h
    simp only [if_true]
    exact fa_upd_twice _ _ _ _
  · simp only [h, if_false]
theorem wr_cm (σ : St) {c d i j : Nat} (x y : Int32) (h : c ≠ d) : wr (wr σ c i x) d j y = wr (wr σ d j y) c i x := by
  unfold wr
  refine Prod.ext ?_ rfl
  funext e
  by_cases h1 : e = d
  · subst h1
    simp only [if_true, show ¬ e = c from fun q => h q.symm, if_false]
  · by_cases h2 : e = c
    · subst h2
      simp only [if_true, h1, if_false]
    · simp only [h1, h2, if_false]
theorem wr_cf (σ : St) {c i j : Nat} (x y : Int32) (h : i ≠ j) : wr (wr σ c i x) c j y = wr (wr σ c j y) c i x := by
  unfold wr
  refine Prod.ext ?_ rfl
  funext e
  by_cases h1 : e = c
  · subst h1
    simp only [if_true]
    exact fa_upd_swap _ h _ _
  · simp only [h1, if_false]
theorem PC_w (σ : St) (p q : Nat) : wr (PC σ p) 37 1 (nI q) = PC σ q := wr_wr σ 37 1 _ _
theorem PM_w (μ : St) (p q : Nat) : wr (PM μ p) 0 20 (nI q) = PM μ q := wr_wr μ 0 20 _ _
theorem PC_c (σ : St) (p : Nat) {c i : Nat} (x : Int32) (h : c ≠ 37) : wr (PC σ p) c i x = PC (wr σ c i x) p := wr_cm σ _ _ (fun e => h e.symm)
theorem PM_c (μ : St) (p : Nat) {c i : Nat} (x : Int32) (h : c ≠ 0) : wr (PM μ p) c i x = PM (wr μ c i x) p := wr_cm μ _ _ (fun e => h e.symm)
theorem PM_f (μ : St) (p : Nat) {f : Nat} (x : Int32) (h : f ≠ 20) : wr (PM μ p) 0 f x = PM (wr μ 0 f x) p := wr_cf μ _ _ (fun e => h e.symm)
theorem PC_f (σ : St) (p : Nat) {f : Nat} (x : Int32) (h : f ≠ 1) : wr (PC σ p) 37 f x = PC (wr σ 37 f x) p := wr_cf σ _ _ (fun e => h e.symm)
theorem PC_1 (σ : St) (p : Nat) : (PC σ p).1 37 1 = nI p := wr_at _ _ _ _
theorem PM_1 (μ : St) (p : Nat) : (PM μ p).1 0 20 = nI p := wr_at _ _ _ _
theorem PC_n (σ : St) (p : Nat) {c : Nat} (h : c ≠ 37) : (PC σ p).1 c = σ.1 c := wr_ne h
theorem PM_n (μ : St) (p : Nat) {c : Nat} (h : c ≠ 0) : (PM μ p).1 c = μ.1 c := wr_ne h
theorem PC_o (σ : St) (p : Nat) {f : Nat} (h : f ≠ 1) : (PC σ p).1 37 f = σ.1 37 f := by unfold PC; rw [wr_get, if_pos rfl, if_neg h]
theorem PM_o (μ : St) (p : Nat) {f : Nat} (h : f ≠ 20) : (PM μ p).1 0 f = μ.1 0 f := by unfold PM; rw [wr_get, if_pos rfl, if_neg h]
def TC (σ : St) (t : Nat) (T : Nat → Nat) : Prop := t ≤ 160 ∧ σ.1 37 0 = nI t ∧ ∀ i, i < t → 32 ≤ T i ∧ T i ≤ 126 ∧ σ.1 38 i = nI (T i)
def TM (μ : St) (t : Nat) (T : Nat → Nat) : Prop := t ≤ 160 ∧ μ.1 0 19 = nI t ∧ ∀ i, i < t → 32 ≤ T i ∧ T i ≤ 126 ∧ μ.1 11 i = nI (T i)
theorem TC.fr {σ σ' : St} {t : Nat} {T : Nat → Nat} (h : TC σ t T) (f1 : σ'.1 37 0 = σ.1 37 0) (f2 : σ'.1 38 = σ.1 38) : TC σ' t T := by
  unfold TC at h ⊢
  rw [f1, f2]
  exact h
theorem TM.fr {μ μ' : St} {t : Nat} {T : Nat → Nat} (h : TM μ t T) (f1 : μ'.1 0 19 = μ.1 0 19) (f2 : μ'.1 11 = μ.1 11) : TM μ' t T := by
  unfold TM at h ⊢
  rw [f1, f2]
  exact h
def nxF (T : Nat → Nat) : Nat → Nat → Nat
  | 0, p => p
  | j + 1, p => if T p = 32 then nxF T j (p + 1) else p
/-- the next place that is no blank -/
def nx (T : Nat → Nat) (t p : Nat) : Nat := nxF T (t - p) p
theorem nx_s {T : Nat → Nat} {t p : Nat} (h : p < t) (hb : T p = 32) : nx T t p = nx T t (p + 1) := by
  unfold nx
  obtain ⟨d, hd⟩ : ∃ d, t - p = d + 1 := ⟨t - p - 1, by omega⟩
  rw [hd, nxF, if_pos hb, show t - (p + 1) = d by omega]
theorem nx_n {T : Nat → Nat} {t p : Nat} (h : p < t) (hb : ¬ T p = 32) : nx T t p = p := by
  unfold nx
  obtain ⟨d, hd⟩ : ∃ d, t - p = d + 1 := ⟨t - p - 1, by omega⟩
  rw [hd, nxF, if_neg hb]
theorem nx_e {T : Nat → Nat} {t p : Nat} (h : t ≤ p) : nx T t p = p := by
  unfold nx
  rw [show t - p = 0 by omega, nxF]
theorem nx_r (T : Nat → Nat) (t : Nat) : ∀ (d p : Nat), p + d = t → p ≤ nx T t p ∧ nx T t p ≤ t ∧ (nx T t p < t → ¬ T (nx T t p) = 32) ∧ nx T t (nx T t p) = nx T t p
  | 0, p, h => by
    rw [nx_e (show t ≤ p by omega), nx_e (show t ≤ p by omega)]
    exact ⟨Nat.le_refl _, by omega, fun q => by omega, rfl⟩
  | d + 1, p, h => by
    by_cases hb : T p = 32
    · have ih := nx_r T t d (p + 1) (by omega)
      rw [nx_s (by omega) hb]
      exact ⟨by omega, ih.2.1, ih.2.2.1, ih.2.2.2⟩
    · rw [nx_n (by omega) hb, nx_n (by omega) hb]
      exact ⟨Nat.le_refl _, by omega, fun _ => hb, rfl⟩
theorem nx_ge {T : Nat → Nat} {t p : Nat} (h : p ≤ t) : p ≤ nx T t p := (nx_r T t (t - p) p (by omega)).1
theorem nx_le {T : Nat → Nat} {t p : Nat} (h : p ≤ t) : nx T t p ≤ t := (nx_r T t (t - p) p (by omega)).2.1
theorem nx_nx {T : Nat → Nat} {t p : Nat} (h : p ≤ t) : nx T t (nx T t p) = nx T t p := (nx_r T t (t - p) p (by omega)).2.2.2
def ltI (T : Nat → Nat) (t q : Nat) : Int32 := if q < t then nI (T q) else -1
theorem next_C {σ : St} {t : Nat} {T : Nat → Nat} (h : TC σ t T) {p : Nat} (hp : p ≤ t) : f_X5_nextLetter (PC σ p) = some (ltI T t (nx T t p), PC σ (nx T t p)) := by
  have ht := h.1
  have key : ∀ (d p m : Nat), p + d = t → d < m → f_X5_nextLetter_h0 m (PC σ p) = some (ltI T t (nx T t p), PC σ (nx T t p)) := by
    intro d
    induction d with
    | zero =>
      intro p m h1 h2
      obtain ⟨m, rfl⟩ : ∃ m', m = m' + 1 := ⟨m - 1, by omega⟩
      rw [f_X5_nextLetter_h0, PC_1, PC_o σ p (by decide), h.2.1, if_pos (by rw [nI_leE (by omega) (by omega)]; omega), nx_e (show t ≤ p by omega)]
      unfold ltI
      rw [if_neg (by omega)]
    | succ d ih =>
      intro p m h1 h2
      obtain ⟨m, rfl⟩ : ∃ m', m = m' + 1 := ⟨m - 1, by omega⟩
      have hT := h.2.2 p (by omega)
      rw [f_X5_nextLetter_h0, PC_1, PC_o σ p (by decide), h.2.1, if_neg (by rw [nI_leE (by omega) (by omega)]; omega), PC_n σ p (by decide)]
      simp only [ix_nI (show p < 2 ^ 31 by omega), ok2 (show p < 160 by omega) (show p < 2 ^ 31 by omega), if_false, hT.2.2, show (32 : Int32) = nI 32 from rfl, nI_eqE (show T p < 2 ^ 31 by omega) (show 32 < 2 ^ 31 by decide), sq, nI_s, PC_w]
      by_cases hb : T p = 32
      · rw [if_pos hb, ih (p + 1) m (by omega) (by omega), nx_s (by omega) hb]
      · rw [if_neg hb, nx_n (by omega) hb]
        unfold ltI
        rw [if_pos (by omega)]
  exact key (t - p) p FU (by omega) (by unfold FU; omega)
theorem next_M {μ : St} {t : Nat} {T : Nat → Nat} (h : TM μ t T) {p : Nat} (hp : p ≤ t) : f_X7_nextLetter (PM μ p) = some (ltI T t (nx T t p), PM μ (nx T t p)) := by
  have ht := h.1
  have key : ∀ (d p m : Nat), p + d = t → d < m → f_X7_nextLetter_h0 m (PM μ p) = some (ltI T t (nx T t p), PM μ (nx T t p)) := by
    intro d
    induction d with
    | zero =>
      intro p m h1 h2
      obtain ⟨m, rfl⟩ : ∃ m', m = m' + 1 := ⟨m - 1, by omega⟩
      have hle : nI t ≤ nI p := by rw [nI_leE (by omega) (by omega)]; omega
      rw [f_X7_nextLetter_h0, PM_1, PM_o μ p (by decide), h.2.1, if_pos hle, nx_e (show t ≤ p by omega)]
      unfold f_X7_nextLetter_b38 ltI
      rw [PM_1, PM_o μ p (by decide), h.2.1, if_pos hle, if_neg (by omega)]
    | succ d ih =>
      intro p m h1 h2
      obtain ⟨m, rfl⟩ : ∃ m', m = m' + 1 := ⟨m - 1, by omega⟩
      have hT := h.2.2 p (by omega)
      have hle : ¬ nI t ≤ nI p := by rw [nI_leE (by omega) (by omega)]; omega
      rw [f_X7_nextLetter_h0, PM_1, PM_o μ p (by decide), h.2.1, if_neg hle, PM_n μ p (by decide)]
      simp only [ix_nI (show p < 2 ^ 31 by omega), ok2 (show p < 160 by omega) (show p < 2 ^ 31 by omega), if_false, hT.2.2, show (32 : Int32) = nI 32 from rfl, nI_eqE (show T p < 2 ^ 31 by omega) (show 32 < 2 ^ 31 by decide), sq, nI_s, PM_w]
      by_cases hb : T p = 32
      · rw [if_pos hb, ih (p + 1) m (by omega) (by omega), nx_s (by omega) hb]
      · rw [if_neg hb, nx_n (by omega) hb]
        unfold f_X7_nextLetter_b38 ltI
        rw [PM_1, PM_o μ p (by decide), h.2.1, if_neg hle, PM_n μ p (by decide)]
        simp only [ix_nI (show p < 2 ^ 31 by omega), ok2 (show p < 160 by omega) (show p < 2 ^ 31 by omega), if_false, hT.2.2]
        rw [if_pos (by omega)]
  exact key (t - p) p FU (by omega) (by unfold FU; omega)
/-- the next letter is this one -/
def tkP (T : Nat → Nat) (t p c : Nat) : Prop := nx T t p < t ∧ T (nx T t p) = c
theorem lt_eq {T : Nat → Nat} {t p c : Nat} (hT : ∀ i, i < t → T i ≤ 126) (hc : c < 2 ^ 31) : (ltI T t (nx T t p) = nI c) = tkP T t p c := by
  unfold ltI tkP
  by_cases q : nx T t p < t
  · have := hT _ q
    rw [if_pos q, nI_eqE (by omega) hc]
    exact propext ⟨fun e => ⟨q, e⟩, fun e => e.2⟩
  · rw [if_neg q]
    exact propext ⟨fun e => absurd e (fun e => nI_pos hc (by rw [← e]; decide)), fun e => absurd e.1 q⟩
theorem takes_C {σ : St} {t : Nat} {T : Nat → Nat} (h : TC σ t T) {p : Nat} (hp : p ≤ t) {c : Nat} (hc : c < 2 ^ 31) : (tkP T t p c ∧ f_X5_takes (PC σ p) (nI c) = some (1, PC σ (nx T t p + 1))) ∨ (¬ tkP T t p c ∧ f_X5_takes (PC σ p) (nI c) = some (0, PC σ (nx T t p))) := by
  unfold f_X5_takes
  rw [next_C h hp]
  have e := lt_eq (T := T) (t := t) (p := p) (fun i hi => (h.2.2 i hi).2.1) hc
  simp only [bdp, sq, PC_1, nI_s, PC_w]
  by_cases q : tkP T t p c
  · rw [if_pos (e.symm ▸ q)]
    exact Or.inl ⟨q, rfl⟩
  · rw [if_neg (e.symm ▸ q)]
    exact Or.inr ⟨q, rfl⟩
theorem takes_M {μ : St} {t : Nat} {T : Nat → Nat} (h : TM μ t T) {p : Nat} (hp : p ≤ t) {c : Nat} (hc : c < 2 ^ 31) : (tkP T t p c ∧ f_X7_takes (PM μ p) (nI c) = some (1, PM μ (nx T t p + 1))) ∨ (¬ tkP T t p c ∧ f_X7_takes (PM μ p) (nI c) = some (0, PM μ (nx T t p))) := by
  unfold f_X7_takes f_X7_takes_b13
  rw [next_M h hp]
  have e := lt_eq (T := T) (t := t) (p := p) (fun i hi => (h.2.2 i hi).2.1) hc
  simp only [bdp, sq, PM_1, nI_s, PM_w, nI_p0]
  by_cases q : tkP T t p c
  · rw [if_pos (e.symm ▸ q), if_neg (show ¬ (1 : Int32) = 0 by decide), if_neg (show ¬ ¬ (1 : Int32) &&& 1 = 1 by decide)]
    exact Or.inl ⟨q, rfl⟩
  · rw [if_neg (e.symm ▸ q), if_pos trivial, if_neg (show ¬ ¬ (0 : Int32) &&& 1 = 0 by decide)]
    exact Or.inr ⟨q, rfl⟩
/-- the next letter is a figure below b -/
def fgP (T : Nat → Nat) (t p o b : Nat) : Prop := nx T t p < t ∧ o ≤ T (nx T t p) ∧ T (nx T t p) < o + b
theorem lt_sub {T : Nat → Nat} {t q o : Nat} (hT : ∀ i, i < t → T i ≤ 126) (ho : o ≤ 200) : (ltI T t q - nI o).toInt = if q < t then (T q : Int) - o else -1 - o := by
  unfold ltI
  by_cases c : q < t
  · have := hT q c
    rw [if_pos c, if_pos c, pk_sub_toInt (by omega) (by omega)]
  · rw [if_neg c, if_neg c, fb_subI (by rw [lit_T o (by omega), show (-1 : Int32).toInt = -1 by decide]; omega) (by rw [lit_T o (by omega), show (-1 : Int32).toInt = -1 by decide]; omega), lit_T o (by omega), show (-1 : Int32).toInt = -1 by decide]
theorem fg_in {T : Nat → Nat} {t p o b : Nat} (hT : ∀ i, i < t → T i ≤ 126) (ho : o ≤ 200) : (0 ≤ (ltI T t (nx T t p) - nI o).toInt ∧ (ltI T t (nx T t p) - nI o).toInt < (b : Int)) = fgP T t p o b := by
  rw [lt_sub hT ho]
  unfold fgP
  by_cases c : nx T t p < t
  · rw [if_pos c]
    exact propext ⟨fun q => ⟨c, by omega, by omega⟩, fun q => by omega⟩
  · rw [if_neg c]
    exact propext ⟨fun q => by omega, fun q => absurd q.1 c⟩
theorem fg_v {T : Nat → Nat} {t p o b : Nat} (h : fgP T t p o b) : ltI T t (nx T t p) - nI o = nI (T (nx T t p) - o) := by
  unfold ltI
  rw [if_pos h.1, nI_m h.2.1]
theorem fig_C {σ : St} {t : Nat} {T : Nat → Nat} (h : TC σ t T) {p b : Nat} (hp : p ≤ t) (hb : b ≤ 100) : (fgP T t p 48 b ∧ f_X5_takeFigure (PC σ p) (nI b) = some (nI (T (nx T t p) - 48), PC σ (nx T t p + 1))) ∨ (¬ fgP T t p 48 b ∧ f_X5_takeFigure (PC σ p) (nI b) = some (-1, PC σ (nx T t p))) := by
  have hT : ∀ i, i < t → T i ≤ 126 := fun i hi => (h.2.2 i hi).2.1
  unfold f_X5_takeFigure
  rw [next_C h hp]
  simp only [bdp, sq, PC_1, nI_s, PC_w, show (48 : Int32) = nI 48 from rfl, lt_T, T_0, lit_T b (show b < 2 ^ 31 by omega)]
  by_cases q : fgP T t p 48 b
  · have q' := q
    rw [← fg_in hT (by decide)] at q'
    rw [if_neg (by omega), if_pos q'.2, fg_v q]
    exact Or.inl ⟨q, rfl⟩
  · refine Or.inr ⟨q, ?_⟩
    rw [← fg_in hT (by decide)] at q
    by_cases c : (ltI T t (nx T t p) - nI 48).toInt < 0
    · rw [if_pos c]
    · rw [if_neg c, if_neg (by omega)]
theorem fig_M {μ : St} {t : Nat} {T : Nat → Nat} (h : TM μ t T) {p : Nat} (hp : p ≤ t) : (fgP T t p 48 6 ∧ f_X7_readFigure (PM μ p) 5 = some (nI (T (nx T t p) - 48), PM μ (nx T t p + 1))) ∨ (¬ fgP T t p 48 6 ∧ f_X7_readFigure (PM μ p) 5 = some (-1, PM μ (nx T t p))) := by
  have hT : ∀ i, i < t → T i ≤ 126 := fun i hi => (h.2.2 i hi).2.1
  unfold f_X7_readFigure
  rw [next_M h hp]
  simp only [bdp, sq, PM_1, nI_s, PM_w, show (48 : Int32) = nI 48 from rfl, in_0, toL_T, show (0 : Int64).toInt = 0 by decide, show (5 : Int32).toInt = 5 by decide]
  by_cases q : fgP T t p 48 6
  · have q' := q
    rw [← fg_in hT (by decide)] at q'
    rw [if_neg (by omega), fg_v q]
    exact Or.inl ⟨q, rfl⟩
  · refine Or.inr ⟨q, ?_⟩
    rw [← fg_in hT (by decide)] at q
    rw [if_pos (by omega)]
/-- a number: the class keeps it small in another way than the model -/
theorem num_l {σ μ : St} {t : Nat} {T : Nat → Nat} (hC : TC σ t T) (hM : TM μ t T) {b f0 : Nat} (hb : b < 1000) : ∀ (d q m v : Nat), q + d = t → d < m → f0 ≤ q → v ≤ 200000 → ∃ (r : Int32) (q' : Nat), f_X5_takeNumber_h12 (nI b) m (nI f0) (nI (min v 1000)) (PC σ q) = some (r, PC σ q') ∧ f_X7_readNumber_h12 (nI b) m (nI f0) (nI v) (PM μ q) = some (r, PM μ q') ∧ ((r = -1 ∧ q' = f0) ∨ ∃ w, w ≤ b ∧ r = nI w ∧ f0 < q' ∧ q' ≤ t) := by
  have ht := hC.1
  have fin : ∀ q v, q ≤ t → f0 ≤ q → v ≤ 200000 → ∃ (r : Int32) (q' : Nat), f_X5_takeNumber_b88 (nI b) (nI f0) (nI (min v 1000)) (PC σ q) = some (r, PC σ q') ∧ f_X7_readNumber_b87 (nI b) (nI f0) (nI v) (PM μ q) = some (r, PM μ q') ∧ ((r = -1 ∧ q' = f0) ∨ ∃ w, w ≤ b ∧ r = nI w ∧ f0 < q' ∧ q' ≤ t) := by
    intro q v h1 h2 h3
    unfold f_X5_takeNumber_b88 f_X7_readNumber_b87 f_X5_takeNumber_b103 f_X7_readNumber_b100
    simp only [PC_1, PM_1, sq, PC_w, PM_w, nI_leE (show q < 2 ^ 31 by omega) (show f0 < 2 ^ 31 by omega), nI_eqE (show q < 2 ^ 31 by omega) (show f0 < 2 ^ 31 by omega), nI_ltE (show b < 2 ^ 31 by omega) (show min v 1000 < 2 ^ 31 by omega), nI_leE (show v < 2 ^ 31 by omega) (show b < 2 ^ 31 by omega)]
    by_cases c1 : q = f0
    · rw [if_pos (show q ≤ f0 by omega), if_pos c1]
      exact ⟨-1, f0, rfl, rfl, Or.inl ⟨rfl, rfl⟩⟩
    · rw [if_neg (show ¬ q ≤ f0 by omega), if_neg c1]
      by_cases c2 : v ≤ b
      · rw [if_neg (show ¬ b < min v 1000 by omega), if_pos c2, show min v 1000 = v by omega]
        exact ⟨nI v, q, rfl, rfl, Or.inr ⟨v, c2, rfl, by omega, h1⟩⟩
      · rw [if_pos (show b < min v 1000 by omega), if_neg c2]
        exact ⟨-1, f0, rfl, rfl, Or.inl ⟨rfl, rfl⟩⟩
  intro d
  induction d with
  | zero =>
    intro q m v h1 h2 h3 h4
    obtain ⟨m, rfl⟩ : ∃ m', m = m' + 1 := ⟨m - 1, by omega⟩
    have hle : nI t ≤ nI q := by rw [nI_leE (by omega) (by omega)]; omega
    rw [f_X5_takeNumber_h12, f_X7_readNumber_h12, PC_1, PM_1, PC_o σ q (by decide), PM_o μ q (by decide), hC.2.1, hM.2.1, if_pos hle, if_pos hle]
    exact fin q v (by omega) h3 h4
  | succ d ih =>
    intro q m v h1 h2 h3 h4
    obtain ⟨m, rfl⟩ : ∃ m', m = m' + 1 := ⟨m - 1, by omega⟩
    have hle : ¬ nI t ≤ nI q := by rw [nI_leE (by omega) (by omega)]; omega
    have hT := hC.2.2 q (by omega)
    have hT2 := hM.2.2 q (by omega)
    have e1 : (f_X7_in (nI (T q)).toInt64 48 57 = 0) = ¬ (48 ≤ T q ∧ T q ≤ 57) := by
      rw [in_0, toL_T, lit_T (T q) (by omega), show (48 : Int64).toInt = 48 by decide, show (57 : Int64).toInt = 57 by decide]
      exact propext ⟨fun q => by omega, fun q => by omega⟩
    rw [f_X5_takeNumber_h12, f_X7_readNumber_h12, PC_1, PM_1, PC_o σ q (by decide), PM_o μ q (by decide), hC.2.1, hM.2.1, if_neg hle, if_neg hle, PC_n σ q (by decide), PM_n μ q (by decide)]
    simp only [ix_nI (show q < 2 ^ 31 by omega), ok2 (show q < 160 by omega) (show q < 2 ^ 31 by omega), if_false, hT.2.2, hT2.2.2, e1, show (48 : Int32) = nI 48 from rfl, show (57 : Int32) = nI 57 from rfl, nI_ltE (show T q < 2 ^ 31 by omega) (show 48 < 2 ^ 31 by decide), nI_ltE (show 57 < 2 ^ 31 by decide) (show T q < 2 ^ 31 by omega), sq, nI_s, PC_w, PM_w, PM_1, f_X7_readNumber_b73]
    by_cases c : 48 ≤ T q ∧ T q ≤ 57
    · rw [if_neg (show ¬ T q < 48 by omega), if_neg (show ¬ 57 < T q by omega), if_neg (not_not_intro c)]
      have eC : imin (nI (min v 1000) * 10 + nI (T q) - nI 48) 1000 = nI (min (10 * min v 1000 + (T q - 48)) 1000) := by
        rw [show (10 : Int32) = nI 10 from rfl, pk_mul, nI_k, nI_m (by omega), show min v 1000 * 10 + T q - 48 = 10 * min v 1000 + (T q - 48) by omega]
        unfold imin
        rw [show (1000 : Int32) = nI 1000 from rfl]
        simp only [nI_ltE (show 1000 < 2 ^ 31 by decide) (show 10 * min v 1000 + (T q - 48) < 2 ^ 31 by omega)]
        split
        · congr 1; omega
        · congr 1; omega
      rw [eC, show (9999 : Int32) = nI 9999 from rfl]
      by_cases c2 : v ≤ 9999
      · rw [if_pos (show nI v ≤ nI 9999 by rw [nI_leE (by omega) (by omega)]; exact c2), show (10 : Int32) = nI 10 from rfl, pk_mul, nI_k, nI_m (show 48 ≤ 10 * v + T q by omega)]
        have e := ih (q + 1) m (10 * v + T q - 48) (by omega) (by omega) (by omega) (by omega)
        rw [show min (10 * v + T q - 48) 1000 = min (10 * min v 1000 + (T q - 48)) 1000 by omega] at e
        exact e
      · rw [if_neg (show ¬ nI v ≤ nI 9999 by rw [nI_leE (by omega) (by omega)]; exact c2)]
        have e := ih (q + 1) m v (by omega) (by omega) (by omega) h4
        rw [show min v 1000 = min (10 * min v 1000 + (T q - 48)) 1000 by omega] at e
        exact e
    · rw [if_pos c]
      by_cases c1 : T q < 48
      · rw [if_pos c1]
        exact fin q v (by omega) h3 h4
      · rw [if_neg c1, if_pos (show 57 < T q by omega)]
        exact fin q v (by omega) h3 h4
theorem num_J {σ μ : St} {t : Nat} {T : Nat → Nat} (hC : TC σ t T) (hM : TM μ t T) {b p : Nat} (hb : b < 1000) (hp : p ≤ t) : ∃ (r : Int32) (q' : Nat), f_X5_takeNumber (PC σ p) (nI b) = some (r, PC σ q') ∧ f_X7_readNumber (PM μ p) (nI b) = some (r, PM μ q') ∧ ((r = -1 ∧ q' = nx T t p) ∨ ∃ w, w ≤ b ∧ r = nI w ∧ nx T t p < q' ∧ q' ≤ t) := by
  have h1 := nx_le (T := T) hp
  have ht := hC.1
  obtain ⟨r, q', e1, e2, e3⟩ := num_l hC hM (f0 := nx T t p) hb (t - nx T t p) (nx T t p) FU 0 (by omega) (by unfold FU; omega) (Nat.le_refl _) (by omega)
  refine ⟨r, q', ?_, ?_, e3⟩
  · unfold f_X5_takeNumber
    rw [next_C hC hp]
    simp only [bdp, sq, PC_1]
    exact e1
  · unfold f_X7_readNumber
    rw [next_M hM hp]
    simp only [bdp, sq, PM_1]
    exact e2
