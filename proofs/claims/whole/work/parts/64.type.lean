/-! ===== frames ===== -/
theorem CA.cg {a : Nat → Nat → Nat} {V V' : Nat → Nat → Int32} (h : CA a V) (e : ∀ k, k ≤ 17 → V' k = V k) : CA a V' := by
  unfold CA at h ⊢
  simp only [e 0 (by decide), e 1 (by decide), e 2 (by decide), e 3 (by decide), e 4 (by decide), e 5 (by decide), e 6 (by decide), e 7 (by decide), e 8 (by decide), e 9 (by decide), e 10 (by decide), e 11 (by decide), e 12 (by decide), e 13 (by decide), e 14 (by decide), e 15 (by decide), e 16 (by decide), e 17 (by decide)]
  exact h
theorem MA.cg {a : Nat → Nat → Nat} {U U' : Nat → Nat → Int32} (h : MA a U) (e : ∀ k, k ≤ 10 → U' k = U k) : MA a U' := by
  unfold MA at h ⊢
  simp only [e 0 (by decide), e 1 (by decide), e 2 (by decide), e 3 (by decide), e 4 (by decide), e 5 (by decide), e 6 (by decide), e 7 (by decide), e 8 (by decide), e 9 (by decide), e 10 (by decide)]
  exact h
theorem ul_cg {μ μ' : St} (g0 : ∀ f, f ≠ 19 → f ≠ 20 → f ≠ 21 → μ'.1 0 f = μ.1 0 f) (gm : ∀ c, 1 ≤ c → c ≤ 10 → μ'.1 c = μ.1 c) : ∀ k, k ≤ 10 → ul μ' k = ul μ k := by
  intro k hk
  unfold ul
  by_cases k0 : k = 0
  · rw [if_pos k0, if_pos k0]
    funext i
    simp only [g0 3 (by decide) (by decide) (by decide), g0 8 (by decide) (by decide) (by decide), g0 10 (by decide) (by decide) (by decide), g0 7 (by decide) (by decide) (by decide), g0 11 (by decide) (by decide) (by decide), g0 13 (by decide) (by decide) (by decide), g0 14 (by decide) (by decide) (by decide), g0 17 (by decide) (by decide) (by decide)]
  · rw [if_neg k0, if_neg k0]
    exact gm k (by omega) hk
/-- a change outside of the live and the kept parish -/
theorem RR.oth {σ σ' μ μ' : St} {nw nw' : Nat} (h : RR σ nw μ) (fc : ∀ c, c ≤ 36 → σ'.1 c = σ.1 c) (g0 : ∀ f, f ≠ 19 → f ≠ 20 → f ≠ 21 → μ'.1 0 f = μ.1 0 f) (gm : ∀ c, 1 ≤ c → c ≤ 10 → μ'.1 c = μ.1 c) (g16 : μ'.1 16 = μ.1 16) (ht : Rtape σ' μ') (hs : Rsh σ' μ') (hn : nw' ≤ 4096) : RR σ' nw' μ' := by
  obtain ⟨⟨a, I, hC, hM⟩, hk, -, -, -⟩ := h
  refine ⟨⟨a, I, hC.cg (fun k hk => fc (1 + k) (by omega)), hM.cg (ul_cg g0 gm)⟩, ?_, ht, hs, hn⟩
  unfold Rkept at hk ⊢
  rw [fc 0 (by decide), g0 26 (by decide) (by decide) (by decide)]
  rcases hk with hk | ⟨k1, k2, b, J, hC', hM'⟩
  · exact Or.inl hk
  · refine Or.inr ⟨k1, k2, b, J, hC'.cg (fun k hk => fc (19 + k) (by omega)), hM'.cg (fun k _ => ?_)⟩
    funext i
    unfold uk
    rw [g16]
theorem wl_1 (σ : St) (c i : Nat) (x : Int64) : (wl σ c i x).1 = σ.1 := rfl
theorem wl_get (σ : St) (c i : Nat) (x : Int64) (d j : Nat) : (wl σ c i x).2 d j = if d = c then (if j = i then x else σ.2 d j) else σ.2 d j := by
  unfold wl
  by_cases h : d = c
  · subst h
    simp only [if_true]
    by_cases q : j = i
    · rw [if_pos q, q]; exact pk_uLs
    · rw [if_neg q]; exact pk_uLn q
  · simp only [h, if_false]
theorem wl_ne {σ : St} {c i : Nat} {x : Int64} {d : Nat} (h : d ≠ c) : (wl σ c i x).2 d = σ.2 d := by
  unfold wl; simp only [h, if_false]
theorem wr_2 (σ : St) (c i : Nat) (x : Int32) : (wr σ c i x).2 = σ.2 := rfl
theorem Rtape.fr {σ σ' μ μ' : St} (h : Rtape σ μ) (f37 : σ'.1 37 0 = σ.1 37 0) (f38 : σ'.1 38 = σ.1 38) (g19 : μ'.1 0 19 = μ.1 0 19) (g11 : μ'.1 11 = μ.1 11) : Rtape σ' μ' := by
  unfold Rtape at h ⊢
  rw [f37, f38, g19, g11]
  exact h
theorem op10 : Op10 RR := by
  intro σ nw μ hR x
  obtain ⟨-, -, ⟨t, ht, t1, t2, t3⟩, hs, hn⟩ := id hR
  unfold f_X6_type f_X7_type f_X5_add
  simp only [toL_T, in_0, lt_T, le_T, T_0, show (32 : Int64).toInt = 32 by decide, show (126 : Int64).toInt = 126 by decide, show (32 : Int32).toInt = 32 by decide, show (126 : Int32).toInt = 126 by decide]
  by_cases v : 32 ≤ x.toInt ∧ x.toInt ≤ 126
  · obtain ⟨c, hc, rfl⟩ := nI_ofR (n := 127) (x := x) ⟨by omega, by omega⟩ (by decide)
    rw [lit_T c (by omega)] at v
    rw [if_neg (by rw [lit_T c (by omega)]; omega), if_pos (by rw [lit_T c (by omega)]; omega), if_neg (show ¬ ¬ (32 ≤ (nI c).toInt ∧ (nI c).toInt ≤ 126) by rw [lit_T c (by omega)]; omega), t1, t2]
    simp only [lit_T t (show t < 2 ^ 31 by omega), show (160 : Int32).toInt = 160 by decide, show (nI t = 160) = (t = 160) from nI_eqE (b := 160) (show t < 2 ^ 31 by omega) (by decide)]
    by_cases q : t = 160
    · rw [if_neg (by omega), if_pos q]
      exact ⟨_, _, _, rfl, rfl, hR⟩
    · rw [if_pos (by omega), if_neg q]
      simp only [ix_nI (show t < 2 ^ 31 by omega), show ((t : Int) < 0 ∨ 160 ≤ t) = False from eq_false (by omega), if_pos (show (t : Int) < 160 by omega), if_false, sq, bdr]
      have b1 : vp_nar .byte ((nI c).toInt8.toInt32) = nI c := by rw [pk_vb, fa_byte_small (by omega)]
      rw [b1]
      have e1 : (wr σ 38 t (nI c)).1 37 0 = nI t := by rw [wr_ne (by decide)]; exact t1
      have e2 : (wr μ 11 t (nI c)).1 0 19 = nI t := by rw [wr_ne (by decide)]; exact t2
      rw [e1, e2, nI_s]
      refine ⟨_, _, _, rfl, by rfl, hR.oth ?_ ?_ ?_ ?_ ?_ ?_ hn⟩
      · intro d hd
        rw [wr_ne (by omega), wr_ne (by omega)]
      · intro f h1 h2 h3
        rw [wr_get, if_pos rfl, if_neg h1, wr_ne (by decide)]
      · intro d h1 h2
        rw [wr_ne (by omega), wr_ne (by omega)]
      · rw [wr_ne (by decide), wr_ne (by decide)]
      · refine ⟨t + 1, by omega, ?_, ?_, ?_⟩
        · rw [wr_get, if_pos rfl, if_pos rfl]
        · rw [wr_get, if_pos rfl, if_pos rfl]
        · intro i hi
          have f1 : (wr (wr σ 38 t (nI c)) 37 0 (nI (t + 1))).1 38 i = if i = t then nI c else σ.1 38 i := by rw [wr_ne (by decide), wr_get, if_pos rfl]
          have f2 : (wr (wr μ 11 t (nI c)) 0 19 (nI (t + 1))).1 11 i = if i = t then nI c else μ.1 11 i := by rw [wr_ne (by decide), wr_get, if_pos rfl]
          rw [f1, f2]
          by_cases qi : i = t
          · rw [if_pos qi, if_pos qi]
            exact ⟨c, by omega, by omega, rfl, rfl⟩
          · rw [if_neg qi, if_neg qi]
            exact t3 i (by omega)
      · exact hs.fr (fun d hd => by rw [wr_ne (by omega), wr_ne (by omega)]) rfl (by rw [wr_ne (by decide), wr_ne (by decide)]) (by rw [wr_ne (by decide), wr_ne (by decide)]) rfl
  · rw [if_pos v]
    refine ⟨-1, σ, μ, ?_, rfl, hR⟩
    (repeat' split) <;> first | rfl | (exfalso; omega)

