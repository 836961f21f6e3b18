set_option maxHeartbeats 4000000 in
set_option maxRecDepth 20000 in
theorem c_X3_weightsOfHearing (l : Launch) (D : va_G) (K : Kt) (ad : Nat → Nat) (nw : Nat) (σ : St) (x1 : Int32) (x2 : Int32) (x3 : Int32) {r : Int32} (hf : f_X3_weightsOfHearing σ x1 x2 x3 = some r) : CtI l yX3_weightsOfHearing cX3_weightsOfHearing 6 (some .int) 3 72 D K [.ref (ad 1), .int x1, .int x2, .int x3] (wC ad K nw σ) r (wC ad K nw σ) := by
  refine met_i pl_RX3 (Nat.le_of_ble_eq_true rfl) (fun X hnL B RET => ?_)
  suffices h : MW X (wC ad K nw σ) 0 [some (.ref (ad 1)), some (.int x1), some (.int x2), some (.int x3), none, none] [] from h
  unfold f_X3_weightsOfHearing at hf
  refine r_iconst B (pc := 0) dX3_weightsOfHearing_0 kc_0 ?_
  refine r_istore B hnL (pc := 1) dX3_weightsOfHearing_1 (by decide) ?_
  refine r_lc (loc' := [some (.ref (ad 1)), some (.int x1), some (.int x2), some (.int x3), some (.int 0), none]) rfl ?_
  refine r_iconst B (pc := 3) dX3_weightsOfHearing_3 kc_0 ?_
  refine r_istore B hnL (pc := 4) dX3_weightsOfHearing_4 (by decide) ?_
  refine r_lc (loc' := [some (.ref (ad 1)), some (.int x1), some (.int x2), some (.int x3), some (.int 0), some (.int 0)]) rfl ?_
  have k6 : ∀ (n6 : Nat) (v4 : Int32) (v5 : Int32), f_X3_weightsOfHearing_h6 σ x1 x2 x3 n6 v4 v5 = some r → MW X (wC ad K nw σ) 6 [some (.ref (ad 1)), some (.int x1), some (.int x2), some (.int x3), some (.int v4), some (.int v5)] [] := by
    intro n6
    induction n6 with
    | zero => intro v4 v5 hf; exact nn_z hf
    | succ n6 ih6 =>
      intro v4 v5 hf
      rw [f_X3_weightsOfHearing_h6] at hf
      refine r_iload B (pc := 6) dX3_weightsOfHearing_6 rfl ?_
      refine r_iconst B (pc := 8) dX3_weightsOfHearing_8 kc_5 ?_
      refine r_icmp_ge B (pc := 9) (tgt := 45) dX3_weightsOfHearing_9 (by decide) hf (fun _ hf => ?_) (fun _ hf => ?_)
      · refine r_iload B (pc := 45) dX3_weightsOfHearing_45 rfl ?_
        exact e_rz hf (nar_i _) (RET 47 _ dX3_weightsOfHearing_47)
      · refine r_iload_n B (pc := 12) dX3_weightsOfHearing_12 rfl rfl ?_
        refine r_aload_n B (pc := 13) dX3_weightsOfHearing_13 rfl rfl ?_
        refine r_iload_n B (pc := 14) dX3_weightsOfHearing_14 rfl rfl ?_
        refine r_iload_n B (pc := 15) dX3_weightsOfHearing_15 rfl rfl ?_
        refine r_iload B (pc := 16) dX3_weightsOfHearing_16 rfl ?_
        obtain ⟨r2, hc1, hf⟩ := bdr_e hf
        refine r_cVI B (c_X3_hearers X.l X.D K ad nw σ x1 x2 v5 hc1) F_X3_hearers lk_RX3_155 (q0 := 1) (ci := 3) rfl rfl (Nat.le_of_ble_eq_true rfl) (Nat.le_of_ble_eq_true rfl) (Nat.le_of_ble_eq_true rfl) (pc := 18) dX3_weightsOfHearing_18 rfl ?_
        refine r_iconst B (pc := 21) dX3_weightsOfHearing_21 kc_m1 ?_
        refine r_ixor B (pc := 22) dX3_weightsOfHearing_22 ?_
        refine r_iand B (pc := 23) dX3_weightsOfHearing_23 ?_
        refine r_if_ne B (pc := 24) (tgt := 39) dX3_weightsOfHearing_24 (by decide) hf (fun _ hf => ?_) (fun _ hf => ?_)
        · refine r_iincS B hnL (pc := 39) dX3_weightsOfHearing_39 rfl kc_1 (by decide) hf (fun y3 hf => ?_)
          refine r_lc (loc' := [some (.ref (ad 1)), some (.int x1), some (.int x2), some (.int x3), some (.int v4), some (.int y3)]) rfl ?_
          refine r_goto B (pc := 42) (tgt := 6) dX3_weightsOfHearing_42 (by decide) ?_
          exact r_mask [true, true, true, true, true, true] rfl (ih6 v4 y3 hf)
        · refine r_iload B (pc := 27) dX3_weightsOfHearing_27 rfl ?_
          refine r_aload_n B (pc := 29) dX3_weightsOfHearing_29 rfl rfl ?_
          refine gC_RX3_36_1 B (pc := 30) dX3_weightsOfHearing_30 ?_
          refine r_iload B (pc := 33) dX3_weightsOfHearing_33 rfl ?_
          refine aldC_15 B (pc := 35) dX3_weightsOfHearing_35 hf (fun _ hf => ?_)
          refine r_iadd B (pc := 36) dX3_weightsOfHearing_36 ?_
          refine r_nm hf (fun y4 hf => ?_)
          refine r_istore B hnL (pc := 37) dX3_weightsOfHearing_37 (by decide) ?_
          refine r_lc (loc' := [some (.ref (ad 1)), some (.int x1), some (.int x2), some (.int x3), some (.int y4), some (.int v5)]) rfl ?_
          refine r_iincS B hnL (pc := 39) dX3_weightsOfHearing_39 rfl kc_1 (by decide) hf (fun y5 hf => ?_)
          refine r_lc (loc' := [some (.ref (ad 1)), some (.int x1), some (.int x2), some (.int x3), some (.int y4), some (.int y5)]) rfl ?_
          refine r_goto B (pc := 42) (tgt := 6) dX3_weightsOfHearing_42 (by decide) ?_
          exact r_mask [true, true, true, true, true, true] rfl (ih6 y4 y5 hf)
  exact r_mask [true, true, true, true, true, true] rfl (k6 FU 0 0 hf)
set_option maxHeartbeats 4000000 in
set_option maxRecDepth 20000 in
theorem c_X6_inLowestTerms (l : Launch) (D : va_G) (K : Kt) (w : va_W) (x0 : Int32) (x1 : Int32) {r : Int32} (hf : f_X6_inLowestTerms x0 x1 = some r) : CtI l yX6_inLowestTerms cX6_inLowestTerms 3 (some .int) 1 21 D K [.int x0, .int x1] w r w := by
  refine met_i pl_RX6 (Nat.le_of_ble_eq_true rfl) (fun X hnL B RET => ?_)
  suffices h : MW X w 0 [some (.int x0), some (.int x1), none] [] from h
  unfold f_X6_inLowestTerms at hf
  refine r_iload_n B (pc := 0) dX6_inLowestTerms_0 rfl rfl ?_
  refine r_iload_n B (pc := 1) dX6_inLowestTerms_1 rfl rfl ?_
  refine r_mmax B lk_RX6_362 F_Math_max (Nat.le_of_ble_eq_true rfl) (Nat.le_of_ble_eq_true rfl) (pc := 2) dX6_inLowestTerms_2 ?_
  refine r_nm hf (fun y1 hf => ?_)
  refine r_istore_n B hnL (pc := 5) dX6_inLowestTerms_5 rfl (by decide) ?_
  refine r_lc (loc' := [some (.int x0), some (.int x1), some (.int y1)]) rfl ?_
  have k6 : ∀ (n6 : Nat) (v2 : Int32), f_X6_inLowestTerms_h6 x0 x1 n6 v2 = some r → MW X w 6 [some (.int x0), some (.int x1), some (.int v2)] [] := by
    intro n6
    induction n6 with
    | zero => intro v2 hf; exact nn_z hf
    | succ n6 ih6 =>
      intro v2 hf
      rw [f_X6_inLowestTerms_h6] at hf
      refine r_iload_n B (pc := 6) dX6_inLowestTerms_6 rfl rfl ?_
      refine r_iconst B (pc := 7) dX6_inLowestTerms_7 kc_1 ?_
      refine r_icmp_le B (pc := 8) (tgt := 33) dX6_inLowestTerms_8 (by decide) hf (fun _ hf => ?_) (fun _ hf => ?_)
      · refine r_iload_n B (pc := 33) dX6_inLowestTerms_33 rfl rfl ?_
        exact e_rz hf (nar_i _) (RET 34 _ dX6_inLowestTerms_34)
      · refine r_iload_n B (pc := 11) dX6_inLowestTerms_11 rfl rfl ?_
        refine r_iload_n B (pc := 12) dX6_inLowestTerms_12 rfl rfl ?_
        refine r_iremS B (pc := 13) dX6_inLowestTerms_13 hf (fun _ hf => ?_)
        refine r_if_ne B (pc := 14) (tgt := 27) dX6_inLowestTerms_14 (by decide) hf (fun _ hf => ?_) (fun _ hf => ?_)
        · refine r_iincS B hnL (pc := 27) dX6_inLowestTerms_27 rfl kc_m1 (by decide) hf (fun y2 hf => ?_)
          refine r_lc (loc' := [some (.int x0), some (.int x1), some (.int y2)]) rfl ?_
          refine r_goto B (pc := 30) (tgt := 6) dX6_inLowestTerms_30 (by decide) ?_
          exact r_mask [true, true, true] rfl (ih6 y2 hf)
        · refine r_iload_n B (pc := 17) dX6_inLowestTerms_17 rfl rfl ?_
          refine r_iload_n B (pc := 18) dX6_inLowestTerms_18 rfl rfl ?_
          refine r_iremS B (pc := 19) dX6_inLowestTerms_19 hf (fun _ hf => ?_)
          refine r_if_ne B (pc := 20) (tgt := 27) dX6_inLowestTerms_20 (by decide) hf (fun _ hf => ?_) (fun _ hf => ?_)
          · refine r_iincS B hnL (pc := 27) dX6_inLowestTerms_27 rfl kc_m1 (by decide) hf (fun y3 hf => ?_)
            refine r_lc (loc' := [some (.int x0), some (.int x1), some (.int y3)]) rfl ?_
            refine r_goto B (pc := 30) (tgt := 6) dX6_inLowestTerms_30 (by decide) ?_
            exact r_mask [true, true, true] rfl (ih6 y3 hf)
          · refine r_iload_n B (pc := 23) dX6_inLowestTerms_23 rfl rfl ?_
            refine r_iload_n B (pc := 24) dX6_inLowestTerms_24 rfl rfl ?_
            refine r_idivS B (pc := 25) dX6_inLowestTerms_25 hf (fun _ hf => ?_)
            exact e_rz hf (nar_i _) (RET 26 _ dX6_inLowestTerms_26)
  exact r_mask [true, true, true] rfl (k6 FU y1 hf)
set_option maxHeartbeats 4000000 in
set_option maxRecDepth 20000 in
theorem c_X6_chance (l : Launch) (D : va_G) (K : Kt) (ad : Nat → Nat) (nw : Nat) (σ : St) (x1 : Int32) (x2 : Int32) (x3 : Int32) (x4 : Int32) {r : Int32} (hf : f_X6_chance σ x1 x2 x3 x4 = some r) : CtI l yX6_chance cX6_chance 7 (some .int) 4 97 D K [.ref (ad 0), .int x1, .int x2, .int x3, .int x4] (wC ad K nw σ) r (wC ad K nw σ) := by
  refine met_i pl_RX6 (Nat.le_of_ble_eq_true rfl) (fun X hnL B RET => ?_)
  suffices h : MW X (wC ad K nw σ) 0 [some (.ref (ad 0)), some (.int x1), some (.int x2), some (.int x3), some (.int x4), none, none] [] from h
  unfold f_X6_chance at hf
  refine r_aload_n B (pc := 0) dX6_chance_0 rfl rfl ?_
  refine r_iload_n B (pc := 1) dX6_chance_1 rfl rfl ?_
  refine r_i2l B (pc := 2) dX6_chance_2 ?_
  refine r_cVI B (c_X6_isReader X.l X.D K ad nw σ (x1.toInt64)) F_X6_isReader lk_RX6_224 (q0 := 0) (ci := 6) rfl rfl (Nat.le_of_ble_eq_true rfl) (Nat.le_of_ble_eq_true rfl) (Nat.le_of_ble_eq_true rfl) (pc := 3) dX6_chance_3 rfl ?_
  refine r_if_eq B (pc := 6) (tgt := 36) dX6_chance_6 (by decide) hf (fun _ hf => ?_) (fun _ hf => ?_)
  · refine r_iconst B (pc := 36) dX6_chance_36 kc_m1 ?_
    exact e_rz hf (nar_i _) (RET 37 _ dX6_chance_37)
  · refine r_iload_n B (pc := 9) dX6_chance_9 rfl rfl ?_
    refine r_i2l B (pc := 10) dX6_chance_10 ?_
    refine r_cSI B (c_X6_isPlace X.l X.D K _ (x2.toInt64)) F_X6_isPlace lk_RX6_68 (Nat.le_of_ble_eq_true rfl) (Nat.le_of_ble_eq_true rfl) (Nat.le_of_ble_eq_true rfl) (pc := 11) dX6_chance_11 rfl ?_
    refine r_if_eq B (pc := 14) (tgt := 36) dX6_chance_14 (by decide) hf (fun _ hf => ?_) (fun _ hf => ?_)
    · refine r_iconst B (pc := 36) dX6_chance_36 kc_m1 ?_
      exact e_rz hf (nar_i _) (RET 37 _ dX6_chance_37)
    · refine r_aload_n B (pc := 17) dX6_chance_17 rfl rfl ?_
      refine r_iload_n B (pc := 18) dX6_chance_18 rfl rfl ?_
      refine r_cVI B (c_X6_isGraveSet X.l X.D K ad nw σ x3) F_X6_isGraveSet lk_RX6_283 (q0 := 0) (ci := 6) rfl rfl (Nat.le_of_ble_eq_true rfl) (Nat.le_of_ble_eq_true rfl) (Nat.le_of_ble_eq_true rfl) (pc := 19) dX6_chance_19 rfl ?_
      refine r_if_eq B (pc := 22) (tgt := 36) dX6_chance_22 (by decide) hf (fun _ hf => ?_) (fun _ hf => ?_)
      · refine r_iconst B (pc := 36) dX6_chance_36 kc_m1 ?_
        exact e_rz hf (nar_i _) (RET 37 _ dX6_chance_37)
      · refine r_iload B (pc := 25) dX6_chance_25 rfl ?_
        refine r_if_lt B (pc := 27) (tgt := 36) dX6_chance_27 (by decide) hf (fun _ hf => ?_) (fun _ hf => ?_)
        · refine r_iconst B (pc := 36) dX6_chance_36 kc_m1 ?_
          exact e_rz hf (nar_i _) (RET 37 _ dX6_chance_37)
        · refine r_iload B (pc := 30) dX6_chance_30 rfl ?_
          refine r_iconst B (pc := 32) dX6_chance_32 kc_1 ?_
          refine r_icmp_le B (pc := 33) (tgt := 38) dX6_chance_33 (by decide) hf (fun _ hf => ?_) (fun _ hf => ?_)
          · refine r_aload_n B (pc := 38) dX6_chance_38 rfl rfl ?_
            refine gC_RX6_10_0 B (pc := 39) dX6_chance_39 ?_
            obtain ⟨r2, hc1, hf⟩ := bdr_e hf
            refine r_cVI B (c_X3_allWeights X.l X.D K ad nw σ hc1) F_X3_allWeights lk_RX6_286 (q0 := 1) (ci := 3) rfl rfl (Nat.le_of_ble_eq_true rfl) (Nat.le_of_ble_eq_true rfl) (Nat.le_of_ble_eq_true rfl) (pc := 42) dX6_chance_42 rfl ?_
            refine r_istore B hnL (pc := 45) dX6_chance_45 (by decide) ?_
            refine r_lc (loc' := [some (.ref (ad 0)), some (.int x1), some (.int x2), some (.int x3), some (.int x4), some (.int r2), none]) rfl ?_
            refine r_iload B (pc := 47) dX6_chance_47 rfl ?_
            refine r_if_ne B (pc := 49) (tgt := 55) dX6_chance_49 (by decide) hf (fun _ hf => ?_) (fun _ hf => ?_)
            · refine r_aload_n B (pc := 55) dX6_chance_55 rfl rfl ?_
              refine gC_RX6_10_0 B (pc := 56) dX6_chance_56 ?_
              refine r_iload_n B (pc := 59) dX6_chance_59 rfl rfl ?_
              refine r_iload_n B (pc := 60) dX6_chance_60 rfl rfl ?_
              refine r_iload_n B (pc := 61) dX6_chance_61 rfl rfl ?_
              obtain ⟨r4, hc3, hf⟩ := bdr_e hf
              refine r_cVI B (c_X3_weightsOfHearing X.l X.D K ad nw σ x1 x2 x3 hc3) F_X3_weightsOfHearing lk_RX6_289 (q0 := 1) (ci := 3) rfl rfl (Nat.le_of_ble_eq_true rfl) (Nat.le_of_ble_eq_true rfl) (Nat.le_of_ble_eq_true rfl) (pc := 62) dX6_chance_62 rfl ?_
              refine r_istore B hnL (pc := 65) dX6_chance_65 (by decide) ?_
              refine r_lc (loc' := [some (.ref (ad 0)), some (.int x1), some (.int x2), some (.int x3), some (.int x4), some (.int r2), some (.int r4)]) rfl ?_
              refine r_iload B (pc := 67) dX6_chance_67 rfl ?_
              refine r_if_ne B (pc := 69) (tgt := 82) dX6_chance_69 (by decide) hf (fun _ hf => ?_) (fun _ hf => ?_)
              · refine r_iload B (pc := 82) dX6_chance_82 rfl ?_
                refine r_iload B (pc := 84) dX6_chance_84 rfl ?_
                obtain ⟨r6, hc5, hf⟩ := bdr_e hf
                refine r_cSI B (c_X6_inLowestTerms X.l X.D K _ r2 r4 hc5) F_X6_inLowestTerms lk_RX6_292 (Nat.le_of_ble_eq_true rfl) (Nat.le_of_ble_eq_true rfl) (Nat.le_of_ble_eq_true rfl) (pc := 86) dX6_chance_86 rfl ?_
                exact e_rz hf (nar_i _) (RET 89 _ dX6_chance_89)
              · refine r_iload B (pc := 72) dX6_chance_72 rfl ?_
                refine r_iload B (pc := 74) dX6_chance_74 rfl ?_
                obtain ⟨r8, hc7, hf⟩ := bdr_e hf
                refine r_cSI B (c_X6_inLowestTerms X.l X.D K _ r4 r2 hc7) F_X6_inLowestTerms lk_RX6_292 (Nat.le_of_ble_eq_true rfl) (Nat.le_of_ble_eq_true rfl) (Nat.le_of_ble_eq_true rfl) (pc := 76) dX6_chance_76 rfl ?_
                refine r_goto B (pc := 79) (tgt := 89) dX6_chance_79 (by decide) ?_
                exact e_rz hf (nar_i _) (RET 89 _ dX6_chance_89)
            · refine r_bipush B (pc := 52) dX6_chance_52 kb_m2 ?_
              exact e_rz hf (nar_i _) (RET 54 _ dX6_chance_54)
          · refine r_iconst B (pc := 36) dX6_chance_36 kc_m1 ?_
            exact e_rz hf (nar_i _) (RET 37 _ dX6_chance_37)
set_option maxHeartbeats 4000000 in
set_option maxRecDepth 20000 in
theorem c_X6_likeliest (l : Launch) (D : va_G) (K : Kt) (ad : Nat → Nat) (nw : Nat) (σ : St) (x1 : Int32) (x2 : Int32) {r : Int32} (hf : f_X6_likeliest σ x1 x2 = some r) : CtI l yX6_likeliest cX6_likeliest 7 (some .int) 4 97 D K [.ref (ad 0), .int x1, .int x2] (wC ad K nw σ) r (wC ad K nw σ) := by
  refine met_i pl_RX6 (Nat.le_of_ble_eq_true rfl) (fun X hnL B RET => ?_)
  suffices h : MW X (wC ad K nw σ) 0 [some (.ref (ad 0)), some (.int x1), some (.int x2), none, none, none, none] [] from h
  unfold f_X6_likeliest at hf
  refine r_aload_n B (pc := 0) dX6_likeliest_0 rfl rfl ?_
  refine r_iload_n B (pc := 1) dX6_likeliest_1 rfl rfl ?_
  refine r_i2l B (pc := 2) dX6_likeliest_2 ?_
  refine r_cVI B (c_X6_isReader X.l X.D K ad nw σ (x1.toInt64)) F_X6_isReader lk_RX6_224 (q0 := 0) (ci := 6) rfl rfl (Nat.le_of_ble_eq_true rfl) (Nat.le_of_ble_eq_true rfl) (Nat.le_of_ble_eq_true rfl) (pc := 3) dX6_likeliest_3 rfl ?_
  refine r_if_eq B (pc := 6) (tgt := 17) dX6_likeliest_6 (by decide) hf (fun _ hf => ?_) (fun _ hf => ?_)
  · refine r_iconst B (pc := 17) dX6_likeliest_17 kc_m1 ?_
    exact e_rz hf (nar_i _) (RET 18 _ dX6_likeliest_18)
  · refine r_aload_n B (pc := 9) dX6_likeliest_9 rfl rfl ?_
    refine r_iload_n B (pc := 10) dX6_likeliest_10 rfl rfl ?_
    refine r_cVI B (c_X6_isGraveSet X.l X.D K ad nw σ x2) F_X6_isGraveSet lk_RX6_283 (q0 := 0) (ci := 6) rfl rfl (Nat.le_of_ble_eq_true rfl) (Nat.le_of_ble_eq_true rfl) (Nat.le_of_ble_eq_true rfl) (pc := 11) dX6_likeliest_11 rfl ?_
    refine r_if_ne B (pc := 14) (tgt := 19) dX6_likeliest_14 (by decide) hf (fun _ hf => ?_) (fun _ hf => ?_)
    · refine r_aload_n B (pc := 19) dX6_likeliest_19 rfl rfl ?_
      refine gC_RX6_10_0 B (pc := 20) dX6_likeliest_20 ?_
      obtain ⟨r2, hc1, hf⟩ := bdr_e hf
      refine r_cVI B (c_X3_allWeights X.l X.D K ad nw σ hc1) F_X3_allWeights lk_RX6_286 (q0 := 1) (ci := 3) rfl rfl (Nat.le_of_ble_eq_true rfl) (Nat.le_of_ble_eq_true rfl) (Nat.le_of_ble_eq_true rfl) (pc := 23) dX6_likeliest_23 rfl ?_
      refine r_if_ne B (pc := 26) (tgt := 32) dX6_likeliest_26 (by decide) hf (fun _ hf => ?_) (fun _ hf => ?_)
      · refine r_iconst B (pc := 32) dX6_likeliest_32 kc_0 ?_
        refine r_istore_n B hnL (pc := 33) dX6_likeliest_33 rfl (by decide) ?_
        refine r_lc (loc' := [some (.ref (ad 0)), some (.int x1), some (.int x2), some (.int 0), none, none, none]) rfl ?_
        refine r_iconst B (pc := 34) dX6_likeliest_34 kc_0 ?_
        refine r_istore B hnL (pc := 35) dX6_likeliest_35 (by decide) ?_
        refine r_lc (loc' := [some (.ref (ad 0)), some (.int x1), some (.int x2), some (.int 0), some (.int 0), none, none]) rfl ?_
        refine r_iconst B (pc := 37) dX6_likeliest_37 kc_0 ?_
        refine r_istore B hnL (pc := 38) dX6_likeliest_38 (by decide) ?_
        refine r_lc (loc' := [some (.ref (ad 0)), some (.int x1), some (.int x2), some (.int 0), some (.int 0), some (.int 0), none]) rfl ?_
        have k40 : ∀ (n40 : Nat) (v3 : Int32) (v4 : Int32) (v5 : Int32), f_X6_likeliest_h40 σ x1 x2 n40 v3 v4 v5 = some r → MW X (wC ad K nw σ) 40 [some (.ref (ad 0)), some (.int x1), some (.int x2), some (.int v3), some (.int v4), some (.int v5), none] [] := by
          intro n40
          induction n40 with
          | zero => intro v3 v4 v5 hf; exact nn_z hf
          | succ n40 ih40 =>
            intro v3 v4 v5 hf
            rw [f_X6_likeliest_h40] at hf
            refine r_iload B (pc := 40) dX6_likeliest_40 rfl ?_
            refine r_bipush B (pc := 42) dX6_likeliest_42 kb_36 ?_
            refine r_icmp_ge B (pc := 44) (tgt := 80) dX6_likeliest_44 (by decide) hf (fun _ hf => ?_) (fun _ hf => ?_)
            · refine r_iload_n B (pc := 80) dX6_likeliest_80 rfl rfl ?_
              exact e_rz hf (nar_i _) (RET 81 _ dX6_likeliest_81)
            · refine r_aload_n B (pc := 47) dX6_likeliest_47 rfl rfl ?_
              refine gC_RX6_10_0 B (pc := 48) dX6_likeliest_48 ?_
              refine r_iload_n B (pc := 51) dX6_likeliest_51 rfl rfl ?_
              refine r_iload B (pc := 52) dX6_likeliest_52 rfl ?_
              refine r_iload_n B (pc := 54) dX6_likeliest_54 rfl rfl ?_
              obtain ⟨r4, hc3, hf⟩ := bdr_e hf
              refine r_cVI B (c_X3_weightsOfHearing X.l X.D K ad nw σ x1 v5 x2 hc3) F_X3_weightsOfHearing lk_RX6_289 (q0 := 1) (ci := 3) rfl rfl (Nat.le_of_ble_eq_true rfl) (Nat.le_of_ble_eq_true rfl) (Nat.le_of_ble_eq_true rfl) (pc := 55) dX6_likeliest_55 rfl ?_
              refine r_istore B hnL (pc := 58) dX6_likeliest_58 (by decide) ?_
              refine r_lc (loc' := [some (.ref (ad 0)), some (.int x1), some (.int x2), some (.int v3), some (.int v4), some (.int v5), some (.int r4)]) rfl ?_
              refine r_iload B (pc := 60) dX6_likeliest_60 rfl ?_
              refine r_iload B (pc := 62) dX6_likeliest_62 rfl ?_
              refine r_icmp_le B (pc := 64) (tgt := 74) dX6_likeliest_64 (by decide) hf (fun _ hf => ?_) (fun _ hf => ?_)
              · refine r_iincS B hnL (pc := 74) dX6_likeliest_74 rfl kc_1 (by decide) hf (fun y5 hf => ?_)
                refine r_lc (loc' := [some (.ref (ad 0)), some (.int x1), some (.int x2), some (.int v3), some (.int v4), some (.int y5), some (.int r4)]) rfl ?_
                refine r_goto B (pc := 77) (tgt := 40) dX6_likeliest_77 (by decide) ?_
                exact r_mask [true, true, true, true, true, true, false] rfl (ih40 v3 v4 y5 hf)
              · refine r_iload B (pc := 67) dX6_likeliest_67 rfl ?_
                refine r_istore B hnL (pc := 69) dX6_likeliest_69 (by decide) ?_
                refine r_lc (loc' := [some (.ref (ad 0)), some (.int x1), some (.int x2), some (.int v3), some (.int r4), some (.int v5), some (.int r4)]) rfl ?_
                refine r_iload B (pc := 71) dX6_likeliest_71 rfl ?_
                refine r_istore_n B hnL (pc := 73) dX6_likeliest_73 rfl (by decide) ?_
                refine r_lc (loc' := [some (.ref (ad 0)), some (.int x1), some (.int x2), some (.int v5), some (.int r4), some (.int v5), some (.int r4)]) rfl ?_
                refine r_iincS B hnL (pc := 74) dX6_likeliest_74 rfl kc_1 (by decide) hf (fun y6 hf => ?_)
                refine r_lc (loc' := [some (.ref (ad 0)), some (.int x1), some (.int x2), some (.int v5), some (.int r4), some (.int y6), some (.int r4)]) rfl ?_
                refine r_goto B (pc := 77) (tgt := 40) dX6_likeliest_77 (by decide) ?_
                exact r_mask [true, true, true, true, true, true, false] rfl (ih40 v5 r4 y6 hf)
        exact r_mask [true, true, true, true, true, true, false] rfl (k40 FU 0 0 0 hf)
      · refine r_bipush B (pc := 29) dX6_likeliest_29 kb_m2 ?_
        exact e_rz hf (nar_i _) (RET 31 _ dX6_likeliest_31)
    · refine r_iconst B (pc := 17) dX6_likeliest_17 kc_m1 ?_
      exact e_rz hf (nar_i _) (RET 18 _ dX6_likeliest_18)
set_option maxHeartbeats 4000000 in
set_option maxRecDepth 20000 in
theorem c_X6_more (l : Launch) (D : va_G) (K : Kt) (ad : Nat → Nat) (nw : Nat) (σ : St) (x1 : Int32) (x2 : Int32) {r : Int32} (hf : f_X6_more σ x1 x2 = some r) : CtI l yX6_more cX6_more 3 (some .int) 1 21 D K [.ref (ad 0), .int x1, .int x2] (wC ad K nw σ) r (wC ad K nw σ) := by
  refine met_i pl_RX6 (Nat.le_of_ble_eq_true rfl) (fun X hnL B RET => ?_)
  suffices h : MW X (wC ad K nw σ) 0 [some (.ref (ad 0)), some (.int x1), some (.int x2)] [] from h
  unfold f_X6_more at hf
  refine r_aload_n B (pc := 0) dX6_more_0 rfl rfl ?_
  refine r_iload_n B (pc := 1) dX6_more_1 rfl rfl ?_
  refine r_cVI B (c_X6_isGrave X.l X.D K ad nw σ x1) F_X6_isGrave lk_RX6_125 (q0 := 0) (ci := 6) rfl rfl (Nat.le_of_ble_eq_true rfl) (Nat.le_of_ble_eq_true rfl) (Nat.le_of_ble_eq_true rfl) (pc := 2) dX6_more_2 rfl ?_
  refine r_if_eq B (pc := 5) (tgt := 16) dX6_more_5 (by decide) hf (fun _ hf => ?_) (fun _ hf => ?_)
  · refine r_iconst B (pc := 16) dX6_more_16 kc_m1 ?_
    exact e_rz hf (nar_i _) (RET 17 _ dX6_more_17)
  · refine r_aload_n B (pc := 8) dX6_more_8 rfl rfl ?_
    refine r_iload_n B (pc := 9) dX6_more_9 rfl rfl ?_
    refine r_cVI B (c_X6_isGrave X.l X.D K ad nw σ x2) F_X6_isGrave lk_RX6_125 (q0 := 0) (ci := 6) rfl rfl (Nat.le_of_ble_eq_true rfl) (Nat.le_of_ble_eq_true rfl) (Nat.le_of_ble_eq_true rfl) (pc := 10) dX6_more_10 rfl ?_
    refine r_if_ne B (pc := 13) (tgt := 18) dX6_more_13 (by decide) hf (fun _ hf => ?_) (fun _ hf => ?_)
    · refine r_aload_n B (pc := 18) dX6_more_18 rfl rfl ?_
      refine gC_RX6_10_0 B (pc := 19) dX6_more_19 ?_
      refine gC_RX6_72_1 B (pc := 22) dX6_more_22 ?_
      refine gC_RX6_137_2 B (pc := 25) dX6_more_25 ?_
      refine r_iload_n B (pc := 28) dX6_more_28 rfl rfl ?_
      refine aldC_6 B (pc := 29) dX6_more_29 hf (fun _ hf => ?_)
      refine r_aload_n B (pc := 30) dX6_more_30 rfl rfl ?_
      refine gC_RX6_10_0 B (pc := 31) dX6_more_31 ?_
      refine gC_RX6_72_1 B (pc := 34) dX6_more_34 ?_
      refine gC_RX6_137_2 B (pc := 37) dX6_more_37 ?_
      refine r_iload_n B (pc := 40) dX6_more_40 rfl rfl ?_
      refine aldC_6 B (pc := 41) dX6_more_41 hf (fun _ hf => ?_)
      refine r_iconst B (pc := 42) dX6_more_42 kc_m1 ?_
      refine r_ixor B (pc := 43) dX6_more_43 ?_
      refine r_iand B (pc := 44) dX6_more_44 ?_
      exact e_rz hf (nar_i _) (RET 45 _ dX6_more_45)
    · refine r_iconst B (pc := 16) dX6_more_16 kc_m1 ?_
      exact e_rz hf (nar_i _) (RET 17 _ dX6_more_17)
set_option maxHeartbeats 4000000 in
set_option maxRecDepth 20000 in
theorem c_X3_heardInWrongOrder (l : Launch) (D : va_G) (K : Kt) (ad : Nat → Nat) (nw : Nat) (σ : St) (x1 : Int32) (x2 : Int32) (x3 : Int32) {r : Int32} (hf : f_X3_heardInWrongOrder σ x1 x2 x3 = some r) : CtI l yX3_heardInWrongOrder cX3_heardInWrongOrder 5 (some .boolean) 1 21 D K [.ref (ad 1), .int x1, .int x2, .int x3] (wC ad K nw σ) r (wC ad K nw σ) := by
  refine met_i pl_RX3 (Nat.le_of_ble_eq_true rfl) (fun X hnL B RET => ?_)
  suffices h : MW X (wC ad K nw σ) 0 [some (.ref (ad 1)), some (.int x1), some (.int x2), some (.int x3), none] [] from h
  unfold f_X3_heardInWrongOrder at hf
  refine r_aload_n B (pc := 0) dX3_heardInWrongOrder_0 rfl rfl ?_
  refine gC_RX3_12_1 B (pc := 1) dX3_heardInWrongOrder_1 ?_
  refine gC_RX3_126_2 B (pc := 4) dX3_heardInWrongOrder_4 ?_
  refine r_iload_n B (pc := 7) dX3_heardInWrongOrder_7 rfl rfl ?_
  refine aldC_6 B (pc := 8) dX3_heardInWrongOrder_8 hf (fun _ hf => ?_)
  refine r_nm hf (fun y1 hf => ?_)
  refine r_istore B hnL (pc := 9) dX3_heardInWrongOrder_9 (by decide) ?_
  refine r_lc (loc' := [some (.ref (ad 1)), some (.int x1), some (.int x2), some (.int x3), some (.int y1)]) rfl ?_
  refine r_aload_n B (pc := 11) dX3_heardInWrongOrder_11 rfl rfl ?_
  refine gC_RX3_21_1 B (pc := 12) dX3_heardInWrongOrder_12 ?_
  refine gC_RX3_152_9 B (pc := 15) dX3_heardInWrongOrder_15 ?_
  refine r_iload_n B (pc := 18) dX3_heardInWrongOrder_18 rfl rfl ?_
  refine aldC_11 B (pc := 19) dX3_heardInWrongOrder_19 hf (fun _ hf => ?_)
  refine r_iload_n B (pc := 20) dX3_heardInWrongOrder_20 rfl rfl ?_
  refine r_cNI B (c_X6_has X.l X.D K _ (σ.1 11 (ix x3)) x2) F_X6_has nk_RX3_108 (Nat.le_of_ble_eq_true rfl) (Nat.le_of_ble_eq_true rfl) (Nat.le_of_ble_eq_true rfl) (pc := 21) dX3_heardInWrongOrder_21 rfl ?_
  refine r_if_eq B (pc := 24) (tgt := 45) dX3_heardInWrongOrder_24 (by decide) hf (fun _ hf => ?_) (fun _ hf => ?_)
  · refine r_iconst B (pc := 45) dX3_heardInWrongOrder_45 kc_0 ?_
    exact e_rz hf rfl (RET 46 _ dX3_heardInWrongOrder_46)
  · refine r_iload B (pc := 27) dX3_heardInWrongOrder_27 rfl ?_
    refine r_iload_n B (pc := 29) dX3_heardInWrongOrder_29 rfl rfl ?_
    refine r_cNI B (c_X6_has X.l X.D K _ y1 x2) F_X6_has nk_RX3_108 (Nat.le_of_ble_eq_true rfl) (Nat.le_of_ble_eq_true rfl) (Nat.le_of_ble_eq_true rfl) (pc := 30) dX3_heardInWrongOrder_30 rfl ?_
    refine r_if_eq B (pc := 33) (tgt := 45) dX3_heardInWrongOrder_33 (by decide) hf (fun _ hf => ?_) (fun _ hf => ?_)
    · refine r_iconst B (pc := 45) dX3_heardInWrongOrder_45 kc_0 ?_
      exact e_rz hf rfl (RET 46 _ dX3_heardInWrongOrder_46)
    · refine r_iload B (pc := 36) dX3_heardInWrongOrder_36 rfl ?_
      refine r_iload_n B (pc := 38) dX3_heardInWrongOrder_38 rfl rfl ?_
      refine r_cNI B (c_X6_has X.l X.D K _ y1 x3) F_X6_has nk_RX3_108 (Nat.le_of_ble_eq_true rfl) (Nat.le_of_ble_eq_true rfl) (Nat.le_of_ble_eq_true rfl) (pc := 39) dX3_heardInWrongOrder_39 rfl ?_
      refine r_if_ne B (pc := 42) (tgt := 47) dX3_heardInWrongOrder_42 (by decide) hf (fun _ hf => ?_) (fun _ hf => ?_)
      · refine r_aload_n B (pc := 47) dX3_heardInWrongOrder_47 rfl rfl ?_
        refine gC_RX3_12_1 B (pc := 48) dX3_heardInWrongOrder_48 ?_
        refine gC_RX3_162_2 B (pc := 51) dX3_heardInWrongOrder_51 ?_
        refine r_iload_n B (pc := 54) dX3_heardInWrongOrder_54 rfl rfl ?_
        refine r_bipush B (pc := 55) dX3_heardInWrongOrder_55 kb_12 ?_
        refine r_imul B (pc := 57) dX3_heardInWrongOrder_57 ?_
        refine r_iload_n B (pc := 58) dX3_heardInWrongOrder_58 rfl rfl ?_
        refine r_iadd B (pc := 59) dX3_heardInWrongOrder_59 ?_
        refine aldC_8 B (pc := 60) dX3_heardInWrongOrder_60 hf (fun _ hf => ?_)
        refine r_aload_n B (pc := 61) dX3_heardInWrongOrder_61 rfl rfl ?_
        refine gC_RX3_12_1 B (pc := 62) dX3_heardInWrongOrder_62 ?_
        refine gC_RX3_162_2 B (pc := 65) dX3_heardInWrongOrder_65 ?_
        refine r_iload_n B (pc := 68) dX3_heardInWrongOrder_68 rfl rfl ?_
        refine r_bipush B (pc := 69) dX3_heardInWrongOrder_69 kb_12 ?_
        refine r_imul B (pc := 71) dX3_heardInWrongOrder_71 ?_
        refine r_iload_n B (pc := 72) dX3_heardInWrongOrder_72 rfl rfl ?_
        refine r_iadd B (pc := 73) dX3_heardInWrongOrder_73 ?_
        refine aldC_8 B (pc := 74) dX3_heardInWrongOrder_74 hf (fun _ hf => ?_)
        refine r_icmp_ge B (pc := 75) (tgt := 82) dX3_heardInWrongOrder_75 (by decide) hf (fun _ hf => ?_) (fun _ hf => ?_)
        · refine r_iconst B (pc := 82) dX3_heardInWrongOrder_82 kc_0 ?_
          exact e_rz hf rfl (RET 83 _ dX3_heardInWrongOrder_83)
        · refine r_iconst B (pc := 78) dX3_heardInWrongOrder_78 kc_1 ?_
          refine r_goto B (pc := 79) (tgt := 83) dX3_heardInWrongOrder_79 (by decide) ?_
          exact e_rz hf rfl (RET 83 _ dX3_heardInWrongOrder_83)
      · refine r_iconst B (pc := 45) dX3_heardInWrongOrder_45 kc_0 ?_
        exact e_rz hf rfl (RET 46 _ dX3_heardInWrongOrder_46)
set_option maxHeartbeats 4000000 in
set_option maxRecDepth 20000 in
theorem c_X6_sooner (l : Launch) (D : va_G) (K : Kt) (ad : Nat → Nat) (nw : Nat) (σ : St) (x1 : Int32) (x2 : Int32) {r : Int32} (hf : f_X6_sooner σ x1 x2 = some r) : CtI l yX6_sooner cX6_sooner 6 (some .int) 2 45 D K [.ref (ad 0), .int x1, .int x2] (wC ad K nw σ) r (wC ad K nw σ) := by
  refine met_i pl_RX6 (Nat.le_of_ble_eq_true rfl) (fun X hnL B RET => ?_)
  suffices h : MW X (wC ad K nw σ) 0 [some (.ref (ad 0)), some (.int x1), some (.int x2), none, none, none] [] from h
  unfold f_X6_sooner at hf
  refine r_aload_n B (pc := 0) dX6_sooner_0 rfl rfl ?_
  refine r_iload_n B (pc := 1) dX6_sooner_1 rfl rfl ?_
  refine r_cVI B (c_X6_isGrave X.l X.D K ad nw σ x1) F_X6_isGrave lk_RX6_125 (q0 := 0) (ci := 6) rfl rfl (Nat.le_of_ble_eq_true rfl) (Nat.le_of_ble_eq_true rfl) (Nat.le_of_ble_eq_true rfl) (pc := 2) dX6_sooner_2 rfl ?_
  refine r_if_eq B (pc := 5) (tgt := 17) dX6_sooner_5 (by decide) hf (fun _ hf => ?_) (fun _ hf => ?_)
  · refine r_iconst B (pc := 17) dX6_sooner_17 kc_m1 ?_
    exact e_rz hf (nar_i _) (RET 18 _ dX6_sooner_18)
  · refine r_iload_n B (pc := 8) dX6_sooner_8 rfl rfl ?_
    refine r_if_lt B (pc := 9) (tgt := 17) dX6_sooner_9 (by decide) hf (fun _ hf => ?_) (fun _ hf => ?_)
    · refine r_iconst B (pc := 17) dX6_sooner_17 kc_m1 ?_
      exact e_rz hf (nar_i _) (RET 18 _ dX6_sooner_18)
    · refine r_iload_n B (pc := 12) dX6_sooner_12 rfl rfl ?_
      refine r_iconst B (pc := 13) dX6_sooner_13 kc_1 ?_
      refine r_icmp_le B (pc := 14) (tgt := 19) dX6_sooner_14 (by decide) hf (fun _ hf => ?_) (fun _ hf => ?_)
      · refine r_iconst B (pc := 19) dX6_sooner_19 kc_0 ?_
        refine r_istore_n B hnL (pc := 20) dX6_sooner_20 rfl (by decide) ?_
        refine r_lc (loc' := [some (.ref (ad 0)), some (.int x1), some (.int x2), some (.int 0), none, none]) rfl ?_
        refine r_iconst B (pc := 21) dX6_sooner_21 kc_0 ?_
        refine r_istore B hnL (pc := 22) dX6_sooner_22 (by decide) ?_
        refine r_lc (loc' := [some (.ref (ad 0)), some (.int x1), some (.int x2), some (.int 0), some (.int 0), none]) rfl ?_
        have k24 : ∀ (n24 : Nat) (v3 : Int32) (v4 : Int32), f_X6_sooner_h24 σ x1 x2 n24 v3 v4 = some r → MW X (wC ad K nw σ) 24 [some (.ref (ad 0)), some (.int x1), some (.int x2), some (.int v3), some (.int v4), none] [] := by
          intro n24
          induction n24 with
          | zero => intro v3 v4 hf; exact nn_z hf
          | succ n24 ih24 =>
            intro v3 v4 hf
            rw [f_X6_sooner_h24] at hf
            refine r_iload B (pc := 24) dX6_sooner_24 rfl ?_
            refine r_aload_n B (pc := 26) dX6_sooner_26 rfl rfl ?_
            refine gC_RX6_10_0 B (pc := 27) dX6_sooner_27 ?_
            refine gC_RX6_96_1 B (pc := 30) dX6_sooner_30 ?_
            refine gC_RX6_103_9 B (pc := 33) dX6_sooner_33 ?_
            refine r_icmp_ge B (pc := 36) (tgt := 104) dX6_sooner_36 (by decide) hf (fun _ hf => ?_) (fun _ hf => ?_)
            · refine r_iload_n B (pc := 104) dX6_sooner_104 rfl rfl ?_
              refine r_iconst B (pc := 105) dX6_sooner_105 kc_1 ?_
              refine r_icmp_ne B (pc := 106) (tgt := 114) dX6_sooner_106 (by decide) hf (fun _ hf => ?_) (fun _ hf => ?_)
              · refine r_iload_n B (pc := 114) dX6_sooner_114 rfl rfl ?_
                exact e_rz hf (nar_i _) (RET 115 _ dX6_sooner_115)
              · refine r_bipush B (pc := 109) dX6_sooner_109 kb_m4 ?_
                refine r_goto B (pc := 111) (tgt := 115) dX6_sooner_111 (by decide) ?_
                exact e_rz hf (nar_i _) (RET 115 _ dX6_sooner_115)
            · refine r_iconst B (pc := 39) dX6_sooner_39 kc_0 ?_
              refine r_istore B hnL (pc := 40) dX6_sooner_40 (by decide) ?_
              refine r_lc (loc' := [some (.ref (ad 0)), some (.int x1), some (.int x2), some (.int v3), some (.int v4), some (.int 0)]) rfl ?_
              have k42 : ∀ (n42 : Nat) (v3 : Int32) (v4 : Int32) (v5 : Int32), f_X6_sooner_h42 (f_X6_sooner_h24 σ x1 x2 n24) σ x1 x2 n42 v3 v4 v5 = some r → MW X (wC ad K nw σ) 42 [some (.ref (ad 0)), some (.int x1), some (.int x2), some (.int v3), some (.int v4), some (.int v5)] [] := by
                intro n42
                induction n42 with
                | zero => intro v3 v4 v5 hf; exact nn_z hf
                | succ n42 ih42 =>
                  intro v3 v4 v5 hf
                  rw [f_X6_sooner_h42] at hf
                  refine r_iload B (pc := 42) dX6_sooner_42 rfl ?_
                  refine r_aload_n B (pc := 44) dX6_sooner_44 rfl rfl ?_
                  refine gC_RX6_10_0 B (pc := 45) dX6_sooner_45 ?_
                  refine gC_RX6_96_1 B (pc := 48) dX6_sooner_48 ?_
                  refine gC_RX6_103_9 B (pc := 51) dX6_sooner_51 ?_
                  refine r_icmp_ge B (pc := 54) (tgt := 98) dX6_sooner_54 (by decide) hf (fun _ hf => ?_) (fun _ hf => ?_)
                  · refine r_iincS B hnL (pc := 98) dX6_sooner_98 rfl kc_1 (by decide) hf (fun y1 hf => ?_)
                    refine r_lc (loc' := [some (.ref (ad 0)), some (.int x1), some (.int x2), some (.int v3), some (.int y1), some (.int v5)]) rfl ?_
                    refine r_goto B (pc := 101) (tgt := 24) dX6_sooner_101 (by decide) ?_
                    exact r_mask [true, true, true, true, true, false] rfl (ih24 v3 y1 hf)
                  · refine r_aload_n B (pc := 57) dX6_sooner_57 rfl rfl ?_
                    refine gC_RX6_10_0 B (pc := 58) dX6_sooner_58 ?_
                    refine r_iload_n B (pc := 61) dX6_sooner_61 rfl rfl ?_
                    refine r_iload B (pc := 62) dX6_sooner_62 rfl ?_
                    refine r_iload B (pc := 64) dX6_sooner_64 rfl ?_
                    obtain ⟨r3, hc2, hf⟩ := bdr_e hf
                    refine r_cVI B (c_X3_heardInWrongOrder X.l X.D K ad nw σ x1 v4 v5 hc2) F_X3_heardInWrongOrder lk_RX6_296 (q0 := 1) (ci := 3) rfl rfl (Nat.le_of_ble_eq_true rfl) (Nat.le_of_ble_eq_true rfl) (Nat.le_of_ble_eq_true rfl) (pc := 66) dX6_sooner_66 rfl ?_
                    refine r_if_ne B (pc := 69) (tgt := 75) dX6_sooner_69 (by decide) hf (fun _ hf => ?_) (fun _ hf => ?_)
                    · refine r_iload_n B (pc := 75) dX6_sooner_75 rfl rfl ?_
                      refine r_iconst B (pc := 76) dX6_sooner_76 kc_1 ?_
                      refine r_icmp_ne B (pc := 77) (tgt := 89) dX6_sooner_77 (by decide) hf (fun _ hf => ?_) (fun _ hf => ?_)
                      · refine r_iincS B hnL (pc := 89) dX6_sooner_89 rfl kc_1 (by decide) hf (fun y4 hf => ?_)
                        refine r_lc (loc' := [some (.ref (ad 0)), some (.int x1), some (.int x2), some (.int y4), some (.int v4), some (.int v5)]) rfl ?_
                        refine r_iincS B hnL (pc := 92) dX6_sooner_92 rfl kc_1 (by decide) hf (fun y5 hf => ?_)
                        refine r_lc (loc' := [some (.ref (ad 0)), some (.int x1), some (.int x2), some (.int y4), some (.int v4), some (.int y5)]) rfl ?_
                        refine r_goto B (pc := 95) (tgt := 42) dX6_sooner_95 (by decide) ?_
                        exact r_mask [true, true, true, true, true, true] rfl (ih42 y4 v4 y5 hf)
                      · refine r_bipush B (pc := 80) dX6_sooner_80 kb_100 ?_
                        refine r_iload B (pc := 82) dX6_sooner_82 rfl ?_
                        refine r_imul B (pc := 84) dX6_sooner_84 ?_
                        refine r_iload B (pc := 85) dX6_sooner_85 rfl ?_
                        refine r_iadd B (pc := 87) dX6_sooner_87 ?_
                        exact e_rz hf (nar_i _) (RET 88 _ dX6_sooner_88)
                    · refine r_goto B (pc := 72) (tgt := 92) dX6_sooner_72 (by decide) ?_
                      refine r_iincS B hnL (pc := 92) dX6_sooner_92 rfl kc_1 (by decide) hf (fun y6 hf => ?_)
                      refine r_lc (loc' := [some (.ref (ad 0)), some (.int x1), some (.int x2), some (.int v3), some (.int v4), some (.int y6)]) rfl ?_
                      refine r_goto B (pc := 95) (tgt := 42) dX6_sooner_95 (by decide) ?_
                      exact r_mask [true, true, true, true, true, true] rfl (ih42 v3 v4 y6 hf)
              exact r_mask [true, true, true, true, true, true] rfl (k42 FU v3 v4 0 hf)
        exact r_mask [true, true, true, true, true, false] rfl (k24 FU 0 0 hf)
      · refine r_iconst B (pc := 17) dX6_sooner_17 kc_m1 ?_
        exact e_rz hf (nar_i _) (RET 18 _ dX6_sooner_18)
set_option maxHeartbeats 4000000 in
set_option maxRecDepth 20000 in
theorem c_X6_hidden (l : Launch) (D : va_G) (K : Kt) (ad : Nat → Nat) (nw : Nat) (σ : St) (x1 : Int32) (x2 : Int32) {r : Int64} (hf : f_X6_hidden σ x1 x2 = some r) : CtL l yX6_hidden cX6_hidden 6 (some .long) 3 72 D K [.ref (ad 0), .int x1, .int x2] (wC ad K nw σ) r (wC ad K nw σ) := by
  refine met_l pl_RX6 (Nat.le_of_ble_eq_true rfl) (fun X hnL B RET => ?_)
  suffices h : MW X (wC ad K nw σ) 0 [some (.ref (ad 0)), some (.int x1), some (.int x2), none, none, none] [] from h
  unfold f_X6_hidden at hf
  refine r_aload_n B (pc := 0) dX6_hidden_0 rfl rfl ?_
  refine r_iload_n B (pc := 1) dX6_hidden_1 rfl rfl ?_
  refine r_i2l B (pc := 2) dX6_hidden_2 ?_
  refine r_cVI B (c_X6_isReader X.l X.D K ad nw σ (x1.toInt64)) F_X6_isReader lk_RX6_224 (q0 := 0) (ci := 6) rfl rfl (Nat.le_of_ble_eq_true rfl) (Nat.le_of_ble_eq_true rfl) (Nat.le_of_ble_eq_true rfl) (pc := 3) dX6_hidden_3 rfl ?_
  refine r_if_eq B (pc := 6) (tgt := 17) dX6_hidden_6 (by decide) hf (fun _ hf => ?_) (fun _ hf => ?_)
  · refine r_ldc2 B (pc := 17) kp_RX6_299 dX6_hidden_17 ?_
    exact e_rl hf (RET 20 _ dX6_hidden_20)
  · refine r_aload_n B (pc := 9) dX6_hidden_9 rfl rfl ?_
    refine r_iload_n B (pc := 10) dX6_hidden_10 rfl rfl ?_
    refine r_cVI B (c_X6_isGraveSet X.l X.D K ad nw σ x2) F_X6_isGraveSet lk_RX6_283 (q0 := 0) (ci := 6) rfl rfl (Nat.le_of_ble_eq_true rfl) (Nat.le_of_ble_eq_true rfl) (Nat.le_of_ble_eq_true rfl) (pc := 11) dX6_hidden_11 rfl ?_
    refine r_if_ne B (pc := 14) (tgt := 21) dX6_hidden_14 (by decide) hf (fun _ hf => ?_) (fun _ hf => ?_)
    · refine r_lconst B (pc := 21) dX6_hidden_21 kl_0 ?_
      refine r_lstore_n B hnL (pc := 22) dX6_hidden_22 rfl (by decide) ?_
      refine r_lc (loc' := [some (.ref (ad 0)), some (.int x1), some (.int x2), some (.long 0), none, none]) rfl ?_
      refine r_iconst B (pc := 23) dX6_hidden_23 kc_0 ?_
      refine r_istore B hnL (pc := 24) dX6_hidden_24 (by decide) ?_
      refine r_lc (loc' := [some (.ref (ad 0)), some (.int x1), some (.int x2), some (.long 0), none, some (.int 0)]) rfl ?_
      have k26 : ∀ (n26 : Nat) (v3 : Int64) (v5 : Int32), f_X6_hidden_h26 σ x1 x2 n26 v3 v5 = some r → MW X (wC ad K nw σ) 26 [some (.ref (ad 0)), some (.int x1), some (.int x2), some (.long v3), none, some (.int v5)] [] := by
        intro n26
        induction n26 with
        | zero => intro v3 v5 hf; exact nn_z hf
        | succ n26 ih26 =>
          intro v3 v5 hf
          rw [f_X6_hidden_h26] at hf
          refine r_iload B (pc := 26) dX6_hidden_26 rfl ?_
          refine r_bipush B (pc := 28) dX6_hidden_28 kb_36 ?_
          refine r_icmp_ge B (pc := 30) (tgt := 68) dX6_hidden_30 (by decide) hf (fun _ hf => ?_) (fun _ hf => ?_)
          · refine r_lload_n B (pc := 68) dX6_hidden_68 rfl rfl ?_
            exact e_rl hf (RET 69 _ dX6_hidden_69)
          · refine r_aload_n B (pc := 33) dX6_hidden_33 rfl rfl ?_
            refine gC_RX6_10_0 B (pc := 34) dX6_hidden_34 ?_
            refine r_iload_n B (pc := 37) dX6_hidden_37 rfl rfl ?_
            refine r_iload B (pc := 38) dX6_hidden_38 rfl ?_
            refine r_aload_n B (pc := 40) dX6_hidden_40 rfl rfl ?_
            refine gC_RX6_10_0 B (pc := 41) dX6_hidden_41 ?_
            refine gC_RX6_116_1 B (pc := 44) dX6_hidden_44 ?_
            obtain ⟨r2, hc1, hf⟩ := bdr_e hf
            refine r_cVI B (c_X3_hearers X.l X.D K ad nw σ x1 v5 (σ.1 1 4) hc1) F_X3_hearers lk_RX6_227 (q0 := 1) (ci := 3) rfl rfl (Nat.le_of_ble_eq_true rfl) (Nat.le_of_ble_eq_true rfl) (Nat.le_of_ble_eq_true rfl) (pc := 47) dX6_hidden_47 rfl ?_
            refine r_iload_n B (pc := 50) dX6_hidden_50 rfl rfl ?_
            refine r_iand B (pc := 51) dX6_hidden_51 ?_
            refine r_if_ne B (pc := 52) (tgt := 62) dX6_hidden_52 (by decide) hf (fun _ hf => ?_) (fun _ hf => ?_)
            · refine r_iincS B hnL (pc := 62) dX6_hidden_62 rfl kc_1 (by decide) hf (fun y3 hf => ?_)
              refine r_lc (loc' := [some (.ref (ad 0)), some (.int x1), some (.int x2), some (.long v3), none, some (.int y3)]) rfl ?_
              refine r_goto B (pc := 65) (tgt := 26) dX6_hidden_65 (by decide) ?_
              exact r_mask [true, true, true, true, false, true] rfl (ih26 v3 y3 hf)
            · refine r_lload_n B (pc := 55) dX6_hidden_55 rfl rfl ?_
              refine r_lconst B (pc := 56) dX6_hidden_56 kl_1 ?_
              refine r_iload B (pc := 57) dX6_hidden_57 rfl ?_
              refine r_lshl B (pc := 59) dX6_hidden_59 ?_
              refine r_lor B (pc := 60) dX6_hidden_60 ?_
              refine r_nml hf (fun y4 hf => ?_)
              refine r_lstore_n B hnL (pc := 61) dX6_hidden_61 rfl (by decide) ?_
              refine r_lc (loc' := [some (.ref (ad 0)), some (.int x1), some (.int x2), some (.long y4), none, some (.int v5)]) rfl ?_
              refine r_iincS B hnL (pc := 62) dX6_hidden_62 rfl kc_1 (by decide) hf (fun y5 hf => ?_)
              refine r_lc (loc' := [some (.ref (ad 0)), some (.int x1), some (.int x2), some (.long y4), none, some (.int y5)]) rfl ?_
              refine r_goto B (pc := 65) (tgt := 26) dX6_hidden_65 (by decide) ?_
              exact r_mask [true, true, true, true, false, true] rfl (ih26 y4 y5 hf)
      exact r_mask [true, true, true, true, false, true] rfl (k26 FU 0 0 hf)
    · refine r_ldc2 B (pc := 17) kp_RX6_299 dX6_hidden_17 ?_
      exact e_rl hf (RET 20 _ dX6_hidden_20)
set_option maxHeartbeats 4000000 in
set_option maxRecDepth 20000 in
theorem c_X6_alone (l : Launch) (D : va_G) (K : Kt) (ad : Nat → Nat) (nw : Nat) (σ : St) (x1 : Int32) (x2 : Int32) {r : Int32} (hf : f_X6_alone σ x1 x2 = some r) : CtI l yX6_alone cX6_alone 4 (some .int) 3 72 D K [.ref (ad 0), .int x1, .int x2] (wC ad K nw σ) r (wC ad K nw σ) := by
  refine met_i pl_RX6 (Nat.le_of_ble_eq_true rfl) (fun X hnL B RET => ?_)
  suffices h : MW X (wC ad K nw σ) 0 [some (.ref (ad 0)), some (.int x1), some (.int x2), none] [] from h
  unfold f_X6_alone at hf
  refine r_aload_n B (pc := 0) dX6_alone_0 rfl rfl ?_
  refine r_iload_n B (pc := 1) dX6_alone_1 rfl rfl ?_
  refine r_i2l B (pc := 2) dX6_alone_2 ?_
  refine r_cVI B (c_X6_isReader X.l X.D K ad nw σ (x1.toInt64)) F_X6_isReader lk_RX6_224 (q0 := 0) (ci := 6) rfl rfl (Nat.le_of_ble_eq_true rfl) (Nat.le_of_ble_eq_true rfl) (Nat.le_of_ble_eq_true rfl) (pc := 3) dX6_alone_3 rfl ?_
  refine r_if_eq B (pc := 6) (tgt := 17) dX6_alone_6 (by decide) hf (fun _ hf => ?_) (fun _ hf => ?_)
  · refine r_iconst B (pc := 17) dX6_alone_17 kc_m1 ?_
    exact e_rz hf (nar_i _) (RET 18 _ dX6_alone_18)
  · refine r_aload_n B (pc := 9) dX6_alone_9 rfl rfl ?_
    refine r_iload_n B (pc := 10) dX6_alone_10 rfl rfl ?_
    refine r_cVI B (c_X6_isGrave X.l X.D K ad nw σ x2) F_X6_isGrave lk_RX6_125 (q0 := 0) (ci := 6) rfl rfl (Nat.le_of_ble_eq_true rfl) (Nat.le_of_ble_eq_true rfl) (Nat.le_of_ble_eq_true rfl) (pc := 11) dX6_alone_11 rfl ?_
    refine r_if_ne B (pc := 14) (tgt := 19) dX6_alone_14 (by decide) hf (fun _ hf => ?_) (fun _ hf => ?_)
    · refine r_iconst B (pc := 19) dX6_alone_19 kc_0 ?_
      refine r_istore_n B hnL (pc := 20) dX6_alone_20 rfl (by decide) ?_
      refine r_lc (loc' := [some (.ref (ad 0)), some (.int x1), some (.int x2), some (.int 0)]) rfl ?_
      have k21 : ∀ (n21 : Nat) (v3 : Int32), f_X6_alone_h21 σ x1 x2 n21 v3 = some r → MW X (wC ad K nw σ) 21 [some (.ref (ad 0)), some (.int x1), some (.int x2), some (.int v3)] [] := by
        intro n21
        induction n21 with
        | zero => intro v3 hf; exact nn_z hf
        | succ n21 ih21 =>
          intro v3 hf
          rw [f_X6_alone_h21] at hf
          refine r_iload_n B (pc := 21) dX6_alone_21 rfl rfl ?_
          refine r_bipush B (pc := 22) dX6_alone_22 kb_36 ?_
          refine r_icmp_ge B (pc := 24) (tgt := 57) dX6_alone_24 (by decide) hf (fun _ hf => ?_) (fun _ hf => ?_)
          · refine r_bipush B (pc := 57) dX6_alone_57 kb_m4 ?_
            exact e_rz hf (nar_i _) (RET 59 _ dX6_alone_59)
          · refine r_aload_n B (pc := 27) dX6_alone_27 rfl rfl ?_
            refine gC_RX6_10_0 B (pc := 28) dX6_alone_28 ?_
            refine r_iload_n B (pc := 31) dX6_alone_31 rfl rfl ?_
            refine r_iload_n B (pc := 32) dX6_alone_32 rfl rfl ?_
            refine r_aload_n B (pc := 33) dX6_alone_33 rfl rfl ?_
            refine gC_RX6_10_0 B (pc := 34) dX6_alone_34 ?_
            refine gC_RX6_116_1 B (pc := 37) dX6_alone_37 ?_
            obtain ⟨r2, hc1, hf⟩ := bdr_e hf
            refine r_cVI B (c_X3_hearers X.l X.D K ad nw σ x1 v3 (σ.1 1 4) hc1) F_X3_hearers lk_RX6_227 (q0 := 1) (ci := 3) rfl rfl (Nat.le_of_ble_eq_true rfl) (Nat.le_of_ble_eq_true rfl) (Nat.le_of_ble_eq_true rfl) (pc := 40) dX6_alone_40 rfl ?_
            refine r_iconst B (pc := 43) dX6_alone_43 kc_1 ?_
            refine r_iload_n B (pc := 44) dX6_alone_44 rfl rfl ?_
            refine r_ishl B (pc := 45) dX6_alone_45 ?_
            refine r_icmp_ne B (pc := 46) (tgt := 51) dX6_alone_46 (by decide) hf (fun _ hf => ?_) (fun _ hf => ?_)
            · refine r_iincS B hnL (pc := 51) dX6_alone_51 rfl kc_1 (by decide) hf (fun y3 hf => ?_)
              refine r_lc (loc' := [some (.ref (ad 0)), some (.int x1), some (.int x2), some (.int y3)]) rfl ?_
              refine r_goto B (pc := 54) (tgt := 21) dX6_alone_54 (by decide) ?_
              exact r_mask [true, true, true, true] rfl (ih21 y3 hf)
            · refine r_iload_n B (pc := 49) dX6_alone_49 rfl rfl ?_
              exact e_rz hf (nar_i _) (RET 50 _ dX6_alone_50)
      exact r_mask [true, true, true, true] rfl (k21 FU 0 hf)
    · refine r_iconst B (pc := 17) dX6_alone_17 kc_m1 ?_
      exact e_rz hf (nar_i _) (RET 18 _ dX6_alone_18)
set_option maxHeartbeats 4000000 in
set_option maxRecDepth 20000 in
theorem c_X1_become_20_2 (l : Launch) (D : va_G) (K : Kt) (ad : Nat → Nat) (nw : Nat) (σ : St) {τ : St} (hf : f_X1_become_20_2 σ = some τ) : CtV l yX1_become cX1_become 2 none 1 26 D K [.ref (ad 20), .ref (ad 2)] (wC ad K nw σ) (wC ad K nw τ) := by
  refine met_v pl_RX1 (Nat.le_of_ble_eq_true rfl) (fun X hnL B RET => ?_)
  suffices h : MW X (wC ad K nw σ) 0 [some (.ref (ad 20)), some (.ref (ad 2))] [] from h
  unfold f_X1_become_20_2 at hf
  refine r_aload_n B (pc := 0) dX1_become_0 rfl rfl ?_
  refine r_aload_n B (pc := 1) dX1_become_1 rfl rfl ?_
  refine gC_RX1_9_2 B (pc := 2) dX1_become_2 ?_
  refine pC_RX1_9_20 B (pc := 5) dX1_become_5 hf (fun s1 hf => ?_)
  refine r_aload_n B (pc := 8) dX1_become_8 rfl rfl ?_
  refine gC_RX1_15_2 B (pc := 9) dX1_become_9 ?_
  refine r_iconst B (pc := 12) dX1_become_12 kc_0 ?_
  refine r_aload_n B (pc := 13) dX1_become_13 rfl rfl ?_
  refine gC_RX1_15_20 B (pc := 14) dX1_become_14 ?_
  refine r_iconst B (pc := 17) dX1_become_17 kc_0 ?_
  refine r_bipush B (pc := 18) dX1_become_18 kb_10 ?_
  refine cpyC_RX1_40_3_21 B (Nat.le_of_ble_eq_true rfl) (Nat.le_of_ble_eq_true rfl) (pc := 20) dX1_become_20 hf (fun s2 hf => ?_)
  refine r_aload_n B (pc := 23) dX1_become_23 rfl rfl ?_
  refine gC_RX1_19_2 B (pc := 24) dX1_become_24 ?_
  refine r_iconst B (pc := 27) dX1_become_27 kc_0 ?_
  refine r_aload_n B (pc := 28) dX1_become_28 rfl rfl ?_
  refine gC_RX1_19_20 B (pc := 29) dX1_become_29 ?_
  refine r_iconst B (pc := 32) dX1_become_32 kc_0 ?_
  refine r_bipush B (pc := 33) dX1_become_33 kb_10 ?_
  refine cpyC_RX1_40_4_22 B (Nat.le_of_ble_eq_true rfl) (Nat.le_of_ble_eq_true rfl) (pc := 35) dX1_become_35 hf (fun s3 hf => ?_)
  refine r_aload_n B (pc := 38) dX1_become_38 rfl rfl ?_
  refine gC_RX1_22_2 B (pc := 39) dX1_become_39 ?_
  refine r_iconst B (pc := 42) dX1_become_42 kc_0 ?_
  refine r_aload_n B (pc := 43) dX1_become_43 rfl rfl ?_
  refine gC_RX1_22_20 B (pc := 44) dX1_become_44 ?_
  refine r_iconst B (pc := 47) dX1_become_47 kc_0 ?_
  refine r_bipush B (pc := 48) dX1_become_48 kb_10 ?_
  refine cpyC_RX1_40_5_23 B (Nat.le_of_ble_eq_true rfl) (Nat.le_of_ble_eq_true rfl) (pc := 50) dX1_become_50 hf (fun s4 hf => ?_)
  refine r_aload_n B (pc := 53) dX1_become_53 rfl rfl ?_
  refine gC_RX1_25_2 B (pc := 54) dX1_become_54 ?_
  refine r_iconst B (pc := 57) dX1_become_57 kc_0 ?_
  refine r_aload_n B (pc := 58) dX1_become_58 rfl rfl ?_
  refine gC_RX1_25_20 B (pc := 59) dX1_become_59 ?_
  refine r_iconst B (pc := 62) dX1_become_62 kc_0 ?_
  refine r_bipush B (pc := 63) dX1_become_63 kb_10 ?_
  refine cpyC_RX1_40_6_24 B (Nat.le_of_ble_eq_true rfl) (Nat.le_of_ble_eq_true rfl) (pc := 65) dX1_become_65 hf (fun s5 hf => ?_)
  refine r_aload_n B (pc := 68) dX1_become_68 rfl rfl ?_
  refine gC_RX1_28_2 B (pc := 69) dX1_become_69 ?_
  refine r_iconst B (pc := 72) dX1_become_72 kc_0 ?_
  refine r_aload_n B (pc := 73) dX1_become_73 rfl rfl ?_
  refine gC_RX1_28_20 B (pc := 74) dX1_become_74 ?_
  refine r_iconst B (pc := 77) dX1_become_77 kc_0 ?_
  refine r_bipush B (pc := 78) dX1_become_78 kb_10 ?_
  refine cpyC_RX1_40_7_25 B (Nat.le_of_ble_eq_true rfl) (Nat.le_of_ble_eq_true rfl) (pc := 80) dX1_become_80 hf (fun s6 hf => ?_)
  refine r_aload_n B (pc := 83) dX1_become_83 rfl rfl ?_
  refine gC_RX1_31_2 B (pc := 84) dX1_become_84 ?_
  refine r_iconst B (pc := 87) dX1_become_87 kc_0 ?_
  refine r_aload_n B (pc := 88) dX1_become_88 rfl rfl ?_
  refine gC_RX1_31_20 B (pc := 89) dX1_become_89 ?_
  refine r_iconst B (pc := 92) dX1_become_92 kc_0 ?_
  refine r_bipush B (pc := 93) dX1_become_93 kb_120 ?_
  refine cpyC_RX1_40_8_26 B (Nat.le_of_ble_eq_true rfl) (Nat.le_of_ble_eq_true rfl) (pc := 95) dX1_become_95 hf (fun s7 hf => ?_)
  exact e_s (F := (wC ad K nw)) hf (RET 98 _ dX1_become_98)
set_option maxHeartbeats 4000000 in
set_option maxRecDepth 20000 in
theorem c_X2_become_27_9 (l : Launch) (D : va_G) (K : Kt) (ad : Nat → Nat) (nw : Nat) (σ : St) {τ : St} (hf : f_X2_become_27_9 σ = some τ) : CtV l yX2_become cX2_become 2 none 1 26 D K [.ref (ad 27), .ref (ad 9)] (wC ad K nw σ) (wC ad K nw τ) := by
  refine met_v pl_RX2 (Nat.le_of_ble_eq_true rfl) (fun X hnL B RET => ?_)
  suffices h : MW X (wC ad K nw σ) 0 [some (.ref (ad 27)), some (.ref (ad 9))] [] from h
  unfold f_X2_become_27_9 at hf
  refine r_aload_n B (pc := 0) dX2_become_0 rfl rfl ?_
  refine r_aload_n B (pc := 1) dX2_become_1 rfl rfl ?_
  refine gC_RX2_9_9 B (pc := 2) dX2_become_2 ?_
  refine pC_RX2_9_27 B (pc := 5) dX2_become_5 hf (fun s1 hf => ?_)
  refine r_aload_n B (pc := 8) dX2_become_8 rfl rfl ?_
  refine r_aload_n B (pc := 9) dX2_become_9 rfl rfl ?_
  refine gC_RX2_15_9 B (pc := 10) dX2_become_10 ?_
  refine pC_RX2_15_27 B (pc := 13) dX2_become_13 hf (fun s2 hf => ?_)
  refine r_aload_n B (pc := 16) dX2_become_16 rfl rfl ?_
  refine gC_RX2_18_9 B (pc := 17) dX2_become_17 ?_
  refine r_iconst B (pc := 20) dX2_become_20 kc_0 ?_
  refine r_aload_n B (pc := 21) dX2_become_21 rfl rfl ?_
  refine gC_RX2_18_27 B (pc := 22) dX2_become_22 ?_
  refine r_iconst B (pc := 25) dX2_become_25 kc_0 ?_
  refine r_bipush B (pc := 26) dX2_become_26 kb_12 ?_
  refine cpyC_RX2_48_10_28 B (Nat.le_of_ble_eq_true rfl) (Nat.le_of_ble_eq_true rfl) (pc := 28) dX2_become_28 hf (fun s3 hf => ?_)
  refine r_aload_n B (pc := 31) dX2_become_31 rfl rfl ?_
  refine gC_RX2_22_9 B (pc := 32) dX2_become_32 ?_
  refine r_iconst B (pc := 35) dX2_become_35 kc_0 ?_
  refine r_aload_n B (pc := 36) dX2_become_36 rfl rfl ?_
  refine gC_RX2_22_27 B (pc := 37) dX2_become_37 ?_
  refine r_iconst B (pc := 40) dX2_become_40 kc_0 ?_
  refine r_bipush B (pc := 41) dX2_become_41 kb_12 ?_
  refine cpyC_RX2_48_11_29 B (Nat.le_of_ble_eq_true rfl) (Nat.le_of_ble_eq_true rfl) (pc := 43) dX2_become_43 hf (fun s4 hf => ?_)
  refine r_aload_n B (pc := 46) dX2_become_46 rfl rfl ?_
  refine gC_RX2_25_9 B (pc := 47) dX2_become_47 ?_
  refine r_iconst B (pc := 50) dX2_become_50 kc_0 ?_
  refine r_aload_n B (pc := 51) dX2_become_51 rfl rfl ?_
  refine gC_RX2_25_27 B (pc := 52) dX2_become_52 ?_
  refine r_iconst B (pc := 55) dX2_become_55 kc_0 ?_
  refine r_bipush B (pc := 56) dX2_become_56 kb_12 ?_
  refine cpyC_RX2_48_12_30 B (Nat.le_of_ble_eq_true rfl) (Nat.le_of_ble_eq_true rfl) (pc := 58) dX2_become_58 hf (fun s5 hf => ?_)
  refine r_aload_n B (pc := 61) dX2_become_61 rfl rfl ?_
  refine gC_RX2_28_9 B (pc := 62) dX2_become_62 ?_
  refine r_iconst B (pc := 65) dX2_become_65 kc_0 ?_
  refine r_aload_n B (pc := 66) dX2_become_66 rfl rfl ?_
  refine gC_RX2_28_27 B (pc := 67) dX2_become_67 ?_
  refine r_iconst B (pc := 70) dX2_become_70 kc_0 ?_
  refine r_bipush B (pc := 71) dX2_become_71 kb_12 ?_
  refine cpyC_RX2_48_13_31 B (Nat.le_of_ble_eq_true rfl) (Nat.le_of_ble_eq_true rfl) (pc := 73) dX2_become_73 hf (fun s6 hf => ?_)
  exact e_s (F := (wC ad K nw)) hf (RET 76 _ dX2_become_76)
set_option maxHeartbeats 4000000 in
set_option maxRecDepth 20000 in
theorem c_X3_become_19_1 (l : Launch) (D : va_G) (K : Kt) (ad : Nat → Nat) (nw : Nat) (σ : St) {τ : St} (hf : f_X3_become_19_1 σ = some τ) : CtV l yX3_become cX3_become 2 none 2 47 D K [.ref (ad 19), .ref (ad 1)] (wC ad K nw σ) (wC ad K nw τ) := by
  refine met_v pl_RX3 (Nat.le_of_ble_eq_true rfl) (fun X hnL B RET => ?_)
  suffices h : MW X (wC ad K nw σ) 0 [some (.ref (ad 19)), some (.ref (ad 1))] [] from h
  unfold f_X3_become_19_1 at hf
  refine r_aload_n B (pc := 0) dX3_become_0 rfl rfl ?_
  refine gC_RX3_12_19 B (pc := 1) dX3_become_1 ?_
  refine r_aload_n B (pc := 4) dX3_become_4 rfl rfl ?_
  refine gC_RX3_12_1 B (pc := 5) dX3_become_5 ?_
  obtain ⟨s2, hc1, hf⟩ := bdr_e hf
  refine r_cVV B (c_X1_become_20_2 X.l X.D K ad nw σ hc1) F_X1_become lk_RX3_60 (q0 := 20) (ci := 1) rfl rfl (Nat.le_of_ble_eq_true rfl) (Nat.le_of_ble_eq_true rfl) (Nat.le_of_ble_eq_true rfl) (pc := 8) dX3_become_8 rfl ?_
  refine r_aload_n B (pc := 11) dX3_become_11 rfl rfl ?_
  refine gC_RX3_21_19 B (pc := 12) dX3_become_12 ?_
  refine r_aload_n B (pc := 15) dX3_become_15 rfl rfl ?_
  refine gC_RX3_21_1 B (pc := 16) dX3_become_16 ?_
  obtain ⟨s4, hc3, hf⟩ := bdr_e hf
  refine r_cVV B (c_X2_become_27_9 X.l X.D K ad nw s2 hc3) F_X2_become lk_RX3_64 (q0 := 27) (ci := 2) rfl rfl (Nat.le_of_ble_eq_true rfl) (Nat.le_of_ble_eq_true rfl) (Nat.le_of_ble_eq_true rfl) (pc := 19) dX3_become_19 rfl ?_
  refine r_aload_n B (pc := 22) dX3_become_22 rfl rfl ?_
  refine r_aload_n B (pc := 23) dX3_become_23 rfl rfl ?_
  refine gC_RX3_25_1 B (pc := 24) dX3_become_24 ?_
  refine pC_RX3_25_19 B (pc := 27) dX3_become_27 hf (fun s5 hf => ?_)
  refine r_aload_n B (pc := 30) dX3_become_30 rfl rfl ?_
  refine gC_RX3_29_1 B (pc := 31) dX3_become_31 ?_
  refine r_iconst B (pc := 34) dX3_become_34 kc_0 ?_
  refine r_aload_n B (pc := 35) dX3_become_35 rfl rfl ?_
  refine gC_RX3_29_19 B (pc := 36) dX3_become_36 ?_
  refine r_iconst B (pc := 39) dX3_become_39 kc_0 ?_
  refine r_iconst B (pc := 40) dX3_become_40 kc_4 ?_
  refine cpyC_RX3_67_14_32 B (Nat.le_of_ble_eq_true rfl) (Nat.le_of_ble_eq_true rfl) (pc := 41) dX3_become_41 hf (fun s6 hf => ?_)
  refine r_aload_n B (pc := 44) dX3_become_44 rfl rfl ?_
  refine r_aload_n B (pc := 45) dX3_become_45 rfl rfl ?_
  refine gC_RX3_33_1 B (pc := 46) dX3_become_46 ?_
  refine pC_RX3_33_19 B (pc := 49) dX3_become_49 hf (fun s7 hf => ?_)
  refine r_aload_n B (pc := 52) dX3_become_52 rfl rfl ?_
  refine gC_RX3_36_1 B (pc := 53) dX3_become_53 ?_
  refine r_iconst B (pc := 56) dX3_become_56 kc_0 ?_
  refine r_aload_n B (pc := 57) dX3_become_57 rfl rfl ?_
  refine gC_RX3_36_19 B (pc := 58) dX3_become_58 ?_
  refine r_iconst B (pc := 61) dX3_become_61 kc_0 ?_
  refine r_iconst B (pc := 62) dX3_become_62 kc_5 ?_
  refine cpyC_RX3_67_15_33 B (Nat.le_of_ble_eq_true rfl) (Nat.le_of_ble_eq_true rfl) (pc := 63) dX3_become_63 hf (fun s8 hf => ?_)
  refine r_aload_n B (pc := 66) dX3_become_66 rfl rfl ?_
  refine r_aload_n B (pc := 67) dX3_become_67 rfl rfl ?_
  refine gC_RX3_39_1 B (pc := 68) dX3_become_68 ?_
  refine pC_RX3_39_19 B (pc := 71) dX3_become_71 hf (fun s9 hf => ?_)
  refine r_aload_n B (pc := 74) dX3_become_74 rfl rfl ?_
  refine r_aload_n B (pc := 75) dX3_become_75 rfl rfl ?_
  refine gC_RX3_42_1 B (pc := 76) dX3_become_76 ?_
  refine pC_RX3_42_19 B (pc := 79) dX3_become_79 hf (fun s10 hf => ?_)
  refine r_aload_n B (pc := 82) dX3_become_82 rfl rfl ?_
  refine r_aload_n B (pc := 83) dX3_become_83 rfl rfl ?_
  refine gC_RX3_45_1 B (pc := 84) dX3_become_84 ?_
  refine pC_RX3_45_19 B (pc := 87) dX3_become_87 hf (fun s11 hf => ?_)
  refine r_aload_n B (pc := 90) dX3_become_90 rfl rfl ?_
  refine r_aload_n B (pc := 91) dX3_become_91 rfl rfl ?_
  refine gC_RX3_48_1 B (pc := 92) dX3_become_92 ?_
  refine pC_RX3_48_19 B (pc := 95) dX3_become_95 hf (fun s12 hf => ?_)
  refine r_aload_n B (pc := 98) dX3_become_98 rfl rfl ?_
  refine gC_RX3_51_1 B (pc := 99) dX3_become_99 ?_
  refine r_iconst B (pc := 102) dX3_become_102 kc_0 ?_
  refine r_aload_n B (pc := 103) dX3_become_103 rfl rfl ?_
  refine gC_RX3_51_19 B (pc := 104) dX3_become_104 ?_
  refine r_iconst B (pc := 107) dX3_become_107 kc_0 ?_
  refine r_bipush B (pc := 108) dX3_become_108 kb_10 ?_
  refine cpyC_RX3_67_16_34 B (Nat.le_of_ble_eq_true rfl) (Nat.le_of_ble_eq_true rfl) (pc := 110) dX3_become_110 hf (fun s13 hf => ?_)
  refine r_aload_n B (pc := 113) dX3_become_113 rfl rfl ?_
  refine gC_RX3_54_1 B (pc := 114) dX3_become_114 ?_
  refine r_iconst B (pc := 117) dX3_become_117 kc_0 ?_
  refine r_aload_n B (pc := 118) dX3_become_118 rfl rfl ?_
  refine gC_RX3_54_19 B (pc := 119) dX3_become_119 ?_
  refine r_iconst B (pc := 122) dX3_become_122 kc_0 ?_
  refine r_bipush B (pc := 123) dX3_become_123 kb_10 ?_
  refine cpyC_RX3_67_17_35 B (Nat.le_of_ble_eq_true rfl) (Nat.le_of_ble_eq_true rfl) (pc := 125) dX3_become_125 hf (fun s14 hf => ?_)
  refine r_aload_n B (pc := 128) dX3_become_128 rfl rfl ?_
  refine gC_RX3_57_1 B (pc := 129) dX3_become_129 ?_
  refine r_iconst B (pc := 132) dX3_become_132 kc_0 ?_
  refine r_aload_n B (pc := 133) dX3_become_133 rfl rfl ?_
  refine gC_RX3_57_19 B (pc := 134) dX3_become_134 ?_
  refine r_iconst B (pc := 137) dX3_become_137 kc_0 ?_
  refine r_bipush B (pc := 138) dX3_become_138 kb_10 ?_
  refine cpyC_RX3_67_18_36 B (Nat.le_of_ble_eq_true rfl) (Nat.le_of_ble_eq_true rfl) (pc := 140) dX3_become_140 hf (fun s15 hf => ?_)
  exact e_s (F := (wC ad K nw)) hf (RET 143 _ dX3_become_143)
set_option maxHeartbeats 4000000 in
set_option maxRecDepth 20000 in
theorem c_X6_image (l : Launch) (D : va_G) (K : Kt) (ad : Nat → Nat) (nw : Nat) (σ : St) {r : Int32} {τ : St} (hf : f_X6_image σ = some (r, τ)) : CtI l yX6_image cX6_image 1 (some .int) 3 68 D K [.ref (ad 0)] (wC ad K nw σ) r (wC ad K nw τ) := by
  refine met_i pl_RX6 (Nat.le_of_ble_eq_true rfl) (fun X hnL B RET => ?_)
  suffices h : MW X (wC ad K nw σ) 0 [some (.ref (ad 0))] [] from h
  unfold f_X6_image at hf
  refine r_aload_n B (pc := 0) dX6_image_0 rfl rfl ?_
  refine gC_RX6_16_0 B (pc := 1) dX6_image_1 ?_
  refine r_aload_n B (pc := 4) dX6_image_4 rfl rfl ?_
  refine gC_RX6_10_0 B (pc := 5) dX6_image_5 ?_
  obtain ⟨s2, hc1, hf⟩ := bdr_e hf
  refine r_cVV B (c_X3_become_19_1 X.l X.D K ad nw σ hc1) F_X3_become lk_RX6_301 (q0 := 19) (ci := 3) rfl rfl (Nat.le_of_ble_eq_true rfl) (Nat.le_of_ble_eq_true rfl) (Nat.le_of_ble_eq_true rfl) (pc := 8) dX6_image_8 rfl ?_
  refine r_aload_n B (pc := 11) dX6_image_11 rfl rfl ?_
  refine r_iconst B (pc := 12) dX6_image_12 kc_1 ?_
  refine pC_RX6_19_0 B rfl rfl (pc := 13) dX6_image_13 hf (fun s3 hf => ?_)
  refine r_iconst B (pc := 16) dX6_image_16 kc_1 ?_
  exact e_pz (F := (wC ad K nw)) hf (nar_i _) (RET 17 _ dX6_image_17)
set_option maxHeartbeats 4000000 in
set_option maxRecDepth 20000 in
theorem c_X1_become_20 (l : Launch) (D : va_G) (K : Kt) (ad : Nat → Nat) (nw : Nat) (σ : St) {τ : St} (hf : f_X1_become_20 σ = some τ) : CtV l yX1_become cX1_become 2 none 1 26 D K [.ref (ad 2), .ref (ad 20)] (wC ad K nw σ) (wC ad K nw τ) := by
  refine met_v pl_RX1 (Nat.le_of_ble_eq_true rfl) (fun X hnL B RET => ?_)
  suffices h : MW X (wC ad K nw σ) 0 [some (.ref (ad 2)), some (.ref (ad 20))] [] from h
  unfold f_X1_become_20 at hf
  refine r_aload_n B (pc := 0) dX1_become_0 rfl rfl ?_
  refine r_aload_n B (pc := 1) dX1_become_1 rfl rfl ?_
  refine gC_RX1_9_20 B (pc := 2) dX1_become_2 ?_
  refine pC_RX1_9_2 B (pc := 5) dX1_become_5 hf (fun s1 hf => ?_)
  refine r_aload_n B (pc := 8) dX1_become_8 rfl rfl ?_
  refine gC_RX1_15_20 B (pc := 9) dX1_become_9 ?_
  refine r_iconst B (pc := 12) dX1_become_12 kc_0 ?_
  refine r_aload_n B (pc := 13) dX1_become_13 rfl rfl ?_
  refine gC_RX1_15_2 B (pc := 14) dX1_become_14 ?_
  refine r_iconst B (pc := 17) dX1_become_17 kc_0 ?_
  refine r_bipush B (pc := 18) dX1_become_18 kb_10 ?_
  refine cpyC_RX1_40_21_3 B (Nat.le_of_ble_eq_true rfl) (Nat.le_of_ble_eq_true rfl) (pc := 20) dX1_become_20 hf (fun s2 hf => ?_)
  refine r_aload_n B (pc := 23) dX1_become_23 rfl rfl ?_
  refine gC_RX1_19_20 B (pc := 24) dX1_become_24 ?_
  refine r_iconst B (pc := 27) dX1_become_27 kc_0 ?_
  refine r_aload_n B (pc := 28) dX1_become_28 rfl rfl ?_
  refine gC_RX1_19_2 B (pc := 29) dX1_become_29 ?_
  refine r_iconst B (pc := 32) dX1_become_32 kc_0 ?_
  refine r_bipush B (pc := 33) dX1_become_33 kb_10 ?_
  refine cpyC_RX1_40_22_4 B (Nat.le_of_ble_eq_true rfl) (Nat.le_of_ble_eq_true rfl) (pc := 35) dX1_become_35 hf (fun s3 hf => ?_)
  refine r_aload_n B (pc := 38) dX1_become_38 rfl rfl ?_
  refine gC_RX1_22_20 B (pc := 39) dX1_become_39 ?_
  refine r_iconst B (pc := 42) dX1_become_42 kc_0 ?_
  refine r_aload_n B (pc := 43) dX1_become_43 rfl rfl ?_
  refine gC_RX1_22_2 B (pc := 44) dX1_become_44 ?_
  refine r_iconst B (pc := 47) dX1_become_47 kc_0 ?_
  refine r_bipush B (pc := 48) dX1_become_48 kb_10 ?_
  refine cpyC_RX1_40_23_5 B (Nat.le_of_ble_eq_true rfl) (Nat.le_of_ble_eq_true rfl) (pc := 50) dX1_become_50 hf (fun s4 hf => ?_)
  refine r_aload_n B (pc := 53) dX1_become_53 rfl rfl ?_
  refine gC_RX1_25_20 B (pc := 54) dX1_become_54 ?_
  refine r_iconst B (pc := 57) dX1_become_57 kc_0 ?_
  refine r_aload_n B (pc := 58) dX1_become_58 rfl rfl ?_
  refine gC_RX1_25_2 B (pc := 59) dX1_become_59 ?_
  refine r_iconst B (pc := 62) dX1_become_62 kc_0 ?_
  refine r_bipush B (pc := 63) dX1_become_63 kb_10 ?_
  refine cpyC_RX1_40_24_6 B (Nat.le_of_ble_eq_true rfl) (Nat.le_of_ble_eq_true rfl) (pc := 65) dX1_become_65 hf (fun s5 hf => ?_)
  refine r_aload_n B (pc := 68) dX1_become_68 rfl rfl ?_
  refine gC_RX1_28_20 B (pc := 69) dX1_become_69 ?_
  refine r_iconst B (pc := 72) dX1_become_72 kc_0 ?_
  refine r_aload_n B (pc := 73) dX1_become_73 rfl rfl ?_
  refine gC_RX1_28_2 B (pc := 74) dX1_become_74 ?_
  refine r_iconst B (pc := 77) dX1_become_77 kc_0 ?_
  refine r_bipush B (pc := 78) dX1_become_78 kb_10 ?_
  refine cpyC_RX1_40_25_7 B (Nat.le_of_ble_eq_true rfl) (Nat.le_of_ble_eq_true rfl) (pc := 80) dX1_become_80 hf (fun s6 hf => ?_)
  refine r_aload_n B (pc := 83) dX1_become_83 rfl rfl ?_
  refine gC_RX1_31_20 B (pc := 84) dX1_become_84 ?_
  refine r_iconst B (pc := 87) dX1_become_87 kc_0 ?_
  refine r_aload_n B (pc := 88) dX1_become_88 rfl rfl ?_
  refine gC_RX1_31_2 B (pc := 89) dX1_become_89 ?_
  refine r_iconst B (pc := 92) dX1_become_92 kc_0 ?_
  refine r_bipush B (pc := 93) dX1_become_93 kb_120 ?_
  refine cpyC_RX1_40_26_8 B (Nat.le_of_ble_eq_true rfl) (Nat.le_of_ble_eq_true rfl) (pc := 95) dX1_become_95 hf (fun s7 hf => ?_)
  exact e_s (F := (wC ad K nw)) hf (RET 98 _ dX1_become_98)
set_option maxHeartbeats 4000000 in
set_option maxRecDepth 20000 in
theorem c_X2_become_27 (l : Launch) (D : va_G) (K : Kt) (ad : Nat → Nat) (nw : Nat) (σ : St) {τ : St} (hf : f_X2_become_27 σ = some τ) : CtV l yX2_become cX2_become 2 none 1 26 D K [.ref (ad 9), .ref (ad 27)] (wC ad K nw σ) (wC ad K nw τ) := by
  refine met_v pl_RX2 (Nat.le_of_ble_eq_true rfl) (fun X hnL B RET => ?_)
  suffices h : MW X (wC ad K nw σ) 0 [some (.ref (ad 9)), some (.ref (ad 27))] [] from h
  unfold f_X2_become_27 at hf
  refine r_aload_n B (pc := 0) dX2_become_0 rfl rfl ?_
  refine r_aload_n B (pc := 1) dX2_become_1 rfl rfl ?_
  refine gC_RX2_9_27 B (pc := 2) dX2_become_2 ?_
  refine pC_RX2_9_9 B (pc := 5) dX2_become_5 hf (fun s1 hf => ?_)
  refine r_aload_n B (pc := 8) dX2_become_8 rfl rfl ?_
  refine r_aload_n B (pc := 9) dX2_become_9 rfl rfl ?_
  refine gC_RX2_15_27 B (pc := 10) dX2_become_10 ?_
  refine pC_RX2_15_9 B (pc := 13) dX2_become_13 hf (fun s2 hf => ?_)
  refine r_aload_n B (pc := 16) dX2_become_16 rfl rfl ?_
  refine gC_RX2_18_27 B (pc := 17) dX2_become_17 ?_
  refine r_iconst B (pc := 20) dX2_become_20 kc_0 ?_
  refine r_aload_n B (pc := 21) dX2_become_21 rfl rfl ?_
  refine gC_RX2_18_9 B (pc := 22) dX2_become_22 ?_
  refine r_iconst B (pc := 25) dX2_become_25 kc_0 ?_
  refine r_bipush B (pc := 26) dX2_become_26 kb_12 ?_
  refine cpyC_RX2_48_28_10 B (Nat.le_of_ble_eq_true rfl) (Nat.le_of_ble_eq_true rfl) (pc := 28) dX2_become_28 hf (fun s3 hf => ?_)
  refine r_aload_n B (pc := 31) dX2_become_31 rfl rfl ?_
  refine gC_RX2_22_27 B (pc := 32) dX2_become_32 ?_
  refine r_iconst B (pc := 35) dX2_become_35 kc_0 ?_
  refine r_aload_n B (pc := 36) dX2_become_36 rfl rfl ?_
  refine gC_RX2_22_9 B (pc := 37) dX2_become_37 ?_
  refine r_iconst B (pc := 40) dX2_become_40 kc_0 ?_
  refine r_bipush B (pc := 41) dX2_become_41 kb_12 ?_
  refine cpyC_RX2_48_29_11 B (Nat.le_of_ble_eq_true rfl) (Nat.le_of_ble_eq_true rfl) (pc := 43) dX2_become_43 hf (fun s4 hf => ?_)
  refine r_aload_n B (pc := 46) dX2_become_46 rfl rfl ?_
  refine gC_RX2_25_27 B (pc := 47) dX2_become_47 ?_
  refine r_iconst B (pc := 50) dX2_become_50 kc_0 ?_
  refine r_aload_n B (pc := 51) dX2_become_51 rfl rfl ?_
  refine gC_RX2_25_9 B (pc := 52) dX2_become_52 ?_
  refine r_iconst B (pc := 55) dX2_become_55 kc_0 ?_
  refine r_bipush B (pc := 56) dX2_become_56 kb_12 ?_
  refine cpyC_RX2_48_30_12 B (Nat.le_of_ble_eq_true rfl) (Nat.le_of_ble_eq_true rfl) (pc := 58) dX2_become_58 hf (fun s5 hf => ?_)
  refine r_aload_n B (pc := 61) dX2_become_61 rfl rfl ?_
  refine gC_RX2_28_27 B (pc := 62) dX2_become_62 ?_
  refine r_iconst B (pc := 65) dX2_become_65 kc_0 ?_
  refine r_aload_n B (pc := 66) dX2_become_66 rfl rfl ?_
  refine gC_RX2_28_9 B (pc := 67) dX2_become_67 ?_
  refine r_iconst B (pc := 70) dX2_become_70 kc_0 ?_
  refine r_bipush B (pc := 71) dX2_become_71 kb_12 ?_
  refine cpyC_RX2_48_31_13 B (Nat.le_of_ble_eq_true rfl) (Nat.le_of_ble_eq_true rfl) (pc := 73) dX2_become_73 hf (fun s6 hf => ?_)
  exact e_s (F := (wC ad K nw)) hf (RET 76 _ dX2_become_76)
set_option maxHeartbeats 4000000 in
set_option maxRecDepth 20000 in
theorem c_X3_become_19 (l : Launch) (D : va_G) (K : Kt) (ad : Nat → Nat) (nw : Nat) (σ : St) {τ : St} (hf : f_X3_become_19 σ = some τ) : CtV l yX3_become cX3_become 2 none 2 47 D K [.ref (ad 1), .ref (ad 19)] (wC ad K nw σ) (wC ad K nw τ) := by
  refine met_v pl_RX3 (Nat.le_of_ble_eq_true rfl) (fun X hnL B RET => ?_)
  suffices h : MW X (wC ad K nw σ) 0 [some (.ref (ad 1)), some (.ref (ad 19))] [] from h
  unfold f_X3_become_19 at hf
  refine r_aload_n B (pc := 0) dX3_become_0 rfl rfl ?_
  refine gC_RX3_12_1 B (pc := 1) dX3_become_1 ?_
  refine r_aload_n B (pc := 4) dX3_become_4 rfl rfl ?_
  refine gC_RX3_12_19 B (pc := 5) dX3_become_5 ?_
  obtain ⟨s2, hc1, hf⟩ := bdr_e hf
  refine r_cVV B (c_X1_become_20 X.l X.D K ad nw σ hc1) F_X1_become lk_RX3_60 (q0 := 2) (ci := 1) rfl rfl (Nat.le_of_ble_eq_true rfl) (Nat.le_of_ble_eq_true rfl) (Nat.le_of_ble_eq_true rfl) (pc := 8) dX3_become_8 rfl ?_
  refine r_aload_n B (pc := 11) dX3_become_11 rfl rfl ?_
  refine gC_RX3_21_1 B (pc := 12) dX3_become_12 ?_
  refine r_aload_n B (pc := 15) dX3_become_15 rfl rfl ?_
  refine gC_RX3_21_19 B (pc := 16) dX3_become_16 ?_
  obtain ⟨s4, hc3, hf⟩ := bdr_e hf
  refine r_cVV B (c_X2_become_27 X.l X.D K ad nw s2 hc3) F_X2_become lk_RX3_64 (q0 := 9) (ci := 2) rfl rfl (Nat.le_of_ble_eq_true rfl) (Nat.le_of_ble_eq_true rfl) (Nat.le_of_ble_eq_true rfl) (pc := 19) dX3_become_19 rfl ?_
  refine r_aload_n B (pc := 22) dX3_become_22 rfl rfl ?_
  refine r_aload_n B (pc := 23) dX3_become_23 rfl rfl ?_
  refine gC_RX3_25_19 B (pc := 24) dX3_become_24 ?_
  refine pC_RX3_25_1 B (pc := 27) dX3_become_27 hf (fun s5 hf => ?_)
  refine r_aload_n B (pc := 30) dX3_become_30 rfl rfl ?_
  refine gC_RX3_29_19 B (pc := 31) dX3_become_31 ?_
  refine r_iconst B (pc := 34) dX3_become_34 kc_0 ?_
  refine r_aload_n B (pc := 35) dX3_become_35 rfl rfl ?_
  refine gC_RX3_29_1 B (pc := 36) dX3_become_36 ?_
  refine r_iconst B (pc := 39) dX3_become_39 kc_0 ?_
  refine r_iconst B (pc := 40) dX3_become_40 kc_4 ?_
  refine cpyC_RX3_67_32_14 B (Nat.le_of_ble_eq_true rfl) (Nat.le_of_ble_eq_true rfl) (pc := 41) dX3_become_41 hf (fun s6 hf => ?_)
  refine r_aload_n B (pc := 44) dX3_become_44 rfl rfl ?_
  refine r_aload_n B (pc := 45) dX3_become_45 rfl rfl ?_
  refine gC_RX3_33_19 B (pc := 46) dX3_become_46 ?_
  refine pC_RX3_33_1 B (pc := 49) dX3_become_49 hf (fun s7 hf => ?_)
  refine r_aload_n B (pc := 52) dX3_become_52 rfl rfl ?_
  refine gC_RX3_36_19 B (pc := 53) dX3_become_53 ?_
  refine r_iconst B (pc := 56) dX3_become_56 kc_0 ?_
  refine r_aload_n B (pc := 57) dX3_become_57 rfl rfl ?_
  refine gC_RX3_36_1 B (pc := 58) dX3_become_58 ?_
  refine r_iconst B (pc := 61) dX3_become_61 kc_0 ?_
  refine r_iconst B (pc := 62) dX3_become_62 kc_5 ?_
  refine cpyC_RX3_67_33_15 B (Nat.le_of_ble_eq_true rfl) (Nat.le_of_ble_eq_true rfl) (pc := 63) dX3_become_63 hf (fun s8 hf => ?_)
  refine r_aload_n B (pc := 66) dX3_become_66 rfl rfl ?_
  refine r_aload_n B (pc := 67) dX3_become_67 rfl rfl ?_
  refine gC_RX3_39_19 B (pc := 68) dX3_become_68 ?_
  refine pC_RX3_39_1 B (pc := 71) dX3_become_71 hf (fun s9 hf => ?_)
  refine r_aload_n B (pc := 74) dX3_become_74 rfl rfl ?_
  refine r_aload_n B (pc := 75) dX3_become_75 rfl rfl ?_
  refine gC_RX3_42_19 B (pc := 76) dX3_become_76 ?_
  refine pC_RX3_42_1 B (pc := 79) dX3_become_79 hf (fun s10 hf => ?_)
  refine r_aload_n B (pc := 82) dX3_become_82 rfl rfl ?_
  refine r_aload_n B (pc := 83) dX3_become_83 rfl rfl ?_
  refine gC_RX3_45_19 B (pc := 84) dX3_become_84 ?_
  refine pC_RX3_45_1 B (pc := 87) dX3_become_87 hf (fun s11 hf => ?_)
  refine r_aload_n B (pc := 90) dX3_become_90 rfl rfl ?_
  refine r_aload_n B (pc := 91) dX3_become_91 rfl rfl ?_
  refine gC_RX3_48_19 B (pc := 92) dX3_become_92 ?_
  refine pC_RX3_48_1 B (pc := 95) dX3_become_95 hf (fun s12 hf => ?_)
  refine r_aload_n B (pc := 98) dX3_become_98 rfl rfl ?_
  refine gC_RX3_51_19 B (pc := 99) dX3_become_99 ?_
  refine r_iconst B (pc := 102) dX3_become_102 kc_0 ?_
  refine r_aload_n B (pc := 103) dX3_become_103 rfl rfl ?_
  refine gC_RX3_51_1 B (pc := 104) dX3_become_104 ?_
  refine r_iconst B (pc := 107) dX3_become_107 kc_0 ?_
  refine r_bipush B (pc := 108) dX3_become_108 kb_10 ?_
  refine cpyC_RX3_67_34_16 B (Nat.le_of_ble_eq_true rfl) (Nat.le_of_ble_eq_true rfl) (pc := 110) dX3_become_110 hf (fun s13 hf => ?_)
  refine r_aload_n B (pc := 113) dX3_become_113 rfl rfl ?_
  refine gC_RX3_54_19 B (pc := 114) dX3_become_114 ?_
  refine r_iconst B (pc := 117) dX3_become_117 kc_0 ?_
  refine r_aload_n B (pc := 118) dX3_become_118 rfl rfl ?_
  refine gC_RX3_54_1 B (pc := 119) dX3_become_119 ?_
  refine r_iconst B (pc := 122) dX3_become_122 kc_0 ?_
  refine r_bipush B (pc := 123) dX3_become_123 kb_10 ?_
  refine cpyC_RX3_67_35_17 B (Nat.le_of_ble_eq_true rfl) (Nat.le_of_ble_eq_true rfl) (pc := 125) dX3_become_125 hf (fun s14 hf => ?_)
  refine r_aload_n B (pc := 128) dX3_become_128 rfl rfl ?_
  refine gC_RX3_57_19 B (pc := 129) dX3_become_129 ?_
  refine r_iconst B (pc := 132) dX3_become_132 kc_0 ?_
  refine r_aload_n B (pc := 133) dX3_become_133 rfl rfl ?_
  refine gC_RX3_57_1 B (pc := 134) dX3_become_134 ?_
  refine r_iconst B (pc := 137) dX3_become_137 kc_0 ?_
  refine r_bipush B (pc := 138) dX3_become_138 kb_10 ?_
  refine cpyC_RX3_67_36_18 B (Nat.le_of_ble_eq_true rfl) (Nat.le_of_ble_eq_true rfl) (pc := 140) dX3_become_140 hf (fun s15 hf => ?_)
  exact e_s (F := (wC ad K nw)) hf (RET 143 _ dX3_become_143)
