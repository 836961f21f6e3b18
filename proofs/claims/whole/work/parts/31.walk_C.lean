set_option maxHeartbeats 4000000 in
set_option maxRecDepth 20000 in
theorem c_X6_seed (l : Launch) (D : va_G) (K : Kt) (ad : Nat → Nat) (nw : Nat) (σ : St) (x1 : Int32) {r : Int32} {τ : St} (hf : f_X6_seed σ x1 = some (r, τ)) : CtI l yX6_seed cX6_seed 3 (some .int) 0 0 D K [.ref (ad 0), .int x1] (wC ad K nw σ) r (wC ad K nw τ) := by
  refine met_i pl_RX6 (Nat.le_of_ble_eq_true rfl) (fun X hnL B RET => ?_)
  suffices h : MW X (wC ad K nw σ) 0 [some (.ref (ad 0)), some (.int x1), none] [] from h
  unfold f_X6_seed at hf
  refine r_iload_n B (pc := 0) dX6_seed_0 rfl rfl ?_
  refine r_if_ge B (pc := 1) (tgt := 6) dX6_seed_1 (by decide) hf (fun _ hf => ?_) (fun _ hf => ?_)
  · refine r_aload_n B (pc := 6) dX6_seed_6 rfl rfl ?_
    refine gC_RX6_10_0 B (pc := 7) dX6_seed_7 ?_
    refine gC_RX6_245_1 B (pc := 10) dX6_seed_10 ?_
    refine r_nm hf (fun y1 hf => ?_)
    refine r_istore_n B hnL (pc := 13) dX6_seed_13 rfl (by decide) ?_
    refine r_lc (loc' := [some (.ref (ad 0)), some (.int x1), some (.int y1)]) rfl ?_
    refine r_aload_n B (pc := 14) dX6_seed_14 rfl rfl ?_
    refine gC_RX6_10_0 B (pc := 15) dX6_seed_15 ?_
    refine r_iload_n B (pc := 18) dX6_seed_18 rfl rfl ?_
    refine pC_RX6_245_1 B (pc := 19) dX6_seed_19 hf (fun s2 hf => ?_)
    refine r_iload_n B (pc := 22) dX6_seed_22 rfl rfl ?_
    exact e_pz (F := (wC ad K nw)) hf (nar_i _) (RET 23 _ dX6_seed_23)
  · refine r_iconst B (pc := 4) dX6_seed_4 kc_m1 ?_
    exact e_pz (F := (wC ad K nw)) hf (nar_i _) (RET 5 _ dX6_seed_5)
set_option maxHeartbeats 4000000 in
set_option maxRecDepth 20000 in
theorem c_X3_inArrearsOf (l : Launch) (D : va_G) (K : Kt) (ad : Nat → Nat) (nw : Nat) (σ : St) (x1 : Int32) {r : Int32} (hf : f_X3_inArrearsOf σ x1 = some r) : CtI l yX3_inArrearsOf cX3_inArrearsOf 2 (some .int) 3 67 D K [.ref (ad 1), .int x1] (wC ad K nw σ) r (wC ad K nw σ) := by
  refine met_i pl_RX3 (Nat.le_of_ble_eq_true rfl) (fun X hnL B RET => ?_)
  suffices h : MW X (wC ad K nw σ) 0 [some (.ref (ad 1)), some (.int x1)] [] from h
  unfold f_X3_inArrearsOf at hf
  refine r_aload_n B (pc := 0) dX3_inArrearsOf_0 rfl rfl ?_
  refine r_iload_n B (pc := 1) dX3_inArrearsOf_1 rfl rfl ?_
  obtain ⟨r2, hc1, hf⟩ := bdr_e hf
  refine r_cVI B (c_X3_owedBy X.l X.D K ad nw σ x1 hc1) F_X3_owedBy lk_RX3_129 (q0 := 1) (ci := 3) rfl rfl (Nat.le_of_ble_eq_true rfl) (Nat.le_of_ble_eq_true rfl) (Nat.le_of_ble_eq_true rfl) (pc := 2) dX3_inArrearsOf_2 rfl ?_
  refine r_aload_n B (pc := 5) dX3_inArrearsOf_5 rfl rfl ?_
  refine r_iload_n B (pc := 6) dX3_inArrearsOf_6 rfl rfl ?_
  obtain ⟨r4, hc3, hf⟩ := bdr_e hf
  refine r_cVI B (c_X3_heardOf X.l X.D K ad nw σ x1 hc3) F_X3_heardOf lk_RX3_132 (q0 := 1) (ci := 3) rfl rfl (Nat.le_of_ble_eq_true rfl) (Nat.le_of_ble_eq_true rfl) (Nat.le_of_ble_eq_true rfl) (pc := 7) dX3_inArrearsOf_7 rfl ?_
  refine r_iconst B (pc := 10) dX3_inArrearsOf_10 kc_m1 ?_
  refine r_ixor B (pc := 11) dX3_inArrearsOf_11 ?_
  refine r_iand B (pc := 12) dX3_inArrearsOf_12 ?_
  exact e_rz hf (nar_i _) (RET 13 _ dX3_inArrearsOf_13)
set_option maxHeartbeats 4000000 in
set_option maxRecDepth 20000 in
theorem c_X6_stand (l : Launch) (D : va_G) (K : Kt) (ad : Nat → Nat) (nw : Nat) (σ : St) (x1 : Int32) (x2 : Int32) {r : Int32} (hf : f_X6_stand σ x1 x2 = some r) : CtI l yX6_stand cX6_stand 9 (some .int) 5 116 D K [.ref (ad 0), .int x1, .int x2] (wC ad K nw σ) r (wC ad K nw σ) := by
  refine met_i pl_RX6 (Nat.le_of_ble_eq_true rfl) (fun X hnL B RET => ?_)
  suffices h : MW X (wC ad K nw σ) 0 [some (.ref (ad 0)), some (.int x1), some (.int x2), none, none, none, none, none, none] [] from h
  unfold f_X6_stand at hf
  refine r_aload_n B (pc := 0) dX6_stand_0 rfl rfl ?_
  refine r_iload_n B (pc := 1) dX6_stand_1 rfl rfl ?_
  refine r_i2l B (pc := 2) dX6_stand_2 ?_
  refine r_cVI B (c_X6_isReader X.l X.D K ad nw σ (x1.toInt64)) F_X6_isReader lk_RX6_224 (q0 := 0) (ci := 6) rfl rfl (Nat.le_of_ble_eq_true rfl) (Nat.le_of_ble_eq_true rfl) (Nat.le_of_ble_eq_true rfl) (pc := 3) dX6_stand_3 rfl ?_
  refine r_if_eq B (pc := 6) (tgt := 18) dX6_stand_6 (by decide) hf (fun _ hf => ?_) (fun _ hf => ?_)
  · refine r_iconst B (pc := 18) dX6_stand_18 kc_m1 ?_
    exact e_rz hf (nar_i _) (RET 19 _ dX6_stand_19)
  · refine r_aload_n B (pc := 9) dX6_stand_9 rfl rfl ?_
    refine r_iload_n B (pc := 10) dX6_stand_10 rfl rfl ?_
    refine r_i2l B (pc := 11) dX6_stand_11 ?_
    refine r_cVI B (c_X6_isNews X.l X.D K ad nw σ (x2.toInt64)) F_X6_isNews lk_RX6_107 (q0 := 0) (ci := 6) rfl rfl (Nat.le_of_ble_eq_true rfl) (Nat.le_of_ble_eq_true rfl) (Nat.le_of_ble_eq_true rfl) (pc := 12) dX6_stand_12 rfl ?_
    refine r_if_ne B (pc := 15) (tgt := 20) dX6_stand_15 (by decide) hf (fun _ hf => ?_) (fun _ hf => ?_)
    · refine r_aload_n B (pc := 20) dX6_stand_20 rfl rfl ?_
      refine gC_RX6_10_0 B (pc := 21) dX6_stand_21 ?_
      refine r_iload_n B (pc := 24) dX6_stand_24 rfl rfl ?_
      obtain ⟨r2, hc1, hf⟩ := bdr_e hf
      refine r_cVI B (c_X3_inArrearsOf X.l X.D K ad nw σ x2 hc1) F_X3_inArrearsOf lk_RX6_248 (q0 := 1) (ci := 3) rfl rfl (Nat.le_of_ble_eq_true rfl) (Nat.le_of_ble_eq_true rfl) (Nat.le_of_ble_eq_true rfl) (pc := 25) dX6_stand_25 rfl ?_
      refine r_istore_n B hnL (pc := 28) dX6_stand_28 rfl (by decide) ?_
      refine r_lc (loc' := [some (.ref (ad 0)), some (.int x1), some (.int x2), some (.int r2), none, none, none, none, none]) rfl ?_
      refine r_bipush B (pc := 29) dX6_stand_29 kb_m4 ?_
      refine r_istore B hnL (pc := 31) dX6_stand_31 (by decide) ?_
      refine r_lc (loc' := [some (.ref (ad 0)), some (.int x1), some (.int x2), some (.int r2), some (.int ((-4))), none, none, none, none]) rfl ?_
      refine r_iconst B (pc := 33) dX6_stand_33 kc_0 ?_
      refine r_istore B hnL (pc := 34) dX6_stand_34 (by decide) ?_
      refine r_lc (loc' := [some (.ref (ad 0)), some (.int x1), some (.int x2), some (.int r2), some (.int ((-4))), some (.int 0), none, none, none]) rfl ?_
      refine r_iconst B (pc := 36) dX6_stand_36 kc_0 ?_
      refine r_istore B hnL (pc := 37) dX6_stand_37 (by decide) ?_
      refine r_lc (loc' := [some (.ref (ad 0)), some (.int x1), some (.int x2), some (.int r2), some (.int ((-4))), some (.int 0), some (.int 0), none, none]) rfl ?_
      have k39 : ∀ (n39 : Nat) (v3 : Int32) (v4 : Int32) (v5 : Int32) (v6 : Int32), f_X6_stand_h39 σ x1 x2 n39 v3 v4 v5 v6 = some r → MW X (wC ad K nw σ) 39 [some (.ref (ad 0)), some (.int x1), some (.int x2), some (.int v3), some (.int v4), some (.int v5), some (.int v6), none, none] [] := by
        intro n39
        induction n39 with
        | zero => intro v3 v4 v5 v6 hf; exact nn_z hf
        | succ n39 ih39 =>
          intro v3 v4 v5 v6 hf
          rw [f_X6_stand_h39] at hf
          refine r_iload B (pc := 39) dX6_stand_39 rfl ?_
          refine r_bipush B (pc := 41) dX6_stand_41 kb_36 ?_
          refine r_icmp_ge B (pc := 43) (tgt := 118) dX6_stand_43 (by decide) hf (fun _ hf => ?_) (fun _ hf => ?_)
          · refine r_iload B (pc := 118) dX6_stand_118 rfl ?_
            exact e_rz hf (nar_i _) (RET 120 _ dX6_stand_120)
          · refine r_aload_n B (pc := 46) dX6_stand_46 rfl rfl ?_
            refine gC_RX6_10_0 B (pc := 47) dX6_stand_47 ?_
            refine r_iload_n B (pc := 50) dX6_stand_50 rfl rfl ?_
            refine r_iload B (pc := 51) dX6_stand_51 rfl ?_
            refine r_aload_n B (pc := 53) dX6_stand_53 rfl rfl ?_
            refine gC_RX6_10_0 B (pc := 54) dX6_stand_54 ?_
            refine gC_RX6_116_1 B (pc := 57) dX6_stand_57 ?_
            obtain ⟨r4, hc3, hf⟩ := bdr_e hf
            refine r_cVI B (c_X3_hearers X.l X.D K ad nw σ x1 v6 (σ.1 1 4) hc3) F_X3_hearers lk_RX6_227 (q0 := 1) (ci := 3) rfl rfl (Nat.le_of_ble_eq_true rfl) (Nat.le_of_ble_eq_true rfl) (Nat.le_of_ble_eq_true rfl) (pc := 60) dX6_stand_60 rfl ?_
            refine r_istore B hnL (pc := 63) dX6_stand_63 (by decide) ?_
            refine r_lc (loc' := [some (.ref (ad 0)), some (.int x1), some (.int x2), some (.int v3), some (.int v4), some (.int v5), some (.int v6), some (.int r4), none]) rfl ?_
            refine r_iload B (pc := 65) dX6_stand_65 rfl ?_
            refine r_iload_n B (pc := 67) dX6_stand_67 rfl rfl ?_
            refine r_iand B (pc := 68) dX6_stand_68 ?_
            refine r_cSI B (c_J6_bitCount_0f7a4 X.l X.D K _ (r4 &&& v3)) F_J6_bitCount_0f7a4 lk_RX6_251 (Nat.le_of_ble_eq_true rfl) (Nat.le_of_ble_eq_true rfl) (Nat.le_of_ble_eq_true rfl) (pc := 69) dX6_stand_69 rfl ?_
            refine r_nm hf (fun y5 hf => ?_)
            refine r_istore B hnL (pc := 72) dX6_stand_72 (by decide) ?_
            refine r_lc (loc' := [some (.ref (ad 0)), some (.int x1), some (.int x2), some (.int v3), some (.int v4), some (.int v5), some (.int v6), some (.int r4), some (.int y5)]) rfl ?_
            refine r_iload B (pc := 74) dX6_stand_74 rfl ?_
            refine r_iload B (pc := 76) dX6_stand_76 rfl ?_
            refine r_icmp_le B (pc := 78) (tgt := 112) dX6_stand_78 (by decide) hf (fun _ hf => ?_) (fun _ hf => ?_)
            · refine r_iincS B hnL (pc := 112) dX6_stand_112 rfl kc_1 (by decide) hf (fun y6 hf => ?_)
              refine r_lc (loc' := [some (.ref (ad 0)), some (.int x1), some (.int x2), some (.int v3), some (.int v4), some (.int v5), some (.int y6), some (.int r4), some (.int y5)]) rfl ?_
              refine r_goto B (pc := 115) (tgt := 39) dX6_stand_115 (by decide) ?_
              exact r_mask [true, true, true, true, true, true, true, false, false] rfl (ih39 v3 v4 v5 y6 hf)
            · refine r_aload_n B (pc := 81) dX6_stand_81 rfl rfl ?_
              refine gC_RX6_10_0 B (pc := 82) dX6_stand_82 ?_
              refine r_iload B (pc := 85) dX6_stand_85 rfl ?_
              refine r_iload_n B (pc := 87) dX6_stand_87 rfl rfl ?_
              refine r_aload_n B (pc := 88) dX6_stand_88 rfl rfl ?_
              refine gC_RX6_10_0 B (pc := 89) dX6_stand_89 ?_
              refine gC_RX6_72_1 B (pc := 92) dX6_stand_92 ?_
              refine gC_RX6_137_2 B (pc := 95) dX6_stand_95 ?_
              obtain ⟨r8, hc7, hf⟩ := bdr_e hf
              refine r_cVI B (c_X3_wrongedOf_6 X.l X.D K ad nw σ r4 x2 hc7) F_X3_wrongedOf lk_RX6_235 (q0 := 1) (ci := 3) rfl rfl (Nat.le_of_ble_eq_true rfl) (Nat.le_of_ble_eq_true rfl) (Nat.le_of_ble_eq_true rfl) (pc := 98) dX6_stand_98 rfl ?_
              refine r_if_ne B (pc := 101) (tgt := 112) dX6_stand_101 (by decide) hf (fun _ hf => ?_) (fun _ hf => ?_)
              · refine r_iincS B hnL (pc := 112) dX6_stand_112 rfl kc_1 (by decide) hf (fun y9 hf => ?_)
                refine r_lc (loc' := [some (.ref (ad 0)), some (.int x1), some (.int x2), some (.int v3), some (.int v4), some (.int v5), some (.int y9), some (.int r4), some (.int y5)]) rfl ?_
                refine r_goto B (pc := 115) (tgt := 39) dX6_stand_115 (by decide) ?_
                exact r_mask [true, true, true, true, true, true, true, false, false] rfl (ih39 v3 v4 v5 y9 hf)
              · refine r_iload B (pc := 104) dX6_stand_104 rfl ?_
                refine r_istore B hnL (pc := 106) dX6_stand_106 (by decide) ?_
                refine r_lc (loc' := [some (.ref (ad 0)), some (.int x1), some (.int x2), some (.int v3), some (.int v4), some (.int y5), some (.int v6), some (.int r4), some (.int y5)]) rfl ?_
                refine r_iload B (pc := 108) dX6_stand_108 rfl ?_
                refine r_istore B hnL (pc := 110) dX6_stand_110 (by decide) ?_
                refine r_lc (loc' := [some (.ref (ad 0)), some (.int x1), some (.int x2), some (.int v3), some (.int v6), some (.int y5), some (.int v6), some (.int r4), some (.int y5)]) rfl ?_
                refine r_iincS B hnL (pc := 112) dX6_stand_112 rfl kc_1 (by decide) hf (fun y10 hf => ?_)
                refine r_lc (loc' := [some (.ref (ad 0)), some (.int x1), some (.int x2), some (.int v3), some (.int v6), some (.int y5), some (.int y10), some (.int r4), some (.int y5)]) rfl ?_
                refine r_goto B (pc := 115) (tgt := 39) dX6_stand_115 (by decide) ?_
                exact r_mask [true, true, true, true, true, true, true, false, false] rfl (ih39 v3 v6 y5 y10 hf)
      exact r_mask [true, true, true, true, true, true, true, false, false] rfl (k39 FU r2 ((-4)) 0 0 hf)
    · refine r_iconst B (pc := 18) dX6_stand_18 kc_m1 ?_
      exact e_rz hf (nar_i _) (RET 19 _ dX6_stand_19)
set_option maxHeartbeats 4000000 in
set_option maxRecDepth 20000 in
theorem c_X0_clear (l : Launch) (D : va_G) (K : Kt) (ad : Nat → Nat) (nw : Nat) (σ : St) {τ : St} (hf : f_X0_clear σ = some τ) : CtV l yX0_clear cX0_clear 1 none 0 0 D K [.ref (ad 62)] (wC ad K nw σ) (wC ad K nw τ) := by
  refine met_v pl_RX0 (Nat.le_of_ble_eq_true rfl) (fun X hnL B RET => ?_)
  suffices h : MW X (wC ad K nw σ) 0 [some (.ref (ad 62))] [] from h
  unfold f_X0_clear at hf
  refine r_aload_n B (pc := 0) dX0_clear_0 rfl rfl ?_
  refine r_iconst B (pc := 1) dX0_clear_1 kc_0 ?_
  refine pC_RX0_9_62 B (pc := 2) dX0_clear_2 hf (fun s1 hf => ?_)
  exact e_s (F := (wC ad K nw)) hf (RET 5 _ dX0_clear_5)
set_option maxHeartbeats 4000000 in
set_option maxRecDepth 20000 in
theorem c_X0_isFound (l : Launch) (D : va_G) (K : Kt) (ad : Nat → Nat) (nw : Nat) (σ : St) (x1 : Int32) (x2 : Int32) (x3 : Int32) (x4 : Int32) {r : Int32} {τ : St} (hf : f_X0_isFound σ x1 x2 x3 x4 = some (r, τ)) : CtI l yX0_isFound cX0_isFound 5 (some .boolean) 0 0 D K [.ref (ad 62), .int x1, .int x2, .int x3, .int x4] (wC ad K nw σ) r (wC ad K nw τ) := by
  refine met_i pl_RX0 (Nat.le_of_ble_eq_true rfl) (fun X hnL B RET => ?_)
  suffices h : MW X (wC ad K nw σ) 0 [some (.ref (ad 62)), some (.int x1), some (.int x2), some (.int x3), some (.int x4)] [] from h
  unfold f_X0_isFound at hf
  refine r_aload_n B (pc := 0) dX0_isFound_0 rfl rfl ?_
  refine r_iload_n B (pc := 1) dX0_isFound_1 rfl rfl ?_
  refine pC_RX0_22_62 B (pc := 2) dX0_isFound_2 hf (fun s1 hf => ?_)
  refine r_iload_n B (pc := 5) dX0_isFound_5 rfl rfl ?_
  have k21 : ∀ (σ21 : St), f_X0_isFound_b21 x1 x2 x3 x4 σ21 = some (r, τ) → MW X (wC ad K nw σ21) 21 [some (.ref (ad 62)), some (.int x1), none, some (.int x3), some (.int x4)] [] := by
    intro σ21 hf
    unfold f_X0_isFound_b21 at hf
    refine r_iload_n B (pc := 21) dX0_isFound_21 rfl rfl ?_
    refine r_iconst B (pc := 22) dX0_isFound_22 kc_1 ?_
    have k38 : ∀ (σ38 : St), f_X0_isFound_b38 x1 x2 x3 x4 σ38 = some (r, τ) → MW X (wC ad K nw σ38) 38 [some (.ref (ad 62)), some (.int x1), none, none, some (.int x4)] [] := by
      intro σ38 hf
      unfold f_X0_isFound_b38 at hf
      refine r_iload_n B (pc := 38) dX0_isFound_38 rfl rfl ?_
      refine r_iconst B (pc := 39) dX0_isFound_39 kc_2 ?_
      refine r_icmp_le B (pc := 40) (tgt := 56) dX0_isFound_40 (by decide) hf (fun _ hf => ?_) (fun _ hf => ?_)
      · refine r_iconst B (pc := 56) dX0_isFound_56 kc_1 ?_
        exact e_pz (F := (wC ad K nw)) hf rfl (RET 57 _ dX0_isFound_57)
      · refine r_aload_n B (pc := 43) dX0_isFound_43 rfl rfl ?_
        refine gC_RX0_25_62 B (pc := 44) dX0_isFound_44 ?_
        refine r_iconst B (pc := 47) dX0_isFound_47 kc_2 ?_
        refine r_aload_n B (pc := 48) dX0_isFound_48 rfl rfl ?_
        refine gC_RX0_15_62 B (pc := 49) dX0_isFound_49 ?_
        refine r_iload B (pc := 52) dX0_isFound_52 rfl ?_
        refine aldC_63 B (pc := 54) dX0_isFound_54 hf (fun _ hf => ?_)
        refine astC_65 B (pc := 55) dX0_isFound_55 hf (fun s4 _ hf => ?_)
        refine r_iconst B (pc := 56) dX0_isFound_56 kc_1 ?_
        exact e_pz (F := (wC ad K nw)) hf rfl (RET 57 _ dX0_isFound_57)
    refine r_icmp_le B (pc := 23) (tgt := 38) dX0_isFound_23 (by decide) hf (fun _ hf => ?_) (fun _ hf => ?_)
    · exact r_mask [true, true, false, false, true] rfl (k38 σ21 hf)
    · refine r_aload_n B (pc := 26) dX0_isFound_26 rfl rfl ?_
      refine gC_RX0_25_62 B (pc := 27) dX0_isFound_27 ?_
      refine r_iconst B (pc := 30) dX0_isFound_30 kc_1 ?_
      refine r_aload_n B (pc := 31) dX0_isFound_31 rfl rfl ?_
      refine gC_RX0_15_62 B (pc := 32) dX0_isFound_32 ?_
      refine r_iload_n B (pc := 35) dX0_isFound_35 rfl rfl ?_
      refine aldC_63 B (pc := 36) dX0_isFound_36 hf (fun _ hf => ?_)
      refine astC_65 B (pc := 37) dX0_isFound_37 hf (fun s3 _ hf => ?_)
      exact r_mask [true, true, false, false, true] rfl (k38 s3 hf)
  refine r_if_le B (pc := 6) (tgt := 21) dX0_isFound_6 (by decide) hf (fun _ hf => ?_) (fun _ hf => ?_)
  · exact r_mask [true, true, false, true, true] rfl (k21 s1 hf)
  · refine r_aload_n B (pc := 9) dX0_isFound_9 rfl rfl ?_
    refine gC_RX0_25_62 B (pc := 10) dX0_isFound_10 ?_
    refine r_iconst B (pc := 13) dX0_isFound_13 kc_0 ?_
    refine r_aload_n B (pc := 14) dX0_isFound_14 rfl rfl ?_
    refine gC_RX0_15_62 B (pc := 15) dX0_isFound_15 ?_
    refine r_iload_n B (pc := 18) dX0_isFound_18 rfl rfl ?_
    refine aldC_63 B (pc := 19) dX0_isFound_19 hf (fun _ hf => ?_)
    refine astC_65 B (pc := 20) dX0_isFound_20 hf (fun s2 _ hf => ?_)
    exact r_mask [true, true, false, true, true] rfl (k21 s2 hf)
set_option maxHeartbeats 4000000 in
set_option maxRecDepth 20000 in
theorem c_X0_searchOne (l : Launch) (D : va_G) (K : Kt) (ad : Nat → Nat) (nw : Nat) (σ : St) (x1 : Int32) {r : Int32} {τ : St} (hf : f_X0_searchOne σ x1 = some (r, τ)) : CtI l yX0_searchOne cX0_searchOne 3 (some .boolean) 1 24 D K [.ref (ad 62), .int x1] (wC ad K nw σ) r (wC ad K nw τ) := by
  refine met_i pl_RX0 (Nat.le_of_ble_eq_true rfl) (fun X hnL B RET => ?_)
  suffices h : MW X (wC ad K nw σ) 0 [some (.ref (ad 62)), some (.int x1), none] [] from h
  unfold f_X0_searchOne at hf
  refine r_iconst B (pc := 0) dX0_searchOne_0 kc_0 ?_
  refine r_istore_n B hnL (pc := 1) dX0_searchOne_1 rfl (by decide) ?_
  refine r_lc (loc' := [some (.ref (ad 62)), some (.int x1), some (.int 0)]) rfl ?_
  have k2 : ∀ (n2 : Nat) (v2 : Int32) (σ2 : St), f_X0_searchOne_h2 x1 n2 v2 σ2 = some (r, τ) → MW X (wC ad K nw σ2) 2 [some (.ref (ad 62)), some (.int x1), some (.int v2)] [] := by
    intro n2
    induction n2 with
    | zero => intro v2 σ2 hf; exact nn_z hf
    | succ n2 ih2 =>
      intro v2 σ2 hf
      rw [f_X0_searchOne_h2] at hf
      refine r_iload_n B (pc := 2) dX0_searchOne_2 rfl rfl ?_
      refine r_aload_n B (pc := 3) dX0_searchOne_3 rfl rfl ?_
      refine gC_RX0_9_62 B (pc := 4) dX0_searchOne_4 ?_
      refine r_icmp_ge B (pc := 7) (tgt := 38) dX0_searchOne_7 (by decide) hf (fun _ hf => ?_) (fun _ hf => ?_)
      · refine r_iconst B (pc := 38) dX0_searchOne_38 kc_0 ?_
        exact e_pz (F := (wC ad K nw)) hf rfl (RET 39 _ dX0_searchOne_39)
      · refine r_iload_n B (pc := 10) dX0_searchOne_10 rfl rfl ?_
        refine r_aload_n B (pc := 11) dX0_searchOne_11 rfl rfl ?_
        refine gC_RX0_19_62 B (pc := 12) dX0_searchOne_12 ?_
        refine r_iload_n B (pc := 15) dX0_searchOne_15 rfl rfl ?_
        refine aldC_64 B (pc := 16) dX0_searchOne_16 hf (fun _ hf => ?_)
        refine r_iconst B (pc := 17) dX0_searchOne_17 kc_m1 ?_
        refine r_ixor B (pc := 18) dX0_searchOne_18 ?_
        refine r_iand B (pc := 19) dX0_searchOne_19 ?_
        refine r_if_ne B (pc := 20) (tgt := 32) dX0_searchOne_20 (by decide) hf (fun _ hf => ?_) (fun _ hf => ?_)
        · refine r_iincS B hnL (pc := 32) dX0_searchOne_32 rfl kc_1 (by decide) hf (fun y1 hf => ?_)
          refine r_lc (loc' := [some (.ref (ad 62)), some (.int x1), some (.int y1)]) rfl ?_
          refine r_goto B (pc := 35) (tgt := 2) dX0_searchOne_35 (by decide) ?_
          exact r_mask [true, true, true] rfl (ih2 y1 σ2 hf)
        · refine r_aload_n B (pc := 23) dX0_searchOne_23 rfl rfl ?_
          refine r_iconst B (pc := 24) dX0_searchOne_24 kc_1 ?_
          refine r_iload_n B (pc := 25) dX0_searchOne_25 rfl rfl ?_
          refine r_iconst B (pc := 26) dX0_searchOne_26 kc_0 ?_
          refine r_iconst B (pc := 27) dX0_searchOne_27 kc_0 ?_
          obtain ⟨r3, s4, hc2, hf⟩ := bdp_e hf
          refine r_cVI B (c_X0_isFound X.l X.D K ad nw σ2 1 v2 0 0 hc2) F_X0_isFound lk_RX0_28 (q0 := 62) (ci := 0) rfl rfl (Nat.le_of_ble_eq_true rfl) (Nat.le_of_ble_eq_true rfl) (Nat.le_of_ble_eq_true rfl) (pc := 28) dX0_searchOne_28 rfl ?_
          have hn := (it_n hf).1
          have hf := (it_n hf).2
          exact e_pz (F := (wC ad K nw)) hf (nar_b hn) (RET 31 _ dX0_searchOne_31)
  exact r_mask [true, true, true] rfl (k2 FU 0 σ hf)
set_option maxHeartbeats 4000000 in
set_option maxRecDepth 20000 in
theorem c_X0_searchTwo (l : Launch) (D : va_G) (K : Kt) (ad : Nat → Nat) (nw : Nat) (σ : St) (x1 : Int32) {r : Int32} {τ : St} (hf : f_X0_searchTwo σ x1 = some (r, τ)) : CtI l yX0_searchTwo cX0_searchTwo 5 (some .boolean) 1 24 D K [.ref (ad 62), .int x1] (wC ad K nw σ) r (wC ad K nw τ) := by
  refine met_i pl_RX0 (Nat.le_of_ble_eq_true rfl) (fun X hnL B RET => ?_)
  suffices h : MW X (wC ad K nw σ) 0 [some (.ref (ad 62)), some (.int x1), none, none, none] [] from h
  unfold f_X0_searchTwo at hf
  refine r_iconst B (pc := 0) dX0_searchTwo_0 kc_0 ?_
  refine r_istore_n B hnL (pc := 1) dX0_searchTwo_1 rfl (by decide) ?_
  refine r_lc (loc' := [some (.ref (ad 62)), some (.int x1), some (.int 0), none, none]) rfl ?_
  have k2 : ∀ (n2 : Nat) (v2 : Int32) (σ2 : St), f_X0_searchTwo_h2 x1 n2 v2 σ2 = some (r, τ) → MW X (wC ad K nw σ2) 2 [some (.ref (ad 62)), some (.int x1), some (.int v2), none, none] [] := by
    intro n2
    induction n2 with
    | zero => intro v2 σ2 hf; exact nn_z hf
    | succ n2 ih2 =>
      intro v2 σ2 hf
      rw [f_X0_searchTwo_h2] at hf
      refine r_iload_n B (pc := 2) dX0_searchTwo_2 rfl rfl ?_
      refine r_aload_n B (pc := 3) dX0_searchTwo_3 rfl rfl ?_
      refine gC_RX0_9_62 B (pc := 4) dX0_searchTwo_4 ?_
      refine r_icmp_ge B (pc := 7) (tgt := 88) dX0_searchTwo_7 (by decide) hf (fun _ hf => ?_) (fun _ hf => ?_)
      · refine r_iconst B (pc := 88) dX0_searchTwo_88 kc_0 ?_
        exact e_pz (F := (wC ad K nw)) hf rfl (RET 89 _ dX0_searchTwo_89)
      · refine r_iload_n B (pc := 10) dX0_searchTwo_10 rfl rfl ?_
        refine r_aload_n B (pc := 11) dX0_searchTwo_11 rfl rfl ?_
        refine gC_RX0_19_62 B (pc := 12) dX0_searchTwo_12 ?_
        refine r_iload_n B (pc := 15) dX0_searchTwo_15 rfl rfl ?_
        refine aldC_64 B (pc := 16) dX0_searchTwo_16 hf (fun _ hf => ?_)
        refine r_iconst B (pc := 17) dX0_searchTwo_17 kc_m1 ?_
        refine r_ixor B (pc := 18) dX0_searchTwo_18 ?_
        refine r_iand B (pc := 19) dX0_searchTwo_19 ?_
        refine r_nm hf (fun y1 hf => ?_)
        refine r_istore_n B hnL (pc := 20) dX0_searchTwo_20 rfl (by decide) ?_
        refine r_lc (loc' := [some (.ref (ad 62)), some (.int x1), some (.int v2), some (.int y1), none]) rfl ?_
        refine r_iload_n B (pc := 21) dX0_searchTwo_21 rfl rfl ?_
        refine r_iconst B (pc := 22) dX0_searchTwo_22 kc_1 ?_
        refine r_iadd B (pc := 23) dX0_searchTwo_23 ?_
        refine r_nm hf (fun y2 hf => ?_)
        refine r_istore B hnL (pc := 24) dX0_searchTwo_24 (by decide) ?_
        refine r_lc (loc' := [some (.ref (ad 62)), some (.int x1), some (.int v2), some (.int y1), some (.int y2)]) rfl ?_
        have k26 : ∀ (n26 : Nat) (v2 : Int32) (v3 : Int32) (v4 : Int32) (σ26 : St), f_X0_searchTwo_h26 (f_X0_searchTwo_h2 x1 n2) x1 n26 v2 v3 v4 σ26 = some (r, τ) → MW X (wC ad K nw σ26) 26 [some (.ref (ad 62)), some (.int x1), some (.int v2), some (.int v3), some (.int v4)] [] := by
          intro n26
          induction n26 with
          | zero => intro v2 v3 v4 σ26 hf; exact nn_z hf
          | succ n26 ih26 =>
            intro v2 v3 v4 σ26 hf
            rw [f_X0_searchTwo_h26] at hf
            refine r_iload B (pc := 26) dX0_searchTwo_26 rfl ?_
            refine r_aload_n B (pc := 28) dX0_searchTwo_28 rfl rfl ?_
            refine gC_RX0_9_62 B (pc := 29) dX0_searchTwo_29 ?_
            refine r_icmp_ge B (pc := 32) (tgt := 82) dX0_searchTwo_32 (by decide) hf (fun _ hf => ?_) (fun _ hf => ?_)
            · refine r_iincS B hnL (pc := 82) dX0_searchTwo_82 rfl kc_1 (by decide) hf (fun y3 hf => ?_)
              refine r_lc (loc' := [some (.ref (ad 62)), some (.int x1), some (.int y3), some (.int v3), some (.int v4)]) rfl ?_
              refine r_goto B (pc := 85) (tgt := 2) dX0_searchTwo_85 (by decide) ?_
              exact r_mask [true, true, true, false, false] rfl (ih2 y3 σ26 hf)
            · refine r_aload_n B (pc := 35) dX0_searchTwo_35 rfl rfl ?_
              refine gC_RX0_19_62 B (pc := 36) dX0_searchTwo_36 ?_
              refine r_iload_n B (pc := 39) dX0_searchTwo_39 rfl rfl ?_
              refine aldC_64 B (pc := 40) dX0_searchTwo_40 hf (fun _ hf => ?_)
              refine r_aload_n B (pc := 41) dX0_searchTwo_41 rfl rfl ?_
              refine gC_RX0_19_62 B (pc := 42) dX0_searchTwo_42 ?_
              refine r_iload B (pc := 45) dX0_searchTwo_45 rfl ?_
              refine aldC_64 B (pc := 47) dX0_searchTwo_47 hf (fun _ hf => ?_)
              refine r_iand B (pc := 48) dX0_searchTwo_48 ?_
              refine r_if_ne B (pc := 49) (tgt := 76) dX0_searchTwo_49 (by decide) hf (fun _ hf => ?_) (fun _ hf => ?_)
              · refine r_iincS B hnL (pc := 76) dX0_searchTwo_76 rfl kc_1 (by decide) hf (fun y4 hf => ?_)
                refine r_lc (loc' := [some (.ref (ad 62)), some (.int x1), some (.int v2), some (.int v3), some (.int y4)]) rfl ?_
                refine r_goto B (pc := 79) (tgt := 26) dX0_searchTwo_79 (by decide) ?_
                exact r_mask [true, true, true, true, true] rfl (ih26 v2 v3 y4 σ26 hf)
              · refine r_iload_n B (pc := 52) dX0_searchTwo_52 rfl rfl ?_
                refine r_aload_n B (pc := 53) dX0_searchTwo_53 rfl rfl ?_
                refine gC_RX0_19_62 B (pc := 54) dX0_searchTwo_54 ?_
                refine r_iload B (pc := 57) dX0_searchTwo_57 rfl ?_
                refine aldC_64 B (pc := 59) dX0_searchTwo_59 hf (fun _ hf => ?_)
                refine r_iconst B (pc := 60) dX0_searchTwo_60 kc_m1 ?_
                refine r_ixor B (pc := 61) dX0_searchTwo_61 ?_
                refine r_iand B (pc := 62) dX0_searchTwo_62 ?_
                refine r_if_ne B (pc := 63) (tgt := 76) dX0_searchTwo_63 (by decide) hf (fun _ hf => ?_) (fun _ hf => ?_)
                · refine r_iincS B hnL (pc := 76) dX0_searchTwo_76 rfl kc_1 (by decide) hf (fun y5 hf => ?_)
                  refine r_lc (loc' := [some (.ref (ad 62)), some (.int x1), some (.int v2), some (.int v3), some (.int y5)]) rfl ?_
                  refine r_goto B (pc := 79) (tgt := 26) dX0_searchTwo_79 (by decide) ?_
                  exact r_mask [true, true, true, true, true] rfl (ih26 v2 v3 y5 σ26 hf)
                · refine r_aload_n B (pc := 66) dX0_searchTwo_66 rfl rfl ?_
                  refine r_iconst B (pc := 67) dX0_searchTwo_67 kc_2 ?_
                  refine r_iload_n B (pc := 68) dX0_searchTwo_68 rfl rfl ?_
                  refine r_iload B (pc := 69) dX0_searchTwo_69 rfl ?_
                  refine r_iconst B (pc := 71) dX0_searchTwo_71 kc_0 ?_
                  obtain ⟨r7, s8, hc6, hf⟩ := bdp_e hf
                  refine r_cVI B (c_X0_isFound X.l X.D K ad nw σ26 2 v2 v4 0 hc6) F_X0_isFound lk_RX0_28 (q0 := 62) (ci := 0) rfl rfl (Nat.le_of_ble_eq_true rfl) (Nat.le_of_ble_eq_true rfl) (Nat.le_of_ble_eq_true rfl) (pc := 72) dX0_searchTwo_72 rfl ?_
                  have hn := (it_n hf).1
                  have hf := (it_n hf).2
                  exact e_pz (F := (wC ad K nw)) hf (nar_b hn) (RET 75 _ dX0_searchTwo_75)
        exact r_mask [true, true, true, true, true] rfl (k26 FU v2 y1 y2 σ2 hf)
  exact r_mask [true, true, true, false, false] rfl (k2 FU 0 σ hf)
set_option maxHeartbeats 4000000 in
set_option maxRecDepth 20000 in
theorem c_X0_searchThree (l : Launch) (D : va_G) (K : Kt) (ad : Nat → Nat) (nw : Nat) (σ : St) (x1 : Int32) {r : Int32} {τ : St} (hf : f_X0_searchThree σ x1 = some (r, τ)) : CtI l yX0_searchThree cX0_searchThree 6 (some .boolean) 1 24 D K [.ref (ad 62), .int x1] (wC ad K nw σ) r (wC ad K nw τ) := by
  refine met_i pl_RX0 (Nat.le_of_ble_eq_true rfl) (fun X hnL B RET => ?_)
  suffices h : MW X (wC ad K nw σ) 0 [some (.ref (ad 62)), some (.int x1), none, none, none, none] [] from h
  unfold f_X0_searchThree at hf
  refine r_iconst B (pc := 0) dX0_searchThree_0 kc_0 ?_
  refine r_istore_n B hnL (pc := 1) dX0_searchThree_1 rfl (by decide) ?_
  refine r_lc (loc' := [some (.ref (ad 62)), some (.int x1), some (.int 0), none, none, none]) rfl ?_
  have k2 : ∀ (n2 : Nat) (v2 : Int32) (σ2 : St), f_X0_searchThree_h2 x1 n2 v2 σ2 = some (r, τ) → MW X (wC ad K nw σ2) 2 [some (.ref (ad 62)), some (.int x1), some (.int v2), none, none, none] [] := by
    intro n2
    induction n2 with
    | zero => intro v2 σ2 hf; exact nn_z hf
    | succ n2 ih2 =>
      intro v2 σ2 hf
      rw [f_X0_searchThree_h2] at hf
      refine r_iload_n B (pc := 2) dX0_searchThree_2 rfl rfl ?_
      refine r_aload_n B (pc := 3) dX0_searchThree_3 rfl rfl ?_
      refine gC_RX0_9_62 B (pc := 4) dX0_searchThree_4 ?_
      refine r_icmp_ge B (pc := 7) (tgt := 128) dX0_searchThree_7 (by decide) hf (fun _ hf => ?_) (fun _ hf => ?_)
      · refine r_iconst B (pc := 128) dX0_searchThree_128 kc_0 ?_
        exact e_pz (F := (wC ad K nw)) hf rfl (RET 129 _ dX0_searchThree_129)
      · refine r_iload_n B (pc := 10) dX0_searchThree_10 rfl rfl ?_
        refine r_iconst B (pc := 11) dX0_searchThree_11 kc_1 ?_
        refine r_iadd B (pc := 12) dX0_searchThree_12 ?_
        refine r_nm hf (fun y1 hf => ?_)
        refine r_istore_n B hnL (pc := 13) dX0_searchThree_13 rfl (by decide) ?_
        refine r_lc (loc' := [some (.ref (ad 62)), some (.int x1), some (.int v2), some (.int y1), none, none]) rfl ?_
        have k14 : ∀ (n14 : Nat) (v2 : Int32) (v3 : Int32) (σ14 : St), f_X0_searchThree_h14 (f_X0_searchThree_h2 x1 n2) x1 n14 v2 v3 σ14 = some (r, τ) → MW X (wC ad K nw σ14) 14 [some (.ref (ad 62)), some (.int x1), some (.int v2), some (.int v3), none, none] [] := by
          intro n14
          induction n14 with
          | zero => intro v2 v3 σ14 hf; exact nn_z hf
          | succ n14 ih14 =>
            intro v2 v3 σ14 hf
            rw [f_X0_searchThree_h14] at hf
            refine r_iload_n B (pc := 14) dX0_searchThree_14 rfl rfl ?_
            refine r_aload_n B (pc := 15) dX0_searchThree_15 rfl rfl ?_
            refine gC_RX0_9_62 B (pc := 16) dX0_searchThree_16 ?_
            refine r_icmp_ge B (pc := 19) (tgt := 122) dX0_searchThree_19 (by decide) hf (fun _ hf => ?_) (fun _ hf => ?_)
            · refine r_iincS B hnL (pc := 122) dX0_searchThree_122 rfl kc_1 (by decide) hf (fun y2 hf => ?_)
              refine r_lc (loc' := [some (.ref (ad 62)), some (.int x1), some (.int y2), some (.int v3), none, none]) rfl ?_
              refine r_goto B (pc := 125) (tgt := 2) dX0_searchThree_125 (by decide) ?_
              exact r_mask [true, true, true, false, false, false] rfl (ih2 y2 σ14 hf)
            · refine r_aload_n B (pc := 22) dX0_searchThree_22 rfl rfl ?_
              refine gC_RX0_19_62 B (pc := 23) dX0_searchThree_23 ?_
              refine r_iload_n B (pc := 26) dX0_searchThree_26 rfl rfl ?_
              refine aldC_64 B (pc := 27) dX0_searchThree_27 hf (fun _ hf => ?_)
              refine r_aload_n B (pc := 28) dX0_searchThree_28 rfl rfl ?_
              refine gC_RX0_19_62 B (pc := 29) dX0_searchThree_29 ?_
              refine r_iload_n B (pc := 32) dX0_searchThree_32 rfl rfl ?_
              refine aldC_64 B (pc := 33) dX0_searchThree_33 hf (fun _ hf => ?_)
              refine r_iand B (pc := 34) dX0_searchThree_34 ?_
              refine r_if_eq B (pc := 35) (tgt := 41) dX0_searchThree_35 (by decide) hf (fun _ hf => ?_) (fun _ hf => ?_)
              · refine r_aload_n B (pc := 41) dX0_searchThree_41 rfl rfl ?_
                refine gC_RX0_19_62 B (pc := 42) dX0_searchThree_42 ?_
                refine r_iload_n B (pc := 45) dX0_searchThree_45 rfl rfl ?_
                refine aldC_64 B (pc := 46) dX0_searchThree_46 hf (fun _ hf => ?_)
                refine r_aload_n B (pc := 47) dX0_searchThree_47 rfl rfl ?_
                refine gC_RX0_19_62 B (pc := 48) dX0_searchThree_48 ?_
                refine r_iload_n B (pc := 51) dX0_searchThree_51 rfl rfl ?_
                refine aldC_64 B (pc := 52) dX0_searchThree_52 hf (fun _ hf => ?_)
                refine r_ior B (pc := 53) dX0_searchThree_53 ?_
                refine r_nm hf (fun y3 hf => ?_)
                refine r_istore B hnL (pc := 54) dX0_searchThree_54 (by decide) ?_
                refine r_lc (loc' := [some (.ref (ad 62)), some (.int x1), some (.int v2), some (.int v3), some (.int y3), none]) rfl ?_
                refine r_iload_n B (pc := 56) dX0_searchThree_56 rfl rfl ?_
                refine r_iconst B (pc := 57) dX0_searchThree_57 kc_1 ?_
                refine r_iadd B (pc := 58) dX0_searchThree_58 ?_
                refine r_nm hf (fun y4 hf => ?_)
                refine r_istore B hnL (pc := 59) dX0_searchThree_59 (by decide) ?_
                refine r_lc (loc' := [some (.ref (ad 62)), some (.int x1), some (.int v2), some (.int v3), some (.int y3), some (.int y4)]) rfl ?_
                have k61 : ∀ (n61 : Nat) (v2 : Int32) (v3 : Int32) (v4 : Int32) (v5 : Int32) (σ61 : St), f_X0_searchThree_h61 (f_X0_searchThree_h2 x1 n2) (f_X0_searchThree_h14 (f_X0_searchThree_h2 x1 n2) x1 n14) x1 n61 v2 v3 v4 v5 σ61 = some (r, τ) → MW X (wC ad K nw σ61) 61 [some (.ref (ad 62)), some (.int x1), some (.int v2), some (.int v3), some (.int v4), some (.int v5)] [] := by
                  intro n61
                  induction n61 with
                  | zero => intro v2 v3 v4 v5 σ61 hf; exact nn_z hf
                  | succ n61 ih61 =>
                    intro v2 v3 v4 v5 σ61 hf
                    rw [f_X0_searchThree_h61] at hf
                    refine r_iload B (pc := 61) dX0_searchThree_61 rfl ?_
                    refine r_aload_n B (pc := 63) dX0_searchThree_63 rfl rfl ?_
                    refine gC_RX0_9_62 B (pc := 64) dX0_searchThree_64 ?_
                    refine r_icmp_ge B (pc := 67) (tgt := 116) dX0_searchThree_67 (by decide) hf (fun _ hf => ?_) (fun _ hf => ?_)
                    · refine r_iincS B hnL (pc := 116) dX0_searchThree_116 rfl kc_1 (by decide) hf (fun y5 hf => ?_)
                      refine r_lc (loc' := [some (.ref (ad 62)), some (.int x1), some (.int v2), some (.int y5), some (.int v4), some (.int v5)]) rfl ?_
                      refine r_goto B (pc := 119) (tgt := 14) dX0_searchThree_119 (by decide) ?_
                      exact r_mask [true, true, true, true, false, false] rfl (ih14 v2 y5 σ61 hf)
                    · refine r_iload B (pc := 70) dX0_searchThree_70 rfl ?_
                      refine r_aload_n B (pc := 72) dX0_searchThree_72 rfl rfl ?_
                      refine gC_RX0_19_62 B (pc := 73) dX0_searchThree_73 ?_
                      refine r_iload B (pc := 76) dX0_searchThree_76 rfl ?_
                      refine aldC_64 B (pc := 78) dX0_searchThree_78 hf (fun _ hf => ?_)
                      refine r_iand B (pc := 79) dX0_searchThree_79 ?_
                      refine r_if_ne B (pc := 80) (tgt := 110) dX0_searchThree_80 (by decide) hf (fun _ hf => ?_) (fun _ hf => ?_)
                      · refine r_iincS B hnL (pc := 110) dX0_searchThree_110 rfl kc_1 (by decide) hf (fun y6 hf => ?_)
                        refine r_lc (loc' := [some (.ref (ad 62)), some (.int x1), some (.int v2), some (.int v3), some (.int v4), some (.int y6)]) rfl ?_
                        refine r_goto B (pc := 113) (tgt := 61) dX0_searchThree_113 (by decide) ?_
                        exact r_mask [true, true, true, true, true, true] rfl (ih61 v2 v3 v4 y6 σ61 hf)
                      · refine r_iload_n B (pc := 83) dX0_searchThree_83 rfl rfl ?_
                        refine r_iload B (pc := 84) dX0_searchThree_84 rfl ?_
                        refine r_aload_n B (pc := 86) dX0_searchThree_86 rfl rfl ?_
                        refine gC_RX0_19_62 B (pc := 87) dX0_searchThree_87 ?_
                        refine r_iload B (pc := 90) dX0_searchThree_90 rfl ?_
                        refine aldC_64 B (pc := 92) dX0_searchThree_92 hf (fun _ hf => ?_)
                        refine r_ior B (pc := 93) dX0_searchThree_93 ?_
                        refine r_iconst B (pc := 94) dX0_searchThree_94 kc_m1 ?_
                        refine r_ixor B (pc := 95) dX0_searchThree_95 ?_
                        refine r_iand B (pc := 96) dX0_searchThree_96 ?_
                        refine r_if_ne B (pc := 97) (tgt := 110) dX0_searchThree_97 (by decide) hf (fun _ hf => ?_) (fun _ hf => ?_)
                        · refine r_iincS B hnL (pc := 110) dX0_searchThree_110 rfl kc_1 (by decide) hf (fun y7 hf => ?_)
                          refine r_lc (loc' := [some (.ref (ad 62)), some (.int x1), some (.int v2), some (.int v3), some (.int v4), some (.int y7)]) rfl ?_
                          refine r_goto B (pc := 113) (tgt := 61) dX0_searchThree_113 (by decide) ?_
                          exact r_mask [true, true, true, true, true, true] rfl (ih61 v2 v3 v4 y7 σ61 hf)
                        · refine r_aload_n B (pc := 100) dX0_searchThree_100 rfl rfl ?_
                          refine r_iconst B (pc := 101) dX0_searchThree_101 kc_3 ?_
                          refine r_iload_n B (pc := 102) dX0_searchThree_102 rfl rfl ?_
                          refine r_iload_n B (pc := 103) dX0_searchThree_103 rfl rfl ?_
                          refine r_iload B (pc := 104) dX0_searchThree_104 rfl ?_
                          obtain ⟨r9, s10, hc8, hf⟩ := bdp_e hf
                          refine r_cVI B (c_X0_isFound X.l X.D K ad nw σ61 3 v2 v3 v5 hc8) F_X0_isFound lk_RX0_28 (q0 := 62) (ci := 0) rfl rfl (Nat.le_of_ble_eq_true rfl) (Nat.le_of_ble_eq_true rfl) (Nat.le_of_ble_eq_true rfl) (pc := 106) dX0_searchThree_106 rfl ?_
                          have hn := (it_n hf).1
                          have hf := (it_n hf).2
                          exact e_pz (F := (wC ad K nw)) hf (nar_b hn) (RET 109 _ dX0_searchThree_109)
                exact r_mask [true, true, true, true, true, true] rfl (k61 FU v2 v3 y3 y4 σ14 hf)
              · refine r_goto B (pc := 38) (tgt := 116) dX0_searchThree_38 (by decide) ?_
                refine r_iincS B hnL (pc := 116) dX0_searchThree_116 rfl kc_1 (by decide) hf (fun y11 hf => ?_)
                refine r_lc (loc' := [some (.ref (ad 62)), some (.int x1), some (.int v2), some (.int y11), none, none]) rfl ?_
                refine r_goto B (pc := 119) (tgt := 14) dX0_searchThree_119 (by decide) ?_
                exact r_mask [true, true, true, true, false, false] rfl (ih14 v2 y11 σ14 hf)
        exact r_mask [true, true, true, true, false, false] rfl (k14 FU v2 y1 σ2 hf)
  exact r_mask [true, true, true, false, false, false] rfl (k2 FU 0 σ hf)
set_option maxHeartbeats 4000000 in
set_option maxRecDepth 20000 in
theorem c_X0_search (l : Launch) (D : va_G) (K : Kt) (ad : Nat → Nat) (nw : Nat) (σ : St) (x1 : Int32) {r : Int32} {τ : St} (hf : f_X0_search σ x1 = some (r, τ)) : CtI l yX0_search cX0_search 2 (some .boolean) 2 49 D K [.ref (ad 62), .int x1] (wC ad K nw σ) r (wC ad K nw τ) := by
  refine met_i pl_RX0 (Nat.le_of_ble_eq_true rfl) (fun X hnL B RET => ?_)
  suffices h : MW X (wC ad K nw σ) 0 [some (.ref (ad 62)), some (.int x1)] [] from h
  unfold f_X0_search at hf
  refine r_iload_n B (pc := 0) dX0_search_0 rfl rfl ?_
  refine r_if_ne B (pc := 1) (tgt := 13) dX0_search_1 (by decide) hf (fun _ hf => ?_) (fun _ hf => ?_)
  · refine r_aload_n B (pc := 13) dX0_search_13 rfl rfl ?_
    refine r_iload_n B (pc := 14) dX0_search_14 rfl rfl ?_
    obtain ⟨r2, s3, hc1, hf⟩ := bdp_e hf
    refine r_cVI B (c_X0_searchOne X.l X.D K ad nw σ x1 hc1) F_X0_searchOne lk_RX0_32 (q0 := 62) (ci := 0) rfl rfl (Nat.le_of_ble_eq_true rfl) (Nat.le_of_ble_eq_true rfl) (Nat.le_of_ble_eq_true rfl) (pc := 15) dX0_search_15 rfl ?_
    refine r_if_ne B (pc := 18) (tgt := 37) dX0_search_18 (by decide) hf (fun _ hf => ?_) (fun _ hf => ?_)
    · refine r_iconst B (pc := 37) dX0_search_37 kc_1 ?_
      refine r_goto B (pc := 38) (tgt := 42) dX0_search_38 (by decide) ?_
      exact e_pz (F := (wC ad K nw)) hf rfl (RET 42 _ dX0_search_42)
    · refine r_aload_n B (pc := 21) dX0_search_21 rfl rfl ?_
      refine r_iload_n B (pc := 22) dX0_search_22 rfl rfl ?_
      obtain ⟨r5, s6, hc4, hf⟩ := bdp_e hf
      refine r_cVI B (c_X0_searchTwo X.l X.D K ad nw s3 x1 hc4) F_X0_searchTwo lk_RX0_36 (q0 := 62) (ci := 0) rfl rfl (Nat.le_of_ble_eq_true rfl) (Nat.le_of_ble_eq_true rfl) (Nat.le_of_ble_eq_true rfl) (pc := 23) dX0_search_23 rfl ?_
      refine r_if_ne B (pc := 26) (tgt := 37) dX0_search_26 (by decide) hf (fun _ hf => ?_) (fun _ hf => ?_)
      · refine r_iconst B (pc := 37) dX0_search_37 kc_1 ?_
        refine r_goto B (pc := 38) (tgt := 42) dX0_search_38 (by decide) ?_
        exact e_pz (F := (wC ad K nw)) hf rfl (RET 42 _ dX0_search_42)
      · refine r_aload_n B (pc := 29) dX0_search_29 rfl rfl ?_
        refine r_iload_n B (pc := 30) dX0_search_30 rfl rfl ?_
        obtain ⟨r8, s9, hc7, hf⟩ := bdp_e hf
        refine r_cVI B (c_X0_searchThree X.l X.D K ad nw s6 x1 hc7) F_X0_searchThree lk_RX0_39 (q0 := 62) (ci := 0) rfl rfl (Nat.le_of_ble_eq_true rfl) (Nat.le_of_ble_eq_true rfl) (Nat.le_of_ble_eq_true rfl) (pc := 31) dX0_search_31 rfl ?_
        refine r_if_eq B (pc := 34) (tgt := 41) dX0_search_34 (by decide) hf (fun _ hf => ?_) (fun _ hf => ?_)
        · refine r_iconst B (pc := 41) dX0_search_41 kc_0 ?_
          exact e_pz (F := (wC ad K nw)) hf rfl (RET 42 _ dX0_search_42)
        · refine r_iconst B (pc := 37) dX0_search_37 kc_1 ?_
          refine r_goto B (pc := 38) (tgt := 42) dX0_search_38 (by decide) ?_
          exact e_pz (F := (wC ad K nw)) hf rfl (RET 42 _ dX0_search_42)
  · refine r_aload_n B (pc := 4) dX0_search_4 rfl rfl ?_
    refine r_iconst B (pc := 5) dX0_search_5 kc_0 ?_
    refine r_iconst B (pc := 6) dX0_search_6 kc_0 ?_
    refine r_iconst B (pc := 7) dX0_search_7 kc_0 ?_
    refine r_iconst B (pc := 8) dX0_search_8 kc_0 ?_
    obtain ⟨r11, s12, hc10, hf⟩ := bdp_e hf
    refine r_cVI B (c_X0_isFound X.l X.D K ad nw σ 0 0 0 0 hc10) F_X0_isFound lk_RX0_28 (q0 := 62) (ci := 0) rfl rfl (Nat.le_of_ble_eq_true rfl) (Nat.le_of_ble_eq_true rfl) (Nat.le_of_ble_eq_true rfl) (pc := 9) dX0_search_9 rfl ?_
    have hn := (it_n hf).1
    have hf := (it_n hf).2
    exact e_pz (F := (wC ad K nw)) hf (nar_b hn) (RET 12 _ dX0_search_12)
set_option maxHeartbeats 4000000 in
set_option maxRecDepth 20000 in
theorem c_X0_add (l : Launch) (D : va_G) (K : Kt) (ad : Nat → Nat) (nw : Nat) (σ : St) (x1 : Int32) (x2 : Int32) {τ : St} (hf : f_X0_add σ x1 x2 = some τ) : CtV l yX0_add cX0_add 3 none 0 0 D K [.ref (ad 62), .int x1, .int x2] (wC ad K nw σ) (wC ad K nw τ) := by
  refine met_v pl_RX0 (Nat.le_of_ble_eq_true rfl) (fun X hnL B RET => ?_)
  suffices h : MW X (wC ad K nw σ) 0 [some (.ref (ad 62)), some (.int x1), some (.int x2)] [] from h
  unfold f_X0_add at hf
  refine r_aload_n B (pc := 0) dX0_add_0 rfl rfl ?_
  refine gC_RX0_9_62 B (pc := 1) dX0_add_1 ?_
  refine r_bipush B (pc := 4) dX0_add_4 kb_36 ?_
  refine r_icmp_lt B (pc := 6) (tgt := 10) dX0_add_6 (by decide) hf (fun _ hf => ?_) (fun _ hf => ?_)
  · refine r_aload_n B (pc := 10) dX0_add_10 rfl rfl ?_
    refine gC_RX0_15_62 B (pc := 11) dX0_add_11 ?_
    refine r_aload_n B (pc := 14) dX0_add_14 rfl rfl ?_
    refine gC_RX0_9_62 B (pc := 15) dX0_add_15 ?_
    refine r_iload_n B (pc := 18) dX0_add_18 rfl rfl ?_
    refine astC_63 B (pc := 19) dX0_add_19 hf (fun s1 _ hf => ?_)
    refine r_aload_n B (pc := 20) dX0_add_20 rfl rfl ?_
    refine gC_RX0_19_62 B (pc := 21) dX0_add_21 ?_
    refine r_aload_n B (pc := 24) dX0_add_24 rfl rfl ?_
    refine gC_RX0_9_62 B (pc := 25) dX0_add_25 ?_
    refine r_iload_n B (pc := 28) dX0_add_28 rfl rfl ?_
    refine astC_64 B (pc := 29) dX0_add_29 hf (fun s2 _ hf => ?_)
    refine r_aload_n B (pc := 30) dX0_add_30 rfl rfl ?_
    refine r_dup B (pc := 31) dX0_add_31 rfl ?_
    refine gC_RX0_9_62 B (pc := 32) dX0_add_32 ?_
    refine r_iconst B (pc := 35) dX0_add_35 kc_1 ?_
    refine r_iadd B (pc := 36) dX0_add_36 ?_
    refine pC_RX0_9_62 B (pc := 37) dX0_add_37 hf (fun s3 hf => ?_)
    exact e_s (F := (wC ad K nw)) hf (RET 40 _ dX0_add_40)
  · exact e_s (F := (wC ad K nw)) hf (RET 9 _ dX0_add_9)
set_option maxHeartbeats 4000000 in
set_option maxRecDepth 20000 in
theorem c_X6_cover (l : Launch) (D : va_G) (K : Kt) (ad : Nat → Nat) (nw : Nat) (σ : St) (x1 : Int32) (x2 : Int32) (x3 : Int32) {r : Int32} {τ : St} (hf : f_X6_cover σ x1 x2 x3 = some (r, τ)) : CtI l yX6_cover cX6_cover 7 (some .int) 5 116 D K [.ref (ad 0), .int x1, .int x2, .int x3] (wC ad K nw σ) r (wC ad K nw τ) := by
  refine met_i pl_RX6 (Nat.le_of_ble_eq_true rfl) (fun X hnL B RET => ?_)
  suffices h : MW X (wC ad K nw σ) 0 [some (.ref (ad 0)), some (.int x1), some (.int x2), some (.int x3), none, none, none] [] from h
  unfold f_X6_cover at hf
  refine r_aload_n B (pc := 0) dX6_cover_0 rfl rfl ?_
  refine r_iload_n B (pc := 1) dX6_cover_1 rfl rfl ?_
  refine r_i2l B (pc := 2) dX6_cover_2 ?_
  refine r_cVI B (c_X6_isReader X.l X.D K ad nw σ (x1.toInt64)) F_X6_isReader lk_RX6_224 (q0 := 0) (ci := 6) rfl rfl (Nat.le_of_ble_eq_true rfl) (Nat.le_of_ble_eq_true rfl) (Nat.le_of_ble_eq_true rfl) (pc := 3) dX6_cover_3 rfl ?_
  refine r_if_eq B (pc := 6) (tgt := 28) dX6_cover_6 (by decide) hf (fun _ hf => ?_) (fun _ hf => ?_)
  · refine r_iconst B (pc := 28) dX6_cover_28 kc_m1 ?_
    exact e_pz (F := (wC ad K nw)) hf (nar_i _) (RET 29 _ dX6_cover_29)
  · refine r_aload_n B (pc := 9) dX6_cover_9 rfl rfl ?_
    refine r_iload_n B (pc := 10) dX6_cover_10 rfl rfl ?_
    refine r_i2l B (pc := 11) dX6_cover_11 ?_
    refine r_cVI B (c_X6_isNews X.l X.D K ad nw σ (x2.toInt64)) F_X6_isNews lk_RX6_107 (q0 := 0) (ci := 6) rfl rfl (Nat.le_of_ble_eq_true rfl) (Nat.le_of_ble_eq_true rfl) (Nat.le_of_ble_eq_true rfl) (pc := 12) dX6_cover_12 rfl ?_
    refine r_if_eq B (pc := 15) (tgt := 28) dX6_cover_15 (by decide) hf (fun _ hf => ?_) (fun _ hf => ?_)
    · refine r_iconst B (pc := 28) dX6_cover_28 kc_m1 ?_
      exact e_pz (F := (wC ad K nw)) hf (nar_i _) (RET 29 _ dX6_cover_29)
    · refine r_iload_n B (pc := 18) dX6_cover_18 rfl rfl ?_
      refine r_iconst B (pc := 19) dX6_cover_19 kc_m1 ?_
      refine r_icmp_lt B (pc := 20) (tgt := 28) dX6_cover_20 (by decide) hf (fun _ hf => ?_) (fun _ hf => ?_)
      · refine r_iconst B (pc := 28) dX6_cover_28 kc_m1 ?_
        exact e_pz (F := (wC ad K nw)) hf (nar_i _) (RET 29 _ dX6_cover_29)
      · refine r_iload_n B (pc := 23) dX6_cover_23 rfl rfl ?_
        refine r_iconst B (pc := 24) dX6_cover_24 kc_3 ?_
        refine r_icmp_lt B (pc := 25) (tgt := 30) dX6_cover_25 (by decide) hf (fun _ hf => ?_) (fun _ hf => ?_)
        · refine r_aload_n B (pc := 30) dX6_cover_30 rfl rfl ?_
          refine gC_RX6_10_0 B (pc := 31) dX6_cover_31 ?_
          refine r_iload_n B (pc := 34) dX6_cover_34 rfl rfl ?_
          obtain ⟨r2, hc1, hf⟩ := bdr_e hf
          refine r_cVI B (c_X3_inArrearsOf X.l X.D K ad nw σ x2 hc1) F_X3_inArrearsOf lk_RX6_248 (q0 := 1) (ci := 3) rfl rfl (Nat.le_of_ble_eq_true rfl) (Nat.le_of_ble_eq_true rfl) (Nat.le_of_ble_eq_true rfl) (pc := 35) dX6_cover_35 rfl ?_
          refine r_istore B hnL (pc := 38) dX6_cover_38 (by decide) ?_
          refine r_lc (loc' := [some (.ref (ad 0)), some (.int x1), some (.int x2), some (.int x3), some (.int r2), none, none]) rfl ?_
          refine r_aload_n B (pc := 40) dX6_cover_40 rfl rfl ?_
          refine gC_RX6_61_0 B (pc := 41) dX6_cover_41 ?_
          obtain ⟨s4, hc3, hf⟩ := bdr_e hf
          refine r_cVV B (c_X0_clear X.l X.D K ad nw σ hc3) F_X0_clear lk_RX6_256 (q0 := 62) (ci := 0) rfl rfl (Nat.le_of_ble_eq_true rfl) (Nat.le_of_ble_eq_true rfl) (Nat.le_of_ble_eq_true rfl) (pc := 44) dX6_cover_44 rfl ?_
          refine r_iconst B (pc := 47) dX6_cover_47 kc_0 ?_
          refine r_istore B hnL (pc := 48) dX6_cover_48 (by decide) ?_
          refine r_lc (loc' := [some (.ref (ad 0)), some (.int x1), some (.int x2), some (.int x3), some (.int r2), some (.int 0), none]) rfl ?_
          have k50 : ∀ (n50 : Nat) (v4 : Int32) (v5 : Int32) (σ50 : St), f_X6_cover_h50 x1 x2 x3 n50 v4 v5 σ50 = some (r, τ) → MW X (wC ad K nw σ50) 50 [some (.ref (ad 0)), some (.int x1), some (.int x2), some (.int x3), some (.int v4), some (.int v5), none] [] := by
            intro n50
            induction n50 with
            | zero => intro v4 v5 σ50 hf; exact nn_z hf
            | succ n50 ih50 =>
              intro v4 v5 σ50 hf
              rw [f_X6_cover_h50] at hf
              refine r_iload B (pc := 50) dX6_cover_50 rfl ?_
              refine r_bipush B (pc := 52) dX6_cover_52 kb_36 ?_
              refine r_icmp_ge B (pc := 54) (tgt := 127) dX6_cover_54 (by decide) hf (fun _ hf => ?_) (fun _ hf => ?_)
              · refine r_aload_n B (pc := 127) dX6_cover_127 rfl rfl ?_
                refine gC_RX6_61_0 B (pc := 128) dX6_cover_128 ?_
                refine r_iload B (pc := 131) dX6_cover_131 rfl ?_
                obtain ⟨r6, s7, hc5, hf⟩ := bdp_e hf
                refine r_cVI B (c_X0_search X.l X.D K ad nw σ50 v4 hc5) F_X0_search lk_RX6_262 (q0 := 62) (ci := 0) rfl rfl (Nat.le_of_ble_eq_true rfl) (Nat.le_of_ble_eq_true rfl) (Nat.le_of_ble_eq_true rfl) (pc := 133) dX6_cover_133 rfl ?_
                refine r_if_ne B (pc := 136) (tgt := 142) dX6_cover_136 (by decide) hf (fun _ hf => ?_) (fun _ hf => ?_)
                · refine r_iload_n B (pc := 142) dX6_cover_142 rfl rfl ?_
                  refine r_iconst B (pc := 143) dX6_cover_143 kc_m1 ?_
                  refine r_icmp_ne B (pc := 144) (tgt := 155) dX6_cover_144 (by decide) hf (fun _ hf => ?_) (fun _ hf => ?_)
                  · refine r_iload_n B (pc := 155) dX6_cover_155 rfl rfl ?_
                    refine r_aload_n B (pc := 156) dX6_cover_156 rfl rfl ?_
                    refine gC_RX6_61_0 B (pc := 157) dX6_cover_157 ?_
                    refine gC_RX6_265_62 B (pc := 160) dX6_cover_160 ?_
                    refine r_icmp_ge B (pc := 163) (tgt := 178) dX6_cover_163 (by decide) hf (fun _ hf => ?_) (fun _ hf => ?_)
                    · refine r_bipush B (pc := 178) dX6_cover_178 kb_m4 ?_
                      exact e_pz (F := (wC ad K nw)) hf (nar_i _) (RET 180 _ dX6_cover_180)
                    · refine r_aload_n B (pc := 166) dX6_cover_166 rfl rfl ?_
                      refine gC_RX6_61_0 B (pc := 167) dX6_cover_167 ?_
                      refine gC_RX6_268_62 B (pc := 170) dX6_cover_170 ?_
                      refine r_iload_n B (pc := 173) dX6_cover_173 rfl rfl ?_
                      refine aldC_65 B (pc := 174) dX6_cover_174 hf (fun _ hf => ?_)
                      refine r_goto B (pc := 175) (tgt := 180) dX6_cover_175 (by decide) ?_
                      exact e_pz (F := (wC ad K nw)) hf (nar_i _) (RET 180 _ dX6_cover_180)
                  · refine r_aload_n B (pc := 147) dX6_cover_147 rfl rfl ?_
                    refine gC_RX6_61_0 B (pc := 148) dX6_cover_148 ?_
                    refine gC_RX6_265_62 B (pc := 151) dX6_cover_151 ?_
                    exact e_pz (F := (wC ad K nw)) hf (nar_i _) (RET 154 _ dX6_cover_154)
                · refine r_bipush B (pc := 139) dX6_cover_139 kb_m4 ?_
                  exact e_pz (F := (wC ad K nw)) hf (nar_i _) (RET 141 _ dX6_cover_141)
              · refine r_aload_n B (pc := 57) dX6_cover_57 rfl rfl ?_
                refine gC_RX6_10_0 B (pc := 58) dX6_cover_58 ?_
                refine r_iload_n B (pc := 61) dX6_cover_61 rfl rfl ?_
                refine r_iload B (pc := 62) dX6_cover_62 rfl ?_
                refine r_aload_n B (pc := 64) dX6_cover_64 rfl rfl ?_
                refine gC_RX6_10_0 B (pc := 65) dX6_cover_65 ?_
                refine gC_RX6_116_1 B (pc := 68) dX6_cover_68 ?_
                obtain ⟨r9, hc8, hf⟩ := bdr_e hf
                refine r_cVI B (c_X3_hearers X.l X.D K ad nw σ50 x1 v5 (σ50.1 1 4) hc8) F_X3_hearers lk_RX6_227 (q0 := 1) (ci := 3) rfl rfl (Nat.le_of_ble_eq_true rfl) (Nat.le_of_ble_eq_true rfl) (Nat.le_of_ble_eq_true rfl) (pc := 71) dX6_cover_71 rfl ?_
                refine r_istore B hnL (pc := 74) dX6_cover_74 (by decide) ?_
                refine r_lc (loc' := [some (.ref (ad 0)), some (.int x1), some (.int x2), some (.int x3), some (.int v4), some (.int v5), some (.int r9)]) rfl ?_
                refine r_iload B (pc := 76) dX6_cover_76 rfl ?_
                refine r_iload B (pc := 78) dX6_cover_78 rfl ?_
                refine r_iand B (pc := 80) dX6_cover_80 ?_
                refine r_if_ne B (pc := 81) (tgt := 87) dX6_cover_81 (by decide) hf (fun _ hf => ?_) (fun _ hf => ?_)
                · refine r_aload_n B (pc := 87) dX6_cover_87 rfl rfl ?_
                  refine gC_RX6_10_0 B (pc := 88) dX6_cover_88 ?_
                  refine r_iload B (pc := 91) dX6_cover_91 rfl ?_
                  refine r_iload_n B (pc := 93) dX6_cover_93 rfl rfl ?_
                  refine r_aload_n B (pc := 94) dX6_cover_94 rfl rfl ?_
                  refine gC_RX6_10_0 B (pc := 95) dX6_cover_95 ?_
                  refine gC_RX6_72_1 B (pc := 98) dX6_cover_98 ?_
                  refine gC_RX6_137_2 B (pc := 101) dX6_cover_101 ?_
                  obtain ⟨r11, hc10, hf⟩ := bdr_e hf
                  refine r_cVI B (c_X3_wrongedOf_6 X.l X.D K ad nw σ50 r9 x2 hc10) F_X3_wrongedOf lk_RX6_235 (q0 := 1) (ci := 3) rfl rfl (Nat.le_of_ble_eq_true rfl) (Nat.le_of_ble_eq_true rfl) (Nat.le_of_ble_eq_true rfl) (pc := 104) dX6_cover_104 rfl ?_
                  refine r_if_ne B (pc := 107) (tgt := 121) dX6_cover_107 (by decide) hf (fun _ hf => ?_) (fun _ hf => ?_)
                  · refine r_iincS B hnL (pc := 121) dX6_cover_121 rfl kc_1 (by decide) hf (fun y12 hf => ?_)
                    refine r_lc (loc' := [some (.ref (ad 0)), some (.int x1), some (.int x2), some (.int x3), some (.int v4), some (.int y12), some (.int r9)]) rfl ?_
                    refine r_goto B (pc := 124) (tgt := 50) dX6_cover_124 (by decide) ?_
                    exact r_mask [true, true, true, true, true, true, false] rfl (ih50 v4 y12 σ50 hf)
                  · refine r_aload_n B (pc := 110) dX6_cover_110 rfl rfl ?_
                    refine gC_RX6_61_0 B (pc := 111) dX6_cover_111 ?_
                    refine r_iload B (pc := 114) dX6_cover_114 rfl ?_
                    refine r_iload B (pc := 116) dX6_cover_116 rfl ?_
                    obtain ⟨s14, hc13, hf⟩ := bdr_e hf
                    refine r_cVV B (c_X0_add X.l X.D K ad nw σ50 v5 r9 hc13) F_X0_add lk_RX6_259 (q0 := 62) (ci := 0) rfl rfl (Nat.le_of_ble_eq_true rfl) (Nat.le_of_ble_eq_true rfl) (Nat.le_of_ble_eq_true rfl) (pc := 118) dX6_cover_118 rfl ?_
                    refine r_iincS B hnL (pc := 121) dX6_cover_121 rfl kc_1 (by decide) hf (fun y15 hf => ?_)
                    refine r_lc (loc' := [some (.ref (ad 0)), some (.int x1), some (.int x2), some (.int x3), some (.int v4), some (.int y15), some (.int r9)]) rfl ?_
                    refine r_goto B (pc := 124) (tgt := 50) dX6_cover_124 (by decide) ?_
                    exact r_mask [true, true, true, true, true, true, false] rfl (ih50 v4 y15 s14 hf)
                · refine r_goto B (pc := 84) (tgt := 121) dX6_cover_84 (by decide) ?_
                  refine r_iincS B hnL (pc := 121) dX6_cover_121 rfl kc_1 (by decide) hf (fun y16 hf => ?_)
                  refine r_lc (loc' := [some (.ref (ad 0)), some (.int x1), some (.int x2), some (.int x3), some (.int v4), some (.int y16), some (.int r9)]) rfl ?_
                  refine r_goto B (pc := 124) (tgt := 50) dX6_cover_124 (by decide) ?_
                  exact r_mask [true, true, true, true, true, true, false] rfl (ih50 v4 y16 σ50 hf)
          exact r_mask [true, true, true, true, true, true, false] rfl (k50 FU r2 0 s4 hf)
        · refine r_iconst B (pc := 28) dX6_cover_28 kc_m1 ?_
          exact e_pz (F := (wC ad K nw)) hf (nar_i _) (RET 29 _ dX6_cover_29)
set_option maxHeartbeats 4000000 in
set_option maxRecDepth 20000 in
theorem c_X2_ofYear (l : Launch) (D : va_G) (K : Kt) (ad : Nat → Nat) (nw : Nat) (σ : St) (x1 : Int32) {r : Int32} (hf : f_X2_ofYear σ x1 = some r) : CtI l yX2_ofYear cX2_ofYear 4 (some .int) 0 0 D K [.ref (ad 9), .int x1] (wC ad K nw σ) r (wC ad K nw σ) := by
  refine met_i pl_RX2 (Nat.le_of_ble_eq_true rfl) (fun X hnL B RET => ?_)
  suffices h : MW X (wC ad K nw σ) 0 [some (.ref (ad 9)), some (.int x1), none, none] [] from h
  unfold f_X2_ofYear at hf
  refine r_iconst B (pc := 0) dX2_ofYear_0 kc_0 ?_
  refine r_istore_n B hnL (pc := 1) dX2_ofYear_1 rfl (by decide) ?_
  refine r_lc (loc' := [some (.ref (ad 9)), some (.int x1), some (.int 0), none]) rfl ?_
  refine r_iconst B (pc := 2) dX2_ofYear_2 kc_0 ?_
  refine r_istore_n B hnL (pc := 3) dX2_ofYear_3 rfl (by decide) ?_
  refine r_lc (loc' := [some (.ref (ad 9)), some (.int x1), some (.int 0), some (.int 0)]) rfl ?_
  have k4 : ∀ (n4 : Nat) (v2 : Int32) (v3 : Int32), f_X2_ofYear_h4 σ x1 n4 v2 v3 = some r → MW X (wC ad K nw σ) 4 [some (.ref (ad 9)), some (.int x1), some (.int v2), some (.int v3)] [] := by
    intro n4
    induction n4 with
    | zero => intro v2 v3 hf; exact nn_z hf
    | succ n4 ih4 =>
      intro v2 v3 hf
      rw [f_X2_ofYear_h4] at hf
      refine r_iload_n B (pc := 4) dX2_ofYear_4 rfl rfl ?_
      refine r_aload_n B (pc := 5) dX2_ofYear_5 rfl rfl ?_
      refine gC_RX2_9_9 B (pc := 6) dX2_ofYear_6 ?_
      refine r_icmp_ge B (pc := 9) (tgt := 34) dX2_ofYear_9 (by decide) hf (fun _ hf => ?_) (fun _ hf => ?_)
      · refine r_iload_n B (pc := 34) dX2_ofYear_34 rfl rfl ?_
        exact e_rz hf (nar_i _) (RET 35 _ dX2_ofYear_35)
      · refine r_aload_n B (pc := 12) dX2_ofYear_12 rfl rfl ?_
        refine gC_RX2_18_9 B (pc := 13) dX2_ofYear_13 ?_
        refine r_iload_n B (pc := 16) dX2_ofYear_16 rfl rfl ?_
        refine aldC_10 B (pc := 17) dX2_ofYear_17 hf (fun _ hf => ?_)
        refine r_iload_n B (pc := 18) dX2_ofYear_18 rfl rfl ?_
        refine r_icmp_ne B (pc := 19) (tgt := 28) dX2_ofYear_19 (by decide) hf (fun _ hf => ?_) (fun _ hf => ?_)
        · refine r_iincS B hnL (pc := 28) dX2_ofYear_28 rfl kc_1 (by decide) hf (fun y1 hf => ?_)
          refine r_lc (loc' := [some (.ref (ad 9)), some (.int x1), some (.int v2), some (.int y1)]) rfl ?_
          refine r_goto B (pc := 31) (tgt := 4) dX2_ofYear_31 (by decide) ?_
          exact r_mask [true, true, true, true] rfl (ih4 v2 y1 hf)
        · refine r_iload_n B (pc := 22) dX2_ofYear_22 rfl rfl ?_
          refine r_iconst B (pc := 23) dX2_ofYear_23 kc_1 ?_
          refine r_iload_n B (pc := 24) dX2_ofYear_24 rfl rfl ?_
          refine r_ishl B (pc := 25) dX2_ofYear_25 ?_
          refine r_ior B (pc := 26) dX2_ofYear_26 ?_
          refine r_nm hf (fun y2 hf => ?_)
          refine r_istore_n B hnL (pc := 27) dX2_ofYear_27 rfl (by decide) ?_
          refine r_lc (loc' := [some (.ref (ad 9)), some (.int x1), some (.int y2), some (.int v3)]) rfl ?_
          refine r_iincS B hnL (pc := 28) dX2_ofYear_28 rfl kc_1 (by decide) hf (fun y3 hf => ?_)
          refine r_lc (loc' := [some (.ref (ad 9)), some (.int x1), some (.int y2), some (.int y3)]) rfl ?_
          refine r_goto B (pc := 31) (tgt := 4) dX2_ofYear_31 (by decide) ?_
          exact r_mask [true, true, true, true] rfl (ih4 y2 y3 hf)
  exact r_mask [true, true, true, true] rfl (k4 FU 0 0 hf)
set_option maxHeartbeats 4000000 in
set_option maxRecDepth 20000 in
theorem c_X3_firstPaidLate (l : Launch) (D : va_G) (K : Kt) (ad : Nat → Nat) (nw : Nat) (σ : St) (x1 : Int32) {r : Int32} (hf : f_X3_firstPaidLate σ x1 = some r) : CtI l yX3_firstPaidLate cX3_firstPaidLate 7 (some .int) 4 89 D K [.ref (ad 1), .int x1] (wC ad K nw σ) r (wC ad K nw σ) := by
  refine met_i pl_RX3 (Nat.le_of_ble_eq_true rfl) (fun X hnL B RET => ?_)
  suffices h : MW X (wC ad K nw σ) 0 [some (.ref (ad 1)), some (.int x1), none, none, none, none, none] [] from h
  unfold f_X3_firstPaidLate at hf
  refine r_iconst B (pc := 0) dX3_firstPaidLate_0 kc_0 ?_
  refine r_istore_n B hnL (pc := 1) dX3_firstPaidLate_1 rfl (by decide) ?_
  refine r_lc (loc' := [some (.ref (ad 1)), some (.int x1), some (.int 0), none, none, none, none]) rfl ?_
  refine r_iconst B (pc := 2) dX3_firstPaidLate_2 kc_0 ?_
  refine r_istore_n B hnL (pc := 3) dX3_firstPaidLate_3 rfl (by decide) ?_
  refine r_lc (loc' := [some (.ref (ad 1)), some (.int x1), some (.int 0), some (.int 0), none, none, none]) rfl ?_
  have k4 : ∀ (n4 : Nat) (v2 : Int32) (v3 : Int32), f_X3_firstPaidLate_h4 σ x1 n4 v2 v3 = some r → MW X (wC ad K nw σ) 4 [some (.ref (ad 1)), some (.int x1), some (.int v2), some (.int v3), none, none, none] [] := by
    intro n4
    induction n4 with
    | zero => intro v2 v3 hf; exact nn_z hf
    | succ n4 ih4 =>
      intro v2 v3 hf
      rw [f_X3_firstPaidLate_h4] at hf
      refine r_iload_n B (pc := 4) dX3_firstPaidLate_4 rfl rfl ?_
      refine r_bipush B (pc := 5) dX3_firstPaidLate_5 kb_99 ?_
      refine r_icmp_gt B (pc := 7) (tgt := 106) dX3_firstPaidLate_7 (by decide) hf (fun _ hf => ?_) (fun _ hf => ?_)
      · refine r_bipush B (pc := 106) dX3_firstPaidLate_106 kb_m4 ?_
        exact e_rz hf (nar_i _) (RET 108 _ dX3_firstPaidLate_108)
      · refine r_aload_n B (pc := 10) dX3_firstPaidLate_10 rfl rfl ?_
        refine gC_RX3_21_1 B (pc := 11) dX3_firstPaidLate_11 ?_
        refine r_iload_n B (pc := 14) dX3_firstPaidLate_14 rfl rfl ?_
        obtain ⟨r2, hc1, hf⟩ := bdr_e hf
        refine r_cVI B (c_X2_ofYear X.l X.D K ad nw σ v3 hc1) F_X2_ofYear lk_RX3_145 (q0 := 9) (ci := 2) rfl rfl (Nat.le_of_ble_eq_true rfl) (Nat.le_of_ble_eq_true rfl) (Nat.le_of_ble_eq_true rfl) (pc := 15) dX3_firstPaidLate_15 rfl ?_
        refine r_istore B hnL (pc := 18) dX3_firstPaidLate_18 (by decide) ?_
        refine r_lc (loc' := [some (.ref (ad 1)), some (.int x1), some (.int v2), some (.int v3), some (.int r2), none, none]) rfl ?_
        refine r_iload B (pc := 20) dX3_firstPaidLate_20 rfl ?_
        refine r_if_ne B (pc := 22) (tgt := 28) dX3_firstPaidLate_22 (by decide) hf (fun _ hf => ?_) (fun _ hf => ?_)
        · refine r_iconst B (pc := 28) dX3_firstPaidLate_28 kc_0 ?_
          refine r_istore B hnL (pc := 29) dX3_firstPaidLate_29 (by decide) ?_
          refine r_lc (loc' := [some (.ref (ad 1)), some (.int x1), some (.int v2), some (.int v3), some (.int r2), some (.int 0), none]) rfl ?_
          have k31 : ∀ (n31 : Nat) (v2 : Int32) (v3 : Int32) (v4 : Int32) (v5 : Int32), f_X3_firstPaidLate_h31 (f_X3_firstPaidLate_h4 σ x1 n4) σ x1 n31 v2 v3 v4 v5 = some r → MW X (wC ad K nw σ) 31 [some (.ref (ad 1)), some (.int x1), some (.int v2), some (.int v3), some (.int v4), some (.int v5), none] [] := by
            intro n31
            induction n31 with
            | zero => intro v2 v3 v4 v5 hf; exact nn_z hf
            | succ n31 ih31 =>
              intro v2 v3 v4 v5 hf
              rw [f_X3_firstPaidLate_h31] at hf
              refine r_iload B (pc := 31) dX3_firstPaidLate_31 rfl ?_
              refine r_aload_n B (pc := 33) dX3_firstPaidLate_33 rfl rfl ?_
              refine gC_RX3_12_1 B (pc := 34) dX3_firstPaidLate_34 ?_
              refine gC_RX3_73_2 B (pc := 37) dX3_firstPaidLate_37 ?_
              refine r_icmp_ge B (pc := 40) (tgt := 100) dX3_firstPaidLate_40 (by decide) hf (fun _ hf => ?_) (fun _ hf => ?_)
              · refine r_iincS B hnL (pc := 100) dX3_firstPaidLate_100 rfl kc_1 (by decide) hf (fun y3 hf => ?_)
                refine r_lc (loc' := [some (.ref (ad 1)), some (.int x1), some (.int v2), some (.int y3), some (.int v4), some (.int v5), none]) rfl ?_
                refine r_goto B (pc := 103) (tgt := 4) dX3_firstPaidLate_103 (by decide) ?_
                exact r_mask [true, true, true, true, false, false, false] rfl (ih4 v2 y3 hf)
              · refine r_aload_n B (pc := 43) dX3_firstPaidLate_43 rfl rfl ?_
                refine r_iload B (pc := 44) dX3_firstPaidLate_44 rfl ?_
                obtain ⟨r5, hc4, hf⟩ := bdr_e hf
                refine r_cVI B (c_X3_arrearsOf X.l X.D K ad nw σ v5 hc4) F_X3_arrearsOf lk_RX3_135 (q0 := 1) (ci := 3) rfl rfl (Nat.le_of_ble_eq_true rfl) (Nat.le_of_ble_eq_true rfl) (Nat.le_of_ble_eq_true rfl) (pc := 46) dX3_firstPaidLate_46 rfl ?_
                refine r_iload B (pc := 49) dX3_firstPaidLate_49 rfl ?_
                refine r_iand B (pc := 51) dX3_firstPaidLate_51 ?_
                refine r_cSI B (c_J6_bitCount_0f7a4 X.l X.D K _ (r5 &&& v4)) F_J6_bitCount_0f7a4 lk_RX3_138 (Nat.le_of_ble_eq_true rfl) (Nat.le_of_ble_eq_true rfl) (Nat.le_of_ble_eq_true rfl) (pc := 52) dX3_firstPaidLate_52 rfl ?_
                refine r_nm hf (fun y6 hf => ?_)
                refine r_istore B hnL (pc := 55) dX3_firstPaidLate_55 (by decide) ?_
                refine r_lc (loc' := [some (.ref (ad 1)), some (.int x1), some (.int v2), some (.int v3), some (.int v4), some (.int v5), some (.int y6)]) rfl ?_
                refine r_iload B (pc := 57) dX3_firstPaidLate_57 rfl ?_
                refine r_if_ne B (pc := 59) (tgt := 65) dX3_firstPaidLate_59 (by decide) hf (fun _ hf => ?_) (fun _ hf => ?_)
                · refine r_iload_n B (pc := 65) dX3_firstPaidLate_65 rfl rfl ?_
                  refine r_iload B (pc := 66) dX3_firstPaidLate_66 rfl ?_
                  refine r_iadd B (pc := 68) dX3_firstPaidLate_68 ?_
                  refine r_nm hf (fun y7 hf => ?_)
                  refine r_istore_n B hnL (pc := 69) dX3_firstPaidLate_69 rfl (by decide) ?_
                  refine r_lc (loc' := [some (.ref (ad 1)), some (.int x1), some (.int y7), some (.int v3), some (.int v4), some (.int v5), some (.int y6)]) rfl ?_
                  refine r_iload_n B (pc := 70) dX3_firstPaidLate_70 rfl rfl ?_
                  refine r_if_le B (pc := 71) (tgt := 94) dX3_firstPaidLate_71 (by decide) hf (fun _ hf => ?_) (fun _ hf => ?_)
                  · refine r_iincS B hnL (pc := 94) dX3_firstPaidLate_94 rfl kc_1 (by decide) hf (fun y8 hf => ?_)
                    refine r_lc (loc' := [some (.ref (ad 1)), some (.int x1), some (.int y7), some (.int v3), some (.int v4), some (.int y8), some (.int y6)]) rfl ?_
                    refine r_goto B (pc := 97) (tgt := 31) dX3_firstPaidLate_97 (by decide) ?_
                    exact r_mask [true, true, true, true, true, true, false] rfl (ih31 y7 v3 v4 y8 hf)
                  · refine r_aload_n B (pc := 74) dX3_firstPaidLate_74 rfl rfl ?_
                    refine gC_RX3_39_1 B (pc := 75) dX3_firstPaidLate_75 ?_
                    refine r_iload_n B (pc := 78) dX3_firstPaidLate_78 rfl rfl ?_
                    refine r_iconst B (pc := 79) dX3_firstPaidLate_79 kc_1 ?_
                    refine r_isub B (pc := 80) dX3_firstPaidLate_80 ?_
                    refine r_iload_n B (pc := 81) dX3_firstPaidLate_81 rfl rfl ?_
                    refine r_idivS B (pc := 82) dX3_firstPaidLate_82 hf (fun _ hf => ?_)
                    refine r_iadd B (pc := 83) dX3_firstPaidLate_83 ?_
                    refine r_iload_n B (pc := 84) dX3_firstPaidLate_84 rfl rfl ?_
                    refine r_isub B (pc := 85) dX3_firstPaidLate_85 ?_
                    refine r_bipush B (pc := 86) dX3_firstPaidLate_86 kb_9 ?_
                    refine r_icmp_lt B (pc := 88) (tgt := 94) dX3_firstPaidLate_88 (by decide) hf (fun _ hf => ?_) (fun _ hf => ?_)
                    · refine r_iincS B hnL (pc := 94) dX3_firstPaidLate_94 rfl kc_1 (by decide) hf (fun y9 hf => ?_)
                      refine r_lc (loc' := [some (.ref (ad 1)), some (.int x1), some (.int y7), some (.int v3), some (.int v4), some (.int y9), some (.int y6)]) rfl ?_
                      refine r_goto B (pc := 97) (tgt := 31) dX3_firstPaidLate_97 (by decide) ?_
                      exact r_mask [true, true, true, true, true, true, false] rfl (ih31 y7 v3 v4 y9 hf)
                    · refine r_iload B (pc := 91) dX3_firstPaidLate_91 rfl ?_
                      exact e_rz hf (nar_i _) (RET 93 _ dX3_firstPaidLate_93)
                · refine r_goto B (pc := 62) (tgt := 94) dX3_firstPaidLate_62 (by decide) ?_
                  refine r_iincS B hnL (pc := 94) dX3_firstPaidLate_94 rfl kc_1 (by decide) hf (fun y10 hf => ?_)
                  refine r_lc (loc' := [some (.ref (ad 1)), some (.int x1), some (.int v2), some (.int v3), some (.int v4), some (.int y10), some (.int y6)]) rfl ?_
                  refine r_goto B (pc := 97) (tgt := 31) dX3_firstPaidLate_97 (by decide) ?_
                  exact r_mask [true, true, true, true, true, true, false] rfl (ih31 v2 v3 v4 y10 hf)
          exact r_mask [true, true, true, true, true, true, false] rfl (k31 FU v2 v3 r2 0 hf)
        · refine r_goto B (pc := 25) (tgt := 100) dX3_firstPaidLate_25 (by decide) ?_
          refine r_iincS B hnL (pc := 100) dX3_firstPaidLate_100 rfl kc_1 (by decide) hf (fun y11 hf => ?_)
          refine r_lc (loc' := [some (.ref (ad 1)), some (.int x1), some (.int v2), some (.int y11), some (.int r2), none, none]) rfl ?_
          refine r_goto B (pc := 103) (tgt := 4) dX3_firstPaidLate_103 (by decide) ?_
          exact r_mask [true, true, true, true, false, false, false] rfl (ih4 v2 y11 hf)
  exact r_mask [true, true, true, true, false, false, false] rfl (k4 FU 0 0 hf)
set_option maxHeartbeats 4000000 in
set_option maxRecDepth 20000 in
theorem c_X6_years (l : Launch) (D : va_G) (K : Kt) (ad : Nat → Nat) (nw : Nat) (σ : St) (x1 : Int32) (x2 : Int32) {r : Int32} (hf : f_X6_years σ x1 x2 = some r) : CtI l yX6_years cX6_years 3 (some .int) 5 115 D K [.ref (ad 0), .int x1, .int x2] (wC ad K nw σ) r (wC ad K nw σ) := by
  refine met_i pl_RX6 (Nat.le_of_ble_eq_true rfl) (fun X hnL B RET => ?_)
  suffices h : MW X (wC ad K nw σ) 0 [some (.ref (ad 0)), some (.int x1), some (.int x2)] [] from h
  unfold f_X6_years at hf
  refine r_iload_n B (pc := 0) dX6_years_0 rfl rfl ?_
  refine r_iconst B (pc := 1) dX6_years_1 kc_1 ?_
  refine r_icmp_lt B (pc := 2) (tgt := 20) dX6_years_2 (by decide) hf (fun _ hf => ?_) (fun _ hf => ?_)
  · refine r_iconst B (pc := 20) dX6_years_20 kc_m1 ?_
    exact e_rz hf (nar_i _) (RET 21 _ dX6_years_21)
  · refine r_iload_n B (pc := 5) dX6_years_5 rfl rfl ?_
    refine r_bipush B (pc := 6) dX6_years_6 kb_30 ?_
    refine r_icmp_gt B (pc := 8) (tgt := 20) dX6_years_8 (by decide) hf (fun _ hf => ?_) (fun _ hf => ?_)
    · refine r_iconst B (pc := 20) dX6_years_20 kc_m1 ?_
      exact e_rz hf (nar_i _) (RET 21 _ dX6_years_21)
    · refine r_iload_n B (pc := 11) dX6_years_11 rfl rfl ?_
      refine r_if_lt B (pc := 12) (tgt := 20) dX6_years_12 (by decide) hf (fun _ hf => ?_) (fun _ hf => ?_)
      · refine r_iconst B (pc := 20) dX6_years_20 kc_m1 ?_
        exact e_rz hf (nar_i _) (RET 21 _ dX6_years_21)
      · refine r_iload_n B (pc := 15) dX6_years_15 rfl rfl ?_
        refine r_iconst B (pc := 16) dX6_years_16 kc_1 ?_
        refine r_icmp_le B (pc := 17) (tgt := 22) dX6_years_17 (by decide) hf (fun _ hf => ?_) (fun _ hf => ?_)
        · refine r_iload_n B (pc := 22) dX6_years_22 rfl rfl ?_
          refine r_if_ne B (pc := 23) (tgt := 40) dX6_years_23 (by decide) hf (fun _ hf => ?_) (fun _ hf => ?_)
          · refine r_aload_n B (pc := 40) dX6_years_40 rfl rfl ?_
            refine gC_RX6_10_0 B (pc := 41) dX6_years_41 ?_
            refine r_iload_n B (pc := 44) dX6_years_44 rfl rfl ?_
            obtain ⟨r2, hc1, hf⟩ := bdr_e hf
            refine r_cVI B (c_X3_firstPaidLate X.l X.D K ad nw σ x1 hc1) F_X3_firstPaidLate lk_RX6_280 (q0 := 1) (ci := 3) rfl rfl (Nat.le_of_ble_eq_true rfl) (Nat.le_of_ble_eq_true rfl) (Nat.le_of_ble_eq_true rfl) (pc := 45) dX6_years_45 rfl ?_
            exact e_rz hf (nar_i _) (RET 48 _ dX6_years_48)
          · refine r_aload_n B (pc := 26) dX6_years_26 rfl rfl ?_
            refine gC_RX6_10_0 B (pc := 27) dX6_years_27 ?_
            obtain ⟨r4, hc3, hf⟩ := bdr_e hf
            refine r_cVI B (c_X3_allArrears X.l X.D K ad nw σ hc3) F_X3_allArrears lk_RX6_212 (q0 := 1) (ci := 3) rfl rfl (Nat.le_of_ble_eq_true rfl) (Nat.le_of_ble_eq_true rfl) (Nat.le_of_ble_eq_true rfl) (pc := 30) dX6_years_30 rfl ?_
            refine r_iload_n B (pc := 33) dX6_years_33 rfl rfl ?_
            refine r_iadd B (pc := 34) dX6_years_34 ?_
            refine r_iconst B (pc := 35) dX6_years_35 kc_1 ?_
            refine r_isub B (pc := 36) dX6_years_36 ?_
            refine r_iload_n B (pc := 37) dX6_years_37 rfl rfl ?_
            refine r_idivS B (pc := 38) dX6_years_38 hf (fun _ hf => ?_)
            exact e_rz hf (nar_i _) (RET 39 _ dX6_years_39)
        · refine r_iconst B (pc := 20) dX6_years_20 kc_m1 ?_
          exact e_rz hf (nar_i _) (RET 21 _ dX6_years_21)
set_option maxHeartbeats 4000000 in
set_option maxRecDepth 20000 in
theorem c_X6_isGraveSet (l : Launch) (D : va_G) (K : Kt) (ad : Nat → Nat) (nw : Nat) (σ : St) (x1 : Int32) : CtI l yX6_isGraveSet cX6_isGraveSet 2 (some .boolean) 0 0 D K [.ref (ad 0), .int x1] (wC ad K nw σ) (f_X6_isGraveSet σ x1) (wC ad K nw σ) := by
  refine met_i pl_RX6 (Nat.le_of_ble_eq_true rfl) (fun X hnL B RET => ?_)
  generalize hf : f_X6_isGraveSet σ x1 = r at RET
  suffices h : MW X (wC ad K nw σ) 0 [some (.ref (ad 0)), some (.int x1)] [] from h
  unfold f_X6_isGraveSet at hf
  refine r_iload_n B (pc := 0) dX6_isGraveSet_0 rfl rfl ?_
  refine r_if_lt B (pc := 1) (tgt := 24) dX6_isGraveSet_1 (by decide) hf (fun _ hf => ?_) (fun _ hf => ?_)
  · refine r_iconst B (pc := 24) dX6_isGraveSet_24 kc_0 ?_
    exact e_tz hf rfl (RET 25 _ dX6_isGraveSet_25)
  · refine r_iload_n B (pc := 4) dX6_isGraveSet_4 rfl rfl ?_
    refine r_iconst B (pc := 5) dX6_isGraveSet_5 kc_1 ?_
    refine r_aload_n B (pc := 6) dX6_isGraveSet_6 rfl rfl ?_
    refine gC_RX6_10_0 B (pc := 7) dX6_isGraveSet_7 ?_
    refine gC_RX6_72_1 B (pc := 10) dX6_isGraveSet_10 ?_
    refine gC_RX6_75_2 B (pc := 13) dX6_isGraveSet_13 ?_
    refine r_ishl B (pc := 16) dX6_isGraveSet_16 ?_
    refine r_icmp_ge B (pc := 17) (tgt := 24) dX6_isGraveSet_17 (by decide) hf (fun _ hf => ?_) (fun _ hf => ?_)
    · refine r_iconst B (pc := 24) dX6_isGraveSet_24 kc_0 ?_
      exact e_tz hf rfl (RET 25 _ dX6_isGraveSet_25)
    · refine r_iconst B (pc := 20) dX6_isGraveSet_20 kc_1 ?_
      refine r_goto B (pc := 21) (tgt := 25) dX6_isGraveSet_21 (by decide) ?_
      exact e_tz hf rfl (RET 25 _ dX6_isGraveSet_25)
set_option maxHeartbeats 4000000 in
set_option maxRecDepth 20000 in
theorem c_X3_allWeights (l : Launch) (D : va_G) (K : Kt) (ad : Nat → Nat) (nw : Nat) (σ : St) {r : Int32} (hf : f_X3_allWeights σ = some r) : CtI l yX3_allWeights cX3_allWeights 3 (some .int) 0 0 D K [.ref (ad 1)] (wC ad K nw σ) r (wC ad K nw σ) := by
  refine met_i pl_RX3 (Nat.le_of_ble_eq_true rfl) (fun X hnL B RET => ?_)
  suffices h : MW X (wC ad K nw σ) 0 [some (.ref (ad 1)), none, none] [] from h
  unfold f_X3_allWeights at hf
  refine r_iconst B (pc := 0) dX3_allWeights_0 kc_0 ?_
  refine r_istore_n B hnL (pc := 1) dX3_allWeights_1 rfl (by decide) ?_
  refine r_lc (loc' := [some (.ref (ad 1)), some (.int 0), none]) rfl ?_
  refine r_iconst B (pc := 2) dX3_allWeights_2 kc_0 ?_
  refine r_istore_n B hnL (pc := 3) dX3_allWeights_3 rfl (by decide) ?_
  refine r_lc (loc' := [some (.ref (ad 1)), some (.int 0), some (.int 0)]) rfl ?_
  have k4 : ∀ (n4 : Nat) (v1 : Int32) (v2 : Int32), f_X3_allWeights_h4 σ n4 v1 v2 = some r → MW X (wC ad K nw σ) 4 [some (.ref (ad 1)), some (.int v1), some (.int v2)] [] := by
    intro n4
    induction n4 with
    | zero => intro v1 v2 hf; exact nn_z hf
    | succ n4 ih4 =>
      intro v1 v2 hf
      rw [f_X3_allWeights_h4] at hf
      refine r_iload_n B (pc := 4) dX3_allWeights_4 rfl rfl ?_
      refine r_iconst B (pc := 5) dX3_allWeights_5 kc_5 ?_
      refine r_icmp_ge B (pc := 6) (tgt := 24) dX3_allWeights_6 (by decide) hf (fun _ hf => ?_) (fun _ hf => ?_)
      · refine r_iload_n B (pc := 24) dX3_allWeights_24 rfl rfl ?_
        exact e_rz hf (nar_i _) (RET 25 _ dX3_allWeights_25)
      · refine r_iload_n B (pc := 9) dX3_allWeights_9 rfl rfl ?_
        refine r_aload_n B (pc := 10) dX3_allWeights_10 rfl rfl ?_
        refine gC_RX3_36_1 B (pc := 11) dX3_allWeights_11 ?_
        refine r_iload_n B (pc := 14) dX3_allWeights_14 rfl rfl ?_
        refine aldC_15 B (pc := 15) dX3_allWeights_15 hf (fun _ hf => ?_)
        refine r_iadd B (pc := 16) dX3_allWeights_16 ?_
        refine r_nm hf (fun y1 hf => ?_)
        refine r_istore_n B hnL (pc := 17) dX3_allWeights_17 rfl (by decide) ?_
        refine r_lc (loc' := [some (.ref (ad 1)), some (.int y1), some (.int v2)]) rfl ?_
        refine r_iincS B hnL (pc := 18) dX3_allWeights_18 rfl kc_1 (by decide) hf (fun y2 hf => ?_)
        refine r_lc (loc' := [some (.ref (ad 1)), some (.int y1), some (.int y2)]) rfl ?_
        refine r_goto B (pc := 21) (tgt := 4) dX3_allWeights_21 (by decide) ?_
        exact r_mask [true, true, true] rfl (ih4 y1 y2 hf)
  exact r_mask [true, true, true] rfl (k4 FU 0 0 hf)
