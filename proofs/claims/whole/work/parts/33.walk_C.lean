set_option maxHeartbeats 4000000 in
set_option maxRecDepth 20000 in
theorem c_X6_restore (l : Launch) (D : va_G) (K : Kt) (ad : Nat → Nat) (nw : Nat) (σ : St) {r : Int32} {τ : St} (hf : f_X6_restore σ = some (r, τ)) : CtI l yX6_restore cX6_restore 1 (some .int) 3 68 D K [.ref (ad 0)] (wC ad K nw σ) r (wC ad K nw τ) := by
  refine met_i pl_RX6 (Nat.le_of_ble_eq_true rfl) (fun X hnL B RET => ?_)
  suffices h : MW X (wC ad K nw σ) 0 [some (.ref (ad 0))] [] from h
  unfold f_X6_restore at hf
  refine r_aload_n B (pc := 0) dX6_restore_0 rfl rfl ?_
  refine gC_RX6_19_0 B (pc := 1) dX6_restore_1 ?_
  refine r_if_ne B (pc := 4) (tgt := 10) dX6_restore_4 (by decide) hf (fun _ hf => ?_) (fun _ hf => ?_)
  · refine r_aload_n B (pc := 10) dX6_restore_10 rfl rfl ?_
    refine gC_RX6_10_0 B (pc := 11) dX6_restore_11 ?_
    refine r_aload_n B (pc := 14) dX6_restore_14 rfl rfl ?_
    refine gC_RX6_16_0 B (pc := 15) dX6_restore_15 ?_
    obtain ⟨s2, hc1, hf⟩ := bdr_e hf
    refine r_cVV B (c_X3_become_19 X.l X.D K ad nw σ hc1) F_X3_become lk_RX6_301 (q0 := 1) (ci := 3) rfl rfl (Nat.le_of_ble_eq_true rfl) (Nat.le_of_ble_eq_true rfl) (Nat.le_of_ble_eq_true rfl) (pc := 18) dX6_restore_18 rfl ?_
    refine r_iconst B (pc := 21) dX6_restore_21 kc_1 ?_
    exact e_pz (F := (wC ad K nw)) hf (nar_i _) (RET 22 _ dX6_restore_22)
  · refine r_bipush B (pc := 7) dX6_restore_7 kb_m4 ?_
    exact e_pz (F := (wC ad K nw)) hf (nar_i _) (RET 9 _ dX6_restore_9)
set_option maxHeartbeats 4000000 in
set_option maxRecDepth 20000 in
theorem c_X6_isSheet (l : Launch) (D : va_G) (K : Kt) (w : va_W) (x0 : Int32) : CtI l yX6_isSheet cX6_isSheet 1 (some .boolean) 0 0 D K [.int x0] w (f_X6_isSheet x0) w := by
  refine met_i pl_RX6 (Nat.le_of_ble_eq_true rfl) (fun X hnL B RET => ?_)
  generalize hf : f_X6_isSheet x0 = r at RET
  suffices h : MW X w 0 [some (.int x0)] [] from h
  unfold f_X6_isSheet at hf
  refine r_iload_n B (pc := 0) dX6_isSheet_0 rfl rfl ?_
  refine r_if_lt B (pc := 1) (tgt := 13) dX6_isSheet_1 (by decide) hf (fun _ hf => ?_) (fun _ hf => ?_)
  · refine r_iconst B (pc := 13) dX6_isSheet_13 kc_0 ?_
    exact e_tz hf rfl (RET 14 _ dX6_isSheet_14)
  · refine r_iload_n B (pc := 4) dX6_isSheet_4 rfl rfl ?_
    refine r_iconst B (pc := 5) dX6_isSheet_5 kc_4 ?_
    refine r_icmp_ge B (pc := 6) (tgt := 13) dX6_isSheet_6 (by decide) hf (fun _ hf => ?_) (fun _ hf => ?_)
    · refine r_iconst B (pc := 13) dX6_isSheet_13 kc_0 ?_
      exact e_tz hf rfl (RET 14 _ dX6_isSheet_14)
    · refine r_iconst B (pc := 9) dX6_isSheet_9 kc_1 ?_
      refine r_goto B (pc := 10) (tgt := 14) dX6_isSheet_10 (by decide) ?_
      exact e_tz hf rfl (RET 14 _ dX6_isSheet_14)
set_option maxHeartbeats 4000000 in
set_option maxRecDepth 20000 in
theorem c_X6_isLane (l : Launch) (D : va_G) (K : Kt) (w : va_W) (x0 : Int32) : CtI l yX6_isLane cX6_isLane 1 (some .boolean) 0 0 D K [.int x0] w (f_X6_isLane x0) w := by
  refine met_i pl_RX6 (Nat.le_of_ble_eq_true rfl) (fun X hnL B RET => ?_)
  generalize hf : f_X6_isLane x0 = r at RET
  suffices h : MW X w 0 [some (.int x0)] [] from h
  unfold f_X6_isLane at hf
  refine r_iload_n B (pc := 0) dX6_isLane_0 rfl rfl ?_
  refine r_if_lt B (pc := 1) (tgt := 13) dX6_isLane_1 (by decide) hf (fun _ hf => ?_) (fun _ hf => ?_)
  · refine r_iconst B (pc := 13) dX6_isLane_13 kc_0 ?_
    exact e_tz hf rfl (RET 14 _ dX6_isLane_14)
  · refine r_iload_n B (pc := 4) dX6_isLane_4 rfl rfl ?_
    refine r_iconst B (pc := 5) dX6_isLane_5 kc_4 ?_
    refine r_icmp_ge B (pc := 6) (tgt := 13) dX6_isLane_6 (by decide) hf (fun _ hf => ?_) (fun _ hf => ?_)
    · refine r_iconst B (pc := 13) dX6_isLane_13 kc_0 ?_
      exact e_tz hf rfl (RET 14 _ dX6_isLane_14)
    · refine r_iconst B (pc := 9) dX6_isLane_9 kc_1 ?_
      refine r_goto B (pc := 10) (tgt := 14) dX6_isLane_10 (by decide) ?_
      exact e_tz hf rfl (RET 14 _ dX6_isLane_14)
set_option maxHeartbeats 4000000 in
set_option maxRecDepth 20000 in
theorem c_X4_reaches_sh (l : Launch) (D : va_G) (K : Kt) (ad : Nat → Nat) (nw : Nat) (σ : St) (j : Nat) (hj : j < 4) (x1 : Int32) (x2 : Int32) : CtI l yX4_reaches cX4_reaches 3 (some .boolean) 0 0 D K [.ref (ad (53 + 2 * j)), .int x1, .int x2] (wC ad K nw σ) (f_X4_reaches_sh σ j x1 x2) (wC ad K nw σ) := by
  refine met_i pl_RX4 (Nat.le_of_ble_eq_true rfl) (fun X hnL B RET => ?_)
  generalize hf : f_X4_reaches_sh σ j x1 x2 = r at RET
  suffices h : MW X (wC ad K nw σ) 0 [some (.ref (ad (53 + 2 * j))), some (.int x1), some (.int x2)] [] from h
  unfold f_X4_reaches_sh at hf
  refine r_iload_n B (pc := 0) dX4_reaches_0 rfl rfl ?_
  refine r_if_lt B (pc := 1) (tgt := 22) dX4_reaches_1 (by decide) hf (fun _ hf => ?_) (fun _ hf => ?_)
  · refine r_iconst B (pc := 22) dX4_reaches_22 kc_0 ?_
    exact e_tz hf rfl (RET 23 _ dX4_reaches_23)
  · refine r_iload_n B (pc := 4) dX4_reaches_4 rfl rfl ?_
    refine r_if_lt B (pc := 5) (tgt := 22) dX4_reaches_5 (by decide) hf (fun _ hf => ?_) (fun _ hf => ?_)
    · refine r_iconst B (pc := 22) dX4_reaches_22 kc_0 ?_
      exact e_tz hf rfl (RET 23 _ dX4_reaches_23)
    · refine r_iload_n B (pc := 8) dX4_reaches_8 rfl rfl ?_
      refine r_aload_n B (pc := 9) dX4_reaches_9 rfl rfl ?_
      refine gC_RX4_19_sh hj B (pc := 10) dX4_reaches_10 ?_
      refine r_iload_n B (pc := 13) dX4_reaches_13 rfl rfl ?_
      refine r_isub B (pc := 14) dX4_reaches_14 ?_
      refine r_icmp_gt B (pc := 15) (tgt := 22) dX4_reaches_15 (by decide) hf (fun _ hf => ?_) (fun _ hf => ?_)
      · refine r_iconst B (pc := 22) dX4_reaches_22 kc_0 ?_
        exact e_tz hf rfl (RET 23 _ dX4_reaches_23)
      · refine r_iconst B (pc := 18) dX4_reaches_18 kc_1 ?_
        refine r_goto B (pc := 19) (tgt := 23) dX4_reaches_19 (by decide) ?_
        exact e_tz hf rfl (RET 23 _ dX4_reaches_23)
set_option maxHeartbeats 4000000 in
set_option maxRecDepth 20000 in
theorem c_X6_refusalOfItems (l : Launch) (D : va_G) (K : Kt) (ad : Nat → Nat) (nw : Nat) (σ : St) (x1 : Int32) (x2 : Int32) (x3 : Int32) (x4 : Int32) {r : Int32} (hf : f_X6_refusalOfItems σ x1 x2 x3 x4 = some r) : CtI l yX6_refusalOfItems cX6_refusalOfItems 5 (some .int) 1 22 D K [.ref (ad 0), .int x1, .int x2, .int x3, .int x4] (wC ad K nw σ) r (wC ad K nw σ) := by
  refine met_i pl_RX6 (Nat.le_of_ble_eq_true rfl) (fun X hnL B RET => ?_)
  suffices h : MW X (wC ad K nw σ) 0 [some (.ref (ad 0)), some (.int x1), some (.int x2), some (.int x3), some (.int x4)] [] from h
  unfold f_X6_refusalOfItems at hf
  refine r_iload_n B (pc := 0) dX6_refusalOfItems_0 rfl rfl ?_
  refine r_cSI B (c_X6_isSheet X.l X.D K _ x1) F_X6_isSheet lk_RX6_335 (Nat.le_of_ble_eq_true rfl) (Nat.le_of_ble_eq_true rfl) (Nat.le_of_ble_eq_true rfl) (pc := 1) dX6_refusalOfItems_1 rfl ?_
  refine r_if_eq B (pc := 4) (tgt := 14) dX6_refusalOfItems_4 (by decide) hf (fun _ hf => ?_) (fun _ hf => ?_)
  · refine r_iconst B (pc := 14) dX6_refusalOfItems_14 kc_m1 ?_
    exact e_rz hf (nar_i _) (RET 15 _ dX6_refusalOfItems_15)
  · refine r_iload_n B (pc := 7) dX6_refusalOfItems_7 rfl rfl ?_
    refine r_cSI B (c_X6_isLane X.l X.D K _ x2) F_X6_isLane lk_RX6_338 (Nat.le_of_ble_eq_true rfl) (Nat.le_of_ble_eq_true rfl) (Nat.le_of_ble_eq_true rfl) (pc := 8) dX6_refusalOfItems_8 rfl ?_
    refine r_if_ne B (pc := 11) (tgt := 16) dX6_refusalOfItems_11 (by decide) hf (fun _ hf => ?_) (fun _ hf => ?_)
    · refine r_aload_n B (pc := 16) dX6_refusalOfItems_16 rfl rfl ?_
      refine gC_RX6_51_0 B (pc := 17) dX6_refusalOfItems_17 ?_
      refine r_iload_n B (pc := 20) dX6_refusalOfItems_20 rfl rfl ?_
      refine aald_C B (pc := 21) dX6_refusalOfItems_21 hf (fun hj_x1 hf => ?_)
      refine gC_RX6_344_sh hj_x1 B (pc := 22) dX6_refusalOfItems_22 ?_
      refine r_if_ne B (pc := 25) (tgt := 31) dX6_refusalOfItems_25 (by decide) hf (fun _ hf => ?_) (fun _ hf => ?_)
      · refine r_aload_n B (pc := 31) dX6_refusalOfItems_31 rfl rfl ?_
        refine gC_RX6_51_0 B (pc := 32) dX6_refusalOfItems_32 ?_
        refine r_iload_n B (pc := 35) dX6_refusalOfItems_35 rfl rfl ?_
        refine aald_C B (pc := 36) dX6_refusalOfItems_36 hf (fun hj_x1 hf => ?_)
        refine gC_RX6_348_sh hj_x1 B (pc := 37) dX6_refusalOfItems_37 ?_
        refine r_iload_n B (pc := 40) dX6_refusalOfItems_40 rfl rfl ?_
        refine r_icmp_eq B (pc := 41) (tgt := 47) dX6_refusalOfItems_41 (by decide) hf (fun _ hf => ?_) (fun _ hf => ?_)
        · refine r_aload_n B (pc := 47) dX6_refusalOfItems_47 rfl rfl ?_
          refine gC_RX6_51_0 B (pc := 48) dX6_refusalOfItems_48 ?_
          refine r_iload_n B (pc := 51) dX6_refusalOfItems_51 rfl rfl ?_
          refine aald_C B (pc := 52) dX6_refusalOfItems_52 hf (fun hj_x1 hf => ?_)
          refine r_iload_n B (pc := 53) dX6_refusalOfItems_53 rfl rfl ?_
          refine r_iload B (pc := 54) dX6_refusalOfItems_54 rfl ?_
          refine r_cVI B (c_X4_reaches_sh X.l X.D K ad nw σ (ix x1) hj_x1 x3 x4) F_X4_reaches lk_RX6_351 (q0 := 53 + 2 * (ix x1)) (ci := 4) (wC_sh ad K nw σ hj_x1) rfl (Nat.le_of_ble_eq_true rfl) (Nat.le_of_ble_eq_true rfl) (Nat.le_of_ble_eq_true rfl) (pc := 56) dX6_refusalOfItems_56 rfl ?_
          refine r_if_eq B (pc := 59) (tgt := 66) dX6_refusalOfItems_59 (by decide) hf (fun _ hf => ?_) (fun _ hf => ?_)
          · refine r_bipush B (pc := 66) dX6_refusalOfItems_66 kb_m13 ?_
            exact e_rz hf (nar_i _) (RET 68 _ dX6_refusalOfItems_68)
          · refine r_iconst B (pc := 62) dX6_refusalOfItems_62 kc_0 ?_
            refine r_goto B (pc := 63) (tgt := 68) dX6_refusalOfItems_63 (by decide) ?_
            exact e_rz hf (nar_i _) (RET 68 _ dX6_refusalOfItems_68)
        · refine r_bipush B (pc := 44) dX6_refusalOfItems_44 kb_m12 ?_
          exact e_rz hf (nar_i _) (RET 46 _ dX6_refusalOfItems_46)
      · refine r_bipush B (pc := 28) dX6_refusalOfItems_28 kb_m11 ?_
        exact e_rz hf (nar_i _) (RET 30 _ dX6_refusalOfItems_30)
    · refine r_iconst B (pc := 14) dX6_refusalOfItems_14 kc_m1 ?_
      exact e_rz hf (nar_i _) (RET 15 _ dX6_refusalOfItems_15)
set_option maxHeartbeats 4000000 in
set_option maxRecDepth 20000 in
theorem c_X6_refusalOfReadings (l : Launch) (D : va_G) (K : Kt) (ad : Nat → Nat) (nw : Nat) (σ : St) (x1 : Int32) (x2 : Int32) (x3 : Int32) (x4 : Int32) {r : Int32} (hf : f_X6_refusalOfReadings σ x1 x2 x3 x4 = some r) : CtI l yX6_refusalOfReadings cX6_refusalOfReadings 8 (some .int) 2 48 D K [.ref (ad 0), .int x1, .int x2, .int x3, .int x4] (wC ad K nw σ) r (wC ad K nw σ) := by
  refine met_i pl_RX6 (Nat.le_of_ble_eq_true rfl) (fun X hnL B RET => ?_)
  suffices h : MW X (wC ad K nw σ) 0 [some (.ref (ad 0)), some (.int x1), some (.int x2), some (.int x3), some (.int x4), none, none, none] [] from h
  unfold f_X6_refusalOfReadings at hf
  refine r_iload B (pc := 0) dX6_refusalOfReadings_0 rfl ?_
  refine r_iconst B (pc := 2) dX6_refusalOfReadings_2 kc_1 ?_
  refine r_icmp_lt B (pc := 3) (tgt := 13) dX6_refusalOfReadings_3 (by decide) hf (fun _ hf => ?_) (fun _ hf => ?_)
  · refine r_iconst B (pc := 13) dX6_refusalOfReadings_13 kc_m1 ?_
    exact e_rz hf (nar_i _) (RET 14 _ dX6_refusalOfReadings_14)
  · refine r_iload B (pc := 6) dX6_refusalOfReadings_6 rfl ?_
    refine r_bipush B (pc := 8) dX6_refusalOfReadings_8 kb_12 ?_
    refine r_icmp_le B (pc := 10) (tgt := 15) dX6_refusalOfReadings_10 (by decide) hf (fun _ hf => ?_) (fun _ hf => ?_)
    · refine r_aload_n B (pc := 15) dX6_refusalOfReadings_15 rfl rfl ?_
      refine r_iload_n B (pc := 16) dX6_refusalOfReadings_16 rfl rfl ?_
      refine r_iload_n B (pc := 17) dX6_refusalOfReadings_17 rfl rfl ?_
      refine r_iload_n B (pc := 18) dX6_refusalOfReadings_18 rfl rfl ?_
      refine r_iconst B (pc := 19) dX6_refusalOfReadings_19 kc_3 ?_
      refine r_iload B (pc := 20) dX6_refusalOfReadings_20 rfl ?_
      refine r_imul B (pc := 22) dX6_refusalOfReadings_22 ?_
      obtain ⟨r2, hc1, hf⟩ := bdr_e hf
      refine r_cVI B (c_X6_refusalOfItems X.l X.D K ad nw σ x1 x2 x3 (3 * x4) hc1) F_X6_refusalOfItems lk_RX6_328 (q0 := 0) (ci := 6) rfl rfl (Nat.le_of_ble_eq_true rfl) (Nat.le_of_ble_eq_true rfl) (Nat.le_of_ble_eq_true rfl) (pc := 23) dX6_refusalOfReadings_23 rfl ?_
      refine r_istore B hnL (pc := 26) dX6_refusalOfReadings_26 (by decide) ?_
      refine r_lc (loc' := [some (.ref (ad 0)), some (.int x1), some (.int x2), some (.int x3), some (.int x4), some (.int r2), none, none]) rfl ?_
      refine r_iload B (pc := 28) dX6_refusalOfReadings_28 rfl ?_
      refine r_if_eq B (pc := 30) (tgt := 36) dX6_refusalOfReadings_30 (by decide) hf (fun _ hf => ?_) (fun _ hf => ?_)
      · refine r_aload_n B (pc := 36) dX6_refusalOfReadings_36 rfl rfl ?_
        refine gC_RX6_51_0 B (pc := 37) dX6_refusalOfReadings_37 ?_
        refine r_iload_n B (pc := 40) dX6_refusalOfReadings_40 rfl rfl ?_
        refine aald_C B (pc := 41) dX6_refusalOfReadings_41 hf (fun hj_x1 hf => ?_)
        refine gC_RX6_308_sh hj_x1 B (pc := 42) dX6_refusalOfReadings_42 ?_
        refine r_astore B hnL (pc := 45) dX6_refusalOfReadings_45 (by decide) ?_
        refine r_lc (loc' := [some (.ref (ad 0)), some (.int x1), some (.int x2), some (.int x3), some (.int x4), some (.int r2), some (.ref (ad (54 + 2 * (ix x1)))), none]) rfl ?_
        refine r_iload_n B (pc := 47) dX6_refusalOfReadings_47 rfl rfl ?_
        refine r_istore B hnL (pc := 48) dX6_refusalOfReadings_48 (by decide) ?_
        refine r_lc (loc' := [some (.ref (ad 0)), some (.int x1), some (.int x2), some (.int x3), some (.int x4), some (.int r2), some (.ref (ad (54 + 2 * (ix x1)))), some (.int x3)]) rfl ?_
        have k50 : ∀ (n50 : Nat) (v7 : Int32), f_X6_refusalOfReadings_h50 σ x1 x2 x3 x4 n50 v7 = some r → MW X (wC ad K nw σ) 50 [some (.ref (ad 0)), none, none, some (.int x3), some (.int x4), none, some (.ref (ad (54 + 2 * (ix x1)))), some (.int v7)] [] := by
          intro n50
          induction n50 with
          | zero => intro v7 hf; exact nn_z hf
          | succ n50 ih50 =>
            intro v7 hf
            rw [f_X6_refusalOfReadings_h50] at hf
            refine r_iload B (pc := 50) dX6_refusalOfReadings_50 rfl ?_
            refine r_iload_n B (pc := 52) dX6_refusalOfReadings_52 rfl rfl ?_
            refine r_iconst B (pc := 53) dX6_refusalOfReadings_53 kc_3 ?_
            refine r_iload B (pc := 54) dX6_refusalOfReadings_54 rfl ?_
            refine r_imul B (pc := 56) dX6_refusalOfReadings_56 ?_
            refine r_iadd B (pc := 57) dX6_refusalOfReadings_57 ?_
            refine r_icmp_ge B (pc := 58) (tgt := 96) dX6_refusalOfReadings_58 (by decide) hf (fun _ hf => ?_) (fun _ hf => ?_)
            · refine r_iconst B (pc := 96) dX6_refusalOfReadings_96 kc_0 ?_
              exact e_rz hf (nar_i _) (RET 97 _ dX6_refusalOfReadings_97)
            · refine r_aload_n B (pc := 61) dX6_refusalOfReadings_61 rfl rfl ?_
              refine r_aload B (pc := 62) dX6_refusalOfReadings_62 rfl ?_
              refine r_iload B (pc := 64) dX6_refusalOfReadings_64 rfl ?_
              refine aldC_it hj_x1 B (pc := 66) dX6_refusalOfReadings_66 hf (fun _ hf => ?_)
              refine r_aload B (pc := 67) dX6_refusalOfReadings_67 rfl ?_
              refine r_iload B (pc := 69) dX6_refusalOfReadings_69 rfl ?_
              refine r_iconst B (pc := 71) dX6_refusalOfReadings_71 kc_1 ?_
              refine r_iadd B (pc := 72) dX6_refusalOfReadings_72 ?_
              refine aldC_it hj_x1 B (pc := 73) dX6_refusalOfReadings_73 hf (fun _ hf => ?_)
              refine r_aload B (pc := 74) dX6_refusalOfReadings_74 rfl ?_
              refine r_iload B (pc := 76) dX6_refusalOfReadings_76 rfl ?_
              refine r_iconst B (pc := 78) dX6_refusalOfReadings_78 kc_2 ?_
              refine r_iadd B (pc := 79) dX6_refusalOfReadings_79 ?_
              refine aldC_it hj_x1 B (pc := 80) dX6_refusalOfReadings_80 hf (fun _ hf => ?_)
              refine r_cVI B (c_X6_isReading X.l X.D K ad nw σ (σ.2 (54 + 2 * (ix x1)) (ix v7)) (σ.2 (54 + 2 * (ix x1)) (ix (v7 + 1))) (σ.2 (54 + 2 * (ix x1)) (ix (v7 + 2)))) F_X6_isReading lk_RX6_231 (q0 := 0) (ci := 6) rfl rfl (Nat.le_of_ble_eq_true rfl) (Nat.le_of_ble_eq_true rfl) (Nat.le_of_ble_eq_true rfl) (pc := 81) dX6_refusalOfReadings_81 rfl ?_
              refine r_if_ne B (pc := 84) (tgt := 90) dX6_refusalOfReadings_84 (by decide) hf (fun _ hf => ?_) (fun _ hf => ?_)
              · refine r_iincS B hnL (pc := 90) dX6_refusalOfReadings_90 rfl kc_3 (by decide) hf (fun y3 hf => ?_)
                refine r_lc (loc' := [some (.ref (ad 0)), none, none, some (.int x3), some (.int x4), none, some (.ref (ad (54 + 2 * (ix x1)))), some (.int y3)]) rfl ?_
                refine r_goto B (pc := 93) (tgt := 50) dX6_refusalOfReadings_93 (by decide) ?_
                exact r_mask [true, false, false, true, true, false, true, true] rfl (ih50 y3 hf)
              · refine r_bipush B (pc := 87) dX6_refusalOfReadings_87 kb_m2 ?_
                exact e_rz hf (nar_i _) (RET 89 _ dX6_refusalOfReadings_89)
        exact r_mask [true, false, false, true, true, false, true, true] rfl (k50 FU x3 hf)
      · refine r_iload B (pc := 33) dX6_refusalOfReadings_33 rfl ?_
        exact e_rz hf (nar_i _) (RET 35 _ dX6_refusalOfReadings_35)
    · refine r_iconst B (pc := 13) dX6_refusalOfReadings_13 kc_m1 ?_
      exact e_rz hf (nar_i _) (RET 14 _ dX6_refusalOfReadings_14)
set_option maxHeartbeats 4000000 in
set_option maxRecDepth 20000 in
theorem c_J7_fill_53178_61 (l : Launch) (D : va_G) (K : Kt) (ad : Nat → Nat) (nw : Nat) (σ : St) (x1 : Int32) {τ : St} (hf : f_J7_fill_53178_61 σ x1 = some τ) : CtV l yJ7_fill_53178 cJ7_fill_53178 4 none 0 0 D K [.ref (ad 61), .int x1] (wC ad K nw σ) (wC ad K nw τ) := by
  refine met_v pl_RJ7 (Nat.le_of_ble_eq_true rfl) (fun X hnL B RET => ?_)
  suffices h : MW X (wC ad K nw σ) 0 [some (.ref (ad 61)), some (.int x1), none, none] [] from h
  unfold f_J7_fill_53178_61 at hf
  refine r_iconst B (pc := 0) dJ7_fill_53178_0 kc_0 ?_
  refine r_istore_n B hnL (pc := 1) dJ7_fill_53178_1 rfl (by decide) ?_
  refine r_lc (loc' := [some (.ref (ad 61)), some (.int x1), some (.int 0), none]) rfl ?_
  refine r_aload_n B (pc := 2) dJ7_fill_53178_2 rfl rfl ?_
  refine lenC_61 B (pc := 3) dJ7_fill_53178_3 ?_
  refine r_istore_n B hnL (pc := 4) dJ7_fill_53178_4 rfl (by decide) ?_
  refine r_lc (loc' := [some (.ref (ad 61)), some (.int x1), some (.int 0), some (.int 10)]) rfl ?_
  have k5 : ∀ (n5 : Nat) (v2 : Int32) (v3 : Int32) (σ5 : St), f_J7_fill_53178_61_h5 x1 n5 v2 v3 σ5 = some τ → MW X (wC ad K nw σ5) 5 [some (.ref (ad 61)), some (.int x1), some (.int v2), some (.int v3)] [] := by
    intro n5
    induction n5 with
    | zero => intro v2 v3 σ5 hf; exact nn_z hf
    | succ n5 ih5 =>
      intro v2 v3 σ5 hf
      rw [f_J7_fill_53178_61_h5] at hf
      refine r_iload_n B (pc := 5) dJ7_fill_53178_5 rfl rfl ?_
      refine r_iload_n B (pc := 6) dJ7_fill_53178_6 rfl rfl ?_
      refine r_icmp_ge B (pc := 7) (tgt := 20) dJ7_fill_53178_7 (by decide) hf (fun _ hf => ?_) (fun _ hf => ?_)
      · exact e_s (F := (wC ad K nw)) hf (RET 20 _ dJ7_fill_53178_20)
      · refine r_aload_n B (pc := 10) dJ7_fill_53178_10 rfl rfl ?_
        refine r_iload_n B (pc := 11) dJ7_fill_53178_11 rfl rfl ?_
        refine r_iload_n B (pc := 12) dJ7_fill_53178_12 rfl rfl ?_
        refine astC_61 B (pc := 13) dJ7_fill_53178_13 hf (fun s1 _ hf => ?_)
        refine r_iincS B hnL (pc := 14) dJ7_fill_53178_14 rfl kc_1 (by decide) hf (fun y2 hf => ?_)
        refine r_lc (loc' := [some (.ref (ad 61)), some (.int x1), some (.int y2), some (.int v3)]) rfl ?_
        refine r_goto B (pc := 17) (tgt := 5) dJ7_fill_53178_17 (by decide) ?_
        exact r_mask [true, true, true, true] rfl (ih5 y2 v3 s1 hf)
  exact r_mask [true, true, true, true] rfl (k5 FU 0 10 σ hf)
set_option maxHeartbeats 4000000 in
set_option maxRecDepth 20000 in
theorem c_X6_noteHeard_61 (l : Launch) (D : va_G) (K : Kt) (ad : Nat → Nat) (nw : Nat) (σ : St) (x0 : Int32) (x1 : Int32) {τ : St} (hf : f_X6_noteHeard_61 σ x0 x1 = some τ) : CtV l yX6_noteHeard cX6_noteHeard 4 none 1 21 D K [.int x0, .int x1, .ref (ad 61)] (wC ad K nw σ) (wC ad K nw τ) := by
  refine met_v pl_RX6 (Nat.le_of_ble_eq_true rfl) (fun X hnL B RET => ?_)
  suffices h : MW X (wC ad K nw σ) 0 [some (.int x0), some (.int x1), some (.ref (ad 61)), none] [] from h
  unfold f_X6_noteHeard_61 at hf
  refine r_iconst B (pc := 0) dX6_noteHeard_0 kc_0 ?_
  refine r_istore_n B hnL (pc := 1) dX6_noteHeard_1 rfl (by decide) ?_
  refine r_lc (loc' := [some (.int x0), some (.int x1), some (.ref (ad 61)), some (.int 0)]) rfl ?_
  have k2 : ∀ (n2 : Nat) (v3 : Int32) (σ2 : St), f_X6_noteHeard_61_h2 x0 x1 n2 v3 σ2 = some τ → MW X (wC ad K nw σ2) 2 [some (.int x0), some (.int x1), some (.ref (ad 61)), some (.int v3)] [] := by
    intro n2
    induction n2 with
    | zero => intro v3 σ2 hf; exact nn_z hf
    | succ n2 ih2 =>
      intro v3 σ2 hf
      rw [f_X6_noteHeard_61_h2] at hf
      refine r_iload_n B (pc := 2) dX6_noteHeard_2 rfl rfl ?_
      refine r_aload_n B (pc := 3) dX6_noteHeard_3 rfl rfl ?_
      refine lenC_61 B (pc := 4) dX6_noteHeard_4 ?_
      refine r_icmp_ge B (pc := 5) (tgt := 31) dX6_noteHeard_5 (by decide) hf (fun _ hf => ?_) (fun _ hf => ?_)
      · exact e_s (F := (wC ad K nw)) hf (RET 31 _ dX6_noteHeard_31)
      · refine r_iload_n B (pc := 8) dX6_noteHeard_8 rfl rfl ?_
        refine r_iload_n B (pc := 9) dX6_noteHeard_9 rfl rfl ?_
        refine r_cSI B (c_X6_has X.l X.D K _ x0 v3) F_X6_has lk_RX6_355 (Nat.le_of_ble_eq_true rfl) (Nat.le_of_ble_eq_true rfl) (Nat.le_of_ble_eq_true rfl) (pc := 10) dX6_noteHeard_10 rfl ?_
        refine r_if_eq B (pc := 13) (tgt := 25) dX6_noteHeard_13 (by decide) hf (fun _ hf => ?_) (fun _ hf => ?_)
        · refine r_iincS B hnL (pc := 25) dX6_noteHeard_25 rfl kc_1 (by decide) hf (fun y1 hf => ?_)
          refine r_lc (loc' := [some (.int x0), some (.int x1), some (.ref (ad 61)), some (.int y1)]) rfl ?_
          refine r_goto B (pc := 28) (tgt := 2) dX6_noteHeard_28 (by decide) ?_
          exact r_mask [true, true, true, true] rfl (ih2 y1 σ2 hf)
        · refine r_aload_n B (pc := 16) dX6_noteHeard_16 rfl rfl ?_
          refine r_iload_n B (pc := 17) dX6_noteHeard_17 rfl rfl ?_
          refine r_dup2 B (pc := 18) dX6_noteHeard_18 rfl rfl ?_
          refine aldC_61 B (pc := 19) dX6_noteHeard_19 hf (fun _ hf => ?_)
          refine r_iconst B (pc := 20) dX6_noteHeard_20 kc_1 ?_
          refine r_iload_n B (pc := 21) dX6_noteHeard_21 rfl rfl ?_
          refine r_ishl B (pc := 22) dX6_noteHeard_22 ?_
          refine r_ior B (pc := 23) dX6_noteHeard_23 ?_
          refine astC_61 B (pc := 24) dX6_noteHeard_24 hf (fun s2 _ hf => ?_)
          refine r_iincS B hnL (pc := 25) dX6_noteHeard_25 rfl kc_1 (by decide) hf (fun y3 hf => ?_)
          refine r_lc (loc' := [some (.int x0), some (.int x1), some (.ref (ad 61)), some (.int y3)]) rfl ?_
          refine r_goto B (pc := 28) (tgt := 2) dX6_noteHeard_28 (by decide) ?_
          exact r_mask [true, true, true, true] rfl (ih2 y3 s2 hf)
  exact r_mask [true, true, true, true] rfl (k2 FU 0 σ hf)
set_option maxHeartbeats 4000000 in
set_option maxRecDepth 20000 in
theorem c_X6_which (l : Launch) (D : va_G) (K : Kt) (ad : Nat → Nat) (nw : Nat) (σ : St) (x1 : Int32) (x2 : Int32) (x3 : Int32) (x4 : Int32) (x5 : Int32) {r : Int32} {τ : St} (hf : f_X6_which σ x1 x2 x3 x4 x5 = some (r, τ)) : CtI l yX6_which cX6_which 11 (some .int) 3 75 D K [.ref (ad 0), .int x1, .int x2, .int x3, .int x4, .int x5] (wC ad K nw σ) r (wC ad K nw τ) := by
  refine met_i pl_RX6 (Nat.le_of_ble_eq_true rfl) (fun X hnL B RET => ?_)
  suffices h : MW X (wC ad K nw σ) 0 [some (.ref (ad 0)), some (.int x1), some (.int x2), some (.int x3), some (.int x4), some (.int x5), none, none, none, none, none] [] from h
  unfold f_X6_which at hf
  refine r_aload_n B (pc := 0) dX6_which_0 rfl rfl ?_
  refine r_iload_n B (pc := 1) dX6_which_1 rfl rfl ?_
  refine r_cVI B (c_X6_isNewsSet X.l X.D K ad nw σ x1) F_X6_isNewsSet lk_RX6_92 (q0 := 0) (ci := 6) rfl rfl (Nat.le_of_ble_eq_true rfl) (Nat.le_of_ble_eq_true rfl) (Nat.le_of_ble_eq_true rfl) (pc := 2) dX6_which_2 rfl ?_
  refine r_if_ne B (pc := 5) (tgt := 10) dX6_which_5 (by decide) hf (fun _ hf => ?_) (fun _ hf => ?_)
  · refine r_aload_n B (pc := 10) dX6_which_10 rfl rfl ?_
    refine r_iload_n B (pc := 11) dX6_which_11 rfl rfl ?_
    refine r_iload_n B (pc := 12) dX6_which_12 rfl rfl ?_
    refine r_iload B (pc := 13) dX6_which_13 rfl ?_
    refine r_iload B (pc := 15) dX6_which_15 rfl ?_
    obtain ⟨r2, hc1, hf⟩ := bdr_e hf
    refine r_cVI B (c_X6_refusalOfReadings X.l X.D K ad nw σ x2 x3 x4 x5 hc1) F_X6_refusalOfReadings lk_RX6_304 (q0 := 0) (ci := 6) rfl rfl (Nat.le_of_ble_eq_true rfl) (Nat.le_of_ble_eq_true rfl) (Nat.le_of_ble_eq_true rfl) (pc := 17) dX6_which_17 rfl ?_
    refine r_istore B hnL (pc := 20) dX6_which_20 (by decide) ?_
    refine r_lc (loc' := [some (.ref (ad 0)), some (.int x1), some (.int x2), some (.int x3), some (.int x4), some (.int x5), some (.int r2), none, none, none, none]) rfl ?_
    refine r_iload B (pc := 22) dX6_which_22 rfl ?_
    refine r_if_eq B (pc := 24) (tgt := 30) dX6_which_24 (by decide) hf (fun _ hf => ?_) (fun _ hf => ?_)
    · refine r_aload_n B (pc := 30) dX6_which_30 rfl rfl ?_
      refine gC_RX6_51_0 B (pc := 31) dX6_which_31 ?_
      refine r_iload_n B (pc := 34) dX6_which_34 rfl rfl ?_
      refine aald_C B (pc := 35) dX6_which_35 hf (fun hj_x2 hf => ?_)
      refine gC_RX6_308_sh hj_x2 B (pc := 36) dX6_which_36 ?_
      refine r_astore B hnL (pc := 39) dX6_which_39 (by decide) ?_
      refine r_lc (loc' := [some (.ref (ad 0)), some (.int x1), some (.int x2), some (.int x3), some (.int x4), some (.int x5), some (.int r2), some (.ref (ad (54 + 2 * (ix x2)))), none, none, none]) rfl ?_
      refine r_aload_n B (pc := 41) dX6_which_41 rfl rfl ?_
      refine gC_RX6_55_0 B (pc := 42) dX6_which_42 ?_
      refine r_iconst B (pc := 45) dX6_which_45 kc_0 ?_
      obtain ⟨s4, hc3, hf⟩ := bdr_e hf
      refine r_cSV B (c_J7_fill_53178_61 X.l X.D K ad nw σ 0 hc3) F_J7_fill_53178 lk_RX6_312 (Nat.le_of_ble_eq_true rfl) (Nat.le_of_ble_eq_true rfl) (Nat.le_of_ble_eq_true rfl) (pc := 46) dX6_which_46 rfl ?_
      refine r_iconst B (pc := 49) dX6_which_49 kc_0 ?_
      refine r_istore B hnL (pc := 50) dX6_which_50 (by decide) ?_
      refine r_lc (loc' := [some (.ref (ad 0)), some (.int x1), some (.int x2), some (.int x3), some (.int x4), some (.int x5), some (.int r2), some (.ref (ad (54 + 2 * (ix x2)))), some (.int 0), none, none]) rfl ?_
      have k52 : ∀ (n52 : Nat) (v8 : Int32) (σ52 : St), f_X6_which_h52 x1 x2 x3 x4 x5 n52 v8 σ52 = some (r, τ) → MW X (wC ad K nw σ52) 52 [some (.ref (ad 0)), some (.int x1), none, none, some (.int x4), some (.int x5), none, some (.ref (ad (54 + 2 * (ix x2)))), some (.int v8), none, none] [] := by
        intro n52
        induction n52 with
        | zero => intro v8 σ52 hf; exact nn_z hf
        | succ n52 ih52 =>
          intro v8 σ52 hf
          rw [f_X6_which_h52] at hf
          refine r_iload B (pc := 52) dX6_which_52 rfl ?_
          refine r_iload B (pc := 54) dX6_which_54 rfl ?_
          refine r_icmp_ge B (pc := 56) (tgt := 121) dX6_which_56 (by decide) hf (fun _ hf => ?_) (fun _ hf => ?_)
          · refine r_iconst B (pc := 121) dX6_which_121 kc_0 ?_
            refine r_istore B hnL (pc := 122) dX6_which_122 (by decide) ?_
            refine r_lc (loc' := [some (.ref (ad 0)), some (.int x1), none, none, some (.int x4), some (.int x5), none, some (.ref (ad (54 + 2 * (ix x2)))), some (.int 0), none, none]) rfl ?_
            refine r_iconst B (pc := 124) dX6_which_124 kc_0 ?_
            refine r_istore B hnL (pc := 125) dX6_which_125 (by decide) ?_
            refine r_lc (loc' := [some (.ref (ad 0)), some (.int x1), none, none, some (.int x4), some (.int x5), none, some (.ref (ad (54 + 2 * (ix x2)))), some (.int 0), some (.int 0), none]) rfl ?_
            have k127 : ∀ (n127 : Nat) (v8 : Int32) (v9 : Int32) (σ127 : St), f_X6_which_h127 x1 x2 x3 x4 x5 n127 v8 v9 σ127 = some (r, τ) → MW X (wC ad K nw σ127) 127 [some (.ref (ad 0)), some (.int x1), none, none, none, none, none, none, some (.int v8), some (.int v9), none] [] := by
              intro n127
              induction n127 with
              | zero => intro v8 v9 σ127 hf; exact nn_z hf
              | succ n127 ih127 =>
                intro v8 v9 σ127 hf
                rw [f_X6_which_h127] at hf
                refine r_iload B (pc := 127) dX6_which_127 rfl ?_
                refine r_aload_n B (pc := 129) dX6_which_129 rfl rfl ?_
                refine gC_RX6_10_0 B (pc := 130) dX6_which_130 ?_
                refine gC_RX6_72_1 B (pc := 133) dX6_which_133 ?_
                refine gC_RX6_75_2 B (pc := 136) dX6_which_136 ?_
                refine r_icmp_ge B (pc := 139) (tgt := 168) dX6_which_139 (by decide) hf (fun _ hf => ?_) (fun _ hf => ?_)
                · refine r_iload B (pc := 168) dX6_which_168 rfl ?_
                  exact e_pz (F := (wC ad K nw)) hf (nar_i _) (RET 170 _ dX6_which_170)
                · refine r_aload_n B (pc := 142) dX6_which_142 rfl rfl ?_
                  refine gC_RX6_55_0 B (pc := 143) dX6_which_143 ?_
                  refine r_iload B (pc := 146) dX6_which_146 rfl ?_
                  refine aldC_61 B (pc := 148) dX6_which_148 hf (fun _ hf => ?_)
                  refine r_iload_n B (pc := 149) dX6_which_149 rfl rfl ?_
                  refine r_icmp_ne B (pc := 150) (tgt := 162) dX6_which_150 (by decide) hf (fun _ hf => ?_) (fun _ hf => ?_)
                  · refine r_iincS B hnL (pc := 162) dX6_which_162 rfl kc_1 (by decide) hf (fun y5 hf => ?_)
                    refine r_lc (loc' := [some (.ref (ad 0)), some (.int x1), none, none, none, none, none, none, some (.int v8), some (.int y5), none]) rfl ?_
                    refine r_goto B (pc := 165) (tgt := 127) dX6_which_165 (by decide) ?_
                    exact r_mask [true, true, false, false, false, false, false, false, true, true, false] rfl (ih127 v8 y5 σ127 hf)
                  · refine r_iload B (pc := 153) dX6_which_153 rfl ?_
                    refine r_iconst B (pc := 155) dX6_which_155 kc_1 ?_
                    refine r_iload B (pc := 156) dX6_which_156 rfl ?_
                    refine r_ishl B (pc := 158) dX6_which_158 ?_
                    refine r_ior B (pc := 159) dX6_which_159 ?_
                    refine r_nm hf (fun y6 hf => ?_)
                    refine r_istore B hnL (pc := 160) dX6_which_160 (by decide) ?_
                    refine r_lc (loc' := [some (.ref (ad 0)), some (.int x1), none, none, none, none, none, none, some (.int y6), some (.int v9), none]) rfl ?_
                    refine r_iincS B hnL (pc := 162) dX6_which_162 rfl kc_1 (by decide) hf (fun y7 hf => ?_)
                    refine r_lc (loc' := [some (.ref (ad 0)), some (.int x1), none, none, none, none, none, none, some (.int y6), some (.int y7), none]) rfl ?_
                    refine r_goto B (pc := 165) (tgt := 127) dX6_which_165 (by decide) ?_
                    exact r_mask [true, true, false, false, false, false, false, false, true, true, false] rfl (ih127 y6 y7 σ127 hf)
            exact r_mask [true, true, false, false, false, false, false, false, true, true, false] rfl (k127 FU 0 0 σ52 hf)
          · refine r_iload B (pc := 59) dX6_which_59 rfl ?_
            refine r_iconst B (pc := 61) dX6_which_61 kc_3 ?_
            refine r_iload B (pc := 62) dX6_which_62 rfl ?_
            refine r_imul B (pc := 64) dX6_which_64 ?_
            refine r_iadd B (pc := 65) dX6_which_65 ?_
            refine r_nm hf (fun y8 hf => ?_)
            refine r_istore B hnL (pc := 66) dX6_which_66 (by decide) ?_
            refine r_lc (loc' := [some (.ref (ad 0)), some (.int x1), none, none, some (.int x4), some (.int x5), none, some (.ref (ad (54 + 2 * (ix x2)))), some (.int v8), some (.int y8), none]) rfl ?_
            refine r_aload_n B (pc := 68) dX6_which_68 rfl rfl ?_
            refine gC_RX6_10_0 B (pc := 69) dX6_which_69 ?_
            refine r_aload B (pc := 72) dX6_which_72 rfl ?_
            refine r_iload B (pc := 74) dX6_which_74 rfl ?_
            refine aldC_it hj_x2 B (pc := 76) dX6_which_76 hf (fun _ hf => ?_)
            refine r_l2i B (pc := 77) dX6_which_77 ?_
            refine r_aload B (pc := 78) dX6_which_78 rfl ?_
            refine r_iload B (pc := 80) dX6_which_80 rfl ?_
            refine r_iconst B (pc := 82) dX6_which_82 kc_1 ?_
            refine r_iadd B (pc := 83) dX6_which_83 ?_
            refine aldC_it hj_x2 B (pc := 84) dX6_which_84 hf (fun _ hf => ?_)
            refine r_l2i B (pc := 85) dX6_which_85 ?_
            refine r_aload_n B (pc := 86) dX6_which_86 rfl rfl ?_
            refine gC_RX6_10_0 B (pc := 87) dX6_which_87 ?_
            refine gC_RX6_116_1 B (pc := 90) dX6_which_90 ?_
            obtain ⟨r10, hc9, hf⟩ := bdr_e hf
            refine r_cVI B (c_X3_hearers X.l X.D K ad nw σ52 ((σ52.2 (54 + 2 * (ix x2)) (ix y8)).toInt32) ((σ52.2 (54 + 2 * (ix x2)) (ix (y8 + 1))).toInt32) (σ52.1 1 4) hc9) F_X3_hearers lk_RX6_227 (q0 := 1) (ci := 3) rfl rfl (Nat.le_of_ble_eq_true rfl) (Nat.le_of_ble_eq_true rfl) (Nat.le_of_ble_eq_true rfl) (pc := 93) dX6_which_93 rfl ?_
            refine r_istore B hnL (pc := 96) dX6_which_96 (by decide) ?_
            refine r_lc (loc' := [some (.ref (ad 0)), some (.int x1), none, none, some (.int x4), some (.int x5), none, some (.ref (ad (54 + 2 * (ix x2)))), some (.int v8), some (.int y8), some (.int r10)]) rfl ?_
            refine r_iload B (pc := 98) dX6_which_98 rfl ?_
            refine r_aload B (pc := 100) dX6_which_100 rfl ?_
            refine r_iload B (pc := 102) dX6_which_102 rfl ?_
            refine r_iconst B (pc := 104) dX6_which_104 kc_2 ?_
            refine r_iadd B (pc := 105) dX6_which_105 ?_
            refine aldC_it hj_x2 B (pc := 106) dX6_which_106 hf (fun _ hf => ?_)
            refine r_l2i B (pc := 107) dX6_which_107 ?_
            refine r_aload_n B (pc := 108) dX6_which_108 rfl rfl ?_
            refine gC_RX6_55_0 B (pc := 109) dX6_which_109 ?_
            obtain ⟨s12, hc11, hf⟩ := bdr_e hf
            refine r_cSV B (c_X6_noteHeard_61 X.l X.D K ad nw σ52 r10 ((σ52.2 (54 + 2 * (ix x2)) (ix (y8 + 2))).toInt32) hc11) F_X6_noteHeard lk_RX6_318 (Nat.le_of_ble_eq_true rfl) (Nat.le_of_ble_eq_true rfl) (Nat.le_of_ble_eq_true rfl) (pc := 112) dX6_which_112 rfl ?_
            refine r_iincS B hnL (pc := 115) dX6_which_115 rfl kc_1 (by decide) hf (fun y13 hf => ?_)
            refine r_lc (loc' := [some (.ref (ad 0)), some (.int x1), none, none, some (.int x4), some (.int x5), none, some (.ref (ad (54 + 2 * (ix x2)))), some (.int y13), some (.int y8), some (.int r10)]) rfl ?_
            refine r_goto B (pc := 118) (tgt := 52) dX6_which_118 (by decide) ?_
            exact r_mask [true, true, false, false, true, true, false, true, true, false, false] rfl (ih52 y13 s12 hf)
      exact r_mask [true, true, false, false, true, true, false, true, true, false, false] rfl (k52 FU 0 s4 hf)
    · refine r_iload B (pc := 27) dX6_which_27 rfl ?_
      exact e_pz (F := (wC ad K nw)) hf (nar_i _) (RET 29 _ dX6_which_29)
  · refine r_iconst B (pc := 8) dX6_which_8 kc_m1 ?_
    exact e_pz (F := (wC ad K nw)) hf (nar_i _) (RET 9 _ dX6_which_9)
set_option maxHeartbeats 4000000 in
set_option maxRecDepth 20000 in
theorem c_X3_wrongedOf_61 (l : Launch) (D : va_G) (K : Kt) (ad : Nat → Nat) (nw : Nat) (σ : St) (x1 : Int32) (x2 : Int32) {r : Int32} (hf : f_X3_wrongedOf_61 σ x1 x2 = some r) : CtI l yX3_wrongedOf cX3_wrongedOf 6 (some .int) 4 91 D K [.ref (ad 1), .int x1, .int x2, .ref (ad 61)] (wC ad K nw σ) r (wC ad K nw σ) := by
  refine met_i pl_RX3 (Nat.le_of_ble_eq_true rfl) (fun X hnL B RET => ?_)
  suffices h : MW X (wC ad K nw σ) 0 [some (.ref (ad 1)), some (.int x1), some (.int x2), some (.ref (ad 61)), none, none] [] from h
  unfold f_X3_wrongedOf_61 at hf
  refine r_iconst B (pc := 0) dX3_wrongedOf_0 kc_0 ?_
  refine r_istore B hnL (pc := 1) dX3_wrongedOf_1 (by decide) ?_
  refine r_lc (loc' := [some (.ref (ad 1)), some (.int x1), some (.int x2), some (.ref (ad 61)), some (.int 0), none]) rfl ?_
  refine r_iconst B (pc := 3) dX3_wrongedOf_3 kc_0 ?_
  refine r_istore B hnL (pc := 4) dX3_wrongedOf_4 (by decide) ?_
  refine r_lc (loc' := [some (.ref (ad 1)), some (.int x1), some (.int x2), some (.ref (ad 61)), some (.int 0), some (.int 0)]) rfl ?_
  have k6 : ∀ (n6 : Nat) (v4 : Int32) (v5 : Int32), f_X3_wrongedOf_61_h6 σ x1 x2 n6 v4 v5 = some r → MW X (wC ad K nw σ) 6 [some (.ref (ad 1)), some (.int x1), some (.int x2), some (.ref (ad 61)), some (.int v4), some (.int v5)] [] := by
    intro n6
    induction n6 with
    | zero => intro v4 v5 hf; exact nn_z hf
    | succ n6 ih6 =>
      intro v4 v5 hf
      rw [f_X3_wrongedOf_61_h6] at hf
      refine r_iload B (pc := 6) dX3_wrongedOf_6 rfl ?_
      refine r_aload_n B (pc := 8) dX3_wrongedOf_8 rfl rfl ?_
      refine gC_RX3_12_1 B (pc := 9) dX3_wrongedOf_9 ?_
      refine gC_RX3_73_2 B (pc := 12) dX3_wrongedOf_12 ?_
      refine r_icmp_ge B (pc := 15) (tgt := 56) dX3_wrongedOf_15 (by decide) hf (fun _ hf => ?_) (fun _ hf => ?_)
      · refine r_iload B (pc := 56) dX3_wrongedOf_56 rfl ?_
        exact e_rz hf (nar_i _) (RET 58 _ dX3_wrongedOf_58)
      · refine r_iload_n B (pc := 18) dX3_wrongedOf_18 rfl rfl ?_
        refine r_iload B (pc := 19) dX3_wrongedOf_19 rfl ?_
        refine r_cNI B (c_X6_has X.l X.D K _ x1 v5) F_X6_has nk_RX3_108 (Nat.le_of_ble_eq_true rfl) (Nat.le_of_ble_eq_true rfl) (Nat.le_of_ble_eq_true rfl) (pc := 21) dX3_wrongedOf_21 rfl ?_
        refine r_if_eq B (pc := 24) (tgt := 50) dX3_wrongedOf_24 (by decide) hf (fun _ hf => ?_) (fun _ hf => ?_)
        · refine r_iincS B hnL (pc := 50) dX3_wrongedOf_50 rfl kc_1 (by decide) hf (fun y1 hf => ?_)
          refine r_lc (loc' := [some (.ref (ad 1)), some (.int x1), some (.int x2), some (.ref (ad 61)), some (.int v4), some (.int y1)]) rfl ?_
          refine r_goto B (pc := 53) (tgt := 6) dX3_wrongedOf_53 (by decide) ?_
          exact r_mask [true, true, true, true, true, true] rfl (ih6 v4 y1 hf)
        · refine r_aload_n B (pc := 27) dX3_wrongedOf_27 rfl rfl ?_
          refine r_iload B (pc := 28) dX3_wrongedOf_28 rfl ?_
          refine r_iload_n B (pc := 30) dX3_wrongedOf_30 rfl rfl ?_
          refine r_aload_n B (pc := 31) dX3_wrongedOf_31 rfl rfl ?_
          refine r_iload B (pc := 32) dX3_wrongedOf_32 rfl ?_
          refine aldC_61 B (pc := 34) dX3_wrongedOf_34 hf (fun _ hf => ?_)
          obtain ⟨r3, hc2, hf⟩ := bdr_e hf
          refine r_cVI B (c_X3_isWrong X.l X.D K ad nw σ v5 x2 (σ.1 61 (ix v5)) hc2) F_X3_isWrong lk_RX3_148 (q0 := 1) (ci := 3) rfl rfl (Nat.le_of_ble_eq_true rfl) (Nat.le_of_ble_eq_true rfl) (Nat.le_of_ble_eq_true rfl) (pc := 35) dX3_wrongedOf_35 rfl ?_
          refine r_if_eq B (pc := 38) (tgt := 50) dX3_wrongedOf_38 (by decide) hf (fun _ hf => ?_) (fun _ hf => ?_)
          · refine r_iincS B hnL (pc := 50) dX3_wrongedOf_50 rfl kc_1 (by decide) hf (fun y4 hf => ?_)
            refine r_lc (loc' := [some (.ref (ad 1)), some (.int x1), some (.int x2), some (.ref (ad 61)), some (.int v4), some (.int y4)]) rfl ?_
            refine r_goto B (pc := 53) (tgt := 6) dX3_wrongedOf_53 (by decide) ?_
            exact r_mask [true, true, true, true, true, true] rfl (ih6 v4 y4 hf)
          · refine r_iload B (pc := 41) dX3_wrongedOf_41 rfl ?_
            refine r_iconst B (pc := 43) dX3_wrongedOf_43 kc_1 ?_
            refine r_iload B (pc := 44) dX3_wrongedOf_44 rfl ?_
            refine r_ishl B (pc := 46) dX3_wrongedOf_46 ?_
            refine r_ior B (pc := 47) dX3_wrongedOf_47 ?_
            refine r_nm hf (fun y5 hf => ?_)
            refine r_istore B hnL (pc := 48) dX3_wrongedOf_48 (by decide) ?_
            refine r_lc (loc' := [some (.ref (ad 1)), some (.int x1), some (.int x2), some (.ref (ad 61)), some (.int y5), some (.int v5)]) rfl ?_
            refine r_iincS B hnL (pc := 50) dX3_wrongedOf_50 rfl kc_1 (by decide) hf (fun y6 hf => ?_)
            refine r_lc (loc' := [some (.ref (ad 1)), some (.int x1), some (.int x2), some (.ref (ad 61)), some (.int y5), some (.int y6)]) rfl ?_
            refine r_goto B (pc := 53) (tgt := 6) dX3_wrongedOf_53 (by decide) ?_
            exact r_mask [true, true, true, true, true, true] rfl (ih6 y5 y6 hf)
  exact r_mask [true, true, true, true, true, true] rfl (k6 FU 0 0 hf)
set_option maxHeartbeats 4000000 in
set_option maxRecDepth 20000 in
theorem c_X6_judged (l : Launch) (D : va_G) (K : Kt) (ad : Nat → Nat) (nw : Nat) (σ : St) (x1 : Int32) (x2 : Int32) (x3 : Int32) (x4 : Int32) {r : Int32} {τ : St} (hf : f_X6_judged σ x1 x2 x3 x4 = some (r, τ)) : CtI l yX6_judged cX6_judged 11 (some .int) 5 116 D K [.ref (ad 0), .int x1, .int x2, .int x3, .int x4] (wC ad K nw σ) r (wC ad K nw τ) := by
  refine met_i pl_RX6 (Nat.le_of_ble_eq_true rfl) (fun X hnL B RET => ?_)
  suffices h : MW X (wC ad K nw σ) 0 [some (.ref (ad 0)), some (.int x1), some (.int x2), some (.int x3), some (.int x4), none, none, none, none, none, none] [] from h
  unfold f_X6_judged at hf
  refine r_aload_n B (pc := 0) dX6_judged_0 rfl rfl ?_
  refine r_iload_n B (pc := 1) dX6_judged_1 rfl rfl ?_
  refine r_iload_n B (pc := 2) dX6_judged_2 rfl rfl ?_
  refine r_iload_n B (pc := 3) dX6_judged_3 rfl rfl ?_
  refine r_iload B (pc := 4) dX6_judged_4 rfl ?_
  obtain ⟨r2, hc1, hf⟩ := bdr_e hf
  refine r_cVI B (c_X6_refusalOfReadings X.l X.D K ad nw σ x1 x2 x3 x4 hc1) F_X6_refusalOfReadings lk_RX6_304 (q0 := 0) (ci := 6) rfl rfl (Nat.le_of_ble_eq_true rfl) (Nat.le_of_ble_eq_true rfl) (Nat.le_of_ble_eq_true rfl) (pc := 6) dX6_judged_6 rfl ?_
  refine r_istore B hnL (pc := 9) dX6_judged_9 (by decide) ?_
  refine r_lc (loc' := [some (.ref (ad 0)), some (.int x1), some (.int x2), some (.int x3), some (.int x4), some (.int r2), none, none, none, none, none]) rfl ?_
  refine r_iload B (pc := 11) dX6_judged_11 rfl ?_
  refine r_if_eq B (pc := 13) (tgt := 19) dX6_judged_13 (by decide) hf (fun _ hf => ?_) (fun _ hf => ?_)
  · refine r_aload_n B (pc := 19) dX6_judged_19 rfl rfl ?_
    refine gC_RX6_51_0 B (pc := 20) dX6_judged_20 ?_
    refine r_iload_n B (pc := 23) dX6_judged_23 rfl rfl ?_
    refine aald_C B (pc := 24) dX6_judged_24 hf (fun hj_x1 hf => ?_)
    refine gC_RX6_308_sh hj_x1 B (pc := 25) dX6_judged_25 ?_
    refine r_astore B hnL (pc := 28) dX6_judged_28 (by decide) ?_
    refine r_lc (loc' := [some (.ref (ad 0)), some (.int x1), some (.int x2), some (.int x3), some (.int x4), some (.int r2), some (.ref (ad (54 + 2 * (ix x1)))), none, none, none, none]) rfl ?_
    refine r_aload_n B (pc := 30) dX6_judged_30 rfl rfl ?_
    refine gC_RX6_10_0 B (pc := 31) dX6_judged_31 ?_
    refine gC_RX6_72_1 B (pc := 34) dX6_judged_34 ?_
    refine gC_RX6_137_2 B (pc := 37) dX6_judged_37 ?_
    refine r_iconst B (pc := 40) dX6_judged_40 kc_0 ?_
    refine r_aload_n B (pc := 41) dX6_judged_41 rfl rfl ?_
    refine gC_RX6_55_0 B (pc := 42) dX6_judged_42 ?_
    refine r_iconst B (pc := 45) dX6_judged_45 kc_0 ?_
    refine r_bipush B (pc := 46) dX6_judged_46 kb_10 ?_
    refine cpyC_RX6_322_6_61 B (Nat.le_of_ble_eq_true rfl) (Nat.le_of_ble_eq_true rfl) (pc := 48) dX6_judged_48 hf (fun s3 hf => ?_)
    refine r_iconst B (pc := 51) dX6_judged_51 kc_0 ?_
    refine r_istore B hnL (pc := 52) dX6_judged_52 (by decide) ?_
    refine r_lc (loc' := [some (.ref (ad 0)), some (.int x1), some (.int x2), some (.int x3), some (.int x4), some (.int r2), some (.ref (ad (54 + 2 * (ix x1)))), some (.int 0), none, none, none]) rfl ?_
    have k54 : ∀ (n54 : Nat) (v7 : Int32) (σ54 : St), f_X6_judged_h54 x1 x2 x3 x4 n54 v7 σ54 = some (r, τ) → MW X (wC ad K nw σ54) 54 [some (.ref (ad 0)), none, none, some (.int x3), some (.int x4), none, some (.ref (ad (54 + 2 * (ix x1)))), some (.int v7), none, none, none] [] := by
      intro n54
      induction n54 with
      | zero => intro v7 σ54 hf; exact nn_z hf
      | succ n54 ih54 =>
        intro v7 σ54 hf
        rw [f_X6_judged_h54] at hf
        refine r_iload B (pc := 54) dX6_judged_54 rfl ?_
        refine r_iload B (pc := 56) dX6_judged_56 rfl ?_
        refine r_icmp_ge B (pc := 58) (tgt := 147) dX6_judged_58 (by decide) hf (fun _ hf => ?_) (fun _ hf => ?_)
        · refine r_bipush B (pc := 147) dX6_judged_147 kb_m4 ?_
          exact e_pz (F := (wC ad K nw)) hf (nar_i _) (RET 149 _ dX6_judged_149)
        · refine r_iload_n B (pc := 61) dX6_judged_61 rfl rfl ?_
          refine r_iconst B (pc := 62) dX6_judged_62 kc_3 ?_
          refine r_iload B (pc := 63) dX6_judged_63 rfl ?_
          refine r_imul B (pc := 65) dX6_judged_65 ?_
          refine r_iadd B (pc := 66) dX6_judged_66 ?_
          refine r_nm hf (fun y4 hf => ?_)
          refine r_istore B hnL (pc := 67) dX6_judged_67 (by decide) ?_
          refine r_lc (loc' := [some (.ref (ad 0)), none, none, some (.int x3), some (.int x4), none, some (.ref (ad (54 + 2 * (ix x1)))), some (.int v7), some (.int y4), none, none]) rfl ?_
          refine r_aload B (pc := 69) dX6_judged_69 rfl ?_
          refine r_iload B (pc := 71) dX6_judged_71 rfl ?_
          refine r_iconst B (pc := 73) dX6_judged_73 kc_2 ?_
          refine r_iadd B (pc := 74) dX6_judged_74 ?_
          refine aldC_it hj_x1 B (pc := 75) dX6_judged_75 hf (fun _ hf => ?_)
          refine r_l2i B (pc := 76) dX6_judged_76 ?_
          refine r_nm hf (fun y5 hf => ?_)
          refine r_istore B hnL (pc := 77) dX6_judged_77 (by decide) ?_
          refine r_lc (loc' := [some (.ref (ad 0)), none, none, some (.int x3), some (.int x4), none, some (.ref (ad (54 + 2 * (ix x1)))), some (.int v7), some (.int y4), some (.int y5), none]) rfl ?_
          refine r_aload_n B (pc := 79) dX6_judged_79 rfl rfl ?_
          refine gC_RX6_10_0 B (pc := 80) dX6_judged_80 ?_
          refine r_aload B (pc := 83) dX6_judged_83 rfl ?_
          refine r_iload B (pc := 85) dX6_judged_85 rfl ?_
          refine aldC_it hj_x1 B (pc := 87) dX6_judged_87 hf (fun _ hf => ?_)
          refine r_l2i B (pc := 88) dX6_judged_88 ?_
          refine r_aload B (pc := 89) dX6_judged_89 rfl ?_
          refine r_iload B (pc := 91) dX6_judged_91 rfl ?_
          refine r_iconst B (pc := 93) dX6_judged_93 kc_1 ?_
          refine r_iadd B (pc := 94) dX6_judged_94 ?_
          refine aldC_it hj_x1 B (pc := 95) dX6_judged_95 hf (fun _ hf => ?_)
          refine r_l2i B (pc := 96) dX6_judged_96 ?_
          refine r_aload_n B (pc := 97) dX6_judged_97 rfl rfl ?_
          refine gC_RX6_10_0 B (pc := 98) dX6_judged_98 ?_
          refine gC_RX6_116_1 B (pc := 101) dX6_judged_101 ?_
          obtain ⟨r7, hc6, hf⟩ := bdr_e hf
          refine r_cVI B (c_X3_hearers X.l X.D K ad nw σ54 ((σ54.2 (54 + 2 * (ix x1)) (ix y4)).toInt32) ((σ54.2 (54 + 2 * (ix x1)) (ix (y4 + 1))).toInt32) (σ54.1 1 4) hc6) F_X3_hearers lk_RX6_227 (q0 := 1) (ci := 3) rfl rfl (Nat.le_of_ble_eq_true rfl) (Nat.le_of_ble_eq_true rfl) (Nat.le_of_ble_eq_true rfl) (pc := 104) dX6_judged_104 rfl ?_
          refine r_istore B hnL (pc := 107) dX6_judged_107 (by decide) ?_
          refine r_lc (loc' := [some (.ref (ad 0)), none, none, some (.int x3), some (.int x4), none, some (.ref (ad (54 + 2 * (ix x1)))), some (.int v7), some (.int y4), some (.int y5), some (.int r7)]) rfl ?_
          refine r_aload_n B (pc := 109) dX6_judged_109 rfl rfl ?_
          refine gC_RX6_10_0 B (pc := 110) dX6_judged_110 ?_
          refine r_iload B (pc := 113) dX6_judged_113 rfl ?_
          refine r_iload B (pc := 115) dX6_judged_115 rfl ?_
          refine r_aload_n B (pc := 117) dX6_judged_117 rfl rfl ?_
          refine gC_RX6_55_0 B (pc := 118) dX6_judged_118 ?_
          obtain ⟨r9, hc8, hf⟩ := bdr_e hf
          refine r_cVI B (c_X3_wrongedOf_61 X.l X.D K ad nw σ54 r7 y5 hc8) F_X3_wrongedOf lk_RX6_235 (q0 := 1) (ci := 3) rfl rfl (Nat.le_of_ble_eq_true rfl) (Nat.le_of_ble_eq_true rfl) (Nat.le_of_ble_eq_true rfl) (pc := 121) dX6_judged_121 rfl ?_
          refine r_if_eq B (pc := 124) (tgt := 130) dX6_judged_124 (by decide) hf (fun _ hf => ?_) (fun _ hf => ?_)
          · refine r_iload B (pc := 130) dX6_judged_130 rfl ?_
            refine r_iload B (pc := 132) dX6_judged_132 rfl ?_
            refine r_aload_n B (pc := 134) dX6_judged_134 rfl rfl ?_
            refine gC_RX6_55_0 B (pc := 135) dX6_judged_135 ?_
            obtain ⟨s11, hc10, hf⟩ := bdr_e hf
            refine r_cSV B (c_X6_noteHeard_61 X.l X.D K ad nw σ54 r7 y5 hc10) F_X6_noteHeard lk_RX6_318 (Nat.le_of_ble_eq_true rfl) (Nat.le_of_ble_eq_true rfl) (Nat.le_of_ble_eq_true rfl) (pc := 138) dX6_judged_138 rfl ?_
            refine r_iincS B hnL (pc := 141) dX6_judged_141 rfl kc_1 (by decide) hf (fun y12 hf => ?_)
            refine r_lc (loc' := [some (.ref (ad 0)), none, none, some (.int x3), some (.int x4), none, some (.ref (ad (54 + 2 * (ix x1)))), some (.int y12), some (.int y4), some (.int y5), some (.int r7)]) rfl ?_
            refine r_goto B (pc := 144) (tgt := 54) dX6_judged_144 (by decide) ?_
            exact r_mask [true, false, false, true, true, false, true, true, false, false, false] rfl (ih54 y12 s11 hf)
          · refine r_iload B (pc := 127) dX6_judged_127 rfl ?_
            exact e_pz (F := (wC ad K nw)) hf (nar_i _) (RET 129 _ dX6_judged_129)
    exact r_mask [true, false, false, true, true, false, true, true, false, false, false] rfl (k54 FU 0 s3 hf)
  · refine r_iload B (pc := 16) dX6_judged_16 rfl ?_
    exact e_pz (F := (wC ad K nw)) hf (nar_i _) (RET 18 _ dX6_judged_18)
set_option maxHeartbeats 4000000 in
set_option maxRecDepth 20000 in
theorem c_X4_cut_sh (l : Launch) (D : va_G) (K : Kt) (ad : Nat → Nat) (nw : Nat) (σ : St) (j : Nat) (hj : j < 4) (x1 : Int64) : CtL l yX4_cut cX4_cut 3 (some .long) 0 0 D K [.ref (ad (53 + 2 * j)), .long x1] (wC ad K nw σ) (f_X4_cut_sh σ j x1) (wC ad K nw σ) := by
  refine met_l pl_RX4 (Nat.le_of_ble_eq_true rfl) (fun X hnL B RET => ?_)
  generalize hf : f_X4_cut_sh σ j x1 = r at RET
  suffices h : MW X (wC ad K nw σ) 0 [some (.ref (ad (53 + 2 * j))), some (.long x1), none] [] from h
  unfold f_X4_cut_sh at hf
  refine r_aload_n B (pc := 0) dX4_cut_0 rfl rfl ?_
  refine gC_RX4_15_sh hj B (pc := 1) dX4_cut_1 ?_
  by_cases q4_0 : (σ.1 (53 + 2 * j) 1) = 0
  · have hf := it_t hf q4_0
    refine r_tsw B (pc := 4) (off := 28) (tgt := 32) dX4_cut_4 (by rw [q4_0]; decide) (by rw [q4_0]; decide) (by rw [q4_0]; decide) (by decide) ?_
    refine r_lload_n B (pc := 32) dX4_cut_32 rfl rfl ?_
    refine r_l2i B (pc := 33) dX4_cut_33 ?_
    refine r_i2b B (pc := 34) dX4_cut_34 ?_
    refine r_i2l B (pc := 35) dX4_cut_35 ?_
    exact e_tl hf (RET 36 _ dX4_cut_36)
  have hf := it_f hf q4_0
  by_cases q4_1 : (σ.1 (53 + 2 * j) 1) = 1
  · have hf := it_t hf q4_1
    refine r_tsw B (pc := 4) (off := 33) (tgt := 37) dX4_cut_4 (by rw [q4_1]; decide) (by rw [q4_1]; decide) (by rw [q4_1]; decide) (by decide) ?_
    refine r_lload_n B (pc := 37) dX4_cut_37 rfl rfl ?_
    refine r_l2i B (pc := 38) dX4_cut_38 ?_
    refine r_i2s B (pc := 39) dX4_cut_39 ?_
    refine r_i2l B (pc := 40) dX4_cut_40 ?_
    exact e_tl hf (RET 41 _ dX4_cut_41)
  have hf := it_f hf q4_1
  by_cases q4_2 : (σ.1 (53 + 2 * j) 1) = 2
  · have hf := it_t hf q4_2
    refine r_tsw B (pc := 4) (off := 38) (tgt := 42) dX4_cut_4 (by rw [q4_2]; decide) (by rw [q4_2]; decide) (by rw [q4_2]; decide) (by decide) ?_
    refine r_lload_n B (pc := 42) dX4_cut_42 rfl rfl ?_
    refine r_l2i B (pc := 43) dX4_cut_43 ?_
    refine r_i2l B (pc := 44) dX4_cut_44 ?_
    exact e_tl hf (RET 45 _ dX4_cut_45)
  have hf := it_f hf q4_2
  refine r_tswd B (pc := 4) (tgt := 46) dX4_cut_4 (sw_out 3 0 (fun k hk => match k, hk with | 0, _ => fun e => q4_0 (Int32.toInt_inj.mp (e.trans (by decide))) | 1, _ => fun e => q4_1 (Int32.toInt_inj.mp (e.trans (by decide))) | 2, _ => fun e => q4_2 (Int32.toInt_inj.mp (e.trans (by decide))))) (by decide) ?_
  refine r_lload_n B (pc := 46) dX4_cut_46 rfl rfl ?_
  exact e_tl hf (RET 47 _ dX4_cut_47)
set_option maxHeartbeats 4000000 in
set_option maxRecDepth 20000 in
theorem c_X4_put_sh (l : Launch) (D : va_G) (K : Kt) (ad : Nat → Nat) (nw : Nat) (σ : St) (j : Nat) (hj : j < 4) (x1 : Int32) (x2 : Int64) {τ : St} (hf : f_X4_put_sh σ j x1 x2 = some τ) : CtV l yX4_put cX4_put 4 none 1 22 D K [.ref (ad (53 + 2 * j)), .int x1, .long x2] (wC ad K nw σ) (wC ad K nw τ) := by
  refine met_v pl_RX4 (Nat.le_of_ble_eq_true rfl) (fun X hnL B RET => ?_)
  suffices h : MW X (wC ad K nw σ) 0 [some (.ref (ad (53 + 2 * j))), some (.int x1), some (.long x2), none] [] from h
  unfold f_X4_put_sh at hf
  refine r_iload_n B (pc := 0) dX4_put_0 rfl rfl ?_
  refine r_if_lt B (pc := 1) (tgt := 12) dX4_put_1 (by decide) hf (fun _ hf => ?_) (fun _ hf => ?_)
  · exact e_s (F := (wC ad K nw)) hf (RET 12 _ dX4_put_12)
  · refine r_iload_n B (pc := 4) dX4_put_4 rfl rfl ?_
    refine r_aload_n B (pc := 5) dX4_put_5 rfl rfl ?_
    refine gC_RX4_19_sh hj B (pc := 6) dX4_put_6 ?_
    refine r_icmp_lt B (pc := 9) (tgt := 13) dX4_put_9 (by decide) hf (fun _ hf => ?_) (fun _ hf => ?_)
    · refine r_aload_n B (pc := 13) dX4_put_13 rfl rfl ?_
      refine gC_RX4_22_sh hj B (pc := 14) dX4_put_14 ?_
      refine r_iload_n B (pc := 17) dX4_put_17 rfl rfl ?_
      refine r_aload_n B (pc := 18) dX4_put_18 rfl rfl ?_
      refine r_lload_n B (pc := 19) dX4_put_19 rfl rfl ?_
      refine r_cVL B (c_X4_cut_sh X.l X.D K ad nw σ j hj x2) F_X4_cut lk_RX4_32 (q0 := 53 + 2 * j) (ci := 4) (wC_sh ad K nw σ hj) rfl (Nat.le_of_ble_eq_true rfl) (Nat.le_of_ble_eq_true rfl) (Nat.le_of_ble_eq_true rfl) (pc := 20) dX4_put_20 rfl ?_
      refine astC_it hj B (pc := 23) dX4_put_23 hf (fun s1 _ hf => ?_)
      exact e_s (F := (wC ad K nw)) hf (RET 24 _ dX4_put_24)
    · exact e_s (F := (wC ad K nw)) hf (RET 12 _ dX4_put_12)
set_option maxHeartbeats 4000000 in
set_option maxRecDepth 20000 in
theorem c_X6_film (l : Launch) (D : va_G) (K : Kt) (ad : Nat → Nat) (nw : Nat) (σ : St) (x1 : Int32) (x2 : Int32) (x3 : Int32) {r : Int32} {τ : St} (hf : f_X6_film σ x1 x2 x3 = some (r, τ)) : CtI l yX6_film cX6_film 6 (some .int) 4 89 D K [.ref (ad 0), .int x1, .int x2, .int x3] (wC ad K nw σ) r (wC ad K nw τ) := by
  refine met_i pl_RX6 (Nat.le_of_ble_eq_true rfl) (fun X hnL B RET => ?_)
  suffices h : MW X (wC ad K nw σ) 0 [some (.ref (ad 0)), some (.int x1), some (.int x2), some (.int x3), none, none] [] from h
  unfold f_X6_film at hf
  refine r_aload_n B (pc := 0) dX6_film_0 rfl rfl ?_
  refine r_iload_n B (pc := 1) dX6_film_1 rfl rfl ?_
  refine r_iload_n B (pc := 2) dX6_film_2 rfl rfl ?_
  refine r_iload_n B (pc := 3) dX6_film_3 rfl rfl ?_
  refine r_aload_n B (pc := 4) dX6_film_4 rfl rfl ?_
  refine gC_RX6_10_0 B (pc := 5) dX6_film_5 ?_
  refine gC_RX6_72_1 B (pc := 8) dX6_film_8 ?_
  refine gC_RX6_75_2 B (pc := 11) dX6_film_11 ?_
  obtain ⟨r2, hc1, hf⟩ := bdr_e hf
  refine r_cVI B (c_X6_refusalOfItems X.l X.D K ad nw σ x1 x2 x3 (σ.1 2 0) hc1) F_X6_refusalOfItems lk_RX6_328 (q0 := 0) (ci := 6) rfl rfl (Nat.le_of_ble_eq_true rfl) (Nat.le_of_ble_eq_true rfl) (Nat.le_of_ble_eq_true rfl) (pc := 14) dX6_film_14 rfl ?_
  refine r_istore B hnL (pc := 17) dX6_film_17 (by decide) ?_
  refine r_lc (loc' := [some (.ref (ad 0)), some (.int x1), some (.int x2), some (.int x3), some (.int r2), none]) rfl ?_
  refine r_iload B (pc := 19) dX6_film_19 rfl ?_
  refine r_if_eq B (pc := 21) (tgt := 27) dX6_film_21 (by decide) hf (fun _ hf => ?_) (fun _ hf => ?_)
  · refine r_iconst B (pc := 27) dX6_film_27 kc_0 ?_
    refine r_istore B hnL (pc := 28) dX6_film_28 (by decide) ?_
    refine r_lc (loc' := [some (.ref (ad 0)), some (.int x1), some (.int x2), some (.int x3), some (.int r2), some (.int 0)]) rfl ?_
    have k30 : ∀ (n30 : Nat) (v5 : Int32) (σ30 : St), f_X6_film_h30 x1 x2 x3 n30 v5 σ30 = some (r, τ) → MW X (wC ad K nw σ30) 30 [some (.ref (ad 0)), some (.int x1), none, some (.int x3), none, some (.int v5)] [] := by
      intro n30
      induction n30 with
      | zero => intro v5 σ30 hf; exact nn_z hf
      | succ n30 ih30 =>
        intro v5 σ30 hf
        rw [f_X6_film_h30] at hf
        refine r_iload B (pc := 30) dX6_film_30 rfl ?_
        refine r_aload_n B (pc := 32) dX6_film_32 rfl rfl ?_
        refine gC_RX6_10_0 B (pc := 33) dX6_film_33 ?_
        refine gC_RX6_72_1 B (pc := 36) dX6_film_36 ?_
        refine gC_RX6_75_2 B (pc := 39) dX6_film_39 ?_
        refine r_icmp_ge B (pc := 42) (tgt := 74) dX6_film_42 (by decide) hf (fun _ hf => ?_) (fun _ hf => ?_)
        · refine r_aload_n B (pc := 74) dX6_film_74 rfl rfl ?_
          refine gC_RX6_10_0 B (pc := 75) dX6_film_75 ?_
          refine gC_RX6_72_1 B (pc := 78) dX6_film_78 ?_
          refine gC_RX6_75_2 B (pc := 81) dX6_film_81 ?_
          exact e_pz (F := (wC ad K nw)) hf (nar_i _) (RET 84 _ dX6_film_84)
        · refine r_aload_n B (pc := 45) dX6_film_45 rfl rfl ?_
          refine gC_RX6_51_0 B (pc := 46) dX6_film_46 ?_
          refine r_iload_n B (pc := 49) dX6_film_49 rfl rfl ?_
          refine aald_C B (pc := 50) dX6_film_50 hf (fun hj_x1 hf => ?_)
          refine r_iload_n B (pc := 51) dX6_film_51 rfl rfl ?_
          refine r_iload B (pc := 52) dX6_film_52 rfl ?_
          refine r_iadd B (pc := 54) dX6_film_54 ?_
          refine r_aload_n B (pc := 55) dX6_film_55 rfl rfl ?_
          refine gC_RX6_10_0 B (pc := 56) dX6_film_56 ?_
          refine r_iload B (pc := 59) dX6_film_59 rfl ?_
          obtain ⟨r4, hc3, hf⟩ := bdr_e hf
          refine r_cVI B (c_X3_arrearsOf X.l X.D K ad nw σ30 v5 hc3) F_X3_arrearsOf lk_RX6_144 (q0 := 1) (ci := 3) rfl rfl (Nat.le_of_ble_eq_true rfl) (Nat.le_of_ble_eq_true rfl) (Nat.le_of_ble_eq_true rfl) (pc := 61) dX6_film_61 rfl ?_
          refine r_i2l B (pc := 64) dX6_film_64 ?_
          obtain ⟨s6, hc5, hf⟩ := bdr_e hf
          refine r_cVV B (c_X4_put_sh X.l X.D K ad nw σ30 (ix x1) hj_x1 (x3 + v5) (r4.toInt64) hc5) F_X4_put lk_RX6_331 (q0 := 53 + 2 * (ix x1)) (ci := 4) (wC_sh ad K nw σ30 hj_x1) rfl (Nat.le_of_ble_eq_true rfl) (Nat.le_of_ble_eq_true rfl) (Nat.le_of_ble_eq_true rfl) (pc := 65) dX6_film_65 rfl ?_
          refine r_iincS B hnL (pc := 68) dX6_film_68 rfl kc_1 (by decide) hf (fun y7 hf => ?_)
          refine r_lc (loc' := [some (.ref (ad 0)), some (.int x1), none, some (.int x3), none, some (.int y7)]) rfl ?_
          refine r_goto B (pc := 71) (tgt := 30) dX6_film_71 (by decide) ?_
          exact r_mask [true, true, false, true, false, true] rfl (ih30 y7 s6 hf)
    exact r_mask [true, true, false, true, false, true] rfl (k30 FU 0 σ hf)
  · refine r_iload B (pc := 24) dX6_film_24 rfl ?_
    exact e_pz (F := (wC ad K nw)) hf (nar_i _) (RET 26 _ dX6_film_26)
set_option maxHeartbeats 4000000 in
set_option maxRecDepth 20000 in
theorem c_J7_fill_d0a16_it (l : Launch) (D : va_G) (K : Kt) (ad : Nat → Nat) (nw : Nat) (σ : St) (j : Nat) (hj : j < 4) (x1 : Int64) {τ : St} (hf : f_J7_fill_d0a16_it σ j x1 = some τ) : CtV l yJ7_fill_d0a16 cJ7_fill_d0a16 5 none 0 0 D K [.ref (ad (54 + 2 * j)), .long x1] (wC ad K nw σ) (wC ad K nw τ) := by
  refine met_v pl_RJ7 (Nat.le_of_ble_eq_true rfl) (fun X hnL B RET => ?_)
  suffices h : MW X (wC ad K nw σ) 0 [some (.ref (ad (54 + 2 * j))), some (.long x1), none, none, none] [] from h
  unfold f_J7_fill_d0a16_it at hf
  refine r_iconst B (pc := 0) dJ7_fill_d0a16_0 kc_0 ?_
  refine r_istore_n B hnL (pc := 1) dJ7_fill_d0a16_1 rfl (by decide) ?_
  refine r_lc (loc' := [some (.ref (ad (54 + 2 * j))), some (.long x1), none, some (.int 0), none]) rfl ?_
  refine r_aload_n B (pc := 2) dJ7_fill_d0a16_2 rfl rfl ?_
  refine lenC_it hj B (pc := 3) dJ7_fill_d0a16_3 ?_
  refine r_istore B hnL (pc := 4) dJ7_fill_d0a16_4 (by decide) ?_
  refine r_lc (loc' := [some (.ref (ad (54 + 2 * j))), some (.long x1), none, some (.int 0), some (.int 36)]) rfl ?_
  have k6 : ∀ (n6 : Nat) (v3 : Int32) (v4 : Int32) (σ6 : St), f_J7_fill_d0a16_it_h6 j x1 n6 v3 v4 σ6 = some τ → MW X (wC ad K nw σ6) 6 [some (.ref (ad (54 + 2 * j))), some (.long x1), none, some (.int v3), some (.int v4)] [] := by
    intro n6
    induction n6 with
    | zero => intro v3 v4 σ6 hf; exact nn_z hf
    | succ n6 ih6 =>
      intro v3 v4 σ6 hf
      rw [f_J7_fill_d0a16_it_h6] at hf
      refine r_iload_n B (pc := 6) dJ7_fill_d0a16_6 rfl rfl ?_
      refine r_iload B (pc := 7) dJ7_fill_d0a16_7 rfl ?_
      refine r_icmp_ge B (pc := 9) (tgt := 22) dJ7_fill_d0a16_9 (by decide) hf (fun _ hf => ?_) (fun _ hf => ?_)
      · exact e_s (F := (wC ad K nw)) hf (RET 22 _ dJ7_fill_d0a16_22)
      · refine r_aload_n B (pc := 12) dJ7_fill_d0a16_12 rfl rfl ?_
        refine r_iload_n B (pc := 13) dJ7_fill_d0a16_13 rfl rfl ?_
        refine r_lload_n B (pc := 14) dJ7_fill_d0a16_14 rfl rfl ?_
        refine astC_it hj B (pc := 15) dJ7_fill_d0a16_15 hf (fun s1 _ hf => ?_)
        refine r_iincS B hnL (pc := 16) dJ7_fill_d0a16_16 rfl kc_1 (by decide) hf (fun y2 hf => ?_)
        refine r_lc (loc' := [some (.ref (ad (54 + 2 * j))), some (.long x1), none, some (.int y2), some (.int v4)]) rfl ?_
        refine r_goto B (pc := 19) (tgt := 6) dJ7_fill_d0a16_19 (by decide) ?_
        exact r_mask [true, true, false, true, true] rfl (ih6 y2 v4 s1 hf)
  exact r_mask [true, true, false, true, true] rfl (k6 FU 0 36 σ hf)
set_option maxHeartbeats 4000000 in
set_option maxRecDepth 20000 in
theorem c_X4_renew_sh (l : Launch) (D : va_G) (K : Kt) (ad : Nat → Nat) (nw : Nat) (σ : St) (j : Nat) (hj : j < 4) (x1 : Int32) (x2 : Int32) {τ : St} (hf : f_X4_renew_sh σ j x1 x2 = some τ) : CtV l yX4_renew cX4_renew 3 none 1 24 D K [.ref (ad (53 + 2 * j)), .int x1, .int x2] (wC ad K nw σ) (wC ad K nw τ) := by
  refine met_v pl_RX4 (Nat.le_of_ble_eq_true rfl) (fun X hnL B RET => ?_)
  suffices h : MW X (wC ad K nw σ) 0 [some (.ref (ad (53 + 2 * j))), some (.int x1), some (.int x2)] [] from h
  unfold f_X4_renew_sh at hf
  refine r_aload_n B (pc := 0) dX4_renew_0 rfl rfl ?_
  refine r_iconst B (pc := 1) dX4_renew_1 kc_1 ?_
  refine pC_RX4_9_sh hj B rfl rfl (pc := 2) dX4_renew_2 hf (fun s1 hf => ?_)
  refine r_aload_n B (pc := 5) dX4_renew_5 rfl rfl ?_
  refine r_iload_n B (pc := 6) dX4_renew_6 rfl rfl ?_
  refine pC_RX4_15_sh hj B (pc := 7) dX4_renew_7 hf (fun s2 hf => ?_)
  refine r_aload_n B (pc := 10) dX4_renew_10 rfl rfl ?_
  refine r_iload_n B (pc := 11) dX4_renew_11 rfl rfl ?_
  refine pC_RX4_19_sh hj B (pc := 12) dX4_renew_12 hf (fun s3 hf => ?_)
  refine r_aload_n B (pc := 15) dX4_renew_15 rfl rfl ?_
  refine gC_RX4_22_sh hj B (pc := 16) dX4_renew_16 ?_
  refine r_lconst B (pc := 19) dX4_renew_19 kl_0 ?_
  obtain ⟨s5, hc4, hf⟩ := bdr_e hf
  refine r_cSV B (c_J7_fill_d0a16_it X.l X.D K ad nw s3 j hj 0 hc4) F_J7_fill_d0a16 lk_RX4_26 (Nat.le_of_ble_eq_true rfl) (Nat.le_of_ble_eq_true rfl) (Nat.le_of_ble_eq_true rfl) (pc := 20) dX4_renew_20 rfl ?_
  exact e_s (F := (wC ad K nw)) hf (RET 23 _ dX4_renew_23)
set_option maxHeartbeats 4000000 in
set_option maxRecDepth 20000 in
theorem c_X6_sheet (l : Launch) (D : va_G) (K : Kt) (ad : Nat → Nat) (nw : Nat) (σ : St) (x1 : Int32) (x2 : Int32) (x3 : Int32) {r : Int32} {τ : St} (hf : f_X6_sheet σ x1 x2 x3 = some (r, τ)) : CtI l yX6_sheet cX6_sheet 4 (some .int) 2 46 D K [.ref (ad 0), .int x1, .int x2, .int x3] (wC ad K nw σ) r (wC ad K nw τ) := by
  refine met_i pl_RX6 (Nat.le_of_ble_eq_true rfl) (fun X hnL B RET => ?_)
  suffices h : MW X (wC ad K nw σ) 0 [some (.ref (ad 0)), some (.int x1), some (.int x2), some (.int x3)] [] from h
  unfold f_X6_sheet at hf
  refine r_iload_n B (pc := 0) dX6_sheet_0 rfl rfl ?_
  refine r_cSI B (c_X6_isSheet X.l X.D K _ x1) F_X6_isSheet lk_RX6_335 (Nat.le_of_ble_eq_true rfl) (Nat.le_of_ble_eq_true rfl) (Nat.le_of_ble_eq_true rfl) (pc := 1) dX6_sheet_1 rfl ?_
  refine r_if_eq B (pc := 4) (tgt := 20) dX6_sheet_4 (by decide) hf (fun _ hf => ?_) (fun _ hf => ?_)
  · refine r_iconst B (pc := 20) dX6_sheet_20 kc_m1 ?_
    exact e_pz (F := (wC ad K nw)) hf (nar_i _) (RET 21 _ dX6_sheet_21)
  · refine r_iload_n B (pc := 7) dX6_sheet_7 rfl rfl ?_
    refine r_cSI B (c_X6_isLane X.l X.D K _ x2) F_X6_isLane lk_RX6_338 (Nat.le_of_ble_eq_true rfl) (Nat.le_of_ble_eq_true rfl) (Nat.le_of_ble_eq_true rfl) (pc := 8) dX6_sheet_8 rfl ?_
    refine r_if_eq B (pc := 11) (tgt := 20) dX6_sheet_11 (by decide) hf (fun _ hf => ?_) (fun _ hf => ?_)
    · refine r_iconst B (pc := 20) dX6_sheet_20 kc_m1 ?_
      exact e_pz (F := (wC ad K nw)) hf (nar_i _) (RET 21 _ dX6_sheet_21)
    · refine r_iload_n B (pc := 14) dX6_sheet_14 rfl rfl ?_
      refine r_bipush B (pc := 15) dX6_sheet_15 kb_36 ?_
      refine r_icmp_le B (pc := 17) (tgt := 22) dX6_sheet_17 (by decide) hf (fun _ hf => ?_) (fun _ hf => ?_)
      · refine r_iload_n B (pc := 22) dX6_sheet_22 rfl rfl ?_
        refine r_if_ge B (pc := 23) (tgt := 29) dX6_sheet_23 (by decide) hf (fun _ hf => ?_) (fun _ hf => ?_)
        · refine r_aload_n B (pc := 29) dX6_sheet_29 rfl rfl ?_
          refine gC_RX6_51_0 B (pc := 30) dX6_sheet_30 ?_
          refine r_iload_n B (pc := 33) dX6_sheet_33 rfl rfl ?_
          refine aald_C B (pc := 34) dX6_sheet_34 hf (fun hj_x1 hf => ?_)
          refine r_iload_n B (pc := 35) dX6_sheet_35 rfl rfl ?_
          refine r_iload_n B (pc := 36) dX6_sheet_36 rfl rfl ?_
          obtain ⟨s2, hc1, hf⟩ := bdr_e hf
          refine r_cVV B (c_X4_renew_sh X.l X.D K ad nw σ (ix x1) hj_x1 x2 x3 hc1) F_X4_renew lk_RX6_341 (q0 := 53 + 2 * (ix x1)) (ci := 4) (wC_sh ad K nw σ hj_x1) rfl (Nat.le_of_ble_eq_true rfl) (Nat.le_of_ble_eq_true rfl) (Nat.le_of_ble_eq_true rfl) (pc := 37) dX6_sheet_37 rfl ?_
          refine r_iload_n B (pc := 40) dX6_sheet_40 rfl rfl ?_
          exact e_pz (F := (wC ad K nw)) hf (nar_i _) (RET 41 _ dX6_sheet_41)
        · refine r_bipush B (pc := 26) dX6_sheet_26 kb_m14 ?_
          exact e_pz (F := (wC ad K nw)) hf (nar_i _) (RET 28 _ dX6_sheet_28)
      · refine r_iconst B (pc := 20) dX6_sheet_20 kc_m1 ?_
        exact e_pz (F := (wC ad K nw)) hf (nar_i _) (RET 21 _ dX6_sheet_21)
set_option maxHeartbeats 4000000 in
set_option maxRecDepth 20000 in
theorem c_X6_drop (l : Launch) (D : va_G) (K : Kt) (ad : Nat → Nat) (nw : Nat) (σ : St) (x1 : Int32) {r : Int32} {τ : St} (hf : f_X6_drop σ x1 = some (r, τ)) : CtI l yX6_drop cX6_drop 2 (some .int) 1 20 D K [.ref (ad 0), .int x1] (wC ad K nw σ) r (wC ad K nw τ) := by
  refine met_i pl_RX6 (Nat.le_of_ble_eq_true rfl) (fun X hnL B RET => ?_)
  suffices h : MW X (wC ad K nw σ) 0 [some (.ref (ad 0)), some (.int x1)] [] from h
  unfold f_X6_drop at hf
  refine r_iload_n B (pc := 0) dX6_drop_0 rfl rfl ?_
  refine r_cSI B (c_X6_isSheet X.l X.D K _ x1) F_X6_isSheet lk_RX6_335 (Nat.le_of_ble_eq_true rfl) (Nat.le_of_ble_eq_true rfl) (Nat.le_of_ble_eq_true rfl) (pc := 1) dX6_drop_1 rfl ?_
  refine r_if_ne B (pc := 4) (tgt := 9) dX6_drop_4 (by decide) hf (fun _ hf => ?_) (fun _ hf => ?_)
  · refine r_aload_n B (pc := 9) dX6_drop_9 rfl rfl ?_
    refine gC_RX6_51_0 B (pc := 10) dX6_drop_10 ?_
    refine r_iload_n B (pc := 13) dX6_drop_13 rfl rfl ?_
    refine aald_C B (pc := 14) dX6_drop_14 hf (fun hj_x1 hf => ?_)
    refine gC_RX6_344_sh hj_x1 B (pc := 15) dX6_drop_15 ?_
    refine r_if_ne B (pc := 18) (tgt := 24) dX6_drop_18 (by decide) hf (fun _ hf => ?_) (fun _ hf => ?_)
    · refine r_aload_n B (pc := 24) dX6_drop_24 rfl rfl ?_
      refine gC_RX6_51_0 B (pc := 25) dX6_drop_25 ?_
      refine r_iload_n B (pc := 28) dX6_drop_28 rfl rfl ?_
      refine aald_C B (pc := 29) dX6_drop_29 hf (fun hj_x1 hf => ?_)
      refine r_iconst B (pc := 30) dX6_drop_30 kc_0 ?_
      refine pC_RX6_344_sh hj_x1 B rfl rfl (pc := 31) dX6_drop_31 hf (fun s1 hf => ?_)
      refine r_aload_n B (pc := 34) dX6_drop_34 rfl rfl ?_
      refine gC_RX6_51_0 B (pc := 35) dX6_drop_35 ?_
      refine r_iload_n B (pc := 38) dX6_drop_38 rfl rfl ?_
      refine aald_C B (pc := 39) dX6_drop_39 hf (fun hj_x1 hf => ?_)
      refine gC_RX6_347_sh hj_x1 B (pc := 40) dX6_drop_40 ?_
      exact e_pz (F := (wC ad K nw)) hf (nar_i _) (RET 43 _ dX6_drop_43)
    · refine r_bipush B (pc := 21) dX6_drop_21 kb_m11 ?_
      exact e_pz (F := (wC ad K nw)) hf (nar_i _) (RET 23 _ dX6_drop_23)
  · refine r_iconst B (pc := 7) dX6_drop_7 kc_m1 ?_
    exact e_pz (F := (wC ad K nw)) hf (nar_i _) (RET 8 _ dX6_drop_8)
set_option maxHeartbeats 4000000 in
set_option maxRecDepth 20000 in
theorem c_X6_item (l : Launch) (D : va_G) (K : Kt) (ad : Nat → Nat) (nw : Nat) (σ : St) (x1 : Int32) (x2 : Int32) (x3 : Int32) (x4 : Int64) {r : Int32} {τ : St} (hf : f_X6_item σ x1 x2 x3 x4 = some (r, τ)) : CtI l yX6_item cX6_item 7 (some .int) 2 46 D K [.ref (ad 0), .int x1, .int x2, .int x3, .long x4] (wC ad K nw σ) r (wC ad K nw τ) := by
  refine met_i pl_RX6 (Nat.le_of_ble_eq_true rfl) (fun X hnL B RET => ?_)
  suffices h : MW X (wC ad K nw σ) 0 [some (.ref (ad 0)), some (.int x1), some (.int x2), some (.int x3), some (.long x4), none, none] [] from h
  unfold f_X6_item at hf
  refine r_aload_n B (pc := 0) dX6_item_0 rfl rfl ?_
  refine r_iload_n B (pc := 1) dX6_item_1 rfl rfl ?_
  refine r_iload_n B (pc := 2) dX6_item_2 rfl rfl ?_
  refine r_iload_n B (pc := 3) dX6_item_3 rfl rfl ?_
  refine r_iconst B (pc := 4) dX6_item_4 kc_1 ?_
  obtain ⟨r2, hc1, hf⟩ := bdr_e hf
  refine r_cVI B (c_X6_refusalOfItems X.l X.D K ad nw σ x1 x2 x3 1 hc1) F_X6_refusalOfItems lk_RX6_328 (q0 := 0) (ci := 6) rfl rfl (Nat.le_of_ble_eq_true rfl) (Nat.le_of_ble_eq_true rfl) (Nat.le_of_ble_eq_true rfl) (pc := 5) dX6_item_5 rfl ?_
  refine r_istore B hnL (pc := 8) dX6_item_8 (by decide) ?_
  refine r_lc (loc' := [some (.ref (ad 0)), some (.int x1), some (.int x2), some (.int x3), some (.long x4), none, some (.int r2)]) rfl ?_
  refine r_iload B (pc := 10) dX6_item_10 rfl ?_
  refine r_if_eq B (pc := 12) (tgt := 18) dX6_item_12 (by decide) hf (fun _ hf => ?_) (fun _ hf => ?_)
  · refine r_aload_n B (pc := 18) dX6_item_18 rfl rfl ?_
    refine gC_RX6_51_0 B (pc := 19) dX6_item_19 ?_
    refine r_iload_n B (pc := 22) dX6_item_22 rfl rfl ?_
    refine aald_C B (pc := 23) dX6_item_23 hf (fun hj_x1 hf => ?_)
    refine r_iload_n B (pc := 24) dX6_item_24 rfl rfl ?_
    refine r_lload B (pc := 25) dX6_item_25 rfl ?_
    obtain ⟨s4, hc3, hf⟩ := bdr_e hf
    refine r_cVV B (c_X4_put_sh X.l X.D K ad nw σ (ix x1) hj_x1 x3 x4 hc3) F_X4_put lk_RX6_331 (q0 := 53 + 2 * (ix x1)) (ci := 4) (wC_sh ad K nw σ hj_x1) rfl (Nat.le_of_ble_eq_true rfl) (Nat.le_of_ble_eq_true rfl) (Nat.le_of_ble_eq_true rfl) (pc := 27) dX6_item_27 rfl ?_
    refine r_iconst B (pc := 30) dX6_item_30 kc_1 ?_
    exact e_pz (F := (wC ad K nw)) hf (nar_i _) (RET 31 _ dX6_item_31)
  · refine r_iload B (pc := 15) dX6_item_15 rfl ?_
    exact e_pz (F := (wC ad K nw)) hf (nar_i _) (RET 17 _ dX6_item_17)
set_option maxHeartbeats 4000000 in
set_option maxRecDepth 20000 in
theorem c_X6_copy (l : Launch) (D : va_G) (K : Kt) (ad : Nat → Nat) (nw : Nat) (σ : St) (x1 : Int32) (x2 : Int32) (x3 : Int32) (x4 : Int32) (x5 : Int32) {r : Int32} {τ : St} (hf : f_X6_copy σ x1 x2 x3 x4 x5 = some (r, τ)) : CtI l yX6_copy cX6_copy 8 (some .int) 1 26 D K [.ref (ad 0), .int x1, .int x2, .int x3, .int x4, .int x5] (wC ad K nw σ) r (wC ad K nw τ) := by
  refine met_i pl_RX6 (Nat.le_of_ble_eq_true rfl) (fun X hnL B RET => ?_)
  suffices h : MW X (wC ad K nw σ) 0 [some (.ref (ad 0)), some (.int x1), some (.int x2), some (.int x3), some (.int x4), some (.int x5), none, none] [] from h
  unfold f_X6_copy at hf
  refine r_iload_n B (pc := 0) dX6_copy_0 rfl rfl ?_
  refine r_cSI B (c_X6_isSheet X.l X.D K _ x1) F_X6_isSheet lk_RX6_335 (Nat.le_of_ble_eq_true rfl) (Nat.le_of_ble_eq_true rfl) (Nat.le_of_ble_eq_true rfl) (pc := 1) dX6_copy_1 rfl ?_
  refine r_if_eq B (pc := 4) (tgt := 14) dX6_copy_4 (by decide) hf (fun _ hf => ?_) (fun _ hf => ?_)
  · refine r_iconst B (pc := 14) dX6_copy_14 kc_m1 ?_
    exact e_pz (F := (wC ad K nw)) hf (nar_i _) (RET 15 _ dX6_copy_15)
  · refine r_iload_n B (pc := 7) dX6_copy_7 rfl rfl ?_
    refine r_cSI B (c_X6_isSheet X.l X.D K _ x3) F_X6_isSheet lk_RX6_335 (Nat.le_of_ble_eq_true rfl) (Nat.le_of_ble_eq_true rfl) (Nat.le_of_ble_eq_true rfl) (pc := 8) dX6_copy_8 rfl ?_
    refine r_if_ne B (pc := 11) (tgt := 16) dX6_copy_11 (by decide) hf (fun _ hf => ?_) (fun _ hf => ?_)
    · refine r_aload_n B (pc := 16) dX6_copy_16 rfl rfl ?_
      refine gC_RX6_51_0 B (pc := 17) dX6_copy_17 ?_
      refine r_iload_n B (pc := 20) dX6_copy_20 rfl rfl ?_
      refine aald_C B (pc := 21) dX6_copy_21 hf (fun hj_x1 hf => ?_)
      refine r_astore B hnL (pc := 22) dX6_copy_22 (by decide) ?_
      refine r_lc (loc' := [some (.ref (ad 0)), some (.int x1), some (.int x2), some (.int x3), some (.int x4), some (.int x5), some (.ref (ad (53 + 2 * (ix x1)))), none]) rfl ?_
      refine r_aload_n B (pc := 24) dX6_copy_24 rfl rfl ?_
      refine gC_RX6_51_0 B (pc := 25) dX6_copy_25 ?_
      refine r_iload_n B (pc := 28) dX6_copy_28 rfl rfl ?_
      refine aald_C B (pc := 29) dX6_copy_29 hf (fun hj_x3 hf => ?_)
      refine r_astore B hnL (pc := 30) dX6_copy_30 (by decide) ?_
      refine r_lc (loc' := [some (.ref (ad 0)), some (.int x1), some (.int x2), some (.int x3), some (.int x4), some (.int x5), some (.ref (ad (53 + 2 * (ix x1)))), some (.ref (ad (53 + 2 * (ix x3))))]) rfl ?_
      refine r_aload B (pc := 32) dX6_copy_32 rfl ?_
      refine gC_RX6_344_sh hj_x1 B (pc := 34) dX6_copy_34 ?_
      refine r_if_eq B (pc := 37) (tgt := 48) dX6_copy_37 (by decide) hf (fun _ hf => ?_) (fun _ hf => ?_)
      · refine r_bipush B (pc := 48) dX6_copy_48 kb_m11 ?_
        exact e_pz (F := (wC ad K nw)) hf (nar_i _) (RET 50 _ dX6_copy_50)
      · refine r_aload B (pc := 40) dX6_copy_40 rfl ?_
        refine gC_RX6_344_sh hj_x3 B (pc := 42) dX6_copy_42 ?_
        refine r_if_ne B (pc := 45) (tgt := 51) dX6_copy_45 (by decide) hf (fun _ hf => ?_) (fun _ hf => ?_)
        · refine r_aload B (pc := 51) dX6_copy_51 rfl ?_
          refine gC_RX6_348_sh hj_x1 B (pc := 53) dX6_copy_53 ?_
          refine r_aload B (pc := 56) dX6_copy_56 rfl ?_
          refine gC_RX6_348_sh hj_x3 B (pc := 58) dX6_copy_58 ?_
          refine r_icmp_eq B (pc := 61) (tgt := 67) dX6_copy_61 (by decide) hf (fun _ hf => ?_) (fun _ hf => ?_)
          · refine r_aload B (pc := 67) dX6_copy_67 rfl ?_
            refine r_iload_n B (pc := 69) dX6_copy_69 rfl rfl ?_
            refine r_iload B (pc := 70) dX6_copy_70 rfl ?_
            refine r_cVI B (c_X4_reaches_sh X.l X.D K ad nw σ (ix x1) hj_x1 x2 x5) F_X4_reaches lk_RX6_351 (q0 := 53 + 2 * (ix x1)) (ci := 4) (wC_sh ad K nw σ hj_x1) rfl (Nat.le_of_ble_eq_true rfl) (Nat.le_of_ble_eq_true rfl) (Nat.le_of_ble_eq_true rfl) (pc := 72) dX6_copy_72 rfl ?_
            refine r_if_eq B (pc := 75) (tgt := 90) dX6_copy_75 (by decide) hf (fun _ hf => ?_) (fun _ hf => ?_)
            · refine r_bipush B (pc := 90) dX6_copy_90 kb_m13 ?_
              exact e_pz (F := (wC ad K nw)) hf (nar_i _) (RET 92 _ dX6_copy_92)
            · refine r_aload B (pc := 78) dX6_copy_78 rfl ?_
              refine r_iload B (pc := 80) dX6_copy_80 rfl ?_
              refine r_iload B (pc := 82) dX6_copy_82 rfl ?_
              refine r_cVI B (c_X4_reaches_sh X.l X.D K ad nw σ (ix x3) hj_x3 x4 x5) F_X4_reaches lk_RX6_351 (q0 := 53 + 2 * (ix x3)) (ci := 4) (wC_sh ad K nw σ hj_x3) rfl (Nat.le_of_ble_eq_true rfl) (Nat.le_of_ble_eq_true rfl) (Nat.le_of_ble_eq_true rfl) (pc := 84) dX6_copy_84 rfl ?_
              refine r_if_ne B (pc := 87) (tgt := 93) dX6_copy_87 (by decide) hf (fun _ hf => ?_) (fun _ hf => ?_)
              · refine r_aload B (pc := 93) dX6_copy_93 rfl ?_
                refine gC_RX6_308_sh hj_x1 B (pc := 95) dX6_copy_95 ?_
                refine r_iload_n B (pc := 98) dX6_copy_98 rfl rfl ?_
                refine r_aload B (pc := 99) dX6_copy_99 rfl ?_
                refine gC_RX6_308_sh hj_x3 B (pc := 101) dX6_copy_101 ?_
                refine r_iload B (pc := 104) dX6_copy_104 rfl ?_
                refine r_iload B (pc := 106) dX6_copy_106 rfl ?_
                refine cpyC_it hj_x1 hj_x3 B (Nat.le_of_ble_eq_true rfl) (Nat.le_of_ble_eq_true rfl) (pc := 108) dX6_copy_108 hf (fun s1 hf => ?_)
                refine r_iload B (pc := 111) dX6_copy_111 rfl ?_
                exact e_pz (F := (wC ad K nw)) hf (nar_i _) (RET 113 _ dX6_copy_113)
              · refine r_bipush B (pc := 90) dX6_copy_90 kb_m13 ?_
                exact e_pz (F := (wC ad K nw)) hf (nar_i _) (RET 92 _ dX6_copy_92)
          · refine r_bipush B (pc := 64) dX6_copy_64 kb_m12 ?_
            exact e_pz (F := (wC ad K nw)) hf (nar_i _) (RET 66 _ dX6_copy_66)
        · refine r_bipush B (pc := 48) dX6_copy_48 kb_m11 ?_
          exact e_pz (F := (wC ad K nw)) hf (nar_i _) (RET 50 _ dX6_copy_50)
    · refine r_iconst B (pc := 14) dX6_copy_14 kc_m1 ?_
      exact e_pz (F := (wC ad K nw)) hf (nar_i _) (RET 15 _ dX6_copy_15)
