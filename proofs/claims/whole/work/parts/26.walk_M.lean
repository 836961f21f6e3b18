set_option maxHeartbeats 4000000 in
set_option maxRecDepth 20000 in
theorem c_X7_lacksRow (l : Launch) (D : va_G) (K : Kt) (ad : Nat → Nat) (σ : St) (x1 : Int32) (x2 : Int32) (x3 : Int32) (x4 : Int32) {r : Int32} (hf : f_X7_lacksRow σ x1 x2 x3 x4 = some r) : CtI l yX7_lacksRow cX7_lacksRow 5 (some .int) 1 25 D K [.ref (ad 0), .int x1, .int x2, .int x3, .int x4] (wM ad K σ) r (wM ad K σ) := by
  refine met_i pl_RX7 (Nat.le_of_ble_eq_true rfl) (fun X hnL B RET => ?_)
  suffices h : MW X (wM ad K σ) 0 [some (.ref (ad 0)), some (.int x1), some (.int x2), some (.int x3), some (.int x4)] [] from h
  unfold f_X7_lacksRow at hf
  refine r_aload_n B (pc := 0) dX7_lacksRow_0 rfl rfl ?_
  refine gM_RX7_62_0 B (pc := 1) dX7_lacksRow_1 ?_
  refine r_iload_n B (pc := 4) dX7_lacksRow_4 rfl rfl ?_
  refine aldM_17 B (pc := 5) dX7_lacksRow_5 hf (fun _ hf => ?_)
  refine r_iload_n B (pc := 6) dX7_lacksRow_6 rfl rfl ?_
  refine r_icmp_eq B (pc := 7) (tgt := 27) dX7_lacksRow_7 (by decide) hf (fun _ hf => ?_) (fun _ hf => ?_)
  · refine r_iload_n B (pc := 27) dX7_lacksRow_27 rfl rfl ?_
    refine r_i2l B (pc := 28) dX7_lacksRow_28 ?_
    refine r_lconst B (pc := 29) dX7_lacksRow_29 kl_0 ?_
    refine r_aload_n B (pc := 30) dX7_lacksRow_30 rfl rfl ?_
    refine gM_RX7_65_0 B (pc := 31) dX7_lacksRow_31 ?_
    refine r_iload_n B (pc := 34) dX7_lacksRow_34 rfl rfl ?_
    refine aldM_18 B (pc := 35) dX7_lacksRow_35 hf (fun _ hf => ?_)
    refine r_iload B (pc := 36) dX7_lacksRow_36 rfl ?_
    refine r_isub B (pc := 38) dX7_lacksRow_38 ?_
    refine r_i2l B (pc := 39) dX7_lacksRow_39 ?_
    refine r_cSI B (c_X7_in X.l X.D K _ (x3.toInt64) 0 (((σ.1 18 (ix x1)) - x4).toInt64)) F_X7_in lk_RX7_81 (Nat.le_of_ble_eq_true rfl) (Nat.le_of_ble_eq_true rfl) (Nat.le_of_ble_eq_true rfl) (pc := 40) dX7_lacksRow_40 rfl ?_
    refine r_if_eq B (pc := 43) (tgt := 50) dX7_lacksRow_43 (by decide) hf (fun _ hf => ?_) (fun _ hf => ?_)
    · refine r_bipush B (pc := 50) dX7_lacksRow_50 kb_m13 ?_
      exact e_rz hf (nar_i _) (RET 52 _ dX7_lacksRow_52)
    · refine r_iconst B (pc := 46) dX7_lacksRow_46 kc_0 ?_
      refine r_goto B (pc := 47) (tgt := 52) dX7_lacksRow_47 (by decide) ?_
      exact e_rz hf (nar_i _) (RET 52 _ dX7_lacksRow_52)
  · refine r_aload_n B (pc := 10) dX7_lacksRow_10 rfl rfl ?_
    refine gM_RX7_62_0 B (pc := 11) dX7_lacksRow_11 ?_
    refine r_iload_n B (pc := 14) dX7_lacksRow_14 rfl rfl ?_
    refine aldM_17 B (pc := 15) dX7_lacksRow_15 hf (fun _ hf => ?_)
    refine r_if_ge B (pc := 16) (tgt := 24) dX7_lacksRow_16 (by decide) hf (fun _ hf => ?_) (fun _ hf => ?_)
    · refine r_bipush B (pc := 24) dX7_lacksRow_24 kb_m12 ?_
      exact e_rz hf (nar_i _) (RET 26 _ dX7_lacksRow_26)
    · refine r_bipush B (pc := 19) dX7_lacksRow_19 kb_m11 ?_
      refine r_goto B (pc := 21) (tgt := 26) dX7_lacksRow_21 (by decide) ?_
      exact e_rz hf (nar_i _) (RET 26 _ dX7_lacksRow_26)
set_option maxHeartbeats 4000000 in
set_option maxRecDepth 20000 in
theorem c_X7_item (l : Launch) (D : va_G) (K : Kt) (ad : Nat → Nat) (σ : St) (x1 : Int32) (x2 : Int32) (x3 : Int32) (x4 : Int64) {r : Int32} {τ : St} (hf : f_X7_item σ x1 x2 x3 x4 = some (r, τ)) : CtI l yX7_item cX7_item 7 (some .int) 2 49 D K [.ref (ad 0), .int x1, .int x2, .int x3, .long x4] (wM ad K σ) r (wM ad K τ) := by
  refine met_i pl_RX7 (Nat.le_of_ble_eq_true rfl) (fun X hnL B RET => ?_)
  suffices h : MW X (wM ad K σ) 0 [some (.ref (ad 0)), some (.int x1), some (.int x2), some (.int x3), some (.long x4), none, none] [] from h
  unfold f_X7_item at hf
  refine r_iload_n B (pc := 0) dX7_item_0 rfl rfl ?_
  refine r_iload_n B (pc := 1) dX7_item_1 rfl rfl ?_
  refine r_cSI B (c_X7_isSheet X.l X.D K _ x1 x2) F_X7_isSheet lk_RX7_313 (Nat.le_of_ble_eq_true rfl) (Nat.le_of_ble_eq_true rfl) (Nat.le_of_ble_eq_true rfl) (pc := 2) dX7_item_2 rfl ?_
  refine r_if_ne B (pc := 5) (tgt := 10) dX7_item_5 (by decide) hf (fun _ hf => ?_) (fun _ hf => ?_)
  · refine r_aload_n B (pc := 10) dX7_item_10 rfl rfl ?_
    refine r_iload_n B (pc := 11) dX7_item_11 rfl rfl ?_
    refine r_iload_n B (pc := 12) dX7_item_12 rfl rfl ?_
    refine r_iload_n B (pc := 13) dX7_item_13 rfl rfl ?_
    refine r_iconst B (pc := 14) dX7_item_14 kc_1 ?_
    obtain ⟨r2, hc1, hf⟩ := bdr_e hf
    refine r_cVI B (c_X7_lacksRow X.l X.D K ad σ x1 x2 x3 1 hc1) F_X7_lacksRow lk_RX7_316 (q0 := 0) (ci := 7) rfl rfl (Nat.le_of_ble_eq_true rfl) (Nat.le_of_ble_eq_true rfl) (Nat.le_of_ble_eq_true rfl) (pc := 15) dX7_item_15 rfl ?_
    refine r_istore B hnL (pc := 18) dX7_item_18 (by decide) ?_
    refine r_lc (loc' := [some (.ref (ad 0)), some (.int x1), some (.int x2), some (.int x3), some (.long x4), none, some (.int r2)]) rfl ?_
    refine r_iload B (pc := 20) dX7_item_20 rfl ?_
    refine r_if_ge B (pc := 22) (tgt := 28) dX7_item_22 (by decide) hf (fun _ hf => ?_) (fun _ hf => ?_)
    · refine r_aload_n B (pc := 28) dX7_item_28 rfl rfl ?_
      refine gM_RX7_68_0 B (pc := 29) dX7_item_29 ?_
      refine r_bipush B (pc := 32) dX7_item_32 kb_36 ?_
      refine r_iload_n B (pc := 34) dX7_item_34 rfl rfl ?_
      refine r_imul B (pc := 35) dX7_item_35 ?_
      refine r_iload_n B (pc := 36) dX7_item_36 rfl rfl ?_
      refine r_iadd B (pc := 37) dX7_item_37 ?_
      refine r_iload_n B (pc := 38) dX7_item_38 rfl rfl ?_
      refine r_lload B (pc := 39) dX7_item_39 rfl ?_
      refine r_cSL B (c_X7_asLane X.l X.D K _ x2 x4) F_X7_asLane lk_RX7_320 (Nat.le_of_ble_eq_true rfl) (Nat.le_of_ble_eq_true rfl) (Nat.le_of_ble_eq_true rfl) (pc := 41) dX7_item_41 rfl ?_
      refine astM_19 B (pc := 44) dX7_item_44 hf (fun s3 _ hf => ?_)
      refine r_iconst B (pc := 45) dX7_item_45 kc_1 ?_
      exact e_pz (F := (wM ad K)) hf (nar_i _) (RET 46 _ dX7_item_46)
    · refine r_iload B (pc := 25) dX7_item_25 rfl ?_
      exact e_pz (F := (wM ad K)) hf (nar_i _) (RET 27 _ dX7_item_27)
  · refine r_iconst B (pc := 8) dX7_item_8 kc_m1 ?_
    exact e_pz (F := (wM ad K)) hf (nar_i _) (RET 9 _ dX7_item_9)
set_option maxHeartbeats 4000000 in
set_option maxRecDepth 20000 in
theorem c_X7_lacksReadings (l : Launch) (D : va_G) (K : Kt) (ad : Nat → Nat) (σ : St) (x1 : Int32) (x2 : Int32) (x3 : Int32) (x4 : Int32) {r : Int32} (hf : f_X7_lacksReadings σ x1 x2 x3 x4 = some r) : CtI l yX7_lacksReadings cX7_lacksReadings 8 (some .int) 3 73 D K [.ref (ad 0), .int x1, .int x2, .int x3, .int x4] (wM ad K σ) r (wM ad K σ) := by
  refine met_i pl_RX7 (Nat.le_of_ble_eq_true rfl) (fun X hnL B RET => ?_)
  suffices h : MW X (wM ad K σ) 0 [some (.ref (ad 0)), some (.int x1), some (.int x2), some (.int x3), some (.int x4), none, none, none] [] from h
  unfold f_X7_lacksReadings at hf
  refine r_aload_n B (pc := 0) dX7_lacksReadings_0 rfl rfl ?_
  refine r_iload_n B (pc := 1) dX7_lacksReadings_1 rfl rfl ?_
  refine r_iload_n B (pc := 2) dX7_lacksReadings_2 rfl rfl ?_
  refine r_iload_n B (pc := 3) dX7_lacksReadings_3 rfl rfl ?_
  refine r_iconst B (pc := 4) dX7_lacksReadings_4 kc_3 ?_
  refine r_iload B (pc := 5) dX7_lacksReadings_5 rfl ?_
  refine r_imul B (pc := 7) dX7_lacksReadings_7 ?_
  obtain ⟨r2, hc1, hf⟩ := bdr_e hf
  refine r_cVI B (c_X7_lacksRow X.l X.D K ad σ x1 x2 x3 (3 * x4) hc1) F_X7_lacksRow lk_RX7_316 (q0 := 0) (ci := 7) rfl rfl (Nat.le_of_ble_eq_true rfl) (Nat.le_of_ble_eq_true rfl) (Nat.le_of_ble_eq_true rfl) (pc := 8) dX7_lacksReadings_8 rfl ?_
  refine r_istore B hnL (pc := 11) dX7_lacksReadings_11 (by decide) ?_
  refine r_lc (loc' := [some (.ref (ad 0)), some (.int x1), some (.int x2), some (.int x3), some (.int x4), some (.int r2), none, none]) rfl ?_
  refine r_bipush B (pc := 13) dX7_lacksReadings_13 kb_36 ?_
  refine r_iload_n B (pc := 15) dX7_lacksReadings_15 rfl rfl ?_
  refine r_imul B (pc := 16) dX7_lacksReadings_16 ?_
  refine r_iload_n B (pc := 17) dX7_lacksReadings_17 rfl rfl ?_
  refine r_iadd B (pc := 18) dX7_lacksReadings_18 ?_
  refine r_nm hf (fun y3 hf => ?_)
  refine r_istore B hnL (pc := 19) dX7_lacksReadings_19 (by decide) ?_
  refine r_lc (loc' := [some (.ref (ad 0)), some (.int x1), some (.int x2), some (.int x3), some (.int x4), some (.int r2), some (.int y3), none]) rfl ?_
  refine r_iconst B (pc := 21) dX7_lacksReadings_21 kc_0 ?_
  refine r_istore B hnL (pc := 22) dX7_lacksReadings_22 (by decide) ?_
  refine r_lc (loc' := [some (.ref (ad 0)), some (.int x1), some (.int x2), some (.int x3), some (.int x4), some (.int r2), some (.int y3), some (.int 0)]) rfl ?_
  have k24 : ∀ (n24 : Nat) (v5 : Int32) (v6 : Int32) (v7 : Int32), f_X7_lacksReadings_h24 σ x1 x2 x3 x4 n24 v5 v6 v7 = some r → MW X (wM ad K σ) 24 [some (.ref (ad 0)), none, none, none, some (.int x4), some (.int v5), some (.int v6), some (.int v7)] [] := by
    intro n24
    induction n24 with
    | zero => intro v5 v6 v7 hf; exact nn_z hf
    | succ n24 ih24 =>
      intro v5 v6 v7 hf
      rw [f_X7_lacksReadings_h24] at hf
      refine r_iload B (pc := 24) dX7_lacksReadings_24 rfl ?_
      refine r_iload B (pc := 26) dX7_lacksReadings_26 rfl ?_
      refine r_icmp_ge B (pc := 28) (tgt := 97) dX7_lacksReadings_28 (by decide) hf (fun _ hf => ?_) (fun _ hf => ?_)
      · refine r_iload B (pc := 97) dX7_lacksReadings_97 rfl ?_
        exact e_rz hf (nar_i _) (RET 99 _ dX7_lacksReadings_99)
      · refine r_iload B (pc := 31) dX7_lacksReadings_31 rfl ?_
        refine r_if_ne B (pc := 33) (tgt := 97) dX7_lacksReadings_33 (by decide) hf (fun _ hf => ?_) (fun _ hf => ?_)
        · refine r_iload B (pc := 97) dX7_lacksReadings_97 rfl ?_
          exact e_rz hf (nar_i _) (RET 99 _ dX7_lacksReadings_99)
        · refine r_aload_n B (pc := 36) dX7_lacksReadings_36 rfl rfl ?_
          refine r_aload_n B (pc := 37) dX7_lacksReadings_37 rfl rfl ?_
          refine gM_RX7_68_0 B (pc := 38) dX7_lacksReadings_38 ?_
          refine r_iload B (pc := 41) dX7_lacksReadings_41 rfl ?_
          refine r_iconst B (pc := 43) dX7_lacksReadings_43 kc_3 ?_
          refine r_iload B (pc := 44) dX7_lacksReadings_44 rfl ?_
          refine r_imul B (pc := 46) dX7_lacksReadings_46 ?_
          refine r_iadd B (pc := 47) dX7_lacksReadings_47 ?_
          refine aldM_19 B (pc := 48) dX7_lacksReadings_48 hf (fun _ hf => ?_)
          refine r_aload_n B (pc := 49) dX7_lacksReadings_49 rfl rfl ?_
          refine gM_RX7_68_0 B (pc := 50) dX7_lacksReadings_50 ?_
          refine r_iload B (pc := 53) dX7_lacksReadings_53 rfl ?_
          refine r_iconst B (pc := 55) dX7_lacksReadings_55 kc_3 ?_
          refine r_iload B (pc := 56) dX7_lacksReadings_56 rfl ?_
          refine r_imul B (pc := 58) dX7_lacksReadings_58 ?_
          refine r_iadd B (pc := 59) dX7_lacksReadings_59 ?_
          refine r_iconst B (pc := 60) dX7_lacksReadings_60 kc_1 ?_
          refine r_iadd B (pc := 61) dX7_lacksReadings_61 ?_
          refine aldM_19 B (pc := 62) dX7_lacksReadings_62 hf (fun _ hf => ?_)
          refine r_aload_n B (pc := 63) dX7_lacksReadings_63 rfl rfl ?_
          refine gM_RX7_68_0 B (pc := 64) dX7_lacksReadings_64 ?_
          refine r_iload B (pc := 67) dX7_lacksReadings_67 rfl ?_
          refine r_iconst B (pc := 69) dX7_lacksReadings_69 kc_3 ?_
          refine r_iload B (pc := 70) dX7_lacksReadings_70 rfl ?_
          refine r_imul B (pc := 72) dX7_lacksReadings_72 ?_
          refine r_iadd B (pc := 73) dX7_lacksReadings_73 ?_
          refine r_iconst B (pc := 74) dX7_lacksReadings_74 kc_2 ?_
          refine r_iadd B (pc := 75) dX7_lacksReadings_75 ?_
          refine aldM_19 B (pc := 76) dX7_lacksReadings_76 hf (fun _ hf => ?_)
          refine r_cVI B (c_X7_isReading X.l X.D K ad σ (σ.2 19 (ix (v6 + (3 * v7)))) (σ.2 19 (ix ((v6 + (3 * v7)) + 1))) (σ.2 19 (ix ((v6 + (3 * v7)) + 2)))) F_X7_isReading lk_RX7_250 (q0 := 0) (ci := 7) rfl rfl (Nat.le_of_ble_eq_true rfl) (Nat.le_of_ble_eq_true rfl) (Nat.le_of_ble_eq_true rfl) (pc := 77) dX7_lacksReadings_77 rfl ?_
          refine r_if_eq B (pc := 80) (tgt := 87) dX7_lacksReadings_80 (by decide) hf (fun _ hf => ?_) (fun _ hf => ?_)
          · refine r_bipush B (pc := 87) dX7_lacksReadings_87 kb_m2 ?_
            refine r_istore B hnL (pc := 89) dX7_lacksReadings_89 (by decide) ?_
            refine r_lc (loc' := [some (.ref (ad 0)), none, none, none, some (.int x4), some (.int ((-2))), some (.int v6), some (.int v7)]) rfl ?_
            refine r_iincS B hnL (pc := 91) dX7_lacksReadings_91 rfl kc_1 (by decide) hf (fun y4 hf => ?_)
            refine r_lc (loc' := [some (.ref (ad 0)), none, none, none, some (.int x4), some (.int ((-2))), some (.int v6), some (.int y4)]) rfl ?_
            refine r_goto B (pc := 94) (tgt := 24) dX7_lacksReadings_94 (by decide) ?_
            exact r_mask [true, false, false, false, true, true, true, true] rfl (ih24 ((-2)) v6 y4 hf)
          · refine r_iconst B (pc := 83) dX7_lacksReadings_83 kc_0 ?_
            refine r_goto B (pc := 84) (tgt := 89) dX7_lacksReadings_84 (by decide) ?_
            refine r_istore B hnL (pc := 89) dX7_lacksReadings_89 (by decide) ?_
            refine r_lc (loc' := [some (.ref (ad 0)), none, none, none, some (.int x4), some (.int 0), some (.int v6), some (.int v7)]) rfl ?_
            refine r_iincS B hnL (pc := 91) dX7_lacksReadings_91 rfl kc_1 (by decide) hf (fun y5 hf => ?_)
            refine r_lc (loc' := [some (.ref (ad 0)), none, none, none, some (.int x4), some (.int 0), some (.int v6), some (.int y5)]) rfl ?_
            refine r_goto B (pc := 94) (tgt := 24) dX7_lacksReadings_94 (by decide) ?_
            exact r_mask [true, false, false, false, true, true, true, true] rfl (ih24 0 v6 y5 hf)
  exact r_mask [true, false, false, false, true, true, true, true] rfl (k24 FU r2 y3 0 hf)
set_option maxHeartbeats 4000000 in
set_option maxRecDepth 20000 in
theorem c_X7_which (l : Launch) (D : va_G) (K : Kt) (ad : Nat → Nat) (σ : St) (x1 : Int32) (x2 : Int32) (x3 : Int32) (x4 : Int32) (x5 : Int32) {r : Int32} (hf : f_X7_which σ x1 x2 x3 x4 x5 = some r) : CtI l yX7_which cX7_which 13 (some .int) 4 100 D K [.ref (ad 0), .int x1, .int x2, .int x3, .int x4, .int x5] (wM ad K σ) r (wM ad K σ) := by
  refine met_i pl_RX7 (Nat.le_of_ble_eq_true rfl) (fun X hnL B RET => ?_)
  suffices h : MW X (wM ad K σ) 0 [some (.ref (ad 0)), some (.int x1), some (.int x2), some (.int x3), some (.int x4), some (.int x5), none, none, none, none, none, none, none] [] from h
  unfold f_X7_which at hf
  refine r_iload_n B (pc := 0) dX7_which_0 rfl rfl ?_
  refine r_i2l B (pc := 1) dX7_which_1 ?_
  refine r_lconst B (pc := 2) dX7_which_2 kl_0 ?_
  refine r_iconst B (pc := 3) dX7_which_3 kc_1 ?_
  refine r_aload_n B (pc := 4) dX7_which_4 rfl rfl ?_
  refine gM_RX7_85_0 B (pc := 5) dX7_which_5 ?_
  refine r_ishl B (pc := 8) dX7_which_8 ?_
  refine r_iconst B (pc := 9) dX7_which_9 kc_1 ?_
  refine r_isub B (pc := 10) dX7_which_10 ?_
  refine r_i2l B (pc := 11) dX7_which_11 ?_
  refine r_cSI B (c_X7_in X.l X.D K _ (x1.toInt64) 0 (((isl 1 (σ.1 0 8)) - 1).toInt64)) F_X7_in lk_RX7_81 (Nat.le_of_ble_eq_true rfl) (Nat.le_of_ble_eq_true rfl) (Nat.le_of_ble_eq_true rfl) (pc := 12) dX7_which_12 rfl ?_
  refine r_if_eq B (pc := 15) (tgt := 39) dX7_which_15 (by decide) hf (fun _ hf => ?_) (fun _ hf => ?_)
  · refine r_iconst B (pc := 39) dX7_which_39 kc_m1 ?_
    exact e_rz hf (nar_i _) (RET 40 _ dX7_which_40)
  · refine r_iload_n B (pc := 18) dX7_which_18 rfl rfl ?_
    refine r_iload_n B (pc := 19) dX7_which_19 rfl rfl ?_
    refine r_cSI B (c_X7_isSheet X.l X.D K _ x2 x3) F_X7_isSheet lk_RX7_313 (Nat.le_of_ble_eq_true rfl) (Nat.le_of_ble_eq_true rfl) (Nat.le_of_ble_eq_true rfl) (pc := 20) dX7_which_20 rfl ?_
    refine r_if_eq B (pc := 23) (tgt := 39) dX7_which_23 (by decide) hf (fun _ hf => ?_) (fun _ hf => ?_)
    · refine r_iconst B (pc := 39) dX7_which_39 kc_m1 ?_
      exact e_rz hf (nar_i _) (RET 40 _ dX7_which_40)
    · refine r_iload B (pc := 26) dX7_which_26 rfl ?_
      refine r_i2l B (pc := 28) dX7_which_28 ?_
      refine r_lconst B (pc := 29) dX7_which_29 kl_1 ?_
      refine r_ldc2 B (pc := 30) kp_RX7_324 dX7_which_30 ?_
      refine r_cSI B (c_X7_in X.l X.D K _ (x5.toInt64) 1 12) F_X7_in lk_RX7_81 (Nat.le_of_ble_eq_true rfl) (Nat.le_of_ble_eq_true rfl) (Nat.le_of_ble_eq_true rfl) (pc := 33) dX7_which_33 rfl ?_
      refine r_if_ne B (pc := 36) (tgt := 41) dX7_which_36 (by decide) hf (fun _ hf => ?_) (fun _ hf => ?_)
      · refine r_aload_n B (pc := 41) dX7_which_41 rfl rfl ?_
        refine r_iload_n B (pc := 42) dX7_which_42 rfl rfl ?_
        refine r_iload_n B (pc := 43) dX7_which_43 rfl rfl ?_
        refine r_iload B (pc := 44) dX7_which_44 rfl ?_
        refine r_iload B (pc := 46) dX7_which_46 rfl ?_
        obtain ⟨r2, hc1, hf⟩ := bdr_e hf
        refine r_cVI B (c_X7_lacksReadings X.l X.D K ad σ x2 x3 x4 x5 hc1) F_X7_lacksReadings lk_RX7_326 (q0 := 0) (ci := 7) rfl rfl (Nat.le_of_ble_eq_true rfl) (Nat.le_of_ble_eq_true rfl) (Nat.le_of_ble_eq_true rfl) (pc := 48) dX7_which_48 rfl ?_
        refine r_istore B hnL (pc := 51) dX7_which_51 (by decide) ?_
        refine r_lc (loc' := [some (.ref (ad 0)), some (.int x1), some (.int x2), some (.int x3), some (.int x4), some (.int x5), some (.int r2), none, none, none, none, none, none]) rfl ?_
        refine r_iload B (pc := 53) dX7_which_53 rfl ?_
        refine r_if_ge B (pc := 55) (tgt := 61) dX7_which_55 (by decide) hf (fun _ hf => ?_) (fun _ hf => ?_)
        · refine r_bipush B (pc := 61) dX7_which_61 kb_36 ?_
          refine r_iload_n B (pc := 63) dX7_which_63 rfl rfl ?_
          refine r_imul B (pc := 64) dX7_which_64 ?_
          refine r_iload B (pc := 65) dX7_which_65 rfl ?_
          refine r_iadd B (pc := 67) dX7_which_67 ?_
          refine r_nm hf (fun y3 hf => ?_)
          refine r_istore B hnL (pc := 68) dX7_which_68 (by decide) ?_
          refine r_lc (loc' := [some (.ref (ad 0)), some (.int x1), some (.int x2), some (.int x3), some (.int x4), some (.int x5), some (.int r2), some (.int y3), none, none, none, none, none]) rfl ?_
          refine r_iconst B (pc := 70) dX7_which_70 kc_0 ?_
          refine r_istore B hnL (pc := 71) dX7_which_71 (by decide) ?_
          refine r_lc (loc' := [some (.ref (ad 0)), some (.int x1), some (.int x2), some (.int x3), some (.int x4), some (.int x5), some (.int r2), some (.int y3), some (.int 0), none, none, none, none]) rfl ?_
          refine r_iconst B (pc := 73) dX7_which_73 kc_0 ?_
          refine r_istore B hnL (pc := 74) dX7_which_74 (by decide) ?_
          refine r_lc (loc' := [some (.ref (ad 0)), some (.int x1), some (.int x2), some (.int x3), some (.int x4), some (.int x5), some (.int r2), some (.int y3), some (.int 0), some (.int 0), none, none, none]) rfl ?_
          have k76 : ∀ (n76 : Nat) (v7 : Int32) (v8 : Int32) (v9 : Int32), f_X7_which_h76 σ x1 x2 x3 x4 x5 n76 v7 v8 v9 = some r → MW X (wM ad K σ) 76 [some (.ref (ad 0)), some (.int x1), none, none, none, some (.int x5), none, some (.int v7), some (.int v8), some (.int v9), none, none, none] [] := by
            intro n76
            induction n76 with
            | zero => intro v7 v8 v9 hf; exact nn_z hf
            | succ n76 ih76 =>
              intro v7 v8 v9 hf
              rw [f_X7_which_h76] at hf
              refine r_iload B (pc := 76) dX7_which_76 rfl ?_
              refine r_aload_n B (pc := 78) dX7_which_78 rfl rfl ?_
              refine gM_RX7_78_0 B (pc := 79) dX7_which_79 ?_
              refine r_icmp_ge B (pc := 82) (tgt := 203) dX7_which_82 (by decide) hf (fun _ hf => ?_) (fun _ hf => ?_)
              · refine r_iload B (pc := 203) dX7_which_203 rfl ?_
                exact e_rz hf (nar_i _) (RET 205 _ dX7_which_205)
              · refine r_iconst B (pc := 85) dX7_which_85 kc_0 ?_
                refine r_istore B hnL (pc := 86) dX7_which_86 (by decide) ?_
                refine r_lc (loc' := [some (.ref (ad 0)), some (.int x1), none, none, none, some (.int x5), none, some (.int v7), some (.int v8), some (.int v9), some (.int 0), none, none]) rfl ?_
                refine r_iconst B (pc := 88) dX7_which_88 kc_0 ?_
                refine r_istore B hnL (pc := 89) dX7_which_89 (by decide) ?_
                refine r_lc (loc' := [some (.ref (ad 0)), some (.int x1), none, none, none, some (.int x5), none, some (.int v7), some (.int v8), some (.int v9), some (.int 0), some (.int 0), none]) rfl ?_
                have k91 : ∀ (n91 : Nat) (v7 : Int32) (v8 : Int32) (v9 : Int32) (v10 : Int32) (v11 : Int32), f_X7_which_h91 (f_X7_which_h76 σ x1 x2 x3 x4 x5 n76) σ x1 x2 x3 x4 x5 n91 v7 v8 v9 v10 v11 = some r → MW X (wM ad K σ) 91 [some (.ref (ad 0)), some (.int x1), none, none, none, some (.int x5), none, some (.int v7), some (.int v8), some (.int v9), some (.int v10), some (.int v11), none] [] := by
                  intro n91
                  induction n91 with
                  | zero => intro v7 v8 v9 v10 v11 hf; exact nn_z hf
                  | succ n91 ih91 =>
                    intro v7 v8 v9 v10 v11 hf
                    rw [f_X7_which_h91] at hf
                    refine r_iload B (pc := 91) dX7_which_91 rfl ?_
                    refine r_iload B (pc := 93) dX7_which_93 rfl ?_
                    refine r_icmp_ge B (pc := 95) (tgt := 178) dX7_which_95 (by decide) hf (fun _ hf => ?_) (fun _ hf => ?_)
                    · refine r_iload B (pc := 178) dX7_which_178 rfl ?_
                      refine r_iload B (pc := 180) dX7_which_180 rfl ?_
                      refine r_iload_n B (pc := 182) dX7_which_182 rfl rfl ?_
                      have k194 : ∀ (v7 : Int32) (v9 : Int32) (t0 : Int32) (t1 : Int32), f_X7_which_b194 (f_X7_which_h76 σ x1 x2 x3 x4 x5 n76) (f_X7_which_h91 (f_X7_which_h76 σ x1 x2 x3 x4 x5 n76) σ x1 x2 x3 x4 x5 n91) σ x1 x2 x3 x4 x5 v7 v9 t0 t1 = some r → MW X (wM ad K σ) 194 [some (.ref (ad 0)), some (.int x1), none, none, none, some (.int x5), none, some (.int v7), none, some (.int v9), none, none, none] [.int t0, .int t1] := by
                        intro v7 v9 t0 t1 hf
                        unfold f_X7_which_b194 at hf
                        refine r_ior B (pc := 194) dX7_which_194 ?_
                        refine r_nm hf (fun y4 hf => ?_)
                        refine r_istore B hnL (pc := 195) dX7_which_195 (by decide) ?_
                        refine r_lc (loc' := [some (.ref (ad 0)), some (.int x1), none, none, none, some (.int x5), none, some (.int v7), some (.int y4), some (.int v9), none, none, none]) rfl ?_
                        refine r_iincS B hnL (pc := 197) dX7_which_197 rfl kc_1 (by decide) hf (fun y5 hf => ?_)
                        refine r_lc (loc' := [some (.ref (ad 0)), some (.int x1), none, none, none, some (.int x5), none, some (.int v7), some (.int y4), some (.int y5), none, none, none]) rfl ?_
                        refine r_goto B (pc := 200) (tgt := 76) dX7_which_200 (by decide) ?_
                        exact r_mask [true, true, false, false, false, true, false, true, true, true, false, false, false] rfl (ih76 v7 y4 y5 hf)
                      refine r_icmp_ne B (pc := 183) (tgt := 193) dX7_which_183 (by decide) hf (fun _ hf => ?_) (fun _ hf => ?_)
                      · refine r_iconst B (pc := 193) dX7_which_193 kc_0 ?_
                        exact r_mask [true, true, false, false, false, true, false, true, false, true, false, false, false] rfl (k194 v7 v9 0 v8 hf)
                      · refine r_iconst B (pc := 186) dX7_which_186 kc_1 ?_
                        refine r_iload B (pc := 187) dX7_which_187 rfl ?_
                        refine r_ishl B (pc := 189) dX7_which_189 ?_
                        refine r_goto B (pc := 190) (tgt := 194) dX7_which_190 (by decide) ?_
                        exact r_mask [true, true, false, false, false, true, false, true, false, true, false, false, false] rfl (k194 v7 v9 (isl 1 v9) v8 hf)
                    · refine r_aload_n B (pc := 98) dX7_which_98 rfl rfl ?_
                      refine r_aload_n B (pc := 99) dX7_which_99 rfl rfl ?_
                      refine gM_RX7_68_0 B (pc := 100) dX7_which_100 ?_
                      refine r_iload B (pc := 103) dX7_which_103 rfl ?_
                      refine r_iconst B (pc := 105) dX7_which_105 kc_3 ?_
                      refine r_iload B (pc := 106) dX7_which_106 rfl ?_
                      refine r_imul B (pc := 108) dX7_which_108 ?_
                      refine r_iadd B (pc := 109) dX7_which_109 ?_
                      refine aldM_19 B (pc := 110) dX7_which_110 hf (fun _ hf => ?_)
                      refine r_l2i B (pc := 111) dX7_which_111 ?_
                      refine r_aload_n B (pc := 112) dX7_which_112 rfl rfl ?_
                      refine gM_RX7_68_0 B (pc := 113) dX7_which_113 ?_
                      refine r_iload B (pc := 116) dX7_which_116 rfl ?_
                      refine r_iconst B (pc := 118) dX7_which_118 kc_3 ?_
                      refine r_iload B (pc := 119) dX7_which_119 rfl ?_
                      refine r_imul B (pc := 121) dX7_which_121 ?_
                      refine r_iadd B (pc := 122) dX7_which_122 ?_
                      refine r_iconst B (pc := 123) dX7_which_123 kc_1 ?_
                      refine r_iadd B (pc := 124) dX7_which_124 ?_
                      refine aldM_19 B (pc := 125) dX7_which_125 hf (fun _ hf => ?_)
                      refine r_l2i B (pc := 126) dX7_which_126 ?_
                      refine r_aload_n B (pc := 127) dX7_which_127 rfl rfl ?_
                      refine gM_RX7_130_0 B (pc := 128) dX7_which_128 ?_
                      obtain ⟨r7, hc6, hf⟩ := bdr_e hf
                      refine r_cVI B (c_X7_hearers X.l X.D K ad σ ((σ.2 19 (ix (v7 + (3 * v11)))).toInt32) ((σ.2 19 (ix ((v7 + (3 * v11)) + 1))).toInt32) (σ.1 0 11) hc6) F_X7_hearers lk_RX7_247 (q0 := 0) (ci := 7) rfl rfl (Nat.le_of_ble_eq_true rfl) (Nat.le_of_ble_eq_true rfl) (Nat.le_of_ble_eq_true rfl) (pc := 131) dX7_which_131 rfl ?_
                      refine r_iload B (pc := 134) dX7_which_134 rfl ?_
                      refine r_cSI B (c_X7_has X.l X.D K _ r7 v9) F_X7_has lk_RX7_153 (Nat.le_of_ble_eq_true rfl) (Nat.le_of_ble_eq_true rfl) (Nat.le_of_ble_eq_true rfl) (pc := 136) dX7_which_136 rfl ?_
                      refine r_nm hf (fun y8 hf => ?_)
                      refine r_istore B hnL (pc := 139) dX7_which_139 (by decide) ?_
                      refine r_lc (loc' := [some (.ref (ad 0)), some (.int x1), none, none, none, some (.int x5), none, some (.int v7), some (.int v8), some (.int v9), some (.int v10), some (.int v11), some (.int y8)]) rfl ?_
                      refine r_iload B (pc := 141) dX7_which_141 rfl ?_
                      refine r_iload B (pc := 143) dX7_which_143 rfl ?_
                      have k169 : ∀ (v7 : Int32) (v8 : Int32) (v9 : Int32) (v11 : Int32) (t0 : Int32) (t1 : Int32), f_X7_which_b169 (f_X7_which_h76 σ x1 x2 x3 x4 x5 n76) (f_X7_which_h91 (f_X7_which_h76 σ x1 x2 x3 x4 x5 n76) σ x1 x2 x3 x4 x5 n91) σ x1 x2 x3 x4 x5 v7 v8 v9 v11 t0 t1 = some r → MW X (wM ad K σ) 169 [some (.ref (ad 0)), some (.int x1), none, none, none, some (.int x5), none, some (.int v7), some (.int v8), some (.int v9), none, some (.int v11), none] [.int t0, .int t1] := by
                        intro v7 v8 v9 v11 t0 t1 hf
                        unfold f_X7_which_b169 at hf
                        refine r_ior B (pc := 169) dX7_which_169 ?_
                        refine r_nm hf (fun y9 hf => ?_)
                        refine r_istore B hnL (pc := 170) dX7_which_170 (by decide) ?_
                        refine r_lc (loc' := [some (.ref (ad 0)), some (.int x1), none, none, none, some (.int x5), none, some (.int v7), some (.int v8), some (.int v9), some (.int y9), some (.int v11), none]) rfl ?_
                        refine r_iincS B hnL (pc := 172) dX7_which_172 rfl kc_1 (by decide) hf (fun y10 hf => ?_)
                        refine r_lc (loc' := [some (.ref (ad 0)), some (.int x1), none, none, none, some (.int x5), none, some (.int v7), some (.int v8), some (.int v9), some (.int y9), some (.int y10), none]) rfl ?_
                        refine r_goto B (pc := 175) (tgt := 91) dX7_which_175 (by decide) ?_
                        exact r_mask [true, true, false, false, false, true, false, true, true, true, true, true, false] rfl (ih91 v7 v8 v9 y9 y10 hf)
                      refine r_if_eq B (pc := 145) (tgt := 168) dX7_which_145 (by decide) hf (fun _ hf => ?_) (fun _ hf => ?_)
                      · refine r_iconst B (pc := 168) dX7_which_168 kc_0 ?_
                        exact r_mask [true, true, false, false, false, true, false, true, true, true, false, true, false] rfl (k169 v7 v8 v9 v11 0 v10 hf)
                      · refine r_iconst B (pc := 148) dX7_which_148 kc_1 ?_
                        refine r_aload_n B (pc := 149) dX7_which_149 rfl rfl ?_
                        refine gM_RX7_68_0 B (pc := 150) dX7_which_150 ?_
                        refine r_iload B (pc := 153) dX7_which_153 rfl ?_
                        refine r_iconst B (pc := 155) dX7_which_155 kc_3 ?_
                        refine r_iload B (pc := 156) dX7_which_156 rfl ?_
                        refine r_imul B (pc := 158) dX7_which_158 ?_
                        refine r_iadd B (pc := 159) dX7_which_159 ?_
                        refine r_iconst B (pc := 160) dX7_which_160 kc_2 ?_
                        refine r_iadd B (pc := 161) dX7_which_161 ?_
                        refine aldM_19 B (pc := 162) dX7_which_162 hf (fun _ hf => ?_)
                        refine r_l2i B (pc := 163) dX7_which_163 ?_
                        refine r_ishl B (pc := 164) dX7_which_164 ?_
                        refine r_goto B (pc := 165) (tgt := 169) dX7_which_165 (by decide) ?_
                        exact r_mask [true, true, false, false, false, true, false, true, true, true, false, true, false] rfl (k169 v7 v8 v9 v11 (isl 1 ((σ.2 19 (ix ((v7 + (3 * v11)) + 2))).toInt32)) v10 hf)
                exact r_mask [true, true, false, false, false, true, false, true, true, true, true, true, false] rfl (k91 FU v7 v8 v9 0 0 hf)
          exact r_mask [true, true, false, false, false, true, false, true, true, true, false, false, false] rfl (k76 FU y3 0 0 hf)
        · refine r_iload B (pc := 58) dX7_which_58 rfl ?_
          exact e_rz hf (nar_i _) (RET 60 _ dX7_which_60)
      · refine r_iconst B (pc := 39) dX7_which_39 kc_m1 ?_
        exact e_rz hf (nar_i _) (RET 40 _ dX7_which_40)
set_option maxHeartbeats 4000000 in
set_option maxRecDepth 20000 in
theorem c_X7_judged (l : Launch) (D : va_G) (K : Kt) (ad : Nat → Nat) (σ : St) (x1 : Int32) (x2 : Int32) (x3 : Int32) (x4 : Int32) {r : Int32} {τ : St} (hf : f_X7_judged σ x1 x2 x3 x4 = some (r, τ)) : CtI l yX7_judged cX7_judged 12 (some .int) 6 152 D K [.ref (ad 0), .int x1, .int x2, .int x3, .int x4] (wM ad K σ) r (wM ad K τ) := by
  refine met_i pl_RX7 (Nat.le_of_ble_eq_true rfl) (fun X hnL B RET => ?_)
  suffices h : MW X (wM ad K σ) 0 [some (.ref (ad 0)), some (.int x1), some (.int x2), some (.int x3), some (.int x4), none, none, none, none, none, none, none] [] from h
  unfold f_X7_judged at hf
  refine r_iload_n B (pc := 0) dX7_judged_0 rfl rfl ?_
  refine r_iload_n B (pc := 1) dX7_judged_1 rfl rfl ?_
  refine r_cSI B (c_X7_isSheet X.l X.D K _ x1 x2) F_X7_isSheet lk_RX7_313 (Nat.le_of_ble_eq_true rfl) (Nat.le_of_ble_eq_true rfl) (Nat.le_of_ble_eq_true rfl) (pc := 2) dX7_judged_2 rfl ?_
  refine r_if_eq B (pc := 5) (tgt := 21) dX7_judged_5 (by decide) hf (fun _ hf => ?_) (fun _ hf => ?_)
  · refine r_iconst B (pc := 21) dX7_judged_21 kc_m1 ?_
    exact e_pz (F := (wM ad K)) hf (nar_i _) (RET 22 _ dX7_judged_22)
  · refine r_iload B (pc := 8) dX7_judged_8 rfl ?_
    refine r_i2l B (pc := 10) dX7_judged_10 ?_
    refine r_lconst B (pc := 11) dX7_judged_11 kl_1 ?_
    refine r_ldc2 B (pc := 12) kp_RX7_324 dX7_judged_12 ?_
    refine r_cSI B (c_X7_in X.l X.D K _ (x4.toInt64) 1 12) F_X7_in lk_RX7_81 (Nat.le_of_ble_eq_true rfl) (Nat.le_of_ble_eq_true rfl) (Nat.le_of_ble_eq_true rfl) (pc := 15) dX7_judged_15 rfl ?_
    refine r_if_ne B (pc := 18) (tgt := 23) dX7_judged_18 (by decide) hf (fun _ hf => ?_) (fun _ hf => ?_)
    · refine r_aload_n B (pc := 23) dX7_judged_23 rfl rfl ?_
      refine r_iload_n B (pc := 24) dX7_judged_24 rfl rfl ?_
      refine r_iload_n B (pc := 25) dX7_judged_25 rfl rfl ?_
      refine r_iload_n B (pc := 26) dX7_judged_26 rfl rfl ?_
      refine r_iload B (pc := 27) dX7_judged_27 rfl ?_
      obtain ⟨r2, hc1, hf⟩ := bdr_e hf
      refine r_cVI B (c_X7_lacksReadings X.l X.D K ad σ x1 x2 x3 x4 hc1) F_X7_lacksReadings lk_RX7_326 (q0 := 0) (ci := 7) rfl rfl (Nat.le_of_ble_eq_true rfl) (Nat.le_of_ble_eq_true rfl) (Nat.le_of_ble_eq_true rfl) (pc := 29) dX7_judged_29 rfl ?_
      refine r_istore B hnL (pc := 32) dX7_judged_32 (by decide) ?_
      refine r_lc (loc' := [some (.ref (ad 0)), some (.int x1), some (.int x2), some (.int x3), some (.int x4), some (.int r2), none, none, none, none, none, none]) rfl ?_
      refine r_iload B (pc := 34) dX7_judged_34 rfl ?_
      refine r_if_ge B (pc := 36) (tgt := 42) dX7_judged_36 (by decide) hf (fun _ hf => ?_) (fun _ hf => ?_)
      · refine r_iconst B (pc := 42) dX7_judged_42 kc_0 ?_
        refine r_istore B hnL (pc := 43) dX7_judged_43 (by decide) ?_
        refine r_lc (loc' := [some (.ref (ad 0)), some (.int x1), some (.int x2), some (.int x3), some (.int x4), some (.int r2), some (.int 0), none, none, none, none, none]) rfl ?_
        have k45 : ∀ (n45 : Nat) (v6 : Int32) (σ45 : St), f_X7_judged_h45 x1 x2 x3 x4 n45 v6 σ45 = some (r, τ) → MW X (wM ad K σ45) 45 [some (.ref (ad 0)), some (.int x1), none, some (.int x3), some (.int x4), none, some (.int v6), none, none, none, none, none] [] := by
          intro n45
          induction n45 with
          | zero => intro v6 σ45 hf; exact nn_z hf
          | succ n45 ih45 =>
            intro v6 σ45 hf
            rw [f_X7_judged_h45] at hf
            refine r_iload B (pc := 45) dX7_judged_45 rfl ?_
            refine r_sipush B (pc := 47) dX7_judged_47 ks_141 ?_
            refine r_icmp_ge B (pc := 50) (tgt := 73) dX7_judged_50 (by decide) hf (fun _ hf => ?_) (fun _ hf => ?_)
            · refine r_bipush B (pc := 73) dX7_judged_73 kb_36 ?_
              refine r_iload_n B (pc := 75) dX7_judged_75 rfl rfl ?_
              refine r_imul B (pc := 76) dX7_judged_76 ?_
              refine r_iload_n B (pc := 77) dX7_judged_77 rfl rfl ?_
              refine r_iadd B (pc := 78) dX7_judged_78 ?_
              refine r_nm hf (fun y3 hf => ?_)
              refine r_istore B hnL (pc := 79) dX7_judged_79 (by decide) ?_
              refine r_lc (loc' := [some (.ref (ad 0)), some (.int x1), none, some (.int x3), some (.int x4), none, some (.int y3), none, none, none, none, none]) rfl ?_
              refine r_bipush B (pc := 81) dX7_judged_81 kb_m4 ?_
              refine r_istore B hnL (pc := 83) dX7_judged_83 (by decide) ?_
              refine r_lc (loc' := [some (.ref (ad 0)), some (.int x1), none, some (.int x3), some (.int x4), none, some (.int y3), some (.int ((-4))), none, none, none, none]) rfl ?_
              refine r_iconst B (pc := 85) dX7_judged_85 kc_0 ?_
              refine r_istore B hnL (pc := 86) dX7_judged_86 (by decide) ?_
              refine r_lc (loc' := [some (.ref (ad 0)), some (.int x1), none, some (.int x3), some (.int x4), none, some (.int y3), some (.int ((-4))), some (.int 0), none, none, none]) rfl ?_
              have k88 : ∀ (n88 : Nat) (v6 : Int32) (v7 : Int32) (v8 : Int32) (σ88 : St), f_X7_judged_h88 x1 x2 x3 x4 n88 v6 v7 v8 σ88 = some (r, τ) → MW X (wM ad K σ88) 88 [some (.ref (ad 0)), none, none, none, some (.int x4), none, some (.int v6), some (.int v7), some (.int v8), none, none, none] [] := by
                intro n88
                induction n88 with
                | zero => intro v6 v7 v8 σ88 hf; exact nn_z hf
                | succ n88 ih88 =>
                  intro v6 v7 v8 σ88 hf
                  rw [f_X7_judged_h88] at hf
                  refine r_iload B (pc := 88) dX7_judged_88 rfl ?_
                  refine r_iload B (pc := 90) dX7_judged_90 rfl ?_
                  have k190 : ∀ (n190 : Nat) (v7 : Int32) (v8 : Int32) (σ190 : St), f_X7_judged_h190 x1 x2 x3 x4 n190 v7 v8 σ190 = some (r, τ) → MW X (wM ad K σ190) 190 [some (.ref (ad 0)), none, none, none, none, none, none, some (.int v7), some (.int v8), none, none, none] [] := by
                    intro n190
                    induction n190 with
                    | zero => intro v7 v8 σ190 hf; exact nn_z hf
                    | succ n190 ih190 =>
                      intro v7 v8 σ190 hf
                      rw [f_X7_judged_h190] at hf
                      refine r_iload B (pc := 190) dX7_judged_190 rfl ?_
                      refine r_sipush B (pc := 192) dX7_judged_192 ks_141 ?_
                      refine r_icmp_ge B (pc := 195) (tgt := 218) dX7_judged_195 (by decide) hf (fun _ hf => ?_) (fun _ hf => ?_)
                      · refine r_iload B (pc := 218) dX7_judged_218 rfl ?_
                        exact e_pz (F := (wM ad K)) hf (nar_i _) (RET 220 _ dX7_judged_220)
                      · refine r_aload_n B (pc := 198) dX7_judged_198 rfl rfl ?_
                        refine gM_RX7_38_0 B (pc := 199) dX7_judged_199 ?_
                        refine r_iload B (pc := 202) dX7_judged_202 rfl ?_
                        refine r_aload_n B (pc := 204) dX7_judged_204 rfl rfl ?_
                        refine gM_RX7_72_0 B (pc := 205) dX7_judged_205 ?_
                        refine r_iload B (pc := 208) dX7_judged_208 rfl ?_
                        refine aldM_20 B (pc := 210) dX7_judged_210 hf (fun _ hf => ?_)
                        refine astM_9 B (pc := 211) dX7_judged_211 hf (fun s12 _ hf => ?_)
                        refine r_iincS B hnL (pc := 212) dX7_judged_212 rfl kc_1 (by decide) hf (fun y13 hf => ?_)
                        refine r_lc (loc' := [some (.ref (ad 0)), none, none, none, none, none, none, some (.int v7), some (.int y13), none, none, none]) rfl ?_
                        refine r_goto B (pc := 215) (tgt := 190) dX7_judged_215 (by decide) ?_
                        exact r_mask [true, false, false, false, false, false, false, true, true, false, false, false] rfl (ih190 v7 y13 s12 hf)
                  refine r_icmp_ge B (pc := 92) (tgt := 187) dX7_judged_92 (by decide) hf (fun _ hf => ?_) (fun _ hf => ?_)
                  · refine r_iconst B (pc := 187) dX7_judged_187 kc_0 ?_
                    refine r_istore B hnL (pc := 188) dX7_judged_188 (by decide) ?_
                    refine r_lc (loc' := [some (.ref (ad 0)), none, none, none, some (.int x4), none, some (.int v6), some (.int v7), some (.int 0), none, none, none]) rfl ?_
                    exact r_mask [true, false, false, false, false, false, false, true, true, false, false, false] rfl (k190 FU v7 0 σ88 hf)
                  · refine r_iload B (pc := 95) dX7_judged_95 rfl ?_
                    refine r_if_ge B (pc := 97) (tgt := 187) dX7_judged_97 (by decide) hf (fun _ hf => ?_) (fun _ hf => ?_)
                    · refine r_iconst B (pc := 187) dX7_judged_187 kc_0 ?_
                      refine r_istore B hnL (pc := 188) dX7_judged_188 (by decide) ?_
                      refine r_lc (loc' := [some (.ref (ad 0)), none, none, none, some (.int x4), none, some (.int v6), some (.int v7), some (.int 0), none, none, none]) rfl ?_
                      exact r_mask [true, false, false, false, false, false, false, true, true, false, false, false] rfl (k190 FU v7 0 σ88 hf)
                    · refine r_aload_n B (pc := 100) dX7_judged_100 rfl rfl ?_
                      refine gM_RX7_68_0 B (pc := 101) dX7_judged_101 ?_
                      refine r_iload B (pc := 104) dX7_judged_104 rfl ?_
                      refine r_iconst B (pc := 106) dX7_judged_106 kc_3 ?_
                      refine r_iload B (pc := 107) dX7_judged_107 rfl ?_
                      refine r_imul B (pc := 109) dX7_judged_109 ?_
                      refine r_iadd B (pc := 110) dX7_judged_110 ?_
                      refine aldM_19 B (pc := 111) dX7_judged_111 hf (fun _ hf => ?_)
                      refine r_l2i B (pc := 112) dX7_judged_112 ?_
                      refine r_nm hf (fun y4 hf => ?_)
                      refine r_istore B hnL (pc := 113) dX7_judged_113 (by decide) ?_
                      refine r_lc (loc' := [some (.ref (ad 0)), none, none, none, some (.int x4), none, some (.int v6), some (.int v7), some (.int v8), some (.int y4), none, none]) rfl ?_
                      refine r_aload_n B (pc := 115) dX7_judged_115 rfl rfl ?_
                      refine gM_RX7_68_0 B (pc := 116) dX7_judged_116 ?_
                      refine r_iload B (pc := 119) dX7_judged_119 rfl ?_
                      refine r_iconst B (pc := 121) dX7_judged_121 kc_3 ?_
                      refine r_iload B (pc := 122) dX7_judged_122 rfl ?_
                      refine r_imul B (pc := 124) dX7_judged_124 ?_
                      refine r_iadd B (pc := 125) dX7_judged_125 ?_
                      refine r_iconst B (pc := 126) dX7_judged_126 kc_1 ?_
                      refine r_iadd B (pc := 127) dX7_judged_127 ?_
                      refine aldM_19 B (pc := 128) dX7_judged_128 hf (fun _ hf => ?_)
                      refine r_l2i B (pc := 129) dX7_judged_129 ?_
                      refine r_nm hf (fun y5 hf => ?_)
                      refine r_istore B hnL (pc := 130) dX7_judged_130 (by decide) ?_
                      refine r_lc (loc' := [some (.ref (ad 0)), none, none, none, some (.int x4), none, some (.int v6), some (.int v7), some (.int v8), some (.int y4), some (.int y5), none]) rfl ?_
                      refine r_aload_n B (pc := 132) dX7_judged_132 rfl rfl ?_
                      refine gM_RX7_68_0 B (pc := 133) dX7_judged_133 ?_
                      refine r_iload B (pc := 136) dX7_judged_136 rfl ?_
                      refine r_iconst B (pc := 138) dX7_judged_138 kc_3 ?_
                      refine r_iload B (pc := 139) dX7_judged_139 rfl ?_
                      refine r_imul B (pc := 141) dX7_judged_141 ?_
                      refine r_iadd B (pc := 142) dX7_judged_142 ?_
                      refine r_iconst B (pc := 143) dX7_judged_143 kc_2 ?_
                      refine r_iadd B (pc := 144) dX7_judged_144 ?_
                      refine aldM_19 B (pc := 145) dX7_judged_145 hf (fun _ hf => ?_)
                      refine r_l2i B (pc := 146) dX7_judged_146 ?_
                      refine r_nm hf (fun y6 hf => ?_)
                      refine r_istore B hnL (pc := 147) dX7_judged_147 (by decide) ?_
                      refine r_lc (loc' := [some (.ref (ad 0)), none, none, none, some (.int x4), none, some (.int v6), some (.int v7), some (.int v8), some (.int y4), some (.int y5), some (.int y6)]) rfl ?_
                      refine r_aload_n B (pc := 149) dX7_judged_149 rfl rfl ?_
                      refine r_iload B (pc := 150) dX7_judged_150 rfl ?_
                      refine r_iload B (pc := 152) dX7_judged_152 rfl ?_
                      refine r_iload B (pc := 154) dX7_judged_154 rfl ?_
                      obtain ⟨r8, hc7, hf⟩ := bdr_e hf
                      refine r_cVI B (c_X7_wrongedBy X.l X.D K ad σ88 y4 y5 y6 hc7) F_X7_wrongedBy lk_RX7_238 (q0 := 0) (ci := 7) rfl rfl (Nat.le_of_ble_eq_true rfl) (Nat.le_of_ble_eq_true rfl) (Nat.le_of_ble_eq_true rfl) (pc := 156) dX7_judged_156 rfl ?_
                      have k169 : ∀ (v6 : Int32) (v8 : Int32) (v9 : Int32) (v10 : Int32) (v11 : Int32) (t0 : Int32) (σ169 : St), f_X7_judged_b169 (f_X7_judged_h88 x1 x2 x3 x4 n88) x1 x2 x3 x4 v6 v8 v9 v10 v11 t0 σ169 = some (r, τ) → MW X (wM ad K σ169) 169 [some (.ref (ad 0)), none, none, none, some (.int x4), none, some (.int v6), none, some (.int v8), some (.int v9), some (.int v10), some (.int v11)] [.int t0] := by
                        intro v6 v8 v9 v10 v11 t0 σ169 hf
                        unfold f_X7_judged_b169 at hf
                        refine r_istore B hnL (pc := 169) dX7_judged_169 (by decide) ?_
                        refine r_lc (loc' := [some (.ref (ad 0)), none, none, none, some (.int x4), none, some (.int v6), some (.int t0), some (.int v8), some (.int v9), some (.int v10), some (.int v11)]) rfl ?_
                        refine r_aload_n B (pc := 171) dX7_judged_171 rfl rfl ?_
                        refine r_iload B (pc := 172) dX7_judged_172 rfl ?_
                        refine r_iload B (pc := 174) dX7_judged_174 rfl ?_
                        refine r_iload B (pc := 176) dX7_judged_176 rfl ?_
                        obtain ⟨s10, hc9, hf⟩ := bdr_e hf
                        refine r_cVV B (c_X7_tell X.l X.D K ad σ169 v9 v10 v11 hc9) F_X7_tell lk_RX7_256 (q0 := 0) (ci := 7) rfl rfl (Nat.le_of_ble_eq_true rfl) (Nat.le_of_ble_eq_true rfl) (Nat.le_of_ble_eq_true rfl) (pc := 178) dX7_judged_178 rfl ?_
                        refine r_iincS B hnL (pc := 181) dX7_judged_181 rfl kc_1 (by decide) hf (fun y11 hf => ?_)
                        refine r_lc (loc' := [some (.ref (ad 0)), none, none, none, some (.int x4), none, some (.int v6), some (.int t0), some (.int y11), some (.int v9), some (.int v10), some (.int v11)]) rfl ?_
                        refine r_goto B (pc := 184) (tgt := 88) dX7_judged_184 (by decide) ?_
                        exact r_mask [true, false, false, false, true, false, true, true, true, false, false, false] rfl (ih88 v6 t0 y11 s10 hf)
                      refine r_if_ne B (pc := 159) (tgt := 167) dX7_judged_159 (by decide) hf (fun _ hf => ?_) (fun _ hf => ?_)
                      · refine r_iload B (pc := 167) dX7_judged_167 rfl ?_
                        exact r_mask [true, false, false, false, true, false, true, false, true, true, true, true] rfl (k169 v6 v8 y4 y5 y6 v8 σ88 hf)
                      · refine r_bipush B (pc := 162) dX7_judged_162 kb_m4 ?_
                        refine r_goto B (pc := 164) (tgt := 169) dX7_judged_164 (by decide) ?_
                        exact r_mask [true, false, false, false, true, false, true, false, true, true, true, true] rfl (k169 v6 v8 y4 y5 y6 ((-4)) σ88 hf)
              exact r_mask [true, false, false, false, true, false, true, true, true, false, false, false] rfl (k88 FU y3 ((-4)) 0 σ45 hf)
            · refine r_aload_n B (pc := 53) dX7_judged_53 rfl rfl ?_
              refine gM_RX7_72_0 B (pc := 54) dX7_judged_54 ?_
              refine r_iload B (pc := 57) dX7_judged_57 rfl ?_
              refine r_aload_n B (pc := 59) dX7_judged_59 rfl rfl ?_
              refine gM_RX7_38_0 B (pc := 60) dX7_judged_60 ?_
              refine r_iload B (pc := 63) dX7_judged_63 rfl ?_
              refine aldM_9 B (pc := 65) dX7_judged_65 hf (fun _ hf => ?_)
              refine astM_20 B (pc := 66) dX7_judged_66 hf (fun s14 _ hf => ?_)
              refine r_iincS B hnL (pc := 67) dX7_judged_67 rfl kc_1 (by decide) hf (fun y15 hf => ?_)
              refine r_lc (loc' := [some (.ref (ad 0)), some (.int x1), none, some (.int x3), some (.int x4), none, some (.int y15), none, none, none, none, none]) rfl ?_
              refine r_goto B (pc := 70) (tgt := 45) dX7_judged_70 (by decide) ?_
              exact r_mask [true, true, false, true, true, false, true, false, false, false, false, false] rfl (ih45 y15 s14 hf)
        exact r_mask [true, true, false, true, true, false, true, false, false, false, false, false] rfl (k45 FU 0 σ hf)
      · refine r_iload B (pc := 39) dX7_judged_39 rfl ?_
        exact e_pz (F := (wM ad K)) hf (nar_i _) (RET 41 _ dX7_judged_41)
    · refine r_iconst B (pc := 21) dX7_judged_21 kc_m1 ?_
      exact e_pz (F := (wM ad K)) hf (nar_i _) (RET 22 _ dX7_judged_22)
set_option maxHeartbeats 4000000 in
set_option maxRecDepth 20000 in
theorem c_X7_film (l : Launch) (D : va_G) (K : Kt) (ad : Nat → Nat) (σ : St) (x1 : Int32) (x2 : Int32) (x3 : Int32) {r : Int32} {τ : St} (hf : f_X7_film σ x1 x2 x3 = some (r, τ)) : CtI l yX7_film cX7_film 6 (some .int) 4 96 D K [.ref (ad 0), .int x1, .int x2, .int x3] (wM ad K σ) r (wM ad K τ) := by
  refine met_i pl_RX7 (Nat.le_of_ble_eq_true rfl) (fun X hnL B RET => ?_)
  suffices h : MW X (wM ad K σ) 0 [some (.ref (ad 0)), some (.int x1), some (.int x2), some (.int x3), none, none] [] from h
  unfold f_X7_film at hf
  refine r_iload_n B (pc := 0) dX7_film_0 rfl rfl ?_
  refine r_iload_n B (pc := 1) dX7_film_1 rfl rfl ?_
  refine r_cSI B (c_X7_isSheet X.l X.D K _ x1 x2) F_X7_isSheet lk_RX7_313 (Nat.le_of_ble_eq_true rfl) (Nat.le_of_ble_eq_true rfl) (Nat.le_of_ble_eq_true rfl) (pc := 2) dX7_film_2 rfl ?_
  refine r_if_ne B (pc := 5) (tgt := 10) dX7_film_5 (by decide) hf (fun _ hf => ?_) (fun _ hf => ?_)
  · refine r_aload_n B (pc := 10) dX7_film_10 rfl rfl ?_
    refine r_iload_n B (pc := 11) dX7_film_11 rfl rfl ?_
    refine r_iload_n B (pc := 12) dX7_film_12 rfl rfl ?_
    refine r_iload_n B (pc := 13) dX7_film_13 rfl rfl ?_
    refine r_aload_n B (pc := 14) dX7_film_14 rfl rfl ?_
    refine gM_RX7_78_0 B (pc := 15) dX7_film_15 ?_
    obtain ⟨r2, hc1, hf⟩ := bdr_e hf
    refine r_cVI B (c_X7_lacksRow X.l X.D K ad σ x1 x2 x3 (σ.1 0 3) hc1) F_X7_lacksRow lk_RX7_316 (q0 := 0) (ci := 7) rfl rfl (Nat.le_of_ble_eq_true rfl) (Nat.le_of_ble_eq_true rfl) (Nat.le_of_ble_eq_true rfl) (pc := 18) dX7_film_18 rfl ?_
    refine r_istore B hnL (pc := 21) dX7_film_21 (by decide) ?_
    refine r_lc (loc' := [some (.ref (ad 0)), some (.int x1), some (.int x2), some (.int x3), some (.int r2), none]) rfl ?_
    refine r_iload B (pc := 23) dX7_film_23 rfl ?_
    refine r_if_ge B (pc := 25) (tgt := 31) dX7_film_25 (by decide) hf (fun _ hf => ?_) (fun _ hf => ?_)
    · refine r_iconst B (pc := 31) dX7_film_31 kc_0 ?_
      refine r_istore B hnL (pc := 32) dX7_film_32 (by decide) ?_
      refine r_lc (loc' := [some (.ref (ad 0)), some (.int x1), some (.int x2), some (.int x3), some (.int r2), some (.int 0)]) rfl ?_
      have k34 : ∀ (n34 : Nat) (v5 : Int32) (σ34 : St), f_X7_film_h34 x1 x2 x3 n34 v5 σ34 = some (r, τ) → MW X (wM ad K σ34) 34 [some (.ref (ad 0)), some (.int x1), some (.int x2), some (.int x3), none, some (.int v5)] [] := by
        intro n34
        induction n34 with
        | zero => intro v5 σ34 hf; exact nn_z hf
        | succ n34 ih34 =>
          intro v5 σ34 hf
          rw [f_X7_film_h34] at hf
          refine r_iload B (pc := 34) dX7_film_34 rfl ?_
          refine r_aload_n B (pc := 36) dX7_film_36 rfl rfl ?_
          refine gM_RX7_78_0 B (pc := 37) dX7_film_37 ?_
          refine r_icmp_ge B (pc := 40) (tgt := 74) dX7_film_40 (by decide) hf (fun _ hf => ?_) (fun _ hf => ?_)
          · refine r_aload_n B (pc := 74) dX7_film_74 rfl rfl ?_
            refine gM_RX7_78_0 B (pc := 75) dX7_film_75 ?_
            exact e_pz (F := (wM ad K)) hf (nar_i _) (RET 78 _ dX7_film_78)
          · refine r_aload_n B (pc := 43) dX7_film_43 rfl rfl ?_
            refine gM_RX7_68_0 B (pc := 44) dX7_film_44 ?_
            refine r_bipush B (pc := 47) dX7_film_47 kb_36 ?_
            refine r_iload_n B (pc := 49) dX7_film_49 rfl rfl ?_
            refine r_imul B (pc := 50) dX7_film_50 ?_
            refine r_iload_n B (pc := 51) dX7_film_51 rfl rfl ?_
            refine r_iadd B (pc := 52) dX7_film_52 ?_
            refine r_iload B (pc := 53) dX7_film_53 rfl ?_
            refine r_iadd B (pc := 55) dX7_film_55 ?_
            refine r_iload_n B (pc := 56) dX7_film_56 rfl rfl ?_
            refine r_aload_n B (pc := 57) dX7_film_57 rfl rfl ?_
            refine r_iload B (pc := 58) dX7_film_58 rfl ?_
            obtain ⟨r4, hc3, hf⟩ := bdr_e hf
            refine r_cVI B (c_X7_arrears X.l X.D K ad σ34 v5 hc3) F_X7_arrears lk_RX7_163 (q0 := 0) (ci := 7) rfl rfl (Nat.le_of_ble_eq_true rfl) (Nat.le_of_ble_eq_true rfl) (Nat.le_of_ble_eq_true rfl) (pc := 60) dX7_film_60 rfl ?_
            refine r_i2l B (pc := 63) dX7_film_63 ?_
            refine r_cSL B (c_X7_asLane X.l X.D K _ x2 (r4.toInt64)) F_X7_asLane lk_RX7_320 (Nat.le_of_ble_eq_true rfl) (Nat.le_of_ble_eq_true rfl) (Nat.le_of_ble_eq_true rfl) (pc := 64) dX7_film_64 rfl ?_
            refine astM_19 B (pc := 67) dX7_film_67 hf (fun s5 _ hf => ?_)
            refine r_iincS B hnL (pc := 68) dX7_film_68 rfl kc_1 (by decide) hf (fun y6 hf => ?_)
            refine r_lc (loc' := [some (.ref (ad 0)), some (.int x1), some (.int x2), some (.int x3), none, some (.int y6)]) rfl ?_
            refine r_goto B (pc := 71) (tgt := 34) dX7_film_71 (by decide) ?_
            exact r_mask [true, true, true, true, false, true] rfl (ih34 y6 s5 hf)
      exact r_mask [true, true, true, true, false, true] rfl (k34 FU 0 σ hf)
    · refine r_iload B (pc := 28) dX7_film_28 rfl ?_
      exact e_pz (F := (wM ad K)) hf (nar_i _) (RET 30 _ dX7_film_30)
  · refine r_iconst B (pc := 8) dX7_film_8 kc_m1 ?_
    exact e_pz (F := (wM ad K)) hf (nar_i _) (RET 9 _ dX7_film_9)
set_option maxHeartbeats 4000000 in
set_option maxRecDepth 20000 in
theorem c_X7_copy (l : Launch) (D : va_G) (K : Kt) (ad : Nat → Nat) (σ : St) (x1 : Int32) (x2 : Int32) (x3 : Int32) (x4 : Int32) (x5 : Int32) {r : Int32} {τ : St} (hf : f_X7_copy σ x1 x2 x3 x4 x5 = some (r, τ)) : CtI l yX7_copy cX7_copy 7 (some .int) 1 25 D K [.ref (ad 0), .int x1, .int x2, .int x3, .int x4, .int x5] (wM ad K σ) r (wM ad K τ) := by
  refine met_i pl_RX7 (Nat.le_of_ble_eq_true rfl) (fun X hnL B RET => ?_)
  suffices h : MW X (wM ad K σ) 0 [some (.ref (ad 0)), some (.int x1), some (.int x2), some (.int x3), some (.int x4), some (.int x5), none] [] from h
  unfold f_X7_copy at hf
  refine r_iload_n B (pc := 0) dX7_copy_0 rfl rfl ?_
  refine r_i2l B (pc := 1) dX7_copy_1 ?_
  refine r_lconst B (pc := 2) dX7_copy_2 kl_0 ?_
  refine r_ldc2 B (pc := 3) kp_RX7_311 dX7_copy_3 ?_
  refine r_cSI B (c_X7_in X.l X.D K _ (x1.toInt64) 0 3) F_X7_in lk_RX7_81 (Nat.le_of_ble_eq_true rfl) (Nat.le_of_ble_eq_true rfl) (Nat.le_of_ble_eq_true rfl) (pc := 6) dX7_copy_6 rfl ?_
  refine r_if_eq B (pc := 9) (tgt := 24) dX7_copy_9 (by decide) hf (fun _ hf => ?_) (fun _ hf => ?_)
  · refine r_iconst B (pc := 24) dX7_copy_24 kc_m1 ?_
    exact e_pz (F := (wM ad K)) hf (nar_i _) (RET 25 _ dX7_copy_25)
  · refine r_iload_n B (pc := 12) dX7_copy_12 rfl rfl ?_
    refine r_i2l B (pc := 13) dX7_copy_13 ?_
    refine r_lconst B (pc := 14) dX7_copy_14 kl_0 ?_
    refine r_ldc2 B (pc := 15) kp_RX7_311 dX7_copy_15 ?_
    refine r_cSI B (c_X7_in X.l X.D K _ (x3.toInt64) 0 3) F_X7_in lk_RX7_81 (Nat.le_of_ble_eq_true rfl) (Nat.le_of_ble_eq_true rfl) (Nat.le_of_ble_eq_true rfl) (pc := 18) dX7_copy_18 rfl ?_
    refine r_if_ne B (pc := 21) (tgt := 26) dX7_copy_21 (by decide) hf (fun _ hf => ?_) (fun _ hf => ?_)
    · refine r_aload_n B (pc := 26) dX7_copy_26 rfl rfl ?_
      refine gM_RX7_62_0 B (pc := 27) dX7_copy_27 ?_
      refine r_iload_n B (pc := 30) dX7_copy_30 rfl rfl ?_
      refine aldM_17 B (pc := 31) dX7_copy_31 hf (fun _ hf => ?_)
      refine r_if_lt B (pc := 32) (tgt := 44) dX7_copy_32 (by decide) hf (fun _ hf => ?_) (fun _ hf => ?_)
      · refine r_bipush B (pc := 44) dX7_copy_44 kb_m11 ?_
        exact e_pz (F := (wM ad K)) hf (nar_i _) (RET 46 _ dX7_copy_46)
      · refine r_aload_n B (pc := 35) dX7_copy_35 rfl rfl ?_
        refine gM_RX7_62_0 B (pc := 36) dX7_copy_36 ?_
        refine r_iload_n B (pc := 39) dX7_copy_39 rfl rfl ?_
        refine aldM_17 B (pc := 40) dX7_copy_40 hf (fun _ hf => ?_)
        refine r_if_ge B (pc := 41) (tgt := 47) dX7_copy_41 (by decide) hf (fun _ hf => ?_) (fun _ hf => ?_)
        · refine r_aload_n B (pc := 47) dX7_copy_47 rfl rfl ?_
          refine gM_RX7_62_0 B (pc := 48) dX7_copy_48 ?_
          refine r_iload_n B (pc := 51) dX7_copy_51 rfl rfl ?_
          refine aldM_17 B (pc := 52) dX7_copy_52 hf (fun _ hf => ?_)
          refine r_aload_n B (pc := 53) dX7_copy_53 rfl rfl ?_
          refine gM_RX7_62_0 B (pc := 54) dX7_copy_54 ?_
          refine r_iload_n B (pc := 57) dX7_copy_57 rfl rfl ?_
          refine aldM_17 B (pc := 58) dX7_copy_58 hf (fun _ hf => ?_)
          refine r_icmp_eq B (pc := 59) (tgt := 65) dX7_copy_59 (by decide) hf (fun _ hf => ?_) (fun _ hf => ?_)
          · refine r_iload B (pc := 65) dX7_copy_65 rfl ?_
            refine r_if_lt B (pc := 67) (tgt := 111) dX7_copy_67 (by decide) hf (fun _ hf => ?_) (fun _ hf => ?_)
            · refine r_bipush B (pc := 111) dX7_copy_111 kb_m13 ?_
              exact e_pz (F := (wM ad K)) hf (nar_i _) (RET 113 _ dX7_copy_113)
            · refine r_iload_n B (pc := 70) dX7_copy_70 rfl rfl ?_
              refine r_i2l B (pc := 71) dX7_copy_71 ?_
              refine r_lconst B (pc := 72) dX7_copy_72 kl_0 ?_
              refine r_aload_n B (pc := 73) dX7_copy_73 rfl rfl ?_
              refine gM_RX7_65_0 B (pc := 74) dX7_copy_74 ?_
              refine r_iload_n B (pc := 77) dX7_copy_77 rfl rfl ?_
              refine aldM_18 B (pc := 78) dX7_copy_78 hf (fun _ hf => ?_)
              refine r_i2l B (pc := 79) dX7_copy_79 ?_
              refine r_iload B (pc := 80) dX7_copy_80 rfl ?_
              refine r_i2l B (pc := 82) dX7_copy_82 ?_
              refine r_lsub B (pc := 83) dX7_copy_83 ?_
              refine r_cSI B (c_X7_in X.l X.D K _ (x2.toInt64) 0 (((σ.1 18 (ix x1)).toInt64) - (x5.toInt64))) F_X7_in lk_RX7_81 (Nat.le_of_ble_eq_true rfl) (Nat.le_of_ble_eq_true rfl) (Nat.le_of_ble_eq_true rfl) (pc := 84) dX7_copy_84 rfl ?_
              refine r_if_eq B (pc := 87) (tgt := 111) dX7_copy_87 (by decide) hf (fun _ hf => ?_) (fun _ hf => ?_)
              · refine r_bipush B (pc := 111) dX7_copy_111 kb_m13 ?_
                exact e_pz (F := (wM ad K)) hf (nar_i _) (RET 113 _ dX7_copy_113)
              · refine r_iload B (pc := 90) dX7_copy_90 rfl ?_
                refine r_i2l B (pc := 92) dX7_copy_92 ?_
                refine r_lconst B (pc := 93) dX7_copy_93 kl_0 ?_
                refine r_aload_n B (pc := 94) dX7_copy_94 rfl rfl ?_
                refine gM_RX7_65_0 B (pc := 95) dX7_copy_95 ?_
                refine r_iload_n B (pc := 98) dX7_copy_98 rfl rfl ?_
                refine aldM_18 B (pc := 99) dX7_copy_99 hf (fun _ hf => ?_)
                refine r_i2l B (pc := 100) dX7_copy_100 ?_
                refine r_iload B (pc := 101) dX7_copy_101 rfl ?_
                refine r_i2l B (pc := 103) dX7_copy_103 ?_
                refine r_lsub B (pc := 104) dX7_copy_104 ?_
                refine r_cSI B (c_X7_in X.l X.D K _ (x4.toInt64) 0 (((σ.1 18 (ix x3)).toInt64) - (x5.toInt64))) F_X7_in lk_RX7_81 (Nat.le_of_ble_eq_true rfl) (Nat.le_of_ble_eq_true rfl) (Nat.le_of_ble_eq_true rfl) (pc := 105) dX7_copy_105 rfl ?_
                refine r_if_ne B (pc := 108) (tgt := 114) dX7_copy_108 (by decide) hf (fun _ hf => ?_) (fun _ hf => ?_)
                · refine r_iconst B (pc := 114) dX7_copy_114 kc_0 ?_
                  refine r_istore B hnL (pc := 115) dX7_copy_115 (by decide) ?_
                  refine r_lc (loc' := [some (.ref (ad 0)), some (.int x1), some (.int x2), some (.int x3), some (.int x4), some (.int x5), some (.int 0)]) rfl ?_
                  have k117 : ∀ (n117 : Nat) (v6 : Int32) (σ117 : St), f_X7_copy_h117 x1 x2 x3 x4 x5 n117 v6 σ117 = some (r, τ) → MW X (wM ad K σ117) 117 [some (.ref (ad 0)), some (.int x1), some (.int x2), some (.int x3), some (.int x4), some (.int x5), some (.int v6)] [] := by
                    intro n117
                    induction n117 with
                    | zero => intro v6 σ117 hf; exact nn_z hf
                    | succ n117 ih117 =>
                      intro v6 σ117 hf
                      rw [f_X7_copy_h117] at hf
                      refine r_iload B (pc := 117) dX7_copy_117 rfl ?_
                      refine r_iload B (pc := 119) dX7_copy_119 rfl ?_
                      refine r_icmp_ge B (pc := 121) (tgt := 151) dX7_copy_121 (by decide) hf (fun _ hf => ?_) (fun _ hf => ?_)
                      · refine r_iconst B (pc := 151) dX7_copy_151 kc_0 ?_
                        refine r_istore B hnL (pc := 152) dX7_copy_152 (by decide) ?_
                        refine r_lc (loc' := [some (.ref (ad 0)), some (.int x1), some (.int x2), some (.int x3), some (.int x4), some (.int x5), some (.int 0)]) rfl ?_
                        have k154 : ∀ (n154 : Nat) (v6 : Int32) (σ154 : St), f_X7_copy_h154 x1 x2 x3 x4 x5 n154 v6 σ154 = some (r, τ) → MW X (wM ad K σ154) 154 [some (.ref (ad 0)), none, none, some (.int x3), some (.int x4), some (.int x5), some (.int v6)] [] := by
                          intro n154
                          induction n154 with
                          | zero => intro v6 σ154 hf; exact nn_z hf
                          | succ n154 ih154 =>
                            intro v6 σ154 hf
                            rw [f_X7_copy_h154] at hf
                            refine r_iload B (pc := 154) dX7_copy_154 rfl ?_
                            refine r_iload B (pc := 156) dX7_copy_156 rfl ?_
                            refine r_icmp_ge B (pc := 158) (tgt := 189) dX7_copy_158 (by decide) hf (fun _ hf => ?_) (fun _ hf => ?_)
                            · refine r_iload B (pc := 189) dX7_copy_189 rfl ?_
                              exact e_pz (F := (wM ad K)) hf (nar_i _) (RET 191 _ dX7_copy_191)
                            · refine r_aload_n B (pc := 161) dX7_copy_161 rfl rfl ?_
                              refine gM_RX7_68_0 B (pc := 162) dX7_copy_162 ?_
                              refine r_bipush B (pc := 165) dX7_copy_165 kb_36 ?_
                              refine r_iload_n B (pc := 167) dX7_copy_167 rfl rfl ?_
                              refine r_imul B (pc := 168) dX7_copy_168 ?_
                              refine r_iload B (pc := 169) dX7_copy_169 rfl ?_
                              refine r_iadd B (pc := 171) dX7_copy_171 ?_
                              refine r_iload B (pc := 172) dX7_copy_172 rfl ?_
                              refine r_iadd B (pc := 174) dX7_copy_174 ?_
                              refine r_aload_n B (pc := 175) dX7_copy_175 rfl rfl ?_
                              refine gM_RX7_75_0 B (pc := 176) dX7_copy_176 ?_
                              refine r_iload B (pc := 179) dX7_copy_179 rfl ?_
                              refine aldM_21 B (pc := 181) dX7_copy_181 hf (fun _ hf => ?_)
                              refine astM_19 B (pc := 182) dX7_copy_182 hf (fun s1 _ hf => ?_)
                              refine r_iincS B hnL (pc := 183) dX7_copy_183 rfl kc_1 (by decide) hf (fun y2 hf => ?_)
                              refine r_lc (loc' := [some (.ref (ad 0)), none, none, some (.int x3), some (.int x4), some (.int x5), some (.int y2)]) rfl ?_
                              refine r_goto B (pc := 186) (tgt := 154) dX7_copy_186 (by decide) ?_
                              exact r_mask [true, false, false, true, true, true, true] rfl (ih154 y2 s1 hf)
                        exact r_mask [true, false, false, true, true, true, true] rfl (k154 FU 0 σ117 hf)
                      · refine r_aload_n B (pc := 124) dX7_copy_124 rfl rfl ?_
                        refine gM_RX7_75_0 B (pc := 125) dX7_copy_125 ?_
                        refine r_iload B (pc := 128) dX7_copy_128 rfl ?_
                        refine r_aload_n B (pc := 130) dX7_copy_130 rfl rfl ?_
                        refine gM_RX7_68_0 B (pc := 131) dX7_copy_131 ?_
                        refine r_bipush B (pc := 134) dX7_copy_134 kb_36 ?_
                        refine r_iload_n B (pc := 136) dX7_copy_136 rfl rfl ?_
                        refine r_imul B (pc := 137) dX7_copy_137 ?_
                        refine r_iload_n B (pc := 138) dX7_copy_138 rfl rfl ?_
                        refine r_iadd B (pc := 139) dX7_copy_139 ?_
                        refine r_iload B (pc := 140) dX7_copy_140 rfl ?_
                        refine r_iadd B (pc := 142) dX7_copy_142 ?_
                        refine aldM_19 B (pc := 143) dX7_copy_143 hf (fun _ hf => ?_)
                        refine astM_21 B (pc := 144) dX7_copy_144 hf (fun s3 _ hf => ?_)
                        refine r_iincS B hnL (pc := 145) dX7_copy_145 rfl kc_1 (by decide) hf (fun y4 hf => ?_)
                        refine r_lc (loc' := [some (.ref (ad 0)), some (.int x1), some (.int x2), some (.int x3), some (.int x4), some (.int x5), some (.int y4)]) rfl ?_
                        refine r_goto B (pc := 148) (tgt := 117) dX7_copy_148 (by decide) ?_
                        exact r_mask [true, true, true, true, true, true, true] rfl (ih117 y4 s3 hf)
                  exact r_mask [true, true, true, true, true, true, true] rfl (k117 FU 0 σ hf)
                · refine r_bipush B (pc := 111) dX7_copy_111 kb_m13 ?_
                  exact e_pz (F := (wM ad K)) hf (nar_i _) (RET 113 _ dX7_copy_113)
          · refine r_bipush B (pc := 62) dX7_copy_62 kb_m12 ?_
            exact e_pz (F := (wM ad K)) hf (nar_i _) (RET 64 _ dX7_copy_64)
        · refine r_bipush B (pc := 44) dX7_copy_44 kb_m11 ?_
          exact e_pz (F := (wM ad K)) hf (nar_i _) (RET 46 _ dX7_copy_46)
    · refine r_iconst B (pc := 24) dX7_copy_24 kc_m1 ?_
      exact e_pz (F := (wM ad K)) hf (nar_i _) (RET 25 _ dX7_copy_25)
