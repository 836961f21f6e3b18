set_option maxHeartbeats 4000000 in
set_option maxRecDepth 20000 in
theorem c_X7_in (l : Launch) (D : va_G) (K : Kt) (w : va_W) (x0 : Int64) (x2 : Int64) (x4 : Int64) : CtI l yX7_in cX7_in 6 (some .boolean) 0 0 D K [.long x0, .long x2, .long x4] w (f_X7_in x0 x2 x4) w := by
  refine met_i pl_RX7 (Nat.le_of_ble_eq_true rfl) (fun X hnL B RET => ?_)
  generalize hf : f_X7_in x0 x2 x4 = r at RET
  suffices h : MW X w 0 [some (.long x0), none, some (.long x2), none, some (.long x4), none] [] from h
  unfold f_X7_in at hf
  refine r_lload_n B (pc := 0) dX7_in_0 rfl rfl ?_
  refine r_lload_n B (pc := 1) dX7_in_1 rfl rfl ?_
  refine r_lcmp B (pc := 2) dX7_in_2 ?_
  refine r_if_lt B (pc := 3) (tgt := 17) dX7_in_3 (by decide) hf (fun _ hf => ?_) (fun _ hf => ?_)
  · refine r_iconst B (pc := 17) dX7_in_17 kc_0 ?_
    exact e_tz hf rfl (RET 18 _ dX7_in_18)
  · refine r_lload_n B (pc := 6) dX7_in_6 rfl rfl ?_
    refine r_lload B (pc := 7) dX7_in_7 rfl ?_
    refine r_lcmp B (pc := 9) dX7_in_9 ?_
    refine r_if_gt B (pc := 10) (tgt := 17) dX7_in_10 (by decide) hf (fun _ hf => ?_) (fun _ hf => ?_)
    · refine r_iconst B (pc := 17) dX7_in_17 kc_0 ?_
      exact e_tz hf rfl (RET 18 _ dX7_in_18)
    · refine r_iconst B (pc := 13) dX7_in_13 kc_1 ?_
      refine r_goto B (pc := 14) (tgt := 18) dX7_in_14 (by decide) ?_
      exact e_tz hf rfl (RET 18 _ dX7_in_18)
set_option maxHeartbeats 4000000 in
set_option maxRecDepth 20000 in
theorem c_X7_has (l : Launch) (D : va_G) (K : Kt) (w : va_W) (x0 : Int32) (x1 : Int32) : CtI l yX7_has cX7_has 2 (some .boolean) 0 0 D K [.int x0, .int x1] w (f_X7_has x0 x1) w := by
  refine met_i pl_RX7 (Nat.le_of_ble_eq_true rfl) (fun X hnL B RET => ?_)
  generalize hf : f_X7_has x0 x1 = r at RET
  suffices h : MW X w 0 [some (.int x0), some (.int x1)] [] from h
  unfold f_X7_has at hf
  refine r_iload_n B (pc := 0) dX7_has_0 rfl rfl ?_
  refine r_iload_n B (pc := 1) dX7_has_1 rfl rfl ?_
  refine r_ishr B (pc := 2) dX7_has_2 ?_
  refine r_iconst B (pc := 3) dX7_has_3 kc_1 ?_
  refine r_iand B (pc := 4) dX7_has_4 ?_
  refine r_iconst B (pc := 5) dX7_has_5 kc_1 ?_
  refine r_icmp_ne B (pc := 6) (tgt := 13) dX7_has_6 (by decide) hf (fun _ hf => ?_) (fun _ hf => ?_)
  · refine r_iconst B (pc := 13) dX7_has_13 kc_0 ?_
    exact e_tz hf rfl (RET 14 _ dX7_has_14)
  · refine r_iconst B (pc := 9) dX7_has_9 kc_1 ?_
    refine r_goto B (pc := 10) (tgt := 14) dX7_has_10 (by decide) ?_
    exact e_tz hf rfl (RET 14 _ dX7_has_14)
set_option maxHeartbeats 4000000 in
set_option maxRecDepth 20000 in
theorem c_X7_ones (l : Launch) (D : va_G) (K : Kt) (w : va_W) (x0 : Int32) {r : Int32} (hf : f_X7_ones x0 = some r) : CtI l yX7_ones cX7_ones 3 (some .int) 0 0 D K [.int x0] w r w := by
  refine met_i pl_RX7 (Nat.le_of_ble_eq_true rfl) (fun X hnL B RET => ?_)
  suffices h : MW X w 0 [some (.int x0), none, none] [] from h
  unfold f_X7_ones at hf
  refine r_iconst B (pc := 0) dX7_ones_0 kc_0 ?_
  refine r_istore_n B hnL (pc := 1) dX7_ones_1 rfl (by decide) ?_
  refine r_lc (loc' := [some (.int x0), some (.int 0), none]) rfl ?_
  refine r_iload_n B (pc := 2) dX7_ones_2 rfl rfl ?_
  refine r_istore_n B hnL (pc := 3) dX7_ones_3 rfl (by decide) ?_
  refine r_lc (loc' := [some (.int x0), some (.int 0), some (.int x0)]) rfl ?_
  have k4 : ∀ (n4 : Nat) (v1 : Int32) (v2 : Int32), f_X7_ones_h4 x0 n4 v1 v2 = some r → MW X w 4 [none, some (.int v1), some (.int v2)] [] := by
    intro n4
    induction n4 with
    | zero => intro v1 v2 hf; exact nn_z hf
    | succ n4 ih4 =>
      intro v1 v2 hf
      rw [f_X7_ones_h4] at hf
      refine r_iload_n B (pc := 4) dX7_ones_4 rfl rfl ?_
      refine r_if_eq B (pc := 5) (tgt := 20) dX7_ones_5 (by decide) hf (fun _ hf => ?_) (fun _ hf => ?_)
      · refine r_iload_n B (pc := 20) dX7_ones_20 rfl rfl ?_
        exact e_rz hf (nar_i _) (RET 21 _ dX7_ones_21)
      · refine r_iincS B hnL (pc := 8) dX7_ones_8 rfl kc_1 (by decide) hf (fun y1 hf => ?_)
        refine r_lc (loc' := [none, some (.int y1), some (.int v2)]) rfl ?_
        refine r_iload_n B (pc := 11) dX7_ones_11 rfl rfl ?_
        refine r_iload_n B (pc := 12) dX7_ones_12 rfl rfl ?_
        refine r_iconst B (pc := 13) dX7_ones_13 kc_1 ?_
        refine r_isub B (pc := 14) dX7_ones_14 ?_
        refine r_iand B (pc := 15) dX7_ones_15 ?_
        refine r_nm hf (fun y2 hf => ?_)
        refine r_istore_n B hnL (pc := 16) dX7_ones_16 rfl (by decide) ?_
        refine r_lc (loc' := [none, some (.int y1), some (.int y2)]) rfl ?_
        refine r_goto B (pc := 17) (tgt := 4) dX7_ones_17 (by decide) ?_
        exact r_mask [false, true, true] rfl (ih4 y1 y2 hf)
  exact r_mask [false, true, true] rfl (k4 FU 0 x0 hf)
set_option maxHeartbeats 4000000 in
set_option maxRecDepth 20000 in
theorem c_X7_isGrave (l : Launch) (D : va_G) (K : Kt) (ad : Nat → Nat) (σ : St) (x1 : Int32) : CtI l yX7_isGrave cX7_isGrave 2 (some .boolean) 1 25 D K [.ref (ad 0), .int x1] (wM ad K σ) (f_X7_isGrave σ x1) (wM ad K σ) := by
  refine met_i pl_RX7 (Nat.le_of_ble_eq_true rfl) (fun X hnL B RET => ?_)
  generalize hf : f_X7_isGrave σ x1 = r at RET
  suffices h : MW X (wM ad K σ) 0 [some (.ref (ad 0)), some (.int x1)] [] from h
  unfold f_X7_isGrave at hf
  refine r_iload_n B (pc := 0) dX7_isGrave_0 rfl rfl ?_
  refine r_i2l B (pc := 1) dX7_isGrave_1 ?_
  refine r_lconst B (pc := 2) dX7_isGrave_2 kl_0 ?_
  refine r_aload_n B (pc := 3) dX7_isGrave_3 rfl rfl ?_
  refine gM_RX7_78_0 B (pc := 4) dX7_isGrave_4 ?_
  refine r_iconst B (pc := 7) dX7_isGrave_7 kc_1 ?_
  refine r_isub B (pc := 8) dX7_isGrave_8 ?_
  refine r_i2l B (pc := 9) dX7_isGrave_9 ?_
  refine r_cSI B (c_X7_in X.l X.D K _ (x1.toInt64) 0 (((σ.1 0 3) - 1).toInt64)) F_X7_in lk_RX7_81 (Nat.le_of_ble_eq_true rfl) (Nat.le_of_ble_eq_true rfl) (Nat.le_of_ble_eq_true rfl) (pc := 10) dX7_isGrave_10 rfl ?_
  exact e_tz hf (nar_t (zb_X7_in (x1.toInt64) 0 (((σ.1 0 3) - 1).toInt64))) (RET 13 _ dX7_isGrave_13)
set_option maxHeartbeats 4000000 in
set_option maxRecDepth 20000 in
theorem c_X7_isNews (l : Launch) (D : va_G) (K : Kt) (ad : Nat → Nat) (σ : St) (x1 : Int64) : CtI l yX7_isNews cX7_isNews 3 (some .boolean) 1 25 D K [.ref (ad 0), .long x1] (wM ad K σ) (f_X7_isNews σ x1) (wM ad K σ) := by
  refine met_i pl_RX7 (Nat.le_of_ble_eq_true rfl) (fun X hnL B RET => ?_)
  generalize hf : f_X7_isNews σ x1 = r at RET
  suffices h : MW X (wM ad K σ) 0 [some (.ref (ad 0)), some (.long x1), none] [] from h
  unfold f_X7_isNews at hf
  refine r_lload_n B (pc := 0) dX7_isNews_0 rfl rfl ?_
  refine r_lconst B (pc := 1) dX7_isNews_1 kl_0 ?_
  refine r_aload_n B (pc := 2) dX7_isNews_2 rfl rfl ?_
  refine gM_RX7_85_0 B (pc := 3) dX7_isNews_3 ?_
  refine r_iconst B (pc := 6) dX7_isNews_6 kc_1 ?_
  refine r_isub B (pc := 7) dX7_isNews_7 ?_
  refine r_i2l B (pc := 8) dX7_isNews_8 ?_
  refine r_cSI B (c_X7_in X.l X.D K _ x1 0 (((σ.1 0 8) - 1).toInt64)) F_X7_in lk_RX7_81 (Nat.le_of_ble_eq_true rfl) (Nat.le_of_ble_eq_true rfl) (Nat.le_of_ble_eq_true rfl) (pc := 9) dX7_isNews_9 rfl ?_
  exact e_tz hf (nar_t (zb_X7_in x1 0 (((σ.1 0 8) - 1).toInt64))) (RET 12 _ dX7_isNews_12)
set_option maxHeartbeats 4000000 in
set_option maxRecDepth 20000 in
theorem c_X7_isReader (l : Launch) (D : va_G) (K : Kt) (ad : Nat → Nat) (σ : St) (x1 : Int64) : CtI l yX7_isReader cX7_isReader 3 (some .boolean) 1 25 D K [.ref (ad 0), .long x1] (wM ad K σ) (f_X7_isReader σ x1) (wM ad K σ) := by
  refine met_i pl_RX7 (Nat.le_of_ble_eq_true rfl) (fun X hnL B RET => ?_)
  generalize hf : f_X7_isReader σ x1 = r at RET
  suffices h : MW X (wM ad K σ) 0 [some (.ref (ad 0)), some (.long x1), none] [] from h
  unfold f_X7_isReader at hf
  refine r_lload_n B (pc := 0) dX7_isReader_0 rfl rfl ?_
  refine r_lconst B (pc := 1) dX7_isReader_1 kl_0 ?_
  refine r_aload_n B (pc := 2) dX7_isReader_2 rfl rfl ?_
  refine gM_RX7_88_0 B (pc := 3) dX7_isReader_3 ?_
  refine r_iconst B (pc := 6) dX7_isReader_6 kc_1 ?_
  refine r_isub B (pc := 7) dX7_isReader_7 ?_
  refine r_i2l B (pc := 8) dX7_isReader_8 ?_
  refine r_cSI B (c_X7_in X.l X.D K _ x1 0 (((σ.1 0 10) - 1).toInt64)) F_X7_in lk_RX7_81 (Nat.le_of_ble_eq_true rfl) (Nat.le_of_ble_eq_true rfl) (Nat.le_of_ble_eq_true rfl) (pc := 9) dX7_isReader_9 rfl ?_
  exact e_tz hf (nar_t (zb_X7_in x1 0 (((σ.1 0 10) - 1).toInt64))) (RET 12 _ dX7_isReader_12)
set_option maxHeartbeats 4000000 in
set_option maxRecDepth 20000 in
theorem c_X7_isPlace (l : Launch) (D : va_G) (K : Kt) (w : va_W) (x0 : Int64) : CtI l yX7_isPlace cX7_isPlace 2 (some .boolean) 1 25 D K [.long x0] w (f_X7_isPlace x0) w := by
  refine met_i pl_RX7 (Nat.le_of_ble_eq_true rfl) (fun X hnL B RET => ?_)
  generalize hf : f_X7_isPlace x0 = r at RET
  suffices h : MW X w 0 [some (.long x0), none] [] from h
  unfold f_X7_isPlace at hf
  refine r_lload_n B (pc := 0) dX7_isPlace_0 rfl rfl ?_
  refine r_lconst B (pc := 1) dX7_isPlace_1 kl_0 ?_
  refine r_ldc2 B (pc := 2) kp_RX7_91 dX7_isPlace_2 ?_
  refine r_cSI B (c_X7_in X.l X.D K _ x0 0 35) F_X7_in lk_RX7_81 (Nat.le_of_ble_eq_true rfl) (Nat.le_of_ble_eq_true rfl) (Nat.le_of_ble_eq_true rfl) (pc := 5) dX7_isPlace_5 rfl ?_
  exact e_tz hf (nar_t (zb_X7_in x0 0 35)) (RET 8 _ dX7_isPlace_8)
set_option maxHeartbeats 4000000 in
set_option maxRecDepth 20000 in
theorem c_X7_areGraves (l : Launch) (D : va_G) (K : Kt) (ad : Nat → Nat) (σ : St) (x1 : Int32) : CtI l yX7_areGraves cX7_areGraves 2 (some .boolean) 1 25 D K [.ref (ad 0), .int x1] (wM ad K σ) (f_X7_areGraves σ x1) (wM ad K σ) := by
  refine met_i pl_RX7 (Nat.le_of_ble_eq_true rfl) (fun X hnL B RET => ?_)
  generalize hf : f_X7_areGraves σ x1 = r at RET
  suffices h : MW X (wM ad K σ) 0 [some (.ref (ad 0)), some (.int x1)] [] from h
  unfold f_X7_areGraves at hf
  refine r_iload_n B (pc := 0) dX7_areGraves_0 rfl rfl ?_
  refine r_i2l B (pc := 1) dX7_areGraves_1 ?_
  refine r_lconst B (pc := 2) dX7_areGraves_2 kl_0 ?_
  refine r_iconst B (pc := 3) dX7_areGraves_3 kc_1 ?_
  refine r_aload_n B (pc := 4) dX7_areGraves_4 rfl rfl ?_
  refine gM_RX7_78_0 B (pc := 5) dX7_areGraves_5 ?_
  refine r_ishl B (pc := 8) dX7_areGraves_8 ?_
  refine r_iconst B (pc := 9) dX7_areGraves_9 kc_1 ?_
  refine r_isub B (pc := 10) dX7_areGraves_10 ?_
  refine r_i2l B (pc := 11) dX7_areGraves_11 ?_
  refine r_cSI B (c_X7_in X.l X.D K _ (x1.toInt64) 0 (((isl 1 (σ.1 0 3)) - 1).toInt64)) F_X7_in lk_RX7_81 (Nat.le_of_ble_eq_true rfl) (Nat.le_of_ble_eq_true rfl) (Nat.le_of_ble_eq_true rfl) (pc := 12) dX7_areGraves_12 rfl ?_
  exact e_tz hf (nar_t (zb_X7_in (x1.toInt64) 0 (((isl 1 (σ.1 0 3)) - 1).toInt64))) (RET 15 _ dX7_areGraves_15)
set_option maxHeartbeats 4000000 in
set_option maxRecDepth 20000 in
theorem c_X7_addGrave (l : Launch) (D : va_G) (K : Kt) (ad : Nat → Nat) (σ : St) (x1 : Int32) (x2 : Int32) (x3 : Int32) {τ : St} (hf : f_X7_addGrave σ x1 x2 x3 = some τ) : CtV l yX7_addGrave cX7_addGrave 4 none 0 0 D K [.ref (ad 0), .int x1, .int x2, .int x3] (wM ad K σ) (wM ad K τ) := by
  refine met_v pl_RX7 (Nat.le_of_ble_eq_true rfl) (fun X hnL B RET => ?_)
  suffices h : MW X (wM ad K σ) 0 [some (.ref (ad 0)), some (.int x1), some (.int x2), some (.int x3)] [] from h
  unfold f_X7_addGrave at hf
  refine r_aload_n B (pc := 0) dX7_addGrave_0 rfl rfl ?_
  refine gM_RX7_7_0 B (pc := 1) dX7_addGrave_1 ?_
  refine r_aload_n B (pc := 4) dX7_addGrave_4 rfl rfl ?_
  refine gM_RX7_78_0 B (pc := 5) dX7_addGrave_5 ?_
  refine r_iload_n B (pc := 8) dX7_addGrave_8 rfl rfl ?_
  refine astM_1 B (pc := 9) dX7_addGrave_9 hf (fun s1 _ hf => ?_)
  refine r_aload_n B (pc := 10) dX7_addGrave_10 rfl rfl ?_
  refine gM_RX7_13_0 B (pc := 11) dX7_addGrave_11 ?_
  refine r_aload_n B (pc := 14) dX7_addGrave_14 rfl rfl ?_
  refine gM_RX7_78_0 B (pc := 15) dX7_addGrave_15 ?_
  refine r_iload_n B (pc := 18) dX7_addGrave_18 rfl rfl ?_
  refine astM_2 B (pc := 19) dX7_addGrave_19 hf (fun s2 _ hf => ?_)
  refine r_aload_n B (pc := 20) dX7_addGrave_20 rfl rfl ?_
  refine gM_RX7_16_0 B (pc := 21) dX7_addGrave_21 ?_
  refine r_aload_n B (pc := 24) dX7_addGrave_24 rfl rfl ?_
  refine gM_RX7_78_0 B (pc := 25) dX7_addGrave_25 ?_
  refine r_iload_n B (pc := 28) dX7_addGrave_28 rfl rfl ?_
  refine astM_3 B (pc := 29) dX7_addGrave_29 hf (fun s3 _ hf => ?_)
  refine r_aload_n B (pc := 30) dX7_addGrave_30 rfl rfl ?_
  refine gM_RX7_38_0 B (pc := 31) dX7_addGrave_31 ?_
  refine r_iconst B (pc := 34) dX7_addGrave_34 kc_0 ?_
  refine r_aload_n B (pc := 35) dX7_addGrave_35 rfl rfl ?_
  refine gM_RX7_78_0 B (pc := 36) dX7_addGrave_36 ?_
  refine r_iadd B (pc := 39) dX7_addGrave_39 ?_
  refine r_iconst B (pc := 40) dX7_addGrave_40 kc_0 ?_
  refine astM_9 B (pc := 41) dX7_addGrave_41 hf (fun s4 _ hf => ?_)
  refine r_aload_n B (pc := 42) dX7_addGrave_42 rfl rfl ?_
  refine gM_RX7_38_0 B (pc := 43) dX7_addGrave_43 ?_
  refine r_bipush B (pc := 46) dX7_addGrave_46 kb_10 ?_
  refine r_aload_n B (pc := 48) dX7_addGrave_48 rfl rfl ?_
  refine gM_RX7_78_0 B (pc := 49) dX7_addGrave_49 ?_
  refine r_iadd B (pc := 52) dX7_addGrave_52 ?_
  refine r_iconst B (pc := 53) dX7_addGrave_53 kc_0 ?_
  refine astM_9 B (pc := 54) dX7_addGrave_54 hf (fun s5 _ hf => ?_)
  refine r_aload_n B (pc := 55) dX7_addGrave_55 rfl rfl ?_
  refine r_dup B (pc := 56) dX7_addGrave_56 rfl ?_
  refine gM_RX7_78_0 B (pc := 57) dX7_addGrave_57 ?_
  refine r_iconst B (pc := 60) dX7_addGrave_60 kc_1 ?_
  refine r_iadd B (pc := 61) dX7_addGrave_61 ?_
  refine pM_RX7_78_0 B (pc := 62) dX7_addGrave_62 hf (fun s6 hf => ?_)
  exact e_s (F := (wM ad K)) hf (RET 65 _ dX7_addGrave_65)
set_option maxHeartbeats 4000000 in
set_option maxRecDepth 20000 in
theorem c_X7_grave (l : Launch) (D : va_G) (K : Kt) (ad : Nat → Nat) (σ : St) (x1 : Int32) (x2 : Int32) (x3 : Int32) {r : Int32} {τ : St} (hf : f_X7_grave σ x1 x2 x3 = some (r, τ)) : CtI l yX7_grave cX7_grave 4 (some .int) 2 46 D K [.ref (ad 0), .int x1, .int x2, .int x3] (wM ad K σ) r (wM ad K τ) := by
  refine met_i pl_RX7 (Nat.le_of_ble_eq_true rfl) (fun X hnL B RET => ?_)
  suffices h : MW X (wM ad K σ) 0 [some (.ref (ad 0)), some (.int x1), some (.int x2), some (.int x3)] [] from h
  unfold f_X7_grave at hf
  refine r_iload_n B (pc := 0) dX7_grave_0 rfl rfl ?_
  refine r_i2l B (pc := 1) dX7_grave_1 ?_
  refine r_lconst B (pc := 2) dX7_grave_2 kl_0 ?_
  refine r_ldc2 B (pc := 3) kp_RX7_93 dX7_grave_3 ?_
  refine r_cSI B (c_X7_in X.l X.D K _ (x1.toInt64) 0 5) F_X7_in lk_RX7_81 (Nat.le_of_ble_eq_true rfl) (Nat.le_of_ble_eq_true rfl) (Nat.le_of_ble_eq_true rfl) (pc := 6) dX7_grave_6 rfl ?_
  refine r_if_eq B (pc := 9) (tgt := 32) dX7_grave_9 (by decide) hf (fun _ hf => ?_) (fun _ hf => ?_)
  · refine r_iconst B (pc := 32) dX7_grave_32 kc_m1 ?_
    exact e_pz (F := (wM ad K)) hf (nar_i _) (RET 33 _ dX7_grave_33)
  · refine r_iload_n B (pc := 12) dX7_grave_12 rfl rfl ?_
    refine r_i2l B (pc := 13) dX7_grave_13 ?_
    refine r_cSI B (c_X7_isPlace X.l X.D K _ (x2.toInt64)) F_X7_isPlace lk_RX7_95 (Nat.le_of_ble_eq_true rfl) (Nat.le_of_ble_eq_true rfl) (Nat.le_of_ble_eq_true rfl) (pc := 14) dX7_grave_14 rfl ?_
    refine r_if_eq B (pc := 17) (tgt := 32) dX7_grave_17 (by decide) hf (fun _ hf => ?_) (fun _ hf => ?_)
    · refine r_iconst B (pc := 32) dX7_grave_32 kc_m1 ?_
      exact e_pz (F := (wM ad K)) hf (nar_i _) (RET 33 _ dX7_grave_33)
    · refine r_iload_n B (pc := 20) dX7_grave_20 rfl rfl ?_
      refine r_i2l B (pc := 21) dX7_grave_21 ?_
      refine r_lconst B (pc := 22) dX7_grave_22 kl_0 ?_
      refine r_ldc2 B (pc := 23) kp_RX7_99 dX7_grave_23 ?_
      refine r_cSI B (c_X7_in X.l X.D K _ (x3.toInt64) 0 89) F_X7_in lk_RX7_81 (Nat.le_of_ble_eq_true rfl) (Nat.le_of_ble_eq_true rfl) (Nat.le_of_ble_eq_true rfl) (pc := 26) dX7_grave_26 rfl ?_
      refine r_if_ne B (pc := 29) (tgt := 34) dX7_grave_29 (by decide) hf (fun _ hf => ?_) (fun _ hf => ?_)
      · refine r_aload_n B (pc := 34) dX7_grave_34 rfl rfl ?_
        refine gM_RX7_78_0 B (pc := 35) dX7_grave_35 ?_
        refine r_bipush B (pc := 38) dX7_grave_38 kb_10 ?_
        refine r_icmp_ne B (pc := 40) (tgt := 46) dX7_grave_40 (by decide) hf (fun _ hf => ?_) (fun _ hf => ?_)
        · refine r_aload_n B (pc := 46) dX7_grave_46 rfl rfl ?_
          refine r_iload_n B (pc := 47) dX7_grave_47 rfl rfl ?_
          refine r_iload_n B (pc := 48) dX7_grave_48 rfl rfl ?_
          refine r_iload_n B (pc := 49) dX7_grave_49 rfl rfl ?_
          obtain ⟨s2, hc1, hf⟩ := bdr_e hf
          refine r_cVV B (c_X7_addGrave X.l X.D K ad σ x1 x2 x3 hc1) F_X7_addGrave lk_RX7_101 (q0 := 0) (ci := 7) rfl rfl (Nat.le_of_ble_eq_true rfl) (Nat.le_of_ble_eq_true rfl) (Nat.le_of_ble_eq_true rfl) (pc := 50) dX7_grave_50 rfl ?_
          refine r_aload_n B (pc := 53) dX7_grave_53 rfl rfl ?_
          refine gM_RX7_78_0 B (pc := 54) dX7_grave_54 ?_
          refine r_iconst B (pc := 57) dX7_grave_57 kc_1 ?_
          refine r_isub B (pc := 58) dX7_grave_58 ?_
          exact e_pz (F := (wM ad K)) hf (nar_i _) (RET 59 _ dX7_grave_59)
        · refine r_bipush B (pc := 43) dX7_grave_43 kb_m3 ?_
          exact e_pz (F := (wM ad K)) hf (nar_i _) (RET 45 _ dX7_grave_45)
      · refine r_iconst B (pc := 32) dX7_grave_32 kc_m1 ?_
        exact e_pz (F := (wM ad K)) hf (nar_i _) (RET 33 _ dX7_grave_33)
set_option maxHeartbeats 4000000 in
set_option maxRecDepth 20000 in
theorem c_X7_out (l : Launch) (D : va_G) (K : Kt) (ad : Nat → Nat) (σ : St) {r : Int32} {τ : St} (hf : f_X7_out σ = some (r, τ)) : CtI l yX7_out cX7_out 1 (some .int) 0 0 D K [.ref (ad 0)] (wM ad K σ) r (wM ad K τ) := by
  refine met_i pl_RX7 (Nat.le_of_ble_eq_true rfl) (fun X hnL B RET => ?_)
  suffices h : MW X (wM ad K σ) 0 [some (.ref (ad 0))] [] from h
  unfold f_X7_out at hf
  refine r_aload_n B (pc := 0) dX7_out_0 rfl rfl ?_
  refine gM_RX7_78_0 B (pc := 1) dX7_out_1 ?_
  refine r_if_ne B (pc := 4) (tgt := 10) dX7_out_4 (by decide) hf (fun _ hf => ?_) (fun _ hf => ?_)
  · refine r_aload_n B (pc := 10) dX7_out_10 rfl rfl ?_
    refine r_dup B (pc := 11) dX7_out_11 rfl ?_
    refine gM_RX7_78_0 B (pc := 12) dX7_out_12 ?_
    refine r_iconst B (pc := 15) dX7_out_15 kc_1 ?_
    refine r_isub B (pc := 16) dX7_out_16 ?_
    refine pM_RX7_78_0 B (pc := 17) dX7_out_17 hf (fun s1 hf => ?_)
    refine r_aload_n B (pc := 20) dX7_out_20 rfl rfl ?_
    refine gM_RX7_38_0 B (pc := 21) dX7_out_21 ?_
    refine r_iconst B (pc := 24) dX7_out_24 kc_0 ?_
    refine r_aload_n B (pc := 25) dX7_out_25 rfl rfl ?_
    refine gM_RX7_78_0 B (pc := 26) dX7_out_26 ?_
    refine r_iadd B (pc := 29) dX7_out_29 ?_
    refine r_iconst B (pc := 30) dX7_out_30 kc_0 ?_
    refine astM_9 B (pc := 31) dX7_out_31 hf (fun s2 _ hf => ?_)
    refine r_aload_n B (pc := 32) dX7_out_32 rfl rfl ?_
    refine gM_RX7_38_0 B (pc := 33) dX7_out_33 ?_
    refine r_bipush B (pc := 36) dX7_out_36 kb_10 ?_
    refine r_aload_n B (pc := 38) dX7_out_38 rfl rfl ?_
    refine gM_RX7_78_0 B (pc := 39) dX7_out_39 ?_
    refine r_iadd B (pc := 42) dX7_out_42 ?_
    refine r_iconst B (pc := 43) dX7_out_43 kc_0 ?_
    refine astM_9 B (pc := 44) dX7_out_44 hf (fun s3 _ hf => ?_)
    refine r_aload_n B (pc := 45) dX7_out_45 rfl rfl ?_
    refine r_iconst B (pc := 46) dX7_out_46 kc_0 ?_
    refine pM_RX7_105_0 B (pc := 47) dX7_out_47 hf (fun s4 hf => ?_)
    refine r_aload_n B (pc := 50) dX7_out_50 rfl rfl ?_
    refine gM_RX7_78_0 B (pc := 51) dX7_out_51 ?_
    exact e_pz (F := (wM ad K)) hf (nar_i _) (RET 54 _ dX7_out_54)
  · refine r_bipush B (pc := 7) dX7_out_7 kb_m4 ?_
    exact e_pz (F := (wM ad K)) hf (nar_i _) (RET 9 _ dX7_out_9)
set_option maxHeartbeats 4000000 in
set_option maxRecDepth 20000 in
theorem c_X7_reader (l : Launch) (D : va_G) (K : Kt) (ad : Nat → Nat) (σ : St) (x1 : Int32) {r : Int32} {τ : St} (hf : f_X7_reader σ x1 = some (r, τ)) : CtI l yX7_reader cX7_reader 2 (some .int) 1 25 D K [.ref (ad 0), .int x1] (wM ad K σ) r (wM ad K τ) := by
  refine met_i pl_RX7 (Nat.le_of_ble_eq_true rfl) (fun X hnL B RET => ?_)
  suffices h : MW X (wM ad K σ) 0 [some (.ref (ad 0)), some (.int x1)] [] from h
  unfold f_X7_reader at hf
  refine r_iload_n B (pc := 0) dX7_reader_0 rfl rfl ?_
  refine r_i2l B (pc := 1) dX7_reader_1 ?_
  refine r_lconst B (pc := 2) dX7_reader_2 kl_0 ?_
  refine r_ldc2 B (pc := 3) kp_RX7_108 dX7_reader_3 ?_
  refine r_cSI B (c_X7_in X.l X.D K _ (x1.toInt64) 0 9) F_X7_in lk_RX7_81 (Nat.le_of_ble_eq_true rfl) (Nat.le_of_ble_eq_true rfl) (Nat.le_of_ble_eq_true rfl) (pc := 6) dX7_reader_6 rfl ?_
  refine r_if_ne B (pc := 9) (tgt := 14) dX7_reader_9 (by decide) hf (fun _ hf => ?_) (fun _ hf => ?_)
  · refine r_aload_n B (pc := 14) dX7_reader_14 rfl rfl ?_
    refine gM_RX7_88_0 B (pc := 15) dX7_reader_15 ?_
    refine r_iconst B (pc := 18) dX7_reader_18 kc_4 ?_
    refine r_icmp_ne B (pc := 19) (tgt := 25) dX7_reader_19 (by decide) hf (fun _ hf => ?_) (fun _ hf => ?_)
    · refine r_aload_n B (pc := 25) dX7_reader_25 rfl rfl ?_
      refine gM_RX7_28_0 B (pc := 26) dX7_reader_26 ?_
      refine r_aload_n B (pc := 29) dX7_reader_29 rfl rfl ?_
      refine gM_RX7_88_0 B (pc := 30) dX7_reader_30 ?_
      refine r_iload_n B (pc := 33) dX7_reader_33 rfl rfl ?_
      refine astM_7 B (pc := 34) dX7_reader_34 hf (fun s1 _ hf => ?_)
      refine r_aload_n B (pc := 35) dX7_reader_35 rfl rfl ?_
      refine r_dup B (pc := 36) dX7_reader_36 rfl ?_
      refine gM_RX7_88_0 B (pc := 37) dX7_reader_37 ?_
      refine r_iconst B (pc := 40) dX7_reader_40 kc_1 ?_
      refine r_iadd B (pc := 41) dX7_reader_41 ?_
      refine pM_RX7_88_0 B (pc := 42) dX7_reader_42 hf (fun s2 hf => ?_)
      refine r_aload_n B (pc := 45) dX7_reader_45 rfl rfl ?_
      refine gM_RX7_88_0 B (pc := 46) dX7_reader_46 ?_
      refine r_iconst B (pc := 49) dX7_reader_49 kc_1 ?_
      refine r_isub B (pc := 50) dX7_reader_50 ?_
      exact e_pz (F := (wM ad K)) hf (nar_i _) (RET 51 _ dX7_reader_51)
    · refine r_bipush B (pc := 22) dX7_reader_22 kb_m3 ?_
      exact e_pz (F := (wM ad K)) hf (nar_i _) (RET 24 _ dX7_reader_24)
  · refine r_iconst B (pc := 12) dX7_reader_12 kc_m1 ?_
    exact e_pz (F := (wM ad K)) hf (nar_i _) (RET 13 _ dX7_reader_13)
set_option maxHeartbeats 4000000 in
set_option maxRecDepth 20000 in
theorem c_X7_mayBeAhead (l : Launch) (D : va_G) (K : Kt) (ad : Nat → Nat) (σ : St) (x1 : Int32) {r : Int32} (hf : f_X7_mayBeAhead σ x1 = some r) : CtI l yX7_mayBeAhead cX7_mayBeAhead 4 (some .int) 0 0 D K [.ref (ad 0), .int x1] (wM ad K σ) r (wM ad K σ) := by
  refine met_i pl_RX7 (Nat.le_of_ble_eq_true rfl) (fun X hnL B RET => ?_)
  suffices h : MW X (wM ad K σ) 0 [some (.ref (ad 0)), some (.int x1), none, none] [] from h
  unfold f_X7_mayBeAhead at hf
  refine r_iconst B (pc := 0) dX7_mayBeAhead_0 kc_0 ?_
  refine r_istore_n B hnL (pc := 1) dX7_mayBeAhead_1 rfl (by decide) ?_
  refine r_lc (loc' := [some (.ref (ad 0)), some (.int x1), some (.int 0), none]) rfl ?_
  refine r_iconst B (pc := 2) dX7_mayBeAhead_2 kc_0 ?_
  refine r_istore_n B hnL (pc := 3) dX7_mayBeAhead_3 rfl (by decide) ?_
  refine r_lc (loc' := [some (.ref (ad 0)), some (.int x1), some (.int 0), some (.int 0)]) rfl ?_
  have k4 : ∀ (n4 : Nat) (v2 : Int32) (v3 : Int32), f_X7_mayBeAhead_h4 σ x1 n4 v2 v3 = some r → MW X (wM ad K σ) 4 [some (.ref (ad 0)), some (.int x1), some (.int v2), some (.int v3)] [] := by
    intro n4
    induction n4 with
    | zero => intro v2 v3 hf; exact nn_z hf
    | succ n4 ih4 =>
      intro v2 v3 hf
      rw [f_X7_mayBeAhead_h4] at hf
      refine r_iload_n B (pc := 4) dX7_mayBeAhead_4 rfl rfl ?_
      refine r_aload_n B (pc := 5) dX7_mayBeAhead_5 rfl rfl ?_
      refine gM_RX7_85_0 B (pc := 6) dX7_mayBeAhead_6 ?_
      refine r_icmp_ge B (pc := 9) (tgt := 38) dX7_mayBeAhead_9 (by decide) hf (fun _ hf => ?_) (fun _ hf => ?_)
      · refine r_iload_n B (pc := 38) dX7_mayBeAhead_38 rfl rfl ?_
        exact e_rz hf (nar_i _) (RET 39 _ dX7_mayBeAhead_39)
      · refine r_iload_n B (pc := 12) dX7_mayBeAhead_12 rfl rfl ?_
        refine r_aload_n B (pc := 13) dX7_mayBeAhead_13 rfl rfl ?_
        refine gM_RX7_19_0 B (pc := 14) dX7_mayBeAhead_14 ?_
        refine r_iload_n B (pc := 17) dX7_mayBeAhead_17 rfl rfl ?_
        refine aldM_4 B (pc := 18) dX7_mayBeAhead_18 hf (fun _ hf => ?_)
        refine r_iload_n B (pc := 19) dX7_mayBeAhead_19 rfl rfl ?_
        have k30 : ∀ (v3 : Int32) (t0 : Int32) (t1 : Int32), f_X7_mayBeAhead_b30 (f_X7_mayBeAhead_h4 σ x1 n4) σ x1 v3 t0 t1 = some r → MW X (wM ad K σ) 30 [some (.ref (ad 0)), some (.int x1), none, some (.int v3)] [.int t0, .int t1] := by
          intro v3 t0 t1 hf
          unfold f_X7_mayBeAhead_b30 at hf
          refine r_ior B (pc := 30) dX7_mayBeAhead_30 ?_
          refine r_nm hf (fun y1 hf => ?_)
          refine r_istore_n B hnL (pc := 31) dX7_mayBeAhead_31 rfl (by decide) ?_
          refine r_lc (loc' := [some (.ref (ad 0)), some (.int x1), some (.int y1), some (.int v3)]) rfl ?_
          refine r_iincS B hnL (pc := 32) dX7_mayBeAhead_32 rfl kc_1 (by decide) hf (fun y2 hf => ?_)
          refine r_lc (loc' := [some (.ref (ad 0)), some (.int x1), some (.int y1), some (.int y2)]) rfl ?_
          refine r_goto B (pc := 35) (tgt := 4) dX7_mayBeAhead_35 (by decide) ?_
          exact r_mask [true, true, true, true] rfl (ih4 y1 y2 hf)
        refine r_icmp_gt B (pc := 20) (tgt := 29) dX7_mayBeAhead_20 (by decide) hf (fun _ hf => ?_) (fun _ hf => ?_)
        · refine r_iconst B (pc := 29) dX7_mayBeAhead_29 kc_0 ?_
          exact r_mask [true, true, false, true] rfl (k30 v3 0 v2 hf)
        · refine r_iconst B (pc := 23) dX7_mayBeAhead_23 kc_1 ?_
          refine r_iload_n B (pc := 24) dX7_mayBeAhead_24 rfl rfl ?_
          refine r_ishl B (pc := 25) dX7_mayBeAhead_25 ?_
          refine r_goto B (pc := 26) (tgt := 30) dX7_mayBeAhead_26 (by decide) ?_
          exact r_mask [true, true, false, true] rfl (k30 v3 (isl 1 v3) v2 hf)
  exact r_mask [true, true, true, true] rfl (k4 FU 0 0 hf)
set_option maxHeartbeats 4000000 in
set_option maxRecDepth 20000 in
theorem c_X7_addNews (l : Launch) (D : va_G) (K : Kt) (ad : Nat → Nat) (σ : St) (x1 : Int32) (x2 : Int32) (x3 : Int32) (x4 : Int32) {τ : St} (hf : f_X7_addNews σ x1 x2 x3 x4 = some τ) : CtV l yX7_addNews cX7_addNews 5 none 0 0 D K [.ref (ad 0), .int x1, .int x2, .int x3, .int x4] (wM ad K σ) (wM ad K τ) := by
  refine met_v pl_RX7 (Nat.le_of_ble_eq_true rfl) (fun X hnL B RET => ?_)
  suffices h : MW X (wM ad K σ) 0 [some (.ref (ad 0)), some (.int x1), some (.int x2), some (.int x3), some (.int x4)] [] from h
  unfold f_X7_addNews at hf
  refine r_aload_n B (pc := 0) dX7_addNews_0 rfl rfl ?_
  refine gM_RX7_19_0 B (pc := 1) dX7_addNews_1 ?_
  refine r_aload_n B (pc := 4) dX7_addNews_4 rfl rfl ?_
  refine gM_RX7_85_0 B (pc := 5) dX7_addNews_5 ?_
  refine r_iload_n B (pc := 8) dX7_addNews_8 rfl rfl ?_
  refine astM_4 B (pc := 9) dX7_addNews_9 hf (fun s1 _ hf => ?_)
  refine r_aload_n B (pc := 10) dX7_addNews_10 rfl rfl ?_
  refine gM_RX7_22_0 B (pc := 11) dX7_addNews_11 ?_
  refine r_aload_n B (pc := 14) dX7_addNews_14 rfl rfl ?_
  refine gM_RX7_85_0 B (pc := 15) dX7_addNews_15 ?_
  refine r_iload_n B (pc := 18) dX7_addNews_18 rfl rfl ?_
  refine astM_5 B (pc := 19) dX7_addNews_19 hf (fun s2 _ hf => ?_)
  refine r_aload_n B (pc := 20) dX7_addNews_20 rfl rfl ?_
  refine gM_RX7_25_0 B (pc := 21) dX7_addNews_21 ?_
  refine r_aload_n B (pc := 24) dX7_addNews_24 rfl rfl ?_
  refine gM_RX7_85_0 B (pc := 25) dX7_addNews_25 ?_
  refine r_iload_n B (pc := 28) dX7_addNews_28 rfl rfl ?_
  refine astM_6 B (pc := 29) dX7_addNews_29 hf (fun s3 _ hf => ?_)
  refine r_aload_n B (pc := 30) dX7_addNews_30 rfl rfl ?_
  refine r_aload_n B (pc := 31) dX7_addNews_31 rfl rfl ?_
  refine gM_RX7_110_0 B (pc := 32) dX7_addNews_32 ?_
  refine r_iconst B (pc := 35) dX7_addNews_35 kc_1 ?_
  refine r_aload_n B (pc := 36) dX7_addNews_36 rfl rfl ?_
  refine gM_RX7_85_0 B (pc := 37) dX7_addNews_37 ?_
  refine r_ishl B (pc := 40) dX7_addNews_40 ?_
  refine r_iconst B (pc := 41) dX7_addNews_41 kc_m1 ?_
  refine r_ixor B (pc := 42) dX7_addNews_42 ?_
  refine r_iand B (pc := 43) dX7_addNews_43 ?_
  refine r_iload B (pc := 44) dX7_addNews_44 rfl ?_
  refine r_aload_n B (pc := 46) dX7_addNews_46 rfl rfl ?_
  refine gM_RX7_85_0 B (pc := 47) dX7_addNews_47 ?_
  refine r_ishl B (pc := 50) dX7_addNews_50 ?_
  refine r_ior B (pc := 51) dX7_addNews_51 ?_
  refine pM_RX7_110_0 B (pc := 52) dX7_addNews_52 hf (fun s4 hf => ?_)
  refine r_aload_n B (pc := 55) dX7_addNews_55 rfl rfl ?_
  refine r_dup B (pc := 56) dX7_addNews_56 rfl ?_
  refine gM_RX7_85_0 B (pc := 57) dX7_addNews_57 ?_
  refine r_iconst B (pc := 60) dX7_addNews_60 kc_1 ?_
  refine r_iadd B (pc := 61) dX7_addNews_61 ?_
  refine pM_RX7_85_0 B (pc := 62) dX7_addNews_62 hf (fun s5 hf => ?_)
  exact e_s (F := (wM ad K)) hf (RET 65 _ dX7_addNews_65)
set_option maxHeartbeats 4000000 in
set_option maxRecDepth 20000 in
theorem c_X7_news (l : Launch) (D : va_G) (K : Kt) (ad : Nat → Nat) (σ : St) (x1 : Int32) (x2 : Int32) (x3 : Int32) {r : Int32} {τ : St} (hf : f_X7_news σ x1 x2 x3 = some (r, τ)) : CtI l yX7_news cX7_news 4 (some .int) 1 25 D K [.ref (ad 0), .int x1, .int x2, .int x3] (wM ad K σ) r (wM ad K τ) := by
  refine met_i pl_RX7 (Nat.le_of_ble_eq_true rfl) (fun X hnL B RET => ?_)
  suffices h : MW X (wM ad K σ) 0 [some (.ref (ad 0)), some (.int x1), some (.int x2), some (.int x3)] [] from h
  unfold f_X7_news at hf
  refine r_iload_n B (pc := 0) dX7_news_0 rfl rfl ?_
  refine r_i2l B (pc := 1) dX7_news_1 ?_
  refine r_lconst B (pc := 2) dX7_news_2 kl_0 ?_
  refine r_ldc2 B (pc := 3) kp_RX7_113 dX7_news_3 ?_
  refine r_cSI B (c_X7_in X.l X.D K _ (x1.toInt64) 0 99) F_X7_in lk_RX7_81 (Nat.le_of_ble_eq_true rfl) (Nat.le_of_ble_eq_true rfl) (Nat.le_of_ble_eq_true rfl) (pc := 6) dX7_news_6 rfl ?_
  refine r_if_eq B (pc := 9) (tgt := 38) dX7_news_9 (by decide) hf (fun _ hf => ?_) (fun _ hf => ?_)
  · refine r_iconst B (pc := 38) dX7_news_38 kc_m1 ?_
    exact e_pz (F := (wM ad K)) hf (nar_i _) (RET 39 _ dX7_news_39)
  · refine r_iload_n B (pc := 12) dX7_news_12 rfl rfl ?_
    refine r_if_lt B (pc := 13) (tgt := 38) dX7_news_13 (by decide) hf (fun _ hf => ?_) (fun _ hf => ?_)
    · refine r_iconst B (pc := 38) dX7_news_38 kc_m1 ?_
      exact e_pz (F := (wM ad K)) hf (nar_i _) (RET 39 _ dX7_news_39)
    · refine r_iload_n B (pc := 16) dX7_news_16 rfl rfl ?_
      refine r_aload_n B (pc := 17) dX7_news_17 rfl rfl ?_
      refine r_iload_n B (pc := 18) dX7_news_18 rfl rfl ?_
      obtain ⟨r2, hc1, hf⟩ := bdr_e hf
      refine r_cVI B (c_X7_mayBeAhead X.l X.D K ad σ x1 hc1) F_X7_mayBeAhead lk_RX7_115 (q0 := 0) (ci := 7) rfl rfl (Nat.le_of_ble_eq_true rfl) (Nat.le_of_ble_eq_true rfl) (Nat.le_of_ble_eq_true rfl) (pc := 19) dX7_news_19 rfl ?_
      refine r_iconst B (pc := 22) dX7_news_22 kc_m1 ?_
      refine r_ixor B (pc := 23) dX7_news_23 ?_
      refine r_iand B (pc := 24) dX7_news_24 ?_
      refine r_if_ne B (pc := 25) (tgt := 38) dX7_news_25 (by decide) hf (fun _ hf => ?_) (fun _ hf => ?_)
      · refine r_iconst B (pc := 38) dX7_news_38 kc_m1 ?_
        exact e_pz (F := (wM ad K)) hf (nar_i _) (RET 39 _ dX7_news_39)
      · refine r_iload_n B (pc := 28) dX7_news_28 rfl rfl ?_
        refine r_i2l B (pc := 29) dX7_news_29 ?_
        refine r_lconst B (pc := 30) dX7_news_30 kl_0 ?_
        refine r_lconst B (pc := 31) dX7_news_31 kl_1 ?_
        refine r_cSI B (c_X7_in X.l X.D K _ (x3.toInt64) 0 1) F_X7_in lk_RX7_81 (Nat.le_of_ble_eq_true rfl) (Nat.le_of_ble_eq_true rfl) (Nat.le_of_ble_eq_true rfl) (pc := 32) dX7_news_32 rfl ?_
        refine r_if_ne B (pc := 35) (tgt := 40) dX7_news_35 (by decide) hf (fun _ hf => ?_) (fun _ hf => ?_)
        · refine r_aload_n B (pc := 40) dX7_news_40 rfl rfl ?_
          refine gM_RX7_85_0 B (pc := 41) dX7_news_41 ?_
          refine r_bipush B (pc := 44) dX7_news_44 kb_12 ?_
          refine r_icmp_ne B (pc := 46) (tgt := 52) dX7_news_46 (by decide) hf (fun _ hf => ?_) (fun _ hf => ?_)
          · refine r_aload_n B (pc := 52) dX7_news_52 rfl rfl ?_
            refine r_iload_n B (pc := 53) dX7_news_53 rfl rfl ?_
            refine r_iload_n B (pc := 54) dX7_news_54 rfl rfl ?_
            refine r_iconst B (pc := 55) dX7_news_55 kc_0 ?_
            refine r_iload_n B (pc := 56) dX7_news_56 rfl rfl ?_
            obtain ⟨s4, hc3, hf⟩ := bdr_e hf
            refine r_cVV B (c_X7_addNews X.l X.D K ad σ x1 x2 0 x3 hc3) F_X7_addNews lk_RX7_119 (q0 := 0) (ci := 7) rfl rfl (Nat.le_of_ble_eq_true rfl) (Nat.le_of_ble_eq_true rfl) (Nat.le_of_ble_eq_true rfl) (pc := 57) dX7_news_57 rfl ?_
            refine r_aload_n B (pc := 60) dX7_news_60 rfl rfl ?_
            refine gM_RX7_85_0 B (pc := 61) dX7_news_61 ?_
            refine r_iconst B (pc := 64) dX7_news_64 kc_1 ?_
            refine r_isub B (pc := 65) dX7_news_65 ?_
            exact e_pz (F := (wM ad K)) hf (nar_i _) (RET 66 _ dX7_news_66)
          · refine r_bipush B (pc := 49) dX7_news_49 kb_m3 ?_
            exact e_pz (F := (wM ad K)) hf (nar_i _) (RET 51 _ dX7_news_51)
        · refine r_iconst B (pc := 38) dX7_news_38 kc_m1 ?_
          exact e_pz (F := (wM ad K)) hf (nar_i _) (RET 39 _ dX7_news_39)
set_option maxHeartbeats 4000000 in
set_option maxRecDepth 20000 in
theorem c_X7_bar (l : Launch) (D : va_G) (K : Kt) (ad : Nat → Nat) (σ : St) (x1 : Int32) (x2 : Int32) {r : Int32} {τ : St} (hf : f_X7_bar σ x1 x2 = some (r, τ)) : CtI l yX7_bar cX7_bar 4 (some .int) 2 47 D K [.ref (ad 0), .int x1, .int x2] (wM ad K σ) r (wM ad K τ) := by
  refine met_i pl_RX7 (Nat.le_of_ble_eq_true rfl) (fun X hnL B RET => ?_)
  suffices h : MW X (wM ad K σ) 0 [some (.ref (ad 0)), some (.int x1), some (.int x2), none] [] from h
  unfold f_X7_bar at hf
  refine r_aload_n B (pc := 0) dX7_bar_0 rfl rfl ?_
  refine r_iload_n B (pc := 1) dX7_bar_1 rfl rfl ?_
  refine r_i2l B (pc := 2) dX7_bar_2 ?_
  refine r_cVI B (c_X7_isNews X.l X.D K ad σ (x1.toInt64)) F_X7_isNews lk_RX7_123 (q0 := 0) (ci := 7) rfl rfl (Nat.le_of_ble_eq_true rfl) (Nat.le_of_ble_eq_true rfl) (Nat.le_of_ble_eq_true rfl) (pc := 3) dX7_bar_3 rfl ?_
  refine r_if_eq B (pc := 6) (tgt := 21) dX7_bar_6 (by decide) hf (fun _ hf => ?_) (fun _ hf => ?_)
  · refine r_iconst B (pc := 21) dX7_bar_21 kc_m1 ?_
    exact e_pz (F := (wM ad K)) hf (nar_i _) (RET 22 _ dX7_bar_22)
  · refine r_iload_n B (pc := 9) dX7_bar_9 rfl rfl ?_
    refine r_i2l B (pc := 10) dX7_bar_10 ?_
    refine r_lconst B (pc := 11) dX7_bar_11 kl_0 ?_
    refine r_ldc2 B (pc := 12) kp_RX7_126 dX7_bar_12 ?_
    refine r_cSI B (c_X7_in X.l X.D K _ (x2.toInt64) 0 1023) F_X7_in lk_RX7_81 (Nat.le_of_ble_eq_true rfl) (Nat.le_of_ble_eq_true rfl) (Nat.le_of_ble_eq_true rfl) (pc := 15) dX7_bar_15 rfl ?_
    refine r_if_ne B (pc := 18) (tgt := 23) dX7_bar_18 (by decide) hf (fun _ hf => ?_) (fun _ hf => ?_)
    · refine r_aload_n B (pc := 23) dX7_bar_23 rfl rfl ?_
      refine gM_RX7_25_0 B (pc := 24) dX7_bar_24 ?_
      refine r_iload_n B (pc := 27) dX7_bar_27 rfl rfl ?_
      refine aldM_6 B (pc := 28) dX7_bar_28 hf (fun _ hf => ?_)
      refine r_nm hf (fun y1 hf => ?_)
      refine r_istore_n B hnL (pc := 29) dX7_bar_29 rfl (by decide) ?_
      refine r_lc (loc' := [some (.ref (ad 0)), some (.int x1), some (.int x2), some (.int y1)]) rfl ?_
      refine r_aload_n B (pc := 30) dX7_bar_30 rfl rfl ?_
      refine gM_RX7_25_0 B (pc := 31) dX7_bar_31 ?_
      refine r_iload_n B (pc := 34) dX7_bar_34 rfl rfl ?_
      refine r_iload_n B (pc := 35) dX7_bar_35 rfl rfl ?_
      refine astM_6 B (pc := 36) dX7_bar_36 hf (fun s2 _ hf => ?_)
      refine r_iload_n B (pc := 37) dX7_bar_37 rfl rfl ?_
      exact e_pz (F := (wM ad K)) hf (nar_i _) (RET 38 _ dX7_bar_38)
    · refine r_iconst B (pc := 21) dX7_bar_21 kc_m1 ?_
      exact e_pz (F := (wM ad K)) hf (nar_i _) (RET 22 _ dX7_bar_22)
set_option maxHeartbeats 4000000 in
set_option maxRecDepth 20000 in
theorem c_X7_wind (l : Launch) (D : va_G) (K : Kt) (ad : Nat → Nat) (σ : St) (x1 : Int32) {r : Int32} {τ : St} (hf : f_X7_wind σ x1 = some (r, τ)) : CtI l yX7_wind cX7_wind 3 (some .int) 1 25 D K [.ref (ad 0), .int x1] (wM ad K σ) r (wM ad K τ) := by
  refine met_i pl_RX7 (Nat.le_of_ble_eq_true rfl) (fun X hnL B RET => ?_)
  suffices h : MW X (wM ad K σ) 0 [some (.ref (ad 0)), some (.int x1), none] [] from h
  unfold f_X7_wind at hf
  refine r_iload_n B (pc := 0) dX7_wind_0 rfl rfl ?_
  refine r_i2l B (pc := 1) dX7_wind_1 ?_
  refine r_lconst B (pc := 2) dX7_wind_2 kl_0 ?_
  refine r_ldc2 B (pc := 3) kp_RX7_128 dX7_wind_3 ?_
  refine r_cSI B (c_X7_in X.l X.D K _ (x1.toInt64) 0 4) F_X7_in lk_RX7_81 (Nat.le_of_ble_eq_true rfl) (Nat.le_of_ble_eq_true rfl) (Nat.le_of_ble_eq_true rfl) (pc := 6) dX7_wind_6 rfl ?_
  refine r_if_ne B (pc := 9) (tgt := 14) dX7_wind_9 (by decide) hf (fun _ hf => ?_) (fun _ hf => ?_)
  · refine r_aload_n B (pc := 14) dX7_wind_14 rfl rfl ?_
    refine gM_RX7_130_0 B (pc := 15) dX7_wind_15 ?_
    refine r_nm hf (fun y1 hf => ?_)
    refine r_istore_n B hnL (pc := 18) dX7_wind_18 rfl (by decide) ?_
    refine r_lc (loc' := [some (.ref (ad 0)), some (.int x1), some (.int y1)]) rfl ?_
    refine r_aload_n B (pc := 19) dX7_wind_19 rfl rfl ?_
    refine r_iload_n B (pc := 20) dX7_wind_20 rfl rfl ?_
    refine pM_RX7_130_0 B (pc := 21) dX7_wind_21 hf (fun s2 hf => ?_)
    refine r_iload_n B (pc := 24) dX7_wind_24 rfl rfl ?_
    exact e_pz (F := (wM ad K)) hf (nar_i _) (RET 25 _ dX7_wind_25)
  · refine r_iconst B (pc := 12) dX7_wind_12 kc_m1 ?_
    exact e_pz (F := (wM ad K)) hf (nar_i _) (RET 13 _ dX7_wind_13)
set_option maxHeartbeats 4000000 in
set_option maxRecDepth 20000 in
theorem c_X7_weight (l : Launch) (D : va_G) (K : Kt) (ad : Nat → Nat) (σ : St) (x1 : Int32) (x2 : Int32) {r : Int32} {τ : St} (hf : f_X7_weight σ x1 x2 = some (r, τ)) : CtI l yX7_weight cX7_weight 4 (some .int) 1 25 D K [.ref (ad 0), .int x1, .int x2] (wM ad K σ) r (wM ad K τ) := by
  refine met_i pl_RX7 (Nat.le_of_ble_eq_true rfl) (fun X hnL B RET => ?_)
  suffices h : MW X (wM ad K σ) 0 [some (.ref (ad 0)), some (.int x1), some (.int x2), none] [] from h
  unfold f_X7_weight at hf
  refine r_iload_n B (pc := 0) dX7_weight_0 rfl rfl ?_
  refine r_i2l B (pc := 1) dX7_weight_1 ?_
  refine r_lconst B (pc := 2) dX7_weight_2 kl_0 ?_
  refine r_ldc2 B (pc := 3) kp_RX7_128 dX7_weight_3 ?_
  refine r_cSI B (c_X7_in X.l X.D K _ (x1.toInt64) 0 4) F_X7_in lk_RX7_81 (Nat.le_of_ble_eq_true rfl) (Nat.le_of_ble_eq_true rfl) (Nat.le_of_ble_eq_true rfl) (pc := 6) dX7_weight_6 rfl ?_
  refine r_if_eq B (pc := 9) (tgt := 24) dX7_weight_9 (by decide) hf (fun _ hf => ?_) (fun _ hf => ?_)
  · refine r_iconst B (pc := 24) dX7_weight_24 kc_m1 ?_
    exact e_pz (F := (wM ad K)) hf (nar_i _) (RET 25 _ dX7_weight_25)
  · refine r_iload_n B (pc := 12) dX7_weight_12 rfl rfl ?_
    refine r_i2l B (pc := 13) dX7_weight_13 ?_
    refine r_lconst B (pc := 14) dX7_weight_14 kl_0 ?_
    refine r_ldc2 B (pc := 15) kp_RX7_108 dX7_weight_15 ?_
    refine r_cSI B (c_X7_in X.l X.D K _ (x2.toInt64) 0 9) F_X7_in lk_RX7_81 (Nat.le_of_ble_eq_true rfl) (Nat.le_of_ble_eq_true rfl) (Nat.le_of_ble_eq_true rfl) (pc := 18) dX7_weight_18 rfl ?_
    refine r_if_ne B (pc := 21) (tgt := 26) dX7_weight_21 (by decide) hf (fun _ hf => ?_) (fun _ hf => ?_)
    · refine r_aload_n B (pc := 26) dX7_weight_26 rfl rfl ?_
      refine gM_RX7_31_0 B (pc := 27) dX7_weight_27 ?_
      refine r_iload_n B (pc := 30) dX7_weight_30 rfl rfl ?_
      refine aldM_8 B (pc := 31) dX7_weight_31 hf (fun _ hf => ?_)
      refine r_nm hf (fun y1 hf => ?_)
      refine r_istore_n B hnL (pc := 32) dX7_weight_32 rfl (by decide) ?_
      refine r_lc (loc' := [some (.ref (ad 0)), some (.int x1), some (.int x2), some (.int y1)]) rfl ?_
      refine r_aload_n B (pc := 33) dX7_weight_33 rfl rfl ?_
      refine gM_RX7_31_0 B (pc := 34) dX7_weight_34 ?_
      refine r_iload_n B (pc := 37) dX7_weight_37 rfl rfl ?_
      refine r_iload_n B (pc := 38) dX7_weight_38 rfl rfl ?_
      refine astM_8 B (pc := 39) dX7_weight_39 hf (fun s2 _ hf => ?_)
      refine r_iload_n B (pc := 40) dX7_weight_40 rfl rfl ?_
      exact e_pz (F := (wM ad K)) hf (nar_i _) (RET 41 _ dX7_weight_41)
    · refine r_iconst B (pc := 24) dX7_weight_24 kc_m1 ?_
      exact e_pz (F := (wM ad K)) hf (nar_i _) (RET 25 _ dX7_weight_25)
set_option maxHeartbeats 4000000 in
set_option maxRecDepth 20000 in
theorem c_X7_now (l : Launch) (D : va_G) (K : Kt) (ad : Nat → Nat) (σ : St) (x1 : Int32) {r : Int32} {τ : St} (hf : f_X7_now σ x1 = some (r, τ)) : CtI l yX7_now cX7_now 3 (some .int) 1 25 D K [.ref (ad 0), .int x1] (wM ad K σ) r (wM ad K τ) := by
  refine met_i pl_RX7 (Nat.le_of_ble_eq_true rfl) (fun X hnL B RET => ?_)
  suffices h : MW X (wM ad K σ) 0 [some (.ref (ad 0)), some (.int x1), none] [] from h
  unfold f_X7_now at hf
  refine r_iload_n B (pc := 0) dX7_now_0 rfl rfl ?_
  refine r_i2l B (pc := 1) dX7_now_1 ?_
  refine r_lconst B (pc := 2) dX7_now_2 kl_0 ?_
  refine r_ldc2 B (pc := 3) kp_RX7_113 dX7_now_3 ?_
  refine r_cSI B (c_X7_in X.l X.D K _ (x1.toInt64) 0 99) F_X7_in lk_RX7_81 (Nat.le_of_ble_eq_true rfl) (Nat.le_of_ble_eq_true rfl) (Nat.le_of_ble_eq_true rfl) (pc := 6) dX7_now_6 rfl ?_
  refine r_if_ne B (pc := 9) (tgt := 14) dX7_now_9 (by decide) hf (fun _ hf => ?_) (fun _ hf => ?_)
  · refine r_aload_n B (pc := 14) dX7_now_14 rfl rfl ?_
    refine gM_RX7_133_0 B (pc := 15) dX7_now_15 ?_
    refine r_nm hf (fun y1 hf => ?_)
    refine r_istore_n B hnL (pc := 18) dX7_now_18 rfl (by decide) ?_
    refine r_lc (loc' := [some (.ref (ad 0)), some (.int x1), some (.int y1)]) rfl ?_
    refine r_aload_n B (pc := 19) dX7_now_19 rfl rfl ?_
    refine r_iload_n B (pc := 20) dX7_now_20 rfl rfl ?_
    refine pM_RX7_133_0 B (pc := 21) dX7_now_21 hf (fun s2 hf => ?_)
    refine r_iload_n B (pc := 24) dX7_now_24 rfl rfl ?_
    exact e_pz (F := (wM ad K)) hf (nar_i _) (RET 25 _ dX7_now_25)
  · refine r_iconst B (pc := 12) dX7_now_12 kc_m1 ?_
    exact e_pz (F := (wM ad K)) hf (nar_i _) (RET 13 _ dX7_now_13)
set_option maxHeartbeats 4000000 in
set_option maxRecDepth 20000 in
theorem c_X7_off (l : Launch) (D : va_G) (K : Kt) (w : va_W) (x0 : Int32) (x1 : Int32) : CtI l yX7_off cX7_off 2 (some .int) 0 0 D K [.int x0, .int x1] w (f_X7_off x0 x1) w := by
  refine met_i pl_RX7 (Nat.le_of_ble_eq_true rfl) (fun X hnL B RET => ?_)
  generalize hf : f_X7_off x0 x1 = r at RET
  suffices h : MW X w 0 [some (.int x0), some (.int x1)] [] from h
  unfold f_X7_off at hf
  refine r_iload_n B (pc := 0) dX7_off_0 rfl rfl ?_
  refine r_iload_n B (pc := 1) dX7_off_1 rfl rfl ?_
  refine r_icmp_le B (pc := 2) (tgt := 11) dX7_off_2 (by decide) hf (fun _ hf => ?_) (fun _ hf => ?_)
  · refine r_iload_n B (pc := 11) dX7_off_11 rfl rfl ?_
    refine r_iload_n B (pc := 12) dX7_off_12 rfl rfl ?_
    refine r_isub B (pc := 13) dX7_off_13 ?_
    exact e_tz hf (nar_i _) (RET 14 _ dX7_off_14)
  · refine r_iload_n B (pc := 5) dX7_off_5 rfl rfl ?_
    refine r_iload_n B (pc := 6) dX7_off_6 rfl rfl ?_
    refine r_isub B (pc := 7) dX7_off_7 ?_
    refine r_goto B (pc := 8) (tgt := 14) dX7_off_8 (by decide) ?_
    exact e_tz hf (nar_i _) (RET 14 _ dX7_off_14)
set_option maxHeartbeats 4000000 in
set_option maxRecDepth 20000 in
theorem c_X7_sign (l : Launch) (D : va_G) (K : Kt) (w : va_W) (x0 : Int32) : CtI l yX7_sign cX7_sign 1 (some .int) 0 0 D K [.int x0] w (f_X7_sign x0) w := by
  refine met_i pl_RX7 (Nat.le_of_ble_eq_true rfl) (fun X hnL B RET => ?_)
  generalize hf : f_X7_sign x0 = r at RET
  suffices h : MW X w 0 [some (.int x0)] [] from h
  unfold f_X7_sign at hf
  refine r_iload_n B (pc := 0) dX7_sign_0 rfl rfl ?_
  refine r_if_le B (pc := 1) (tgt := 8) dX7_sign_1 (by decide) hf (fun _ hf => ?_) (fun _ hf => ?_)
  · refine r_iload_n B (pc := 8) dX7_sign_8 rfl rfl ?_
    refine r_if_ge B (pc := 9) (tgt := 16) dX7_sign_9 (by decide) hf (fun _ hf => ?_) (fun _ hf => ?_)
    · refine r_iconst B (pc := 16) dX7_sign_16 kc_0 ?_
      exact e_tz hf (nar_i _) (RET 17 _ dX7_sign_17)
    · refine r_iconst B (pc := 12) dX7_sign_12 kc_m1 ?_
      refine r_goto B (pc := 13) (tgt := 17) dX7_sign_13 (by decide) ?_
      exact e_tz hf (nar_i _) (RET 17 _ dX7_sign_17)
  · refine r_iconst B (pc := 4) dX7_sign_4 kc_1 ?_
    refine r_goto B (pc := 5) (tgt := 17) dX7_sign_5 (by decide) ?_
    exact e_tz hf (nar_i _) (RET 17 _ dX7_sign_17)
set_option maxHeartbeats 4000000 in
set_option maxRecDepth 20000 in
theorem c_X7_far (l : Launch) (D : va_G) (K : Kt) (w : va_W) (x0 : Int32) (x1 : Int32) (x2 : Int32) : CtI l yX7_far cX7_far 6 (some .int) 1 21 D K [.int x0, .int x1, .int x2] w (f_X7_far x0 x1 x2) w := by
  refine met_i pl_RX7 (Nat.le_of_ble_eq_true rfl) (fun X hnL B RET => ?_)
  generalize hf : f_X7_far x0 x1 x2 = r at RET
  suffices h : MW X w 0 [some (.int x0), some (.int x1), some (.int x2), none, none, none] [] from h
  unfold f_X7_far at hf
  refine r_iload_n B (pc := 0) dX7_far_0 rfl rfl ?_
  refine r_bipush B (pc := 1) dX7_far_1 kb_6 ?_
  refine r_idiv B (pc := 3) dX7_far_3 (by decide) ?_
  refine r_iload_n B (pc := 4) dX7_far_4 rfl rfl ?_
  refine r_bipush B (pc := 5) dX7_far_5 kb_6 ?_
  refine r_idiv B (pc := 7) dX7_far_7 (by decide) ?_
  refine r_isub B (pc := 8) dX7_far_8 ?_
  refine r_nm hf (fun y1 hf => ?_)
  refine r_istore_n B hnL (pc := 9) dX7_far_9 rfl (by decide) ?_
  refine r_lc (loc' := [some (.int x0), some (.int x1), some (.int x2), some (.int y1), none, none]) rfl ?_
  refine r_iload_n B (pc := 10) dX7_far_10 rfl rfl ?_
  refine r_bipush B (pc := 11) dX7_far_11 kb_6 ?_
  refine r_irem B (pc := 13) dX7_far_13 (by decide) ?_
  refine r_iload_n B (pc := 14) dX7_far_14 rfl rfl ?_
  refine r_bipush B (pc := 15) dX7_far_15 kb_6 ?_
  refine r_irem B (pc := 17) dX7_far_17 (by decide) ?_
  refine r_isub B (pc := 18) dX7_far_18 ?_
  refine r_nm hf (fun y2 hf => ?_)
  refine r_istore B hnL (pc := 19) dX7_far_19 (by decide) ?_
  refine r_lc (loc' := [some (.int x0), some (.int x1), some (.int x2), some (.int y1), some (.int y2), none]) rfl ?_
  refine r_iload_n B (pc := 21) dX7_far_21 rfl rfl ?_
  refine r_iconst B (pc := 22) dX7_far_22 kc_1 ?_
  have k74 : ∀ (v3 : Int32) (v4 : Int32) (t0 : Int32), f_X7_far_b74 x0 x1 x2 v3 v4 t0 = r → MW X w 74 [none, none, none, some (.int v3), some (.int v4), none] [.int t0] := by
    intro v3 v4 t0 hf
    unfold f_X7_far_b74 at hf
    refine r_istore B hnL (pc := 74) dX7_far_74 (by decide) ?_
    refine r_lc (loc' := [none, none, none, some (.int v3), some (.int v4), some (.int t0)]) rfl ?_
    refine r_iload_n B (pc := 76) dX7_far_76 rfl rfl ?_
    refine r_iconst B (pc := 77) dX7_far_77 kc_0 ?_
    refine r_cSI B (c_X7_off X.l X.D K _ v3 0) F_X7_off lk_RX7_139 (Nat.le_of_ble_eq_true rfl) (Nat.le_of_ble_eq_true rfl) (Nat.le_of_ble_eq_true rfl) (pc := 78) dX7_far_78 rfl ?_
    refine r_iload B (pc := 81) dX7_far_81 rfl ?_
    refine r_iconst B (pc := 83) dX7_far_83 kc_0 ?_
    refine r_cSI B (c_X7_off X.l X.D K _ v4 0) F_X7_off lk_RX7_139 (Nat.le_of_ble_eq_true rfl) (Nat.le_of_ble_eq_true rfl) (Nat.le_of_ble_eq_true rfl) (pc := 84) dX7_far_84 rfl ?_
    refine r_iadd B (pc := 87) dX7_far_87 ?_
    refine r_iload B (pc := 88) dX7_far_88 rfl ?_
    refine r_isub B (pc := 90) dX7_far_90 ?_
    exact e_tz hf (nar_i _) (RET 91 _ dX7_far_91)
  refine r_icmp_ne B (pc := 23) (tgt := 34) dX7_far_23 (by decide) hf (fun _ hf => ?_) (fun _ hf => ?_)
  · refine r_iload_n B (pc := 34) dX7_far_34 rfl rfl ?_
    refine r_iconst B (pc := 35) dX7_far_35 kc_2 ?_
    refine r_icmp_ne B (pc := 36) (tgt := 47) dX7_far_36 (by decide) hf (fun _ hf => ?_) (fun _ hf => ?_)
    · refine r_iload_n B (pc := 47) dX7_far_47 rfl rfl ?_
      refine r_iconst B (pc := 48) dX7_far_48 kc_3 ?_
      refine r_icmp_ne B (pc := 49) (tgt := 59) dX7_far_49 (by decide) hf (fun _ hf => ?_) (fun _ hf => ?_)
      · refine r_iload_n B (pc := 59) dX7_far_59 rfl rfl ?_
        refine r_iconst B (pc := 60) dX7_far_60 kc_4 ?_
        refine r_icmp_ne B (pc := 61) (tgt := 73) dX7_far_61 (by decide) hf (fun _ hf => ?_) (fun _ hf => ?_)
        · refine r_iconst B (pc := 73) dX7_far_73 kc_0 ?_
          exact r_mask [false, false, false, true, true, false] rfl (k74 y1 y2 0 hf)
        · refine r_iload B (pc := 64) dX7_far_64 rfl ?_
          refine r_cSI B (c_X7_sign X.l X.D K _ y2) F_X7_sign lk_RX7_136 (Nat.le_of_ble_eq_true rfl) (Nat.le_of_ble_eq_true rfl) (Nat.le_of_ble_eq_true rfl) (pc := 66) dX7_far_66 rfl ?_
          refine r_ineg B (pc := 69) dX7_far_69 ?_
          refine r_goto B (pc := 70) (tgt := 74) dX7_far_70 (by decide) ?_
          exact r_mask [false, false, false, true, true, false] rfl (k74 y1 y2 (-(f_X7_sign y2)) hf)
      · refine r_iload_n B (pc := 52) dX7_far_52 rfl rfl ?_
        refine r_cSI B (c_X7_sign X.l X.D K _ y1) F_X7_sign lk_RX7_136 (Nat.le_of_ble_eq_true rfl) (Nat.le_of_ble_eq_true rfl) (Nat.le_of_ble_eq_true rfl) (pc := 53) dX7_far_53 rfl ?_
        refine r_goto B (pc := 56) (tgt := 74) dX7_far_56 (by decide) ?_
        exact r_mask [false, false, false, true, true, false] rfl (k74 y1 y2 (f_X7_sign y1) hf)
    · refine r_iload B (pc := 39) dX7_far_39 rfl ?_
      refine r_cSI B (c_X7_sign X.l X.D K _ y2) F_X7_sign lk_RX7_136 (Nat.le_of_ble_eq_true rfl) (Nat.le_of_ble_eq_true rfl) (Nat.le_of_ble_eq_true rfl) (pc := 41) dX7_far_41 rfl ?_
      refine r_goto B (pc := 44) (tgt := 74) dX7_far_44 (by decide) ?_
      exact r_mask [false, false, false, true, true, false] rfl (k74 y1 y2 (f_X7_sign y2) hf)
  · refine r_iload_n B (pc := 26) dX7_far_26 rfl rfl ?_
    refine r_cSI B (c_X7_sign X.l X.D K _ y1) F_X7_sign lk_RX7_136 (Nat.le_of_ble_eq_true rfl) (Nat.le_of_ble_eq_true rfl) (Nat.le_of_ble_eq_true rfl) (pc := 27) dX7_far_27 rfl ?_
    refine r_ineg B (pc := 30) dX7_far_30 ?_
    refine r_goto B (pc := 31) (tgt := 74) dX7_far_31 (by decide) ?_
    exact r_mask [false, false, false, true, true, false] rfl (k74 y1 y2 (-(f_X7_sign y1)) hf)
set_option maxHeartbeats 4000000 in
set_option maxRecDepth 20000 in
theorem c_X7_hearsOne (l : Launch) (D : va_G) (K : Kt) (ad : Nat → Nat) (σ : St) (x1 : Int32) (x2 : Int32) (x3 : Int32) (x4 : Int32) {r : Int32} (hf : f_X7_hearsOne σ x1 x2 x3 x4 = some r) : CtI l yX7_hearsOne cX7_hearsOne 7 (some .boolean) 2 46 D K [.ref (ad 0), .int x1, .int x2, .int x3, .int x4] (wM ad K σ) r (wM ad K σ) := by
  refine met_i pl_RX7 (Nat.le_of_ble_eq_true rfl) (fun X hnL B RET => ?_)
  suffices h : MW X (wM ad K σ) 0 [some (.ref (ad 0)), some (.int x1), some (.int x2), some (.int x3), some (.int x4), none, none] [] from h
  unfold f_X7_hearsOne at hf
  refine r_aload_n B (pc := 0) dX7_hearsOne_0 rfl rfl ?_
  refine gM_RX7_7_0 B (pc := 1) dX7_hearsOne_1 ?_
  refine r_iload_n B (pc := 4) dX7_hearsOne_4 rfl rfl ?_
  refine aldM_1 B (pc := 5) dX7_hearsOne_5 hf (fun _ hf => ?_)
  refine r_nm hf (fun y1 hf => ?_)
  refine r_istore B hnL (pc := 6) dX7_hearsOne_6 (by decide) ?_
  refine r_lc (loc' := [some (.ref (ad 0)), some (.int x1), some (.int x2), some (.int x3), some (.int x4), some (.int y1), none]) rfl ?_
  refine r_iload B (pc := 8) dX7_hearsOne_8 rfl ?_
  refine r_iconst B (pc := 10) dX7_hearsOne_10 kc_1 ?_
  have k27 : ∀ (v5 : Int32) (t0 : Int32), f_X7_hearsOne_b27 σ x1 x2 x3 x4 v5 t0 = some r → MW X (wM ad K σ) 27 [some (.ref (ad 0)), some (.int x1), none, some (.int x3), some (.int x4), some (.int v5), none] [.int t0] := by
    intro v5 t0 hf
    unfold f_X7_hearsOne_b27 at hf
    refine r_istore B hnL (pc := 27) dX7_hearsOne_27 (by decide) ?_
    refine r_lc (loc' := [some (.ref (ad 0)), some (.int x1), none, some (.int x3), some (.int x4), some (.int v5), some (.int t0)]) rfl ?_
    refine r_iload B (pc := 29) dX7_hearsOne_29 rfl ?_
    refine r_iconst B (pc := 31) dX7_hearsOne_31 kc_3 ?_
    refine r_icmp_eq B (pc := 32) (tgt := 73) dX7_hearsOne_32 (by decide) hf (fun _ hf => ?_) (fun _ hf => ?_)
    · refine r_iconst B (pc := 73) dX7_hearsOne_73 kc_0 ?_
      exact e_rz hf rfl (RET 74 _ dX7_hearsOne_74)
    · refine r_iload B (pc := 35) dX7_hearsOne_35 rfl ?_
      refine r_iconst B (pc := 37) dX7_hearsOne_37 kc_4 ?_
      have k47 : ∀ (v6 : Int32), f_X7_hearsOne_b47 σ x1 x2 x3 x4 v6 = some r → MW X (wM ad K σ) 47 [some (.ref (ad 0)), some (.int x1), none, some (.int x3), some (.int x4), none, some (.int v6)] [] := by
        intro v6 hf
        unfold f_X7_hearsOne_b47 at hf
        refine r_iload B (pc := 47) dX7_hearsOne_47 rfl ?_
        refine r_if_lt B (pc := 49) (tgt := 73) dX7_hearsOne_49 (by decide) hf (fun _ hf => ?_) (fun _ hf => ?_)
        · refine r_iconst B (pc := 73) dX7_hearsOne_73 kc_0 ?_
          exact e_rz hf rfl (RET 74 _ dX7_hearsOne_74)
        · refine r_iload_n B (pc := 52) dX7_hearsOne_52 rfl rfl ?_
          refine r_aload_n B (pc := 53) dX7_hearsOne_53 rfl rfl ?_
          refine gM_RX7_13_0 B (pc := 54) dX7_hearsOne_54 ?_
          refine r_iload_n B (pc := 57) dX7_hearsOne_57 rfl rfl ?_
          refine aldM_2 B (pc := 58) dX7_hearsOne_58 hf (fun _ hf => ?_)
          refine r_iload B (pc := 59) dX7_hearsOne_59 rfl ?_
          refine r_cSI B (c_X7_far X.l X.D K _ x3 (σ.1 2 (ix x1)) x4) F_X7_far lk_RX7_143 (Nat.le_of_ble_eq_true rfl) (Nat.le_of_ble_eq_true rfl) (Nat.le_of_ble_eq_true rfl) (pc := 61) dX7_hearsOne_61 rfl ?_
          refine r_iload B (pc := 64) dX7_hearsOne_64 rfl ?_
          refine r_icmp_gt B (pc := 66) (tgt := 73) dX7_hearsOne_66 (by decide) hf (fun _ hf => ?_) (fun _ hf => ?_)
          · refine r_iconst B (pc := 73) dX7_hearsOne_73 kc_0 ?_
            exact e_rz hf rfl (RET 74 _ dX7_hearsOne_74)
          · refine r_iconst B (pc := 69) dX7_hearsOne_69 kc_1 ?_
            refine r_goto B (pc := 70) (tgt := 74) dX7_hearsOne_70 (by decide) ?_
            exact e_rz hf rfl (RET 74 _ dX7_hearsOne_74)
      refine r_icmp_ne B (pc := 38) (tgt := 47) dX7_hearsOne_38 (by decide) hf (fun _ hf => ?_) (fun _ hf => ?_)
      · exact r_mask [true, true, false, true, true, false, true] rfl (k47 t0 hf)
      · refine r_iload B (pc := 41) dX7_hearsOne_41 rfl ?_
        refine r_iconst B (pc := 43) dX7_hearsOne_43 kc_3 ?_
        refine r_icmp_eq B (pc := 44) (tgt := 73) dX7_hearsOne_44 (by decide) hf (fun _ hf => ?_) (fun _ hf => ?_)
        · refine r_iconst B (pc := 73) dX7_hearsOne_73 kc_0 ?_
          exact e_rz hf rfl (RET 74 _ dX7_hearsOne_74)
        · exact r_mask [true, true, false, true, true, false, true] rfl (k47 t0 hf)
  have k20 : ∀ (v5 : Int32), f_X7_hearsOne_b20 σ x1 x2 x3 x4 v5 = some r → MW X (wM ad K σ) 20 [some (.ref (ad 0)), some (.int x1), some (.int x2), some (.int x3), some (.int x4), some (.int v5), none] [] := by
    intro v5 hf
    unfold f_X7_hearsOne_b20 at hf
    refine r_iload_n B (pc := 20) dX7_hearsOne_20 rfl rfl ?_
    refine r_iconst B (pc := 21) dX7_hearsOne_21 kc_1 ?_
    refine r_isub B (pc := 22) dX7_hearsOne_22 ?_
    refine r_goto B (pc := 23) (tgt := 27) dX7_hearsOne_23 (by decide) ?_
    exact r_mask [true, true, false, true, true, true, false] rfl (k27 v5 (x2 - 1) hf)
  refine r_icmp_eq B (pc := 11) (tgt := 20) dX7_hearsOne_11 (by decide) hf (fun _ hf => ?_) (fun _ hf => ?_)
  · exact r_mask [true, true, true, true, true, true, false] rfl (k20 y1 hf)
  · refine r_iload B (pc := 14) dX7_hearsOne_14 rfl ?_
    refine r_iconst B (pc := 16) dX7_hearsOne_16 kc_4 ?_
    refine r_icmp_ne B (pc := 17) (tgt := 26) dX7_hearsOne_17 (by decide) hf (fun _ hf => ?_) (fun _ hf => ?_)
    · refine r_iload_n B (pc := 26) dX7_hearsOne_26 rfl rfl ?_
      exact r_mask [true, true, false, true, true, true, false] rfl (k27 y1 x2 hf)
    · exact r_mask [true, true, true, true, true, true, false] rfl (k20 y1 hf)
set_option maxHeartbeats 4000000 in
set_option maxRecDepth 20000 in
theorem c_X7_hearers (l : Launch) (D : va_G) (K : Kt) (ad : Nat → Nat) (σ : St) (x1 : Int32) (x2 : Int32) (x3 : Int32) {r : Int32} (hf : f_X7_hearers σ x1 x2 x3 = some r) : CtI l yX7_hearers cX7_hearers 6 (some .int) 3 72 D K [.ref (ad 0), .int x1, .int x2, .int x3] (wM ad K σ) r (wM ad K σ) := by
  refine met_i pl_RX7 (Nat.le_of_ble_eq_true rfl) (fun X hnL B RET => ?_)
  suffices h : MW X (wM ad K σ) 0 [some (.ref (ad 0)), some (.int x1), some (.int x2), some (.int x3), none, none] [] from h
  unfold f_X7_hearers at hf
  refine r_iconst B (pc := 0) dX7_hearers_0 kc_0 ?_
  refine r_istore B hnL (pc := 1) dX7_hearers_1 (by decide) ?_
  refine r_lc (loc' := [some (.ref (ad 0)), some (.int x1), some (.int x2), some (.int x3), some (.int 0), none]) rfl ?_
  refine r_iconst B (pc := 3) dX7_hearers_3 kc_0 ?_
  refine r_istore B hnL (pc := 4) dX7_hearers_4 (by decide) ?_
  refine r_lc (loc' := [some (.ref (ad 0)), some (.int x1), some (.int x2), some (.int x3), some (.int 0), some (.int 0)]) rfl ?_
  have k6 : ∀ (n6 : Nat) (v4 : Int32) (v5 : Int32), f_X7_hearers_h6 σ x1 x2 x3 n6 v4 v5 = some r → MW X (wM ad K σ) 6 [some (.ref (ad 0)), some (.int x1), some (.int x2), some (.int x3), some (.int v4), some (.int v5)] [] := by
    intro n6
    induction n6 with
    | zero => intro v4 v5 hf; exact nn_z hf
    | succ n6 ih6 =>
      intro v4 v5 hf
      rw [f_X7_hearers_h6] at hf
      refine r_iload B (pc := 6) dX7_hearers_6 rfl ?_
      refine r_aload_n B (pc := 8) dX7_hearers_8 rfl rfl ?_
      refine gM_RX7_78_0 B (pc := 9) dX7_hearers_9 ?_
      refine r_icmp_ge B (pc := 12) (tgt := 51) dX7_hearers_12 (by decide) hf (fun _ hf => ?_) (fun _ hf => ?_)
      · refine r_iload B (pc := 51) dX7_hearers_51 rfl ?_
        exact e_rz hf (nar_i _) (RET 53 _ dX7_hearers_53)
      · refine r_iload B (pc := 15) dX7_hearers_15 rfl ?_
        refine r_aload_n B (pc := 17) dX7_hearers_17 rfl rfl ?_
        refine r_iload B (pc := 18) dX7_hearers_18 rfl ?_
        refine r_aload_n B (pc := 20) dX7_hearers_20 rfl rfl ?_
        refine gM_RX7_28_0 B (pc := 21) dX7_hearers_21 ?_
        refine r_iload_n B (pc := 24) dX7_hearers_24 rfl rfl ?_
        refine aldM_7 B (pc := 25) dX7_hearers_25 hf (fun _ hf => ?_)
        refine r_iload_n B (pc := 26) dX7_hearers_26 rfl rfl ?_
        refine r_iload_n B (pc := 27) dX7_hearers_27 rfl rfl ?_
        obtain ⟨r2, hc1, hf⟩ := bdr_e hf
        refine r_cVI B (c_X7_hearsOne X.l X.D K ad σ v5 (σ.1 7 (ix x1)) x2 x3 hc1) F_X7_hearsOne lk_RX7_147 (q0 := 0) (ci := 7) rfl rfl (Nat.le_of_ble_eq_true rfl) (Nat.le_of_ble_eq_true rfl) (Nat.le_of_ble_eq_true rfl) (pc := 28) dX7_hearers_28 rfl ?_
        have k42 : ∀ (v5 : Int32) (t0 : Int32) (t1 : Int32), f_X7_hearers_b42 (f_X7_hearers_h6 σ x1 x2 x3 n6) σ x1 x2 x3 v5 t0 t1 = some r → MW X (wM ad K σ) 42 [some (.ref (ad 0)), some (.int x1), some (.int x2), some (.int x3), none, some (.int v5)] [.int t0, .int t1] := by
          intro v5 t0 t1 hf
          unfold f_X7_hearers_b42 at hf
          refine r_ior B (pc := 42) dX7_hearers_42 ?_
          refine r_nm hf (fun y3 hf => ?_)
          refine r_istore B hnL (pc := 43) dX7_hearers_43 (by decide) ?_
          refine r_lc (loc' := [some (.ref (ad 0)), some (.int x1), some (.int x2), some (.int x3), some (.int y3), some (.int v5)]) rfl ?_
          refine r_iincS B hnL (pc := 45) dX7_hearers_45 rfl kc_1 (by decide) hf (fun y4 hf => ?_)
          refine r_lc (loc' := [some (.ref (ad 0)), some (.int x1), some (.int x2), some (.int x3), some (.int y3), some (.int y4)]) rfl ?_
          refine r_goto B (pc := 48) (tgt := 6) dX7_hearers_48 (by decide) ?_
          exact r_mask [true, true, true, true, true, true] rfl (ih6 y3 y4 hf)
        refine r_if_eq B (pc := 31) (tgt := 41) dX7_hearers_31 (by decide) hf (fun _ hf => ?_) (fun _ hf => ?_)
        · refine r_iconst B (pc := 41) dX7_hearers_41 kc_0 ?_
          exact r_mask [true, true, true, true, false, true] rfl (k42 v5 0 v4 hf)
        · refine r_iconst B (pc := 34) dX7_hearers_34 kc_1 ?_
          refine r_iload B (pc := 35) dX7_hearers_35 rfl ?_
          refine r_ishl B (pc := 37) dX7_hearers_37 ?_
          refine r_goto B (pc := 38) (tgt := 42) dX7_hearers_38 (by decide) ?_
          exact r_mask [true, true, true, true, false, true] rfl (k42 v5 (isl 1 v5) v4 hf)
  exact r_mask [true, true, true, true, true, true] rfl (k6 FU 0 0 hf)
set_option maxHeartbeats 4000000 in
set_option maxRecDepth 20000 in
theorem c_X7_isOwed (l : Launch) (D : va_G) (K : Kt) (ad : Nat → Nat) (σ : St) (x1 : Int32) (x2 : Int32) {r : Int32} (hf : f_X7_isOwed σ x1 x2 = some r) : CtI l yX7_isOwed cX7_isOwed 8 (some .boolean) 1 25 D K [.ref (ad 0), .int x1, .int x2] (wM ad K σ) r (wM ad K σ) := by
  refine met_i pl_RX7 (Nat.le_of_ble_eq_true rfl) (fun X hnL B RET => ?_)
  suffices h : MW X (wM ad K σ) 0 [some (.ref (ad 0)), some (.int x1), some (.int x2), none, none, none, none, none] [] from h
  unfold f_X7_isOwed at hf
  refine r_aload_n B (pc := 0) dX7_isOwed_0 rfl rfl ?_
  refine gM_RX7_7_0 B (pc := 1) dX7_isOwed_1 ?_
  refine r_iload_n B (pc := 4) dX7_isOwed_4 rfl rfl ?_
  refine aldM_1 B (pc := 5) dX7_isOwed_5 hf (fun _ hf => ?_)
  refine r_nm hf (fun y1 hf => ?_)
  refine r_istore_n B hnL (pc := 6) dX7_isOwed_6 rfl (by decide) ?_
  refine r_lc (loc' := [some (.ref (ad 0)), some (.int x1), some (.int x2), some (.int y1), none, none, none, none]) rfl ?_
  refine r_aload_n B (pc := 7) dX7_isOwed_7 rfl rfl ?_
  refine gM_RX7_19_0 B (pc := 8) dX7_isOwed_8 ?_
  refine r_iload_n B (pc := 11) dX7_isOwed_11 rfl rfl ?_
  refine aldM_4 B (pc := 12) dX7_isOwed_12 hf (fun _ hf => ?_)
  refine r_aload_n B (pc := 13) dX7_isOwed_13 rfl rfl ?_
  refine gM_RX7_16_0 B (pc := 14) dX7_isOwed_14 ?_
  refine r_iload_n B (pc := 17) dX7_isOwed_17 rfl rfl ?_
  refine aldM_3 B (pc := 18) dX7_isOwed_18 hf (fun _ hf => ?_)
  refine r_isub B (pc := 19) dX7_isOwed_19 ?_
  refine r_nm hf (fun y2 hf => ?_)
  refine r_istore B hnL (pc := 20) dX7_isOwed_20 (by decide) ?_
  refine r_lc (loc' := [some (.ref (ad 0)), some (.int x1), some (.int x2), some (.int y1), some (.int y2), none, none, none]) rfl ?_
  refine r_iload B (pc := 22) dX7_isOwed_22 rfl ?_
  have k32 : ∀ (v3 : Int32) (v4 : Int32) (t0 : Int32), f_X7_isOwed_b32 σ x1 x2 v3 v4 t0 = some r → MW X (wM ad K σ) 32 [some (.ref (ad 0)), some (.int x1), some (.int x2), some (.int v3), some (.int v4), none, none, none] [.int t0] := by
    intro v3 v4 t0 hf
    unfold f_X7_isOwed_b32 at hf
    refine r_istore B hnL (pc := 32) dX7_isOwed_32 (by decide) ?_
    refine r_lc (loc' := [some (.ref (ad 0)), some (.int x1), some (.int x2), some (.int v3), some (.int v4), some (.int t0), none, none]) rfl ?_
    refine r_iload B (pc := 34) dX7_isOwed_34 rfl ?_
    refine r_i2l B (pc := 36) dX7_isOwed_36 ?_
    refine r_lconst B (pc := 37) dX7_isOwed_37 kl_0 ?_
    refine r_ldc2 B (pc := 38) kp_RX7_151 dX7_isOwed_38 ?_
    refine r_cSI B (c_X7_in X.l X.D K _ (v4.toInt64) 0 8) F_X7_in lk_RX7_81 (Nat.le_of_ble_eq_true rfl) (Nat.le_of_ble_eq_true rfl) (Nat.le_of_ble_eq_true rfl) (pc := 41) dX7_isOwed_41 rfl ?_
    refine r_nm hf (fun y3 hf => ?_)
    refine r_istore B hnL (pc := 44) dX7_isOwed_44 (by decide) ?_
    refine r_lc (loc' := [some (.ref (ad 0)), some (.int x1), some (.int x2), some (.int v3), some (.int v4), some (.int t0), some (.int y3), none]) rfl ?_
    refine r_iload_n B (pc := 46) dX7_isOwed_46 rfl rfl ?_
    refine r_iconst B (pc := 47) dX7_isOwed_47 kc_3 ?_
    have k143 : ∀ (t0 : Int32), f_X7_isOwed_b143 σ x1 x2 t0 = some r → MW X (wM ad K σ) 143 [some (.ref (ad 0)), some (.int x1), some (.int x2), none, none, none, none, none] [.int t0] := by
      intro t0 hf
      unfold f_X7_isOwed_b143 at hf
      refine r_istore B hnL (pc := 143) dX7_isOwed_143 (by decide) ?_
      refine r_lc (loc' := [some (.ref (ad 0)), some (.int x1), some (.int x2), none, none, none, none, some (.int t0)]) rfl ?_
      refine r_iload B (pc := 145) dX7_isOwed_145 rfl ?_
      refine r_if_eq B (pc := 147) (tgt := 167) dX7_isOwed_147 (by decide) hf (fun _ hf => ?_) (fun _ hf => ?_)
      · refine r_iconst B (pc := 167) dX7_isOwed_167 kc_0 ?_
        exact e_rz hf rfl (RET 168 _ dX7_isOwed_168)
      · refine r_aload_n B (pc := 150) dX7_isOwed_150 rfl rfl ?_
        refine gM_RX7_25_0 B (pc := 151) dX7_isOwed_151 ?_
        refine r_iload_n B (pc := 154) dX7_isOwed_154 rfl rfl ?_
        refine aldM_6 B (pc := 155) dX7_isOwed_155 hf (fun _ hf => ?_)
        refine r_iload_n B (pc := 156) dX7_isOwed_156 rfl rfl ?_
        refine r_cSI B (c_X7_has X.l X.D K _ (σ.1 6 (ix x2)) x1) F_X7_has lk_RX7_153 (Nat.le_of_ble_eq_true rfl) (Nat.le_of_ble_eq_true rfl) (Nat.le_of_ble_eq_true rfl) (pc := 157) dX7_isOwed_157 rfl ?_
        refine r_if_ne B (pc := 160) (tgt := 167) dX7_isOwed_160 (by decide) hf (fun _ hf => ?_) (fun _ hf => ?_)
        · refine r_iconst B (pc := 167) dX7_isOwed_167 kc_0 ?_
          exact e_rz hf rfl (RET 168 _ dX7_isOwed_168)
        · refine r_iconst B (pc := 163) dX7_isOwed_163 kc_1 ?_
          refine r_goto B (pc := 164) (tgt := 168) dX7_isOwed_164 (by decide) ?_
          exact e_rz hf rfl (RET 168 _ dX7_isOwed_168)
    refine r_icmp_ne B (pc := 48) (tgt := 55) dX7_isOwed_48 (by decide) hf (fun _ hf => ?_) (fun _ hf => ?_)
    · refine r_iload_n B (pc := 55) dX7_isOwed_55 rfl rfl ?_
      refine r_iconst B (pc := 56) dX7_isOwed_56 kc_2 ?_
      refine r_icmp_ne B (pc := 57) (tgt := 84) dX7_isOwed_57 (by decide) hf (fun _ hf => ?_) (fun _ hf => ?_)
      · refine r_iload_n B (pc := 84) dX7_isOwed_84 rfl rfl ?_
        refine r_iconst B (pc := 85) dX7_isOwed_85 kc_5 ?_
        refine r_icmp_ne B (pc := 86) (tgt := 118) dX7_isOwed_86 (by decide) hf (fun _ hf => ?_) (fun _ hf => ?_)
        · refine r_iload_n B (pc := 118) dX7_isOwed_118 rfl rfl ?_
          refine r_iconst B (pc := 119) dX7_isOwed_119 kc_4 ?_
          refine r_icmp_ne B (pc := 120) (tgt := 141) dX7_isOwed_120 (by decide) hf (fun _ hf => ?_) (fun _ hf => ?_)
          · refine r_iload B (pc := 141) dX7_isOwed_141 rfl ?_
            exact r_mask [true, true, true, false, false, false, false, false] rfl (k143 y3 hf)
          · refine r_iload B (pc := 123) dX7_isOwed_123 rfl ?_
            refine r_if_eq B (pc := 125) (tgt := 137) dX7_isOwed_125 (by decide) hf (fun _ hf => ?_) (fun _ hf => ?_)
            · refine r_iconst B (pc := 137) dX7_isOwed_137 kc_0 ?_
              refine r_goto B (pc := 138) (tgt := 143) dX7_isOwed_138 (by decide) ?_
              exact r_mask [true, true, true, false, false, false, false, false] rfl (k143 0 hf)
            · refine r_iload B (pc := 128) dX7_isOwed_128 rfl ?_
              refine r_if_ne B (pc := 130) (tgt := 137) dX7_isOwed_130 (by decide) hf (fun _ hf => ?_) (fun _ hf => ?_)
              · refine r_iconst B (pc := 137) dX7_isOwed_137 kc_0 ?_
                refine r_goto B (pc := 138) (tgt := 143) dX7_isOwed_138 (by decide) ?_
                exact r_mask [true, true, true, false, false, false, false, false] rfl (k143 0 hf)
              · refine r_iconst B (pc := 133) dX7_isOwed_133 kc_1 ?_
                refine r_goto B (pc := 134) (tgt := 143) dX7_isOwed_134 (by decide) ?_
                exact r_mask [true, true, true, false, false, false, false, false] rfl (k143 1 hf)
        · refine r_iload B (pc := 89) dX7_isOwed_89 rfl ?_
          refine r_if_ne B (pc := 91) (tgt := 110) dX7_isOwed_91 (by decide) hf (fun _ hf => ?_) (fun _ hf => ?_)
          · refine r_iconst B (pc := 110) dX7_isOwed_110 kc_1 ?_
            refine r_goto B (pc := 111) (tgt := 143) dX7_isOwed_111 (by decide) ?_
            exact r_mask [true, true, true, false, false, false, false, false] rfl (k143 1 hf)
          · refine r_iload B (pc := 94) dX7_isOwed_94 rfl ?_
            refine r_if_eq B (pc := 96) (tgt := 114) dX7_isOwed_96 (by decide) hf (fun _ hf => ?_) (fun _ hf => ?_)
            · refine r_iconst B (pc := 114) dX7_isOwed_114 kc_0 ?_
              refine r_goto B (pc := 115) (tgt := 143) dX7_isOwed_115 (by decide) ?_
              exact r_mask [true, true, true, false, false, false, false, false] rfl (k143 0 hf)
            · refine r_aload_n B (pc := 99) dX7_isOwed_99 rfl rfl ?_
              refine gM_RX7_110_0 B (pc := 100) dX7_isOwed_100 ?_
              refine r_iload_n B (pc := 103) dX7_isOwed_103 rfl rfl ?_
              refine r_cSI B (c_X7_has X.l X.D K _ (σ.1 0 7) x2) F_X7_has lk_RX7_153 (Nat.le_of_ble_eq_true rfl) (Nat.le_of_ble_eq_true rfl) (Nat.le_of_ble_eq_true rfl) (pc := 104) dX7_isOwed_104 rfl ?_
              refine r_if_eq B (pc := 107) (tgt := 114) dX7_isOwed_107 (by decide) hf (fun _ hf => ?_) (fun _ hf => ?_)
              · refine r_iconst B (pc := 114) dX7_isOwed_114 kc_0 ?_
                refine r_goto B (pc := 115) (tgt := 143) dX7_isOwed_115 (by decide) ?_
                exact r_mask [true, true, true, false, false, false, false, false] rfl (k143 0 hf)
              · refine r_iconst B (pc := 110) dX7_isOwed_110 kc_1 ?_
                refine r_goto B (pc := 111) (tgt := 143) dX7_isOwed_111 (by decide) ?_
                exact r_mask [true, true, true, false, false, false, false, false] rfl (k143 1 hf)
      · refine r_iload B (pc := 60) dX7_isOwed_60 rfl ?_
        refine r_if_eq B (pc := 62) (tgt := 80) dX7_isOwed_62 (by decide) hf (fun _ hf => ?_) (fun _ hf => ?_)
        · refine r_iconst B (pc := 80) dX7_isOwed_80 kc_0 ?_
          refine r_goto B (pc := 81) (tgt := 143) dX7_isOwed_81 (by decide) ?_
          exact r_mask [true, true, true, false, false, false, false, false] rfl (k143 0 hf)
        · refine r_aload_n B (pc := 65) dX7_isOwed_65 rfl rfl ?_
          refine gM_RX7_110_0 B (pc := 66) dX7_isOwed_66 ?_
          refine r_iload_n B (pc := 69) dX7_isOwed_69 rfl rfl ?_
          refine r_cSI B (c_X7_has X.l X.D K _ (σ.1 0 7) x2) F_X7_has lk_RX7_153 (Nat.le_of_ble_eq_true rfl) (Nat.le_of_ble_eq_true rfl) (Nat.le_of_ble_eq_true rfl) (pc := 70) dX7_isOwed_70 rfl ?_
          refine r_if_eq B (pc := 73) (tgt := 80) dX7_isOwed_73 (by decide) hf (fun _ hf => ?_) (fun _ hf => ?_)
          · refine r_iconst B (pc := 80) dX7_isOwed_80 kc_0 ?_
            refine r_goto B (pc := 81) (tgt := 143) dX7_isOwed_81 (by decide) ?_
            exact r_mask [true, true, true, false, false, false, false, false] rfl (k143 0 hf)
          · refine r_iconst B (pc := 76) dX7_isOwed_76 kc_1 ?_
            refine r_goto B (pc := 77) (tgt := 143) dX7_isOwed_77 (by decide) ?_
            exact r_mask [true, true, true, false, false, false, false, false] rfl (k143 1 hf)
    · refine r_iconst B (pc := 51) dX7_isOwed_51 kc_0 ?_
      refine r_goto B (pc := 52) (tgt := 143) dX7_isOwed_52 (by decide) ?_
      exact r_mask [true, true, true, false, false, false, false, false] rfl (k143 0 hf)
  refine r_if_ne B (pc := 24) (tgt := 31) dX7_isOwed_24 (by decide) hf (fun _ hf => ?_) (fun _ hf => ?_)
  · refine r_iconst B (pc := 31) dX7_isOwed_31 kc_0 ?_
    exact r_mask [true, true, true, true, true, false, false, false] rfl (k32 y1 y2 0 hf)
  · refine r_iconst B (pc := 27) dX7_isOwed_27 kc_1 ?_
    refine r_goto B (pc := 28) (tgt := 32) dX7_isOwed_28 (by decide) ?_
    exact r_mask [true, true, true, true, true, false, false, false] rfl (k32 y1 y2 1 hf)
