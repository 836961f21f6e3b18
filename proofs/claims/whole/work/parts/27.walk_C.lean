set_option maxHeartbeats 4000000 in
set_option maxRecDepth 20000 in
theorem c_X6_isPlace (l : Launch) (D : va_G) (K : Kt) (w : va_W) (x0 : Int64) : CtI l yX6_isPlace cX6_isPlace 2 (some .boolean) 0 0 D K [.long x0] w (f_X6_isPlace x0) w := by
  refine met_i pl_RX6 (Nat.le_of_ble_eq_true rfl) (fun X hnL B RET => ?_)
  generalize hf : f_X6_isPlace x0 = r at RET
  suffices h : MW X w 0 [some (.long x0), none] [] from h
  unfold f_X6_isPlace at hf
  refine r_lload_n B (pc := 0) dX6_isPlace_0 rfl rfl ?_
  refine r_lconst B (pc := 1) dX6_isPlace_1 kl_0 ?_
  refine r_lcmp B (pc := 2) dX6_isPlace_2 ?_
  refine r_if_lt B (pc := 3) (tgt := 18) dX6_isPlace_3 (by decide) hf (fun _ hf => ?_) (fun _ hf => ?_)
  · refine r_iconst B (pc := 18) dX6_isPlace_18 kc_0 ?_
    exact e_tz hf rfl (RET 19 _ dX6_isPlace_19)
  · refine r_lload_n B (pc := 6) dX6_isPlace_6 rfl rfl ?_
    refine r_ldc2 B (pc := 7) kp_RX6_353 dX6_isPlace_7 ?_
    refine r_lcmp B (pc := 10) dX6_isPlace_10 ?_
    refine r_if_ge B (pc := 11) (tgt := 18) dX6_isPlace_11 (by decide) hf (fun _ hf => ?_) (fun _ hf => ?_)
    · refine r_iconst B (pc := 18) dX6_isPlace_18 kc_0 ?_
      exact e_tz hf rfl (RET 19 _ dX6_isPlace_19)
    · refine r_iconst B (pc := 14) dX6_isPlace_14 kc_1 ?_
      refine r_goto B (pc := 15) (tgt := 19) dX6_isPlace_15 (by decide) ?_
      exact e_tz hf rfl (RET 19 _ dX6_isPlace_19)
set_option maxHeartbeats 4000000 in
set_option maxRecDepth 20000 in
theorem c_X1_add (l : Launch) (D : va_G) (K : Kt) (ad : Nat → Nat) (nw : Nat) (σ : St) (x1 : Int32) (x2 : Int32) (x3 : Int32) {τ : St} (hf : f_X1_add σ x1 x2 x3 = some τ) : CtV l yX1_add cX1_add 4 none 0 0 D K [.ref (ad 2), .int x1, .int x2, .int x3] (wC ad K nw σ) (wC ad K nw τ) := by
  refine met_v pl_RX1 (Nat.le_of_ble_eq_true rfl) (fun X hnL B RET => ?_)
  suffices h : MW X (wC ad K nw σ) 0 [some (.ref (ad 2)), some (.int x1), some (.int x2), some (.int x3)] [] from h
  unfold f_X1_add at hf
  refine r_aload_n B (pc := 0) dX1_add_0 rfl rfl ?_
  refine gC_RX1_9_2 B (pc := 1) dX1_add_1 ?_
  refine r_bipush B (pc := 4) dX1_add_4 kb_10 ?_
  refine r_icmp_lt B (pc := 6) (tgt := 10) dX1_add_6 (by decide) hf (fun _ hf => ?_) (fun _ hf => ?_)
  · refine r_aload_n B (pc := 10) dX1_add_10 rfl rfl ?_
    refine gC_RX1_15_2 B (pc := 11) dX1_add_11 ?_
    refine r_aload_n B (pc := 14) dX1_add_14 rfl rfl ?_
    refine gC_RX1_9_2 B (pc := 15) dX1_add_15 ?_
    refine r_iload_n B (pc := 18) dX1_add_18 rfl rfl ?_
    refine astC_3 B (pc := 19) dX1_add_19 hf (fun s1 _ hf => ?_)
    refine r_aload_n B (pc := 20) dX1_add_20 rfl rfl ?_
    refine gC_RX1_19_2 B (pc := 21) dX1_add_21 ?_
    refine r_aload_n B (pc := 24) dX1_add_24 rfl rfl ?_
    refine gC_RX1_9_2 B (pc := 25) dX1_add_25 ?_
    refine r_iload_n B (pc := 28) dX1_add_28 rfl rfl ?_
    refine astC_4 B (pc := 29) dX1_add_29 hf (fun s2 _ hf => ?_)
    refine r_aload_n B (pc := 30) dX1_add_30 rfl rfl ?_
    refine gC_RX1_22_2 B (pc := 31) dX1_add_31 ?_
    refine r_aload_n B (pc := 34) dX1_add_34 rfl rfl ?_
    refine gC_RX1_9_2 B (pc := 35) dX1_add_35 ?_
    refine r_iload_n B (pc := 38) dX1_add_38 rfl rfl ?_
    refine astC_5 B (pc := 39) dX1_add_39 hf (fun s3 _ hf => ?_)
    refine r_aload_n B (pc := 40) dX1_add_40 rfl rfl ?_
    refine gC_RX1_25_2 B (pc := 41) dX1_add_41 ?_
    refine r_aload_n B (pc := 44) dX1_add_44 rfl rfl ?_
    refine gC_RX1_9_2 B (pc := 45) dX1_add_45 ?_
    refine r_iconst B (pc := 48) dX1_add_48 kc_0 ?_
    refine astC_6 B (pc := 49) dX1_add_49 hf (fun s4 _ hf => ?_)
    refine r_aload_n B (pc := 50) dX1_add_50 rfl rfl ?_
    refine gC_RX1_28_2 B (pc := 51) dX1_add_51 ?_
    refine r_aload_n B (pc := 54) dX1_add_54 rfl rfl ?_
    refine gC_RX1_9_2 B (pc := 55) dX1_add_55 ?_
    refine r_iconst B (pc := 58) dX1_add_58 kc_0 ?_
    refine astC_7 B (pc := 59) dX1_add_59 hf (fun s5 _ hf => ?_)
    refine r_aload_n B (pc := 60) dX1_add_60 rfl rfl ?_
    refine r_dup B (pc := 61) dX1_add_61 rfl ?_
    refine gC_RX1_9_2 B (pc := 62) dX1_add_62 ?_
    refine r_iconst B (pc := 65) dX1_add_65 kc_1 ?_
    refine r_iadd B (pc := 66) dX1_add_66 ?_
    refine pC_RX1_9_2 B (pc := 67) dX1_add_67 hf (fun s6 hf => ?_)
    exact e_s (F := (wC ad K nw)) hf (RET 70 _ dX1_add_70)
  · exact e_s (F := (wC ad K nw)) hf (RET 9 _ dX1_add_9)
set_option maxHeartbeats 4000000 in
set_option maxRecDepth 20000 in
theorem c_X6_grave (l : Launch) (D : va_G) (K : Kt) (ad : Nat → Nat) (nw : Nat) (σ : St) (x1 : Int32) (x2 : Int32) (x3 : Int32) {r : Int32} {τ : St} (hf : f_X6_grave σ x1 x2 x3 = some (r, τ)) : CtI l yX6_grave cX6_grave 4 (some .int) 1 23 D K [.ref (ad 0), .int x1, .int x2, .int x3] (wC ad K nw σ) r (wC ad K nw τ) := by
  refine met_i pl_RX6 (Nat.le_of_ble_eq_true rfl) (fun X hnL B RET => ?_)
  suffices h : MW X (wC ad K nw σ) 0 [some (.ref (ad 0)), some (.int x1), some (.int x2), some (.int x3)] [] from h
  unfold f_X6_grave at hf
  refine r_iload_n B (pc := 0) dX6_grave_0 rfl rfl ?_
  refine r_if_lt B (pc := 1) (tgt := 27) dX6_grave_1 (by decide) hf (fun _ hf => ?_) (fun _ hf => ?_)
  · refine r_iconst B (pc := 27) dX6_grave_27 kc_m1 ?_
    exact e_pz (F := (wC ad K nw)) hf (nar_i _) (RET 28 _ dX6_grave_28)
  · refine r_iload_n B (pc := 4) dX6_grave_4 rfl rfl ?_
    refine r_iconst B (pc := 5) dX6_grave_5 kc_5 ?_
    refine r_icmp_gt B (pc := 6) (tgt := 27) dX6_grave_6 (by decide) hf (fun _ hf => ?_) (fun _ hf => ?_)
    · refine r_iconst B (pc := 27) dX6_grave_27 kc_m1 ?_
      exact e_pz (F := (wC ad K nw)) hf (nar_i _) (RET 28 _ dX6_grave_28)
    · refine r_iload_n B (pc := 9) dX6_grave_9 rfl rfl ?_
      refine r_i2l B (pc := 10) dX6_grave_10 ?_
      refine r_cSI B (c_X6_isPlace X.l X.D K _ (x2.toInt64)) F_X6_isPlace lk_RX6_68 (Nat.le_of_ble_eq_true rfl) (Nat.le_of_ble_eq_true rfl) (Nat.le_of_ble_eq_true rfl) (pc := 11) dX6_grave_11 rfl ?_
      refine r_if_eq B (pc := 14) (tgt := 27) dX6_grave_14 (by decide) hf (fun _ hf => ?_) (fun _ hf => ?_)
      · refine r_iconst B (pc := 27) dX6_grave_27 kc_m1 ?_
        exact e_pz (F := (wC ad K nw)) hf (nar_i _) (RET 28 _ dX6_grave_28)
      · refine r_iload_n B (pc := 17) dX6_grave_17 rfl rfl ?_
        refine r_if_lt B (pc := 18) (tgt := 27) dX6_grave_18 (by decide) hf (fun _ hf => ?_) (fun _ hf => ?_)
        · refine r_iconst B (pc := 27) dX6_grave_27 kc_m1 ?_
          exact e_pz (F := (wC ad K nw)) hf (nar_i _) (RET 28 _ dX6_grave_28)
        · refine r_iload_n B (pc := 21) dX6_grave_21 rfl rfl ?_
          refine r_bipush B (pc := 22) dX6_grave_22 kb_89 ?_
          refine r_icmp_le B (pc := 24) (tgt := 29) dX6_grave_24 (by decide) hf (fun _ hf => ?_) (fun _ hf => ?_)
          · refine r_aload_n B (pc := 29) dX6_grave_29 rfl rfl ?_
            refine gC_RX6_10_0 B (pc := 30) dX6_grave_30 ?_
            refine gC_RX6_72_1 B (pc := 33) dX6_grave_33 ?_
            refine gC_RX6_75_2 B (pc := 36) dX6_grave_36 ?_
            refine r_bipush B (pc := 39) dX6_grave_39 kb_10 ?_
            refine r_icmp_lt B (pc := 41) (tgt := 47) dX6_grave_41 (by decide) hf (fun _ hf => ?_) (fun _ hf => ?_)
            · refine r_aload_n B (pc := 47) dX6_grave_47 rfl rfl ?_
              refine gC_RX6_10_0 B (pc := 48) dX6_grave_48 ?_
              refine gC_RX6_72_1 B (pc := 51) dX6_grave_51 ?_
              refine r_iload_n B (pc := 54) dX6_grave_54 rfl rfl ?_
              refine r_iload_n B (pc := 55) dX6_grave_55 rfl rfl ?_
              refine r_iload_n B (pc := 56) dX6_grave_56 rfl rfl ?_
              obtain ⟨s2, hc1, hf⟩ := bdr_e hf
              refine r_cVV B (c_X1_add X.l X.D K ad nw σ x1 x2 x3 hc1) F_X1_add lk_RX6_79 (q0 := 2) (ci := 1) rfl rfl (Nat.le_of_ble_eq_true rfl) (Nat.le_of_ble_eq_true rfl) (Nat.le_of_ble_eq_true rfl) (pc := 57) dX6_grave_57 rfl ?_
              refine r_aload_n B (pc := 60) dX6_grave_60 rfl rfl ?_
              refine gC_RX6_10_0 B (pc := 61) dX6_grave_61 ?_
              refine gC_RX6_72_1 B (pc := 64) dX6_grave_64 ?_
              refine gC_RX6_75_2 B (pc := 67) dX6_grave_67 ?_
              refine r_iconst B (pc := 70) dX6_grave_70 kc_1 ?_
              refine r_isub B (pc := 71) dX6_grave_71 ?_
              exact e_pz (F := (wC ad K nw)) hf (nar_i _) (RET 72 _ dX6_grave_72)
            · refine r_bipush B (pc := 44) dX6_grave_44 kb_m3 ?_
              exact e_pz (F := (wC ad K nw)) hf (nar_i _) (RET 46 _ dX6_grave_46)
          · refine r_iconst B (pc := 27) dX6_grave_27 kc_m1 ?_
            exact e_pz (F := (wC ad K nw)) hf (nar_i _) (RET 28 _ dX6_grave_28)
set_option maxHeartbeats 4000000 in
set_option maxRecDepth 20000 in
theorem c_X6_out (l : Launch) (D : va_G) (K : Kt) (ad : Nat → Nat) (nw : Nat) (σ : St) {r : Int32} {τ : St} (hf : f_X6_out σ = some (r, τ)) : CtI l yX6_out cX6_out 1 (some .int) 0 0 D K [.ref (ad 0)] (wC ad K nw σ) r (wC ad K nw τ) := by
  refine met_i pl_RX6 (Nat.le_of_ble_eq_true rfl) (fun X hnL B RET => ?_)
  suffices h : MW X (wC ad K nw σ) 0 [some (.ref (ad 0))] [] from h
  unfold f_X6_out at hf
  refine r_aload_n B (pc := 0) dX6_out_0 rfl rfl ?_
  refine gC_RX6_10_0 B (pc := 1) dX6_out_1 ?_
  refine gC_RX6_72_1 B (pc := 4) dX6_out_4 ?_
  refine gC_RX6_75_2 B (pc := 7) dX6_out_7 ?_
  refine r_if_ne B (pc := 10) (tgt := 16) dX6_out_10 (by decide) hf (fun _ hf => ?_) (fun _ hf => ?_)
  · refine r_aload_n B (pc := 16) dX6_out_16 rfl rfl ?_
    refine gC_RX6_10_0 B (pc := 17) dX6_out_17 ?_
    refine gC_RX6_72_1 B (pc := 20) dX6_out_20 ?_
    refine r_dup B (pc := 23) dX6_out_23 rfl ?_
    refine gC_RX6_75_2 B (pc := 24) dX6_out_24 ?_
    refine r_iconst B (pc := 27) dX6_out_27 kc_1 ?_
    refine r_isub B (pc := 28) dX6_out_28 ?_
    refine pC_RX6_75_2 B (pc := 29) dX6_out_29 hf (fun s1 hf => ?_)
    refine r_aload_n B (pc := 32) dX6_out_32 rfl rfl ?_
    refine gC_RX6_10_0 B (pc := 33) dX6_out_33 ?_
    refine r_iconst B (pc := 36) dX6_out_36 kc_0 ?_
    refine pC_RX6_83_1 B (pc := 37) dX6_out_37 hf (fun s2 hf => ?_)
    refine r_aload_n B (pc := 40) dX6_out_40 rfl rfl ?_
    refine gC_RX6_10_0 B (pc := 41) dX6_out_41 ?_
    refine gC_RX6_72_1 B (pc := 44) dX6_out_44 ?_
    refine gC_RX6_75_2 B (pc := 47) dX6_out_47 ?_
    exact e_pz (F := (wC ad K nw)) hf (nar_i _) (RET 50 _ dX6_out_50)
  · refine r_bipush B (pc := 13) dX6_out_13 kb_m4 ?_
    exact e_pz (F := (wC ad K nw)) hf (nar_i _) (RET 15 _ dX6_out_15)
set_option maxHeartbeats 4000000 in
set_option maxRecDepth 20000 in
theorem c_X6_reader (l : Launch) (D : va_G) (K : Kt) (ad : Nat → Nat) (nw : Nat) (σ : St) (x1 : Int32) {r : Int32} {τ : St} (hf : f_X6_reader σ x1 = some (r, τ)) : CtI l yX6_reader cX6_reader 2 (some .int) 0 0 D K [.ref (ad 0), .int x1] (wC ad K nw σ) r (wC ad K nw τ) := by
  refine met_i pl_RX6 (Nat.le_of_ble_eq_true rfl) (fun X hnL B RET => ?_)
  suffices h : MW X (wC ad K nw σ) 0 [some (.ref (ad 0)), some (.int x1)] [] from h
  unfold f_X6_reader at hf
  refine r_iload_n B (pc := 0) dX6_reader_0 rfl rfl ?_
  refine r_if_lt B (pc := 1) (tgt := 10) dX6_reader_1 (by decide) hf (fun _ hf => ?_) (fun _ hf => ?_)
  · refine r_iconst B (pc := 10) dX6_reader_10 kc_m1 ?_
    exact e_pz (F := (wC ad K nw)) hf (nar_i _) (RET 11 _ dX6_reader_11)
  · refine r_iload_n B (pc := 4) dX6_reader_4 rfl rfl ?_
    refine r_bipush B (pc := 5) dX6_reader_5 kb_9 ?_
    refine r_icmp_le B (pc := 7) (tgt := 12) dX6_reader_7 (by decide) hf (fun _ hf => ?_) (fun _ hf => ?_)
    · refine r_aload_n B (pc := 12) dX6_reader_12 rfl rfl ?_
      refine gC_RX6_10_0 B (pc := 13) dX6_reader_13 ?_
      refine gC_RX6_86_1 B (pc := 16) dX6_reader_16 ?_
      refine r_iconst B (pc := 19) dX6_reader_19 kc_4 ?_
      refine r_icmp_lt B (pc := 20) (tgt := 26) dX6_reader_20 (by decide) hf (fun _ hf => ?_) (fun _ hf => ?_)
      · refine r_aload_n B (pc := 26) dX6_reader_26 rfl rfl ?_
        refine gC_RX6_10_0 B (pc := 27) dX6_reader_27 ?_
        refine gC_RX6_89_1 B (pc := 30) dX6_reader_30 ?_
        refine r_aload_n B (pc := 33) dX6_reader_33 rfl rfl ?_
        refine gC_RX6_10_0 B (pc := 34) dX6_reader_34 ?_
        refine gC_RX6_86_1 B (pc := 37) dX6_reader_37 ?_
        refine r_iload_n B (pc := 40) dX6_reader_40 rfl rfl ?_
        refine astC_14 B (pc := 41) dX6_reader_41 hf (fun s1 _ hf => ?_)
        refine r_aload_n B (pc := 42) dX6_reader_42 rfl rfl ?_
        refine gC_RX6_10_0 B (pc := 43) dX6_reader_43 ?_
        refine r_dup B (pc := 46) dX6_reader_46 rfl ?_
        refine gC_RX6_86_1 B (pc := 47) dX6_reader_47 ?_
        refine r_iconst B (pc := 50) dX6_reader_50 kc_1 ?_
        refine r_iadd B (pc := 51) dX6_reader_51 ?_
        refine pC_RX6_86_1 B (pc := 52) dX6_reader_52 hf (fun s2 hf => ?_)
        refine r_aload_n B (pc := 55) dX6_reader_55 rfl rfl ?_
        refine gC_RX6_10_0 B (pc := 56) dX6_reader_56 ?_
        refine gC_RX6_86_1 B (pc := 59) dX6_reader_59 ?_
        refine r_iconst B (pc := 62) dX6_reader_62 kc_1 ?_
        refine r_isub B (pc := 63) dX6_reader_63 ?_
        exact e_pz (F := (wC ad K nw)) hf (nar_i _) (RET 64 _ dX6_reader_64)
      · refine r_bipush B (pc := 23) dX6_reader_23 kb_m3 ?_
        exact e_pz (F := (wC ad K nw)) hf (nar_i _) (RET 25 _ dX6_reader_25)
    · refine r_iconst B (pc := 10) dX6_reader_10 kc_m1 ?_
      exact e_pz (F := (wC ad K nw)) hf (nar_i _) (RET 11 _ dX6_reader_11)
set_option maxHeartbeats 4000000 in
set_option maxRecDepth 20000 in
theorem c_X6_isNewsSet (l : Launch) (D : va_G) (K : Kt) (ad : Nat → Nat) (nw : Nat) (σ : St) (x1 : Int32) : CtI l yX6_isNewsSet cX6_isNewsSet 2 (some .boolean) 0 0 D K [.ref (ad 0), .int x1] (wC ad K nw σ) (f_X6_isNewsSet σ x1) (wC ad K nw σ) := by
  refine met_i pl_RX6 (Nat.le_of_ble_eq_true rfl) (fun X hnL B RET => ?_)
  generalize hf : f_X6_isNewsSet σ x1 = r at RET
  suffices h : MW X (wC ad K nw σ) 0 [some (.ref (ad 0)), some (.int x1)] [] from h
  unfold f_X6_isNewsSet at hf
  refine r_iload_n B (pc := 0) dX6_isNewsSet_0 rfl rfl ?_
  refine r_if_lt B (pc := 1) (tgt := 24) dX6_isNewsSet_1 (by decide) hf (fun _ hf => ?_) (fun _ hf => ?_)
  · refine r_iconst B (pc := 24) dX6_isNewsSet_24 kc_0 ?_
    exact e_tz hf rfl (RET 25 _ dX6_isNewsSet_25)
  · refine r_iload_n B (pc := 4) dX6_isNewsSet_4 rfl rfl ?_
    refine r_iconst B (pc := 5) dX6_isNewsSet_5 kc_1 ?_
    refine r_aload_n B (pc := 6) dX6_isNewsSet_6 rfl rfl ?_
    refine gC_RX6_10_0 B (pc := 7) dX6_isNewsSet_7 ?_
    refine gC_RX6_96_1 B (pc := 10) dX6_isNewsSet_10 ?_
    refine gC_RX6_103_9 B (pc := 13) dX6_isNewsSet_13 ?_
    refine r_ishl B (pc := 16) dX6_isNewsSet_16 ?_
    refine r_icmp_ge B (pc := 17) (tgt := 24) dX6_isNewsSet_17 (by decide) hf (fun _ hf => ?_) (fun _ hf => ?_)
    · refine r_iconst B (pc := 24) dX6_isNewsSet_24 kc_0 ?_
      exact e_tz hf rfl (RET 25 _ dX6_isNewsSet_25)
    · refine r_iconst B (pc := 20) dX6_isNewsSet_20 kc_1 ?_
      refine r_goto B (pc := 21) (tgt := 25) dX6_isNewsSet_21 (by decide) ?_
      exact e_tz hf rfl (RET 25 _ dX6_isNewsSet_25)
set_option maxHeartbeats 4000000 in
set_option maxRecDepth 20000 in
theorem c_X6_has (l : Launch) (D : va_G) (K : Kt) (w : va_W) (x0 : Int32) (x1 : Int32) : CtI l yX6_has cX6_has 2 (some .boolean) 0 0 D K [.int x0, .int x1] w (f_X6_has x0 x1) w := by
  refine met_i pl_RX6 (Nat.le_of_ble_eq_true rfl) (fun X hnL B RET => ?_)
  generalize hf : f_X6_has x0 x1 = r at RET
  suffices h : MW X w 0 [some (.int x0), some (.int x1)] [] from h
  unfold f_X6_has at hf
  refine r_iload_n B (pc := 0) dX6_has_0 rfl rfl ?_
  refine r_iload_n B (pc := 1) dX6_has_1 rfl rfl ?_
  refine r_ishr B (pc := 2) dX6_has_2 ?_
  refine r_iconst B (pc := 3) dX6_has_3 kc_1 ?_
  refine r_iand B (pc := 4) dX6_has_4 ?_
  refine r_if_eq B (pc := 5) (tgt := 12) dX6_has_5 (by decide) hf (fun _ hf => ?_) (fun _ hf => ?_)
  · refine r_iconst B (pc := 12) dX6_has_12 kc_0 ?_
    exact e_tz hf rfl (RET 13 _ dX6_has_13)
  · refine r_iconst B (pc := 8) dX6_has_8 kc_1 ?_
    refine r_goto B (pc := 9) (tgt := 13) dX6_has_9 (by decide) ?_
    exact e_tz hf rfl (RET 13 _ dX6_has_13)
set_option maxHeartbeats 4000000 in
set_option maxRecDepth 20000 in
theorem c_X2_areNoLater (l : Launch) (D : va_G) (K : Kt) (ad : Nat → Nat) (nw : Nat) (σ : St) (x1 : Int32) (x2 : Int32) {r : Int32} (hf : f_X2_areNoLater σ x1 x2 = some r) : CtI l yX2_areNoLater cX2_areNoLater 4 (some .boolean) 1 21 D K [.ref (ad 9), .int x1, .int x2] (wC ad K nw σ) r (wC ad K nw σ) := by
  refine met_i pl_RX2 (Nat.le_of_ble_eq_true rfl) (fun X hnL B RET => ?_)
  suffices h : MW X (wC ad K nw σ) 0 [some (.ref (ad 9)), some (.int x1), some (.int x2), none] [] from h
  unfold f_X2_areNoLater at hf
  refine r_iconst B (pc := 0) dX2_areNoLater_0 kc_0 ?_
  refine r_istore_n B hnL (pc := 1) dX2_areNoLater_1 rfl (by decide) ?_
  refine r_lc (loc' := [some (.ref (ad 9)), some (.int x1), some (.int x2), some (.int 0)]) rfl ?_
  have k2 : ∀ (n2 : Nat) (v3 : Int32), f_X2_areNoLater_h2 σ x1 x2 n2 v3 = some r → MW X (wC ad K nw σ) 2 [some (.ref (ad 9)), some (.int x1), some (.int x2), some (.int v3)] [] := by
    intro n2
    induction n2 with
    | zero => intro v3 hf; exact nn_z hf
    | succ n2 ih2 =>
      intro v3 hf
      rw [f_X2_areNoLater_h2] at hf
      refine r_iload_n B (pc := 2) dX2_areNoLater_2 rfl rfl ?_
      refine r_aload_n B (pc := 3) dX2_areNoLater_3 rfl rfl ?_
      refine gC_RX2_9_9 B (pc := 4) dX2_areNoLater_4 ?_
      refine r_icmp_ge B (pc := 7) (tgt := 36) dX2_areNoLater_7 (by decide) hf (fun _ hf => ?_) (fun _ hf => ?_)
      · refine r_iconst B (pc := 36) dX2_areNoLater_36 kc_1 ?_
        exact e_rz hf rfl (RET 37 _ dX2_areNoLater_37)
      · refine r_iload_n B (pc := 10) dX2_areNoLater_10 rfl rfl ?_
        refine r_iload_n B (pc := 11) dX2_areNoLater_11 rfl rfl ?_
        refine r_cNI B (c_X6_has X.l X.D K _ x1 v3) F_X6_has nk_RX2_31 (Nat.le_of_ble_eq_true rfl) (Nat.le_of_ble_eq_true rfl) (Nat.le_of_ble_eq_true rfl) (pc := 12) dX2_areNoLater_12 rfl ?_
        refine r_if_eq B (pc := 15) (tgt := 30) dX2_areNoLater_15 (by decide) hf (fun _ hf => ?_) (fun _ hf => ?_)
        · refine r_iincS B hnL (pc := 30) dX2_areNoLater_30 rfl kc_1 (by decide) hf (fun y1 hf => ?_)
          refine r_lc (loc' := [some (.ref (ad 9)), some (.int x1), some (.int x2), some (.int y1)]) rfl ?_
          refine r_goto B (pc := 33) (tgt := 2) dX2_areNoLater_33 (by decide) ?_
          exact r_mask [true, true, true, true] rfl (ih2 y1 hf)
        · refine r_aload_n B (pc := 18) dX2_areNoLater_18 rfl rfl ?_
          refine gC_RX2_18_9 B (pc := 19) dX2_areNoLater_19 ?_
          refine r_iload_n B (pc := 22) dX2_areNoLater_22 rfl rfl ?_
          refine aldC_10 B (pc := 23) dX2_areNoLater_23 hf (fun _ hf => ?_)
          refine r_iload_n B (pc := 24) dX2_areNoLater_24 rfl rfl ?_
          refine r_icmp_le B (pc := 25) (tgt := 30) dX2_areNoLater_25 (by decide) hf (fun _ hf => ?_) (fun _ hf => ?_)
          · refine r_iincS B hnL (pc := 30) dX2_areNoLater_30 rfl kc_1 (by decide) hf (fun y2 hf => ?_)
            refine r_lc (loc' := [some (.ref (ad 9)), some (.int x1), some (.int x2), some (.int y2)]) rfl ?_
            refine r_goto B (pc := 33) (tgt := 2) dX2_areNoLater_33 (by decide) ?_
            exact r_mask [true, true, true, true] rfl (ih2 y2 hf)
          · refine r_iconst B (pc := 28) dX2_areNoLater_28 kc_0 ?_
            exact e_rz hf rfl (RET 29 _ dX2_areNoLater_29)
  exact r_mask [true, true, true, true] rfl (k2 FU 0 hf)
set_option maxHeartbeats 4000000 in
set_option maxRecDepth 20000 in
theorem c_X2_add (l : Launch) (D : va_G) (K : Kt) (ad : Nat → Nat) (nw : Nat) (σ : St) (x1 : Int32) (x2 : Int32) (x3 : Int32) (x4 : Int32) {τ : St} (hf : f_X2_add σ x1 x2 x3 x4 = some τ) : CtV l yX2_add cX2_add 5 none 0 0 D K [.ref (ad 9), .int x1, .int x2, .int x3, .int x4] (wC ad K nw σ) (wC ad K nw τ) := by
  refine met_v pl_RX2 (Nat.le_of_ble_eq_true rfl) (fun X hnL B RET => ?_)
  suffices h : MW X (wC ad K nw σ) 0 [some (.ref (ad 9)), some (.int x1), some (.int x2), some (.int x3), some (.int x4)] [] from h
  unfold f_X2_add at hf
  refine r_aload_n B (pc := 0) dX2_add_0 rfl rfl ?_
  refine gC_RX2_9_9 B (pc := 1) dX2_add_1 ?_
  refine r_bipush B (pc := 4) dX2_add_4 kb_12 ?_
  refine r_icmp_lt B (pc := 6) (tgt := 10) dX2_add_6 (by decide) hf (fun _ hf => ?_) (fun _ hf => ?_)
  · refine r_aload_n B (pc := 10) dX2_add_10 rfl rfl ?_
    refine gC_RX2_18_9 B (pc := 11) dX2_add_11 ?_
    refine r_aload_n B (pc := 14) dX2_add_14 rfl rfl ?_
    refine gC_RX2_9_9 B (pc := 15) dX2_add_15 ?_
    refine r_iload_n B (pc := 18) dX2_add_18 rfl rfl ?_
    refine astC_10 B (pc := 19) dX2_add_19 hf (fun s1 _ hf => ?_)
    refine r_aload_n B (pc := 20) dX2_add_20 rfl rfl ?_
    refine gC_RX2_22_9 B (pc := 21) dX2_add_21 ?_
    refine r_aload_n B (pc := 24) dX2_add_24 rfl rfl ?_
    refine gC_RX2_9_9 B (pc := 25) dX2_add_25 ?_
    refine r_iload_n B (pc := 28) dX2_add_28 rfl rfl ?_
    refine astC_11 B (pc := 29) dX2_add_29 hf (fun s2 _ hf => ?_)
    refine r_aload_n B (pc := 30) dX2_add_30 rfl rfl ?_
    refine gC_RX2_25_9 B (pc := 31) dX2_add_31 ?_
    refine r_aload_n B (pc := 34) dX2_add_34 rfl rfl ?_
    refine gC_RX2_9_9 B (pc := 35) dX2_add_35 ?_
    refine r_iload_n B (pc := 38) dX2_add_38 rfl rfl ?_
    refine astC_12 B (pc := 39) dX2_add_39 hf (fun s3 _ hf => ?_)
    refine r_aload_n B (pc := 40) dX2_add_40 rfl rfl ?_
    refine gC_RX2_28_9 B (pc := 41) dX2_add_41 ?_
    refine r_aload_n B (pc := 44) dX2_add_44 rfl rfl ?_
    refine gC_RX2_9_9 B (pc := 45) dX2_add_45 ?_
    refine r_iload B (pc := 48) dX2_add_48 rfl ?_
    refine astC_13 B (pc := 50) dX2_add_50 hf (fun s4 _ hf => ?_)
    refine r_aload_n B (pc := 51) dX2_add_51 rfl rfl ?_
    refine r_dup B (pc := 52) dX2_add_52 rfl ?_
    refine gC_RX2_9_9 B (pc := 53) dX2_add_53 ?_
    refine r_iconst B (pc := 56) dX2_add_56 kc_1 ?_
    refine r_iadd B (pc := 57) dX2_add_57 ?_
    refine pC_RX2_9_9 B (pc := 58) dX2_add_58 hf (fun s5 hf => ?_)
    refine r_aload_n B (pc := 61) dX2_add_61 rfl rfl ?_
    refine r_iconst B (pc := 62) dX2_add_62 kc_0 ?_
    refine pC_RX2_15_9 B (pc := 63) dX2_add_63 hf (fun s6 hf => ?_)
    exact e_s (F := (wC ad K nw)) hf (RET 66 _ dX2_add_66)
  · exact e_s (F := (wC ad K nw)) hf (RET 9 _ dX2_add_9)
set_option maxHeartbeats 4000000 in
set_option maxRecDepth 20000 in
theorem c_X6_news (l : Launch) (D : va_G) (K : Kt) (ad : Nat → Nat) (nw : Nat) (σ : St) (x1 : Int32) (x2 : Int32) (x3 : Int32) {r : Int32} {τ : St} (hf : f_X6_news σ x1 x2 x3 = some (r, τ)) : CtI l yX6_news cX6_news 4 (some .int) 2 44 D K [.ref (ad 0), .int x1, .int x2, .int x3] (wC ad K nw σ) r (wC ad K nw τ) := by
  refine met_i pl_RX6 (Nat.le_of_ble_eq_true rfl) (fun X hnL B RET => ?_)
  suffices h : MW X (wC ad K nw σ) 0 [some (.ref (ad 0)), some (.int x1), some (.int x2), some (.int x3)] [] from h
  unfold f_X6_news at hf
  refine r_iload_n B (pc := 0) dX6_news_0 rfl rfl ?_
  refine r_if_lt B (pc := 1) (tgt := 19) dX6_news_1 (by decide) hf (fun _ hf => ?_) (fun _ hf => ?_)
  · refine r_iconst B (pc := 19) dX6_news_19 kc_m1 ?_
    exact e_pz (F := (wC ad K nw)) hf (nar_i _) (RET 20 _ dX6_news_20)
  · refine r_iload_n B (pc := 4) dX6_news_4 rfl rfl ?_
    refine r_bipush B (pc := 5) dX6_news_5 kb_99 ?_
    refine r_icmp_gt B (pc := 7) (tgt := 19) dX6_news_7 (by decide) hf (fun _ hf => ?_) (fun _ hf => ?_)
    · refine r_iconst B (pc := 19) dX6_news_19 kc_m1 ?_
      exact e_pz (F := (wC ad K nw)) hf (nar_i _) (RET 20 _ dX6_news_20)
    · refine r_iload_n B (pc := 10) dX6_news_10 rfl rfl ?_
      refine r_if_lt B (pc := 11) (tgt := 19) dX6_news_11 (by decide) hf (fun _ hf => ?_) (fun _ hf => ?_)
      · refine r_iconst B (pc := 19) dX6_news_19 kc_m1 ?_
        exact e_pz (F := (wC ad K nw)) hf (nar_i _) (RET 20 _ dX6_news_20)
      · refine r_iload_n B (pc := 14) dX6_news_14 rfl rfl ?_
        refine r_iconst B (pc := 15) dX6_news_15 kc_1 ?_
        refine r_icmp_le B (pc := 16) (tgt := 21) dX6_news_16 (by decide) hf (fun _ hf => ?_) (fun _ hf => ?_)
        · refine r_aload_n B (pc := 21) dX6_news_21 rfl rfl ?_
          refine r_iload_n B (pc := 22) dX6_news_22 rfl rfl ?_
          refine r_cVI B (c_X6_isNewsSet X.l X.D K ad nw σ x2) F_X6_isNewsSet lk_RX6_92 (q0 := 0) (ci := 6) rfl rfl (Nat.le_of_ble_eq_true rfl) (Nat.le_of_ble_eq_true rfl) (Nat.le_of_ble_eq_true rfl) (pc := 23) dX6_news_23 rfl ?_
          refine r_if_eq B (pc := 26) (tgt := 44) dX6_news_26 (by decide) hf (fun _ hf => ?_) (fun _ hf => ?_)
          · refine r_iconst B (pc := 44) dX6_news_44 kc_m1 ?_
            exact e_pz (F := (wC ad K nw)) hf (nar_i _) (RET 45 _ dX6_news_45)
          · refine r_aload_n B (pc := 29) dX6_news_29 rfl rfl ?_
            refine gC_RX6_10_0 B (pc := 30) dX6_news_30 ?_
            refine gC_RX6_96_1 B (pc := 33) dX6_news_33 ?_
            refine r_iload_n B (pc := 36) dX6_news_36 rfl rfl ?_
            refine r_iload_n B (pc := 37) dX6_news_37 rfl rfl ?_
            obtain ⟨r2, hc1, hf⟩ := bdr_e hf
            refine r_cVI B (c_X2_areNoLater X.l X.D K ad nw σ x2 x1 hc1) F_X2_areNoLater lk_RX6_99 (q0 := 9) (ci := 2) rfl rfl (Nat.le_of_ble_eq_true rfl) (Nat.le_of_ble_eq_true rfl) (Nat.le_of_ble_eq_true rfl) (pc := 38) dX6_news_38 rfl ?_
            refine r_if_ne B (pc := 41) (tgt := 46) dX6_news_41 (by decide) hf (fun _ hf => ?_) (fun _ hf => ?_)
            · refine r_aload_n B (pc := 46) dX6_news_46 rfl rfl ?_
              refine gC_RX6_10_0 B (pc := 47) dX6_news_47 ?_
              refine gC_RX6_96_1 B (pc := 50) dX6_news_50 ?_
              refine gC_RX6_103_9 B (pc := 53) dX6_news_53 ?_
              refine r_bipush B (pc := 56) dX6_news_56 kb_12 ?_
              refine r_icmp_lt B (pc := 58) (tgt := 64) dX6_news_58 (by decide) hf (fun _ hf => ?_) (fun _ hf => ?_)
              · refine r_aload_n B (pc := 64) dX6_news_64 rfl rfl ?_
                refine gC_RX6_10_0 B (pc := 65) dX6_news_65 ?_
                refine gC_RX6_96_1 B (pc := 68) dX6_news_68 ?_
                refine r_iload_n B (pc := 71) dX6_news_71 rfl rfl ?_
                refine r_iload_n B (pc := 72) dX6_news_72 rfl rfl ?_
                refine r_iconst B (pc := 73) dX6_news_73 kc_0 ?_
                refine r_iload_n B (pc := 74) dX6_news_74 rfl rfl ?_
                obtain ⟨s4, hc3, hf⟩ := bdr_e hf
                refine r_cVV B (c_X2_add X.l X.D K ad nw σ x1 x2 0 x3 hc3) F_X2_add lk_RX6_104 (q0 := 9) (ci := 2) rfl rfl (Nat.le_of_ble_eq_true rfl) (Nat.le_of_ble_eq_true rfl) (Nat.le_of_ble_eq_true rfl) (pc := 75) dX6_news_75 rfl ?_
                refine r_aload_n B (pc := 78) dX6_news_78 rfl rfl ?_
                refine gC_RX6_10_0 B (pc := 79) dX6_news_79 ?_
                refine gC_RX6_96_1 B (pc := 82) dX6_news_82 ?_
                refine gC_RX6_103_9 B (pc := 85) dX6_news_85 ?_
                refine r_iconst B (pc := 88) dX6_news_88 kc_1 ?_
                refine r_isub B (pc := 89) dX6_news_89 ?_
                exact e_pz (F := (wC ad K nw)) hf (nar_i _) (RET 90 _ dX6_news_90)
              · refine r_bipush B (pc := 61) dX6_news_61 kb_m3 ?_
                exact e_pz (F := (wC ad K nw)) hf (nar_i _) (RET 63 _ dX6_news_63)
            · refine r_iconst B (pc := 44) dX6_news_44 kc_m1 ?_
              exact e_pz (F := (wC ad K nw)) hf (nar_i _) (RET 45 _ dX6_news_45)
        · refine r_iconst B (pc := 19) dX6_news_19 kc_m1 ?_
          exact e_pz (F := (wC ad K nw)) hf (nar_i _) (RET 20 _ dX6_news_20)
set_option maxHeartbeats 4000000 in
set_option maxRecDepth 20000 in
theorem c_X6_isNews (l : Launch) (D : va_G) (K : Kt) (ad : Nat → Nat) (nw : Nat) (σ : St) (x1 : Int64) : CtI l yX6_isNews cX6_isNews 3 (some .boolean) 0 0 D K [.ref (ad 0), .long x1] (wC ad K nw σ) (f_X6_isNews σ x1) (wC ad K nw σ) := by
  refine met_i pl_RX6 (Nat.le_of_ble_eq_true rfl) (fun X hnL B RET => ?_)
  generalize hf : f_X6_isNews σ x1 = r at RET
  suffices h : MW X (wC ad K nw σ) 0 [some (.ref (ad 0)), some (.long x1), none] [] from h
  unfold f_X6_isNews at hf
  refine r_lload_n B (pc := 0) dX6_isNews_0 rfl rfl ?_
  refine r_lconst B (pc := 1) dX6_isNews_1 kl_0 ?_
  refine r_lcmp B (pc := 2) dX6_isNews_2 ?_
  refine r_if_lt B (pc := 3) (tgt := 26) dX6_isNews_3 (by decide) hf (fun _ hf => ?_) (fun _ hf => ?_)
  · refine r_iconst B (pc := 26) dX6_isNews_26 kc_0 ?_
    exact e_tz hf rfl (RET 27 _ dX6_isNews_27)
  · refine r_lload_n B (pc := 6) dX6_isNews_6 rfl rfl ?_
    refine r_aload_n B (pc := 7) dX6_isNews_7 rfl rfl ?_
    refine gC_RX6_10_0 B (pc := 8) dX6_isNews_8 ?_
    refine gC_RX6_96_1 B (pc := 11) dX6_isNews_11 ?_
    refine gC_RX6_103_9 B (pc := 14) dX6_isNews_14 ?_
    refine r_i2l B (pc := 17) dX6_isNews_17 ?_
    refine r_lcmp B (pc := 18) dX6_isNews_18 ?_
    refine r_if_ge B (pc := 19) (tgt := 26) dX6_isNews_19 (by decide) hf (fun _ hf => ?_) (fun _ hf => ?_)
    · refine r_iconst B (pc := 26) dX6_isNews_26 kc_0 ?_
      exact e_tz hf rfl (RET 27 _ dX6_isNews_27)
    · refine r_iconst B (pc := 22) dX6_isNews_22 kc_1 ?_
      refine r_goto B (pc := 23) (tgt := 27) dX6_isNews_23 (by decide) ?_
      exact e_tz hf rfl (RET 27 _ dX6_isNews_27)
set_option maxHeartbeats 4000000 in
set_option maxRecDepth 20000 in
theorem c_X6_bar (l : Launch) (D : va_G) (K : Kt) (ad : Nat → Nat) (nw : Nat) (σ : St) (x1 : Int32) (x2 : Int32) {r : Int32} {τ : St} (hf : f_X6_bar σ x1 x2 = some (r, τ)) : CtI l yX6_bar cX6_bar 4 (some .int) 1 22 D K [.ref (ad 0), .int x1, .int x2] (wC ad K nw σ) r (wC ad K nw τ) := by
  refine met_i pl_RX6 (Nat.le_of_ble_eq_true rfl) (fun X hnL B RET => ?_)
  suffices h : MW X (wC ad K nw σ) 0 [some (.ref (ad 0)), some (.int x1), some (.int x2), none] [] from h
  unfold f_X6_bar at hf
  refine r_aload_n B (pc := 0) dX6_bar_0 rfl rfl ?_
  refine r_iload_n B (pc := 1) dX6_bar_1 rfl rfl ?_
  refine r_i2l B (pc := 2) dX6_bar_2 ?_
  refine r_cVI B (c_X6_isNews X.l X.D K ad nw σ (x1.toInt64)) F_X6_isNews lk_RX6_107 (q0 := 0) (ci := 6) rfl rfl (Nat.le_of_ble_eq_true rfl) (Nat.le_of_ble_eq_true rfl) (Nat.le_of_ble_eq_true rfl) (pc := 3) dX6_bar_3 rfl ?_
  refine r_if_eq B (pc := 6) (tgt := 20) dX6_bar_6 (by decide) hf (fun _ hf => ?_) (fun _ hf => ?_)
  · refine r_iconst B (pc := 20) dX6_bar_20 kc_m1 ?_
    exact e_pz (F := (wC ad K nw)) hf (nar_i _) (RET 21 _ dX6_bar_21)
  · refine r_iload_n B (pc := 9) dX6_bar_9 rfl rfl ?_
    refine r_if_lt B (pc := 10) (tgt := 20) dX6_bar_10 (by decide) hf (fun _ hf => ?_) (fun _ hf => ?_)
    · refine r_iconst B (pc := 20) dX6_bar_20 kc_m1 ?_
      exact e_pz (F := (wC ad K nw)) hf (nar_i _) (RET 21 _ dX6_bar_21)
    · refine r_iload_n B (pc := 13) dX6_bar_13 rfl rfl ?_
      refine r_sipush B (pc := 14) dX6_bar_14 ks_1024 ?_
      refine r_icmp_lt B (pc := 17) (tgt := 22) dX6_bar_17 (by decide) hf (fun _ hf => ?_) (fun _ hf => ?_)
      · refine r_aload_n B (pc := 22) dX6_bar_22 rfl rfl ?_
        refine gC_RX6_10_0 B (pc := 23) dX6_bar_23 ?_
        refine gC_RX6_96_1 B (pc := 26) dX6_bar_26 ?_
        refine gC_RX6_110_9 B (pc := 29) dX6_bar_29 ?_
        refine r_iload_n B (pc := 32) dX6_bar_32 rfl rfl ?_
        refine aldC_12 B (pc := 33) dX6_bar_33 hf (fun _ hf => ?_)
        refine r_nm hf (fun y1 hf => ?_)
        refine r_istore_n B hnL (pc := 34) dX6_bar_34 rfl (by decide) ?_
        refine r_lc (loc' := [some (.ref (ad 0)), some (.int x1), some (.int x2), some (.int y1)]) rfl ?_
        refine r_aload_n B (pc := 35) dX6_bar_35 rfl rfl ?_
        refine gC_RX6_10_0 B (pc := 36) dX6_bar_36 ?_
        refine gC_RX6_96_1 B (pc := 39) dX6_bar_39 ?_
        refine gC_RX6_110_9 B (pc := 42) dX6_bar_42 ?_
        refine r_iload_n B (pc := 45) dX6_bar_45 rfl rfl ?_
        refine r_iload_n B (pc := 46) dX6_bar_46 rfl rfl ?_
        refine astC_12 B (pc := 47) dX6_bar_47 hf (fun s2 _ hf => ?_)
        refine r_iload_n B (pc := 48) dX6_bar_48 rfl rfl ?_
        exact e_pz (F := (wC ad K nw)) hf (nar_i _) (RET 49 _ dX6_bar_49)
      · refine r_iconst B (pc := 20) dX6_bar_20 kc_m1 ?_
        exact e_pz (F := (wC ad K nw)) hf (nar_i _) (RET 21 _ dX6_bar_21)
set_option maxHeartbeats 4000000 in
set_option maxRecDepth 20000 in
theorem c_X6_isWind (l : Launch) (D : va_G) (K : Kt) (w : va_W) (x0 : Int32) : CtI l yX6_isWind cX6_isWind 1 (some .boolean) 0 0 D K [.int x0] w (f_X6_isWind x0) w := by
  refine met_i pl_RX6 (Nat.le_of_ble_eq_true rfl) (fun X hnL B RET => ?_)
  generalize hf : f_X6_isWind x0 = r at RET
  suffices h : MW X w 0 [some (.int x0)] [] from h
  unfold f_X6_isWind at hf
  refine r_iload_n B (pc := 0) dX6_isWind_0 rfl rfl ?_
  refine r_if_lt B (pc := 1) (tgt := 13) dX6_isWind_1 (by decide) hf (fun _ hf => ?_) (fun _ hf => ?_)
  · refine r_iconst B (pc := 13) dX6_isWind_13 kc_0 ?_
    exact e_tz hf rfl (RET 14 _ dX6_isWind_14)
  · refine r_iload_n B (pc := 4) dX6_isWind_4 rfl rfl ?_
    refine r_iconst B (pc := 5) dX6_isWind_5 kc_5 ?_
    refine r_icmp_ge B (pc := 6) (tgt := 13) dX6_isWind_6 (by decide) hf (fun _ hf => ?_) (fun _ hf => ?_)
    · refine r_iconst B (pc := 13) dX6_isWind_13 kc_0 ?_
      exact e_tz hf rfl (RET 14 _ dX6_isWind_14)
    · refine r_iconst B (pc := 9) dX6_isWind_9 kc_1 ?_
      refine r_goto B (pc := 10) (tgt := 14) dX6_isWind_10 (by decide) ?_
      exact e_tz hf rfl (RET 14 _ dX6_isWind_14)
set_option maxHeartbeats 4000000 in
set_option maxRecDepth 20000 in
theorem c_X6_wind (l : Launch) (D : va_G) (K : Kt) (ad : Nat → Nat) (nw : Nat) (σ : St) (x1 : Int32) {r : Int32} {τ : St} (hf : f_X6_wind σ x1 = some (r, τ)) : CtI l yX6_wind cX6_wind 3 (some .int) 1 20 D K [.ref (ad 0), .int x1] (wC ad K nw σ) r (wC ad K nw τ) := by
  refine met_i pl_RX6 (Nat.le_of_ble_eq_true rfl) (fun X hnL B RET => ?_)
  suffices h : MW X (wC ad K nw σ) 0 [some (.ref (ad 0)), some (.int x1), none] [] from h
  unfold f_X6_wind at hf
  refine r_iload_n B (pc := 0) dX6_wind_0 rfl rfl ?_
  refine r_cSI B (c_X6_isWind X.l X.D K _ x1) F_X6_isWind lk_RX6_113 (Nat.le_of_ble_eq_true rfl) (Nat.le_of_ble_eq_true rfl) (Nat.le_of_ble_eq_true rfl) (pc := 1) dX6_wind_1 rfl ?_
  refine r_if_ne B (pc := 4) (tgt := 9) dX6_wind_4 (by decide) hf (fun _ hf => ?_) (fun _ hf => ?_)
  · refine r_aload_n B (pc := 9) dX6_wind_9 rfl rfl ?_
    refine gC_RX6_10_0 B (pc := 10) dX6_wind_10 ?_
    refine gC_RX6_116_1 B (pc := 13) dX6_wind_13 ?_
    refine r_nm hf (fun y1 hf => ?_)
    refine r_istore_n B hnL (pc := 16) dX6_wind_16 rfl (by decide) ?_
    refine r_lc (loc' := [some (.ref (ad 0)), some (.int x1), some (.int y1)]) rfl ?_
    refine r_aload_n B (pc := 17) dX6_wind_17 rfl rfl ?_
    refine gC_RX6_10_0 B (pc := 18) dX6_wind_18 ?_
    refine r_iload_n B (pc := 21) dX6_wind_21 rfl rfl ?_
    refine pC_RX6_116_1 B (pc := 22) dX6_wind_22 hf (fun s2 hf => ?_)
    refine r_iload_n B (pc := 25) dX6_wind_25 rfl rfl ?_
    exact e_pz (F := (wC ad K nw)) hf (nar_i _) (RET 26 _ dX6_wind_26)
  · refine r_iconst B (pc := 7) dX6_wind_7 kc_m1 ?_
    exact e_pz (F := (wC ad K nw)) hf (nar_i _) (RET 8 _ dX6_wind_8)
set_option maxHeartbeats 4000000 in
set_option maxRecDepth 20000 in
theorem c_X6_weight (l : Launch) (D : va_G) (K : Kt) (ad : Nat → Nat) (nw : Nat) (σ : St) (x1 : Int32) (x2 : Int32) {r : Int32} {τ : St} (hf : f_X6_weight σ x1 x2 = some (r, τ)) : CtI l yX6_weight cX6_weight 4 (some .int) 1 20 D K [.ref (ad 0), .int x1, .int x2] (wC ad K nw σ) r (wC ad K nw τ) := by
  refine met_i pl_RX6 (Nat.le_of_ble_eq_true rfl) (fun X hnL B RET => ?_)
  suffices h : MW X (wC ad K nw σ) 0 [some (.ref (ad 0)), some (.int x1), some (.int x2), none] [] from h
  unfold f_X6_weight at hf
  refine r_iload_n B (pc := 0) dX6_weight_0 rfl rfl ?_
  refine r_cSI B (c_X6_isWind X.l X.D K _ x1) F_X6_isWind lk_RX6_113 (Nat.le_of_ble_eq_true rfl) (Nat.le_of_ble_eq_true rfl) (Nat.le_of_ble_eq_true rfl) (pc := 1) dX6_weight_1 rfl ?_
  refine r_if_eq B (pc := 4) (tgt := 17) dX6_weight_4 (by decide) hf (fun _ hf => ?_) (fun _ hf => ?_)
  · refine r_iconst B (pc := 17) dX6_weight_17 kc_m1 ?_
    exact e_pz (F := (wC ad K nw)) hf (nar_i _) (RET 18 _ dX6_weight_18)
  · refine r_iload_n B (pc := 7) dX6_weight_7 rfl rfl ?_
    refine r_if_lt B (pc := 8) (tgt := 17) dX6_weight_8 (by decide) hf (fun _ hf => ?_) (fun _ hf => ?_)
    · refine r_iconst B (pc := 17) dX6_weight_17 kc_m1 ?_
      exact e_pz (F := (wC ad K nw)) hf (nar_i _) (RET 18 _ dX6_weight_18)
    · refine r_iload_n B (pc := 11) dX6_weight_11 rfl rfl ?_
      refine r_bipush B (pc := 12) dX6_weight_12 kb_9 ?_
      refine r_icmp_le B (pc := 14) (tgt := 19) dX6_weight_14 (by decide) hf (fun _ hf => ?_) (fun _ hf => ?_)
      · refine r_aload_n B (pc := 19) dX6_weight_19 rfl rfl ?_
        refine gC_RX6_10_0 B (pc := 20) dX6_weight_20 ?_
        refine gC_RX6_119_1 B (pc := 23) dX6_weight_23 ?_
        refine r_iload_n B (pc := 26) dX6_weight_26 rfl rfl ?_
        refine aldC_15 B (pc := 27) dX6_weight_27 hf (fun _ hf => ?_)
        refine r_nm hf (fun y1 hf => ?_)
        refine r_istore_n B hnL (pc := 28) dX6_weight_28 rfl (by decide) ?_
        refine r_lc (loc' := [some (.ref (ad 0)), some (.int x1), some (.int x2), some (.int y1)]) rfl ?_
        refine r_aload_n B (pc := 29) dX6_weight_29 rfl rfl ?_
        refine gC_RX6_10_0 B (pc := 30) dX6_weight_30 ?_
        refine gC_RX6_119_1 B (pc := 33) dX6_weight_33 ?_
        refine r_iload_n B (pc := 36) dX6_weight_36 rfl rfl ?_
        refine r_iload_n B (pc := 37) dX6_weight_37 rfl rfl ?_
        refine astC_15 B (pc := 38) dX6_weight_38 hf (fun s2 _ hf => ?_)
        refine r_iload_n B (pc := 39) dX6_weight_39 rfl rfl ?_
        exact e_pz (F := (wC ad K nw)) hf (nar_i _) (RET 40 _ dX6_weight_40)
      · refine r_iconst B (pc := 17) dX6_weight_17 kc_m1 ?_
        exact e_pz (F := (wC ad K nw)) hf (nar_i _) (RET 18 _ dX6_weight_18)
set_option maxHeartbeats 4000000 in
set_option maxRecDepth 20000 in
theorem c_X6_now (l : Launch) (D : va_G) (K : Kt) (ad : Nat → Nat) (nw : Nat) (σ : St) (x1 : Int32) {r : Int32} {τ : St} (hf : f_X6_now σ x1 = some (r, τ)) : CtI l yX6_now cX6_now 3 (some .int) 0 0 D K [.ref (ad 0), .int x1] (wC ad K nw σ) r (wC ad K nw τ) := by
  refine met_i pl_RX6 (Nat.le_of_ble_eq_true rfl) (fun X hnL B RET => ?_)
  suffices h : MW X (wC ad K nw σ) 0 [some (.ref (ad 0)), some (.int x1), none] [] from h
  unfold f_X6_now at hf
  refine r_iload_n B (pc := 0) dX6_now_0 rfl rfl ?_
  refine r_if_lt B (pc := 1) (tgt := 10) dX6_now_1 (by decide) hf (fun _ hf => ?_) (fun _ hf => ?_)
  · refine r_iconst B (pc := 10) dX6_now_10 kc_m1 ?_
    exact e_pz (F := (wC ad K nw)) hf (nar_i _) (RET 11 _ dX6_now_11)
  · refine r_iload_n B (pc := 4) dX6_now_4 rfl rfl ?_
    refine r_bipush B (pc := 5) dX6_now_5 kb_99 ?_
    refine r_icmp_le B (pc := 7) (tgt := 12) dX6_now_7 (by decide) hf (fun _ hf => ?_) (fun _ hf => ?_)
    · refine r_aload_n B (pc := 12) dX6_now_12 rfl rfl ?_
      refine gC_RX6_10_0 B (pc := 13) dX6_now_13 ?_
      refine gC_RX6_122_1 B (pc := 16) dX6_now_16 ?_
      refine r_nm hf (fun y1 hf => ?_)
      refine r_istore_n B hnL (pc := 19) dX6_now_19 rfl (by decide) ?_
      refine r_lc (loc' := [some (.ref (ad 0)), some (.int x1), some (.int y1)]) rfl ?_
      refine r_aload_n B (pc := 20) dX6_now_20 rfl rfl ?_
      refine gC_RX6_10_0 B (pc := 21) dX6_now_21 ?_
      refine r_iload_n B (pc := 24) dX6_now_24 rfl rfl ?_
      refine pC_RX6_122_1 B (pc := 25) dX6_now_25 hf (fun s2 hf => ?_)
      refine r_iload_n B (pc := 28) dX6_now_28 rfl rfl ?_
      exact e_pz (F := (wC ad K nw)) hf (nar_i _) (RET 29 _ dX6_now_29)
    · refine r_iconst B (pc := 10) dX6_now_10 kc_m1 ?_
      exact e_pz (F := (wC ad K nw)) hf (nar_i _) (RET 11 _ dX6_now_11)
set_option maxHeartbeats 4000000 in
set_option maxRecDepth 20000 in
theorem c_X6_isGrave (l : Launch) (D : va_G) (K : Kt) (ad : Nat → Nat) (nw : Nat) (σ : St) (x1 : Int32) : CtI l yX6_isGrave cX6_isGrave 2 (some .boolean) 0 0 D K [.ref (ad 0), .int x1] (wC ad K nw σ) (f_X6_isGrave σ x1) (wC ad K nw σ) := by
  refine met_i pl_RX6 (Nat.le_of_ble_eq_true rfl) (fun X hnL B RET => ?_)
  generalize hf : f_X6_isGrave σ x1 = r at RET
  suffices h : MW X (wC ad K nw σ) 0 [some (.ref (ad 0)), some (.int x1)] [] from h
  unfold f_X6_isGrave at hf
  refine r_iload_n B (pc := 0) dX6_isGrave_0 rfl rfl ?_
  refine r_if_lt B (pc := 1) (tgt := 22) dX6_isGrave_1 (by decide) hf (fun _ hf => ?_) (fun _ hf => ?_)
  · refine r_iconst B (pc := 22) dX6_isGrave_22 kc_0 ?_
    exact e_tz hf rfl (RET 23 _ dX6_isGrave_23)
  · refine r_iload_n B (pc := 4) dX6_isGrave_4 rfl rfl ?_
    refine r_aload_n B (pc := 5) dX6_isGrave_5 rfl rfl ?_
    refine gC_RX6_10_0 B (pc := 6) dX6_isGrave_6 ?_
    refine gC_RX6_72_1 B (pc := 9) dX6_isGrave_9 ?_
    refine gC_RX6_75_2 B (pc := 12) dX6_isGrave_12 ?_
    refine r_icmp_ge B (pc := 15) (tgt := 22) dX6_isGrave_15 (by decide) hf (fun _ hf => ?_) (fun _ hf => ?_)
    · refine r_iconst B (pc := 22) dX6_isGrave_22 kc_0 ?_
      exact e_tz hf rfl (RET 23 _ dX6_isGrave_23)
    · refine r_iconst B (pc := 18) dX6_isGrave_18 kc_1 ?_
      refine r_goto B (pc := 19) (tgt := 23) dX6_isGrave_19 (by decide) ?_
      exact e_tz hf rfl (RET 23 _ dX6_isGrave_23)
set_option maxHeartbeats 4000000 in
set_option maxRecDepth 20000 in
theorem c_X3_isOwed (l : Launch) (D : va_G) (K : Kt) (ad : Nat → Nat) (nw : Nat) (σ : St) (x1 : Int32) (x2 : Int32) {r : Int32} (hf : f_X3_isOwed σ x1 x2 = some r) : CtI l yX3_isOwed cX3_isOwed 4 (some .boolean) 1 21 D K [.ref (ad 1), .int x1, .int x2] (wC ad K nw σ) r (wC ad K nw σ) := by
  refine met_i pl_RX3 (Nat.le_of_ble_eq_true rfl) (fun X hnL B RET => ?_)
  suffices h : MW X (wC ad K nw σ) 0 [some (.ref (ad 1)), some (.int x1), some (.int x2), none] [] from h
  unfold f_X3_isOwed at hf
  refine r_aload_n B (pc := 0) dX3_isOwed_0 rfl rfl ?_
  refine gC_RX3_21_1 B (pc := 1) dX3_isOwed_1 ?_
  refine gC_RX3_105_9 B (pc := 4) dX3_isOwed_4 ?_
  refine r_iload_n B (pc := 7) dX3_isOwed_7 rfl rfl ?_
  refine aldC_12 B (pc := 8) dX3_isOwed_8 hf (fun _ hf => ?_)
  refine r_iload_n B (pc := 9) dX3_isOwed_9 rfl rfl ?_
  refine r_cNI B (c_X6_has X.l X.D K _ (σ.1 12 (ix x2)) x1) F_X6_has nk_RX3_108 (Nat.le_of_ble_eq_true rfl) (Nat.le_of_ble_eq_true rfl) (Nat.le_of_ble_eq_true rfl) (pc := 10) dX3_isOwed_10 rfl ?_
  refine r_if_eq B (pc := 13) (tgt := 18) dX3_isOwed_13 (by decide) hf (fun _ hf => ?_) (fun _ hf => ?_)
  · refine r_aload_n B (pc := 18) dX3_isOwed_18 rfl rfl ?_
    refine gC_RX3_21_1 B (pc := 19) dX3_isOwed_19 ?_
    refine gC_RX3_112_9 B (pc := 22) dX3_isOwed_22 ?_
    refine r_iload_n B (pc := 25) dX3_isOwed_25 rfl rfl ?_
    refine aldC_10 B (pc := 26) dX3_isOwed_26 hf (fun _ hf => ?_)
    refine r_aload_n B (pc := 27) dX3_isOwed_27 rfl rfl ?_
    refine gC_RX3_12_1 B (pc := 28) dX3_isOwed_28 ?_
    refine gC_RX3_115_2 B (pc := 31) dX3_isOwed_31 ?_
    refine r_iload_n B (pc := 34) dX3_isOwed_34 rfl rfl ?_
    refine aldC_5 B (pc := 35) dX3_isOwed_35 hf (fun _ hf => ?_)
    refine r_isub B (pc := 36) dX3_isOwed_36 ?_
    refine r_nm hf (fun y1 hf => ?_)
    refine r_istore_n B hnL (pc := 37) dX3_isOwed_37 rfl (by decide) ?_
    refine r_lc (loc' := [some (.ref (ad 1)), some (.int x1), some (.int x2), some (.int y1)]) rfl ?_
    refine r_iload_n B (pc := 38) dX3_isOwed_38 rfl rfl ?_
    refine r_if_lt B (pc := 39) (tgt := 48) dX3_isOwed_39 (by decide) hf (fun _ hf => ?_) (fun _ hf => ?_)
    · refine r_iconst B (pc := 48) dX3_isOwed_48 kc_0 ?_
      exact e_rz hf rfl (RET 49 _ dX3_isOwed_49)
    · refine r_iload_n B (pc := 42) dX3_isOwed_42 rfl rfl ?_
      refine r_bipush B (pc := 43) dX3_isOwed_43 kb_8 ?_
      refine r_icmp_le B (pc := 45) (tgt := 50) dX3_isOwed_45 (by decide) hf (fun _ hf => ?_) (fun _ hf => ?_)
      · refine r_aload_n B (pc := 50) dX3_isOwed_50 rfl rfl ?_
        refine gC_RX3_12_1 B (pc := 51) dX3_isOwed_51 ?_
        refine gC_RX3_83_2 B (pc := 54) dX3_isOwed_54 ?_
        refine r_iload_n B (pc := 57) dX3_isOwed_57 rfl rfl ?_
        refine aldC_3 B (pc := 58) dX3_isOwed_58 hf (fun _ hf => ?_)
        by_cases q59_2 : (σ.1 3 (ix x1)) = 2
        · have hf := it_t hf q59_2
          refine r_tsw B (pc := 59) (off := 29) (tgt := 88) dX3_isOwed_59 (by rw [q59_2]; decide) (by rw [q59_2]; decide) (by rw [q59_2]; decide) (by decide) ?_
          refine r_aload_n B (pc := 88) dX3_isOwed_88 rfl rfl ?_
          refine gC_RX3_21_1 B (pc := 89) dX3_isOwed_89 ?_
          refine gC_RX3_116_9 B (pc := 92) dX3_isOwed_92 ?_
          refine r_iload_n B (pc := 95) dX3_isOwed_95 rfl rfl ?_
          refine aldC_13 B (pc := 96) dX3_isOwed_96 hf (fun _ hf => ?_)
          refine r_iconst B (pc := 97) dX3_isOwed_97 kc_1 ?_
          refine r_icmp_ne B (pc := 98) (tgt := 105) dX3_isOwed_98 (by decide) hf (fun _ hf => ?_) (fun _ hf => ?_)
          · refine r_iconst B (pc := 105) dX3_isOwed_105 kc_0 ?_
            exact e_rz hf rfl (RET 106 _ dX3_isOwed_106)
          · refine r_iconst B (pc := 101) dX3_isOwed_101 kc_1 ?_
            refine r_goto B (pc := 102) (tgt := 106) dX3_isOwed_102 (by decide) ?_
            exact e_rz hf rfl (RET 106 _ dX3_isOwed_106)
        have hf := it_f hf q59_2
        by_cases q59_3 : (σ.1 3 (ix x1)) = 3
        · have hf := it_t hf q59_3
          refine r_tsw B (pc := 59) (off := 48) (tgt := 107) dX3_isOwed_59 (by rw [q59_3]; decide) (by rw [q59_3]; decide) (by rw [q59_3]; decide) (by decide) ?_
          refine r_iconst B (pc := 107) dX3_isOwed_107 kc_0 ?_
          exact e_rz hf rfl (RET 108 _ dX3_isOwed_108)
        have hf := it_f hf q59_3
        by_cases q59_4 : (σ.1 3 (ix x1)) = 4
        · have hf := it_t hf q59_4
          refine r_tsw B (pc := 59) (off := 50) (tgt := 109) dX3_isOwed_59 (by rw [q59_4]; decide) (by rw [q59_4]; decide) (by rw [q59_4]; decide) (by decide) ?_
          refine r_iload_n B (pc := 109) dX3_isOwed_109 rfl rfl ?_
          refine r_if_eq B (pc := 110) (tgt := 117) dX3_isOwed_110 (by decide) hf (fun _ hf => ?_) (fun _ hf => ?_)
          · refine r_iconst B (pc := 117) dX3_isOwed_117 kc_0 ?_
            exact e_rz hf rfl (RET 118 _ dX3_isOwed_118)
          · refine r_iconst B (pc := 113) dX3_isOwed_113 kc_1 ?_
            refine r_goto B (pc := 114) (tgt := 118) dX3_isOwed_114 (by decide) ?_
            exact e_rz hf rfl (RET 118 _ dX3_isOwed_118)
        have hf := it_f hf q59_4
        by_cases q59_5 : (σ.1 3 (ix x1)) = 5
        · have hf := it_t hf q59_5
          refine r_tsw B (pc := 59) (off := 60) (tgt := 119) dX3_isOwed_59 (by rw [q59_5]; decide) (by rw [q59_5]; decide) (by rw [q59_5]; decide) (by decide) ?_
          refine r_aload_n B (pc := 119) dX3_isOwed_119 rfl rfl ?_
          refine gC_RX3_21_1 B (pc := 120) dX3_isOwed_120 ?_
          refine gC_RX3_116_9 B (pc := 123) dX3_isOwed_123 ?_
          refine r_iload_n B (pc := 126) dX3_isOwed_126 rfl rfl ?_
          refine aldC_13 B (pc := 127) dX3_isOwed_127 hf (fun _ hf => ?_)
          refine r_iconst B (pc := 128) dX3_isOwed_128 kc_1 ?_
          refine r_icmp_eq B (pc := 129) (tgt := 136) dX3_isOwed_129 (by decide) hf (fun _ hf => ?_) (fun _ hf => ?_)
          · refine r_iconst B (pc := 136) dX3_isOwed_136 kc_1 ?_
            refine r_goto B (pc := 137) (tgt := 141) dX3_isOwed_137 (by decide) ?_
            exact e_rz hf rfl (RET 141 _ dX3_isOwed_141)
          · refine r_iload_n B (pc := 132) dX3_isOwed_132 rfl rfl ?_
            refine r_if_ne B (pc := 133) (tgt := 140) dX3_isOwed_133 (by decide) hf (fun _ hf => ?_) (fun _ hf => ?_)
            · refine r_iconst B (pc := 140) dX3_isOwed_140 kc_0 ?_
              exact e_rz hf rfl (RET 141 _ dX3_isOwed_141)
            · refine r_iconst B (pc := 136) dX3_isOwed_136 kc_1 ?_
              refine r_goto B (pc := 137) (tgt := 141) dX3_isOwed_137 (by decide) ?_
              exact e_rz hf rfl (RET 141 _ dX3_isOwed_141)
        have hf := it_f hf q59_5
        refine r_tswd B (pc := 59) (tgt := 142) dX3_isOwed_59 (sw_out 4 2 (fun k hk => match k, hk with | 0, _ => fun e => q59_2 (Int32.toInt_inj.mp (e.trans (by decide))) | 1, _ => fun e => q59_3 (Int32.toInt_inj.mp (e.trans (by decide))) | 2, _ => fun e => q59_4 (Int32.toInt_inj.mp (e.trans (by decide))) | 3, _ => fun e => q59_5 (Int32.toInt_inj.mp (e.trans (by decide))))) (by decide) ?_
        refine r_iconst B (pc := 142) dX3_isOwed_142 kc_1 ?_
        exact e_rz hf rfl (RET 143 _ dX3_isOwed_143)
      · refine r_iconst B (pc := 48) dX3_isOwed_48 kc_0 ?_
        exact e_rz hf rfl (RET 49 _ dX3_isOwed_49)
  · refine r_iconst B (pc := 16) dX3_isOwed_16 kc_0 ?_
    exact e_rz hf rfl (RET 17 _ dX3_isOwed_17)
set_option maxHeartbeats 4000000 in
set_option maxRecDepth 20000 in
theorem c_X3_owedAmong (l : Launch) (D : va_G) (K : Kt) (ad : Nat → Nat) (nw : Nat) (σ : St) (x1 : Int32) (x2 : Int32) {r : Int32} (hf : f_X3_owedAmong σ x1 x2 = some r) : CtI l yX3_owedAmong cX3_owedAmong 5 (some .int) 2 44 D K [.ref (ad 1), .int x1, .int x2] (wC ad K nw σ) r (wC ad K nw σ) := by
  refine met_i pl_RX3 (Nat.le_of_ble_eq_true rfl) (fun X hnL B RET => ?_)
  suffices h : MW X (wC ad K nw σ) 0 [some (.ref (ad 1)), some (.int x1), some (.int x2), none, none] [] from h
  unfold f_X3_owedAmong at hf
  refine r_iconst B (pc := 0) dX3_owedAmong_0 kc_0 ?_
  refine r_istore_n B hnL (pc := 1) dX3_owedAmong_1 rfl (by decide) ?_
  refine r_lc (loc' := [some (.ref (ad 1)), some (.int x1), some (.int x2), some (.int 0), none]) rfl ?_
  refine r_iconst B (pc := 2) dX3_owedAmong_2 kc_0 ?_
  refine r_istore B hnL (pc := 3) dX3_owedAmong_3 (by decide) ?_
  refine r_lc (loc' := [some (.ref (ad 1)), some (.int x1), some (.int x2), some (.int 0), some (.int 0)]) rfl ?_
  have k5 : ∀ (n5 : Nat) (v3 : Int32) (v4 : Int32), f_X3_owedAmong_h5 σ x1 x2 n5 v3 v4 = some r → MW X (wC ad K nw σ) 5 [some (.ref (ad 1)), some (.int x1), some (.int x2), some (.int v3), some (.int v4)] [] := by
    intro n5
    induction n5 with
    | zero => intro v3 v4 hf; exact nn_z hf
    | succ n5 ih5 =>
      intro v3 v4 hf
      rw [f_X3_owedAmong_h5] at hf
      refine r_iload B (pc := 5) dX3_owedAmong_5 rfl ?_
      refine r_aload_n B (pc := 7) dX3_owedAmong_7 rfl rfl ?_
      refine gC_RX3_21_1 B (pc := 8) dX3_owedAmong_8 ?_
      refine gC_RX3_119_9 B (pc := 11) dX3_owedAmong_11 ?_
      refine r_icmp_ge B (pc := 14) (tgt := 49) dX3_owedAmong_14 (by decide) hf (fun _ hf => ?_) (fun _ hf => ?_)
      · refine r_iload_n B (pc := 49) dX3_owedAmong_49 rfl rfl ?_
        exact e_rz hf (nar_i _) (RET 50 _ dX3_owedAmong_50)
      · refine r_iload_n B (pc := 17) dX3_owedAmong_17 rfl rfl ?_
        refine r_iload B (pc := 18) dX3_owedAmong_18 rfl ?_
        refine r_cNI B (c_X6_has X.l X.D K _ x2 v4) F_X6_has nk_RX3_108 (Nat.le_of_ble_eq_true rfl) (Nat.le_of_ble_eq_true rfl) (Nat.le_of_ble_eq_true rfl) (pc := 20) dX3_owedAmong_20 rfl ?_
        refine r_if_eq B (pc := 23) (tgt := 43) dX3_owedAmong_23 (by decide) hf (fun _ hf => ?_) (fun _ hf => ?_)
        · refine r_iincS B hnL (pc := 43) dX3_owedAmong_43 rfl kc_1 (by decide) hf (fun y1 hf => ?_)
          refine r_lc (loc' := [some (.ref (ad 1)), some (.int x1), some (.int x2), some (.int v3), some (.int y1)]) rfl ?_
          refine r_goto B (pc := 46) (tgt := 5) dX3_owedAmong_46 (by decide) ?_
          exact r_mask [true, true, true, true, true] rfl (ih5 v3 y1 hf)
        · refine r_aload_n B (pc := 26) dX3_owedAmong_26 rfl rfl ?_
          refine r_iload_n B (pc := 27) dX3_owedAmong_27 rfl rfl ?_
          refine r_iload B (pc := 28) dX3_owedAmong_28 rfl ?_
          obtain ⟨r3, hc2, hf⟩ := bdr_e hf
          refine r_cVI B (c_X3_isOwed X.l X.D K ad nw σ x1 v4 hc2) F_X3_isOwed lk_RX3_120 (q0 := 1) (ci := 3) rfl rfl (Nat.le_of_ble_eq_true rfl) (Nat.le_of_ble_eq_true rfl) (Nat.le_of_ble_eq_true rfl) (pc := 30) dX3_owedAmong_30 rfl ?_
          refine r_if_eq B (pc := 33) (tgt := 43) dX3_owedAmong_33 (by decide) hf (fun _ hf => ?_) (fun _ hf => ?_)
          · refine r_iincS B hnL (pc := 43) dX3_owedAmong_43 rfl kc_1 (by decide) hf (fun y4 hf => ?_)
            refine r_lc (loc' := [some (.ref (ad 1)), some (.int x1), some (.int x2), some (.int v3), some (.int y4)]) rfl ?_
            refine r_goto B (pc := 46) (tgt := 5) dX3_owedAmong_46 (by decide) ?_
            exact r_mask [true, true, true, true, true] rfl (ih5 v3 y4 hf)
          · refine r_iload_n B (pc := 36) dX3_owedAmong_36 rfl rfl ?_
            refine r_iconst B (pc := 37) dX3_owedAmong_37 kc_1 ?_
            refine r_iload B (pc := 38) dX3_owedAmong_38 rfl ?_
            refine r_ishl B (pc := 40) dX3_owedAmong_40 ?_
            refine r_ior B (pc := 41) dX3_owedAmong_41 ?_
            refine r_nm hf (fun y5 hf => ?_)
            refine r_istore_n B hnL (pc := 42) dX3_owedAmong_42 rfl (by decide) ?_
            refine r_lc (loc' := [some (.ref (ad 1)), some (.int x1), some (.int x2), some (.int y5), some (.int v4)]) rfl ?_
            refine r_iincS B hnL (pc := 43) dX3_owedAmong_43 rfl kc_1 (by decide) hf (fun y6 hf => ?_)
            refine r_lc (loc' := [some (.ref (ad 1)), some (.int x1), some (.int x2), some (.int y5), some (.int y6)]) rfl ?_
            refine r_goto B (pc := 46) (tgt := 5) dX3_owedAmong_46 (by decide) ?_
            exact r_mask [true, true, true, true, true] rfl (ih5 y5 y6 hf)
  exact r_mask [true, true, true, true, true] rfl (k5 FU 0 0 hf)
set_option maxHeartbeats 4000000 in
set_option maxRecDepth 20000 in
theorem c_X3_owedTo (l : Launch) (D : va_G) (K : Kt) (ad : Nat → Nat) (nw : Nat) (σ : St) (x1 : Int32) {r : Int32} (hf : f_X3_owedTo σ x1 = some r) : CtI l yX3_owedTo cX3_owedTo 2 (some .int) 3 68 D K [.ref (ad 1), .int x1] (wC ad K nw σ) r (wC ad K nw σ) := by
  refine met_i pl_RX3 (Nat.le_of_ble_eq_true rfl) (fun X hnL B RET => ?_)
  suffices h : MW X (wC ad K nw σ) 0 [some (.ref (ad 1)), some (.int x1)] [] from h
  unfold f_X3_owedTo at hf
  refine r_aload_n B (pc := 0) dX3_owedTo_0 rfl rfl ?_
  refine r_iload_n B (pc := 1) dX3_owedTo_1 rfl rfl ?_
  refine r_iconst B (pc := 2) dX3_owedTo_2 kc_1 ?_
  refine r_aload_n B (pc := 3) dX3_owedTo_3 rfl rfl ?_
  refine gC_RX3_21_1 B (pc := 4) dX3_owedTo_4 ?_
  refine gC_RX3_119_9 B (pc := 7) dX3_owedTo_7 ?_
  refine r_ishl B (pc := 10) dX3_owedTo_10 ?_
  refine r_iconst B (pc := 11) dX3_owedTo_11 kc_1 ?_
  refine r_isub B (pc := 12) dX3_owedTo_12 ?_
  obtain ⟨r2, hc1, hf⟩ := bdr_e hf
  refine r_cVI B (c_X3_owedAmong X.l X.D K ad nw σ x1 ((isl 1 (σ.1 9 0)) - 1) hc1) F_X3_owedAmong lk_RX3_123 (q0 := 1) (ci := 3) rfl rfl (Nat.le_of_ble_eq_true rfl) (Nat.le_of_ble_eq_true rfl) (Nat.le_of_ble_eq_true rfl) (pc := 13) dX3_owedTo_13 rfl ?_
  exact e_rz hf (nar_i _) (RET 16 _ dX3_owedTo_16)
set_option maxHeartbeats 4000000 in
set_option maxRecDepth 20000 in
theorem c_X3_arrearsOf (l : Launch) (D : va_G) (K : Kt) (ad : Nat → Nat) (nw : Nat) (σ : St) (x1 : Int32) {r : Int32} (hf : f_X3_arrearsOf σ x1 = some r) : CtI l yX3_arrearsOf cX3_arrearsOf 2 (some .int) 3 68 D K [.ref (ad 1), .int x1] (wC ad K nw σ) r (wC ad K nw σ) := by
  refine met_i pl_RX3 (Nat.le_of_ble_eq_true rfl) (fun X hnL B RET => ?_)
  suffices h : MW X (wC ad K nw σ) 0 [some (.ref (ad 1)), some (.int x1)] [] from h
  unfold f_X3_arrearsOf at hf
  refine r_aload_n B (pc := 0) dX3_arrearsOf_0 rfl rfl ?_
  refine r_iload_n B (pc := 1) dX3_arrearsOf_1 rfl rfl ?_
  refine r_iconst B (pc := 2) dX3_arrearsOf_2 kc_1 ?_
  refine r_aload_n B (pc := 3) dX3_arrearsOf_3 rfl rfl ?_
  refine gC_RX3_21_1 B (pc := 4) dX3_arrearsOf_4 ?_
  refine gC_RX3_119_9 B (pc := 7) dX3_arrearsOf_7 ?_
  refine r_ishl B (pc := 10) dX3_arrearsOf_10 ?_
  refine r_iconst B (pc := 11) dX3_arrearsOf_11 kc_1 ?_
  refine r_isub B (pc := 12) dX3_arrearsOf_12 ?_
  refine r_aload_n B (pc := 13) dX3_arrearsOf_13 rfl rfl ?_
  refine gC_RX3_12_1 B (pc := 14) dX3_arrearsOf_14 ?_
  refine gC_RX3_126_2 B (pc := 17) dX3_arrearsOf_17 ?_
  refine r_iload_n B (pc := 20) dX3_arrearsOf_20 rfl rfl ?_
  refine aldC_6 B (pc := 21) dX3_arrearsOf_21 hf (fun _ hf => ?_)
  refine r_iconst B (pc := 22) dX3_arrearsOf_22 kc_m1 ?_
  refine r_ixor B (pc := 23) dX3_arrearsOf_23 ?_
  refine r_iand B (pc := 24) dX3_arrearsOf_24 ?_
  obtain ⟨r2, hc1, hf⟩ := bdr_e hf
  refine r_cVI B (c_X3_owedAmong X.l X.D K ad nw σ x1 (((isl 1 (σ.1 9 0)) - 1) &&& ((σ.1 6 (ix x1)) ^^^ ((-1)))) hc1) F_X3_owedAmong lk_RX3_123 (q0 := 1) (ci := 3) rfl rfl (Nat.le_of_ble_eq_true rfl) (Nat.le_of_ble_eq_true rfl) (Nat.le_of_ble_eq_true rfl) (pc := 25) dX3_arrearsOf_25 rfl ?_
  exact e_rz hf (nar_i _) (RET 28 _ dX3_arrearsOf_28)
set_option maxHeartbeats 4000000 in
set_option maxRecDepth 20000 in
theorem c_X3_isLate (l : Launch) (D : va_G) (K : Kt) (ad : Nat → Nat) (nw : Nat) (σ : St) (x1 : Int32) {r : Int32} (hf : f_X3_isLate σ x1 = some r) : CtI l yX3_isLate cX3_isLate 4 (some .boolean) 4 89 D K [.ref (ad 1), .int x1] (wC ad K nw σ) r (wC ad K nw σ) := by
  refine met_i pl_RX3 (Nat.le_of_ble_eq_true rfl) (fun X hnL B RET => ?_)
  suffices h : MW X (wC ad K nw σ) 0 [some (.ref (ad 1)), some (.int x1), none, none] [] from h
  unfold f_X3_isLate at hf
  refine r_aload_n B (pc := 0) dX3_isLate_0 rfl rfl ?_
  refine r_iload_n B (pc := 1) dX3_isLate_1 rfl rfl ?_
  obtain ⟨r2, hc1, hf⟩ := bdr_e hf
  refine r_cVI B (c_X3_arrearsOf X.l X.D K ad nw σ x1 hc1) F_X3_arrearsOf lk_RX3_135 (q0 := 1) (ci := 3) rfl rfl (Nat.le_of_ble_eq_true rfl) (Nat.le_of_ble_eq_true rfl) (Nat.le_of_ble_eq_true rfl) (pc := 2) dX3_isLate_2 rfl ?_
  refine r_istore_n B hnL (pc := 5) dX3_isLate_5 rfl (by decide) ?_
  refine r_lc (loc' := [some (.ref (ad 1)), some (.int x1), some (.int r2), none]) rfl ?_
  refine r_iconst B (pc := 6) dX3_isLate_6 kc_0 ?_
  refine r_istore_n B hnL (pc := 7) dX3_isLate_7 rfl (by decide) ?_
  refine r_lc (loc' := [some (.ref (ad 1)), some (.int x1), some (.int r2), some (.int 0)]) rfl ?_
  have k8 : ∀ (n8 : Nat) (v2 : Int32) (v3 : Int32), f_X3_isLate_h8 σ x1 n8 v2 v3 = some r → MW X (wC ad K nw σ) 8 [some (.ref (ad 1)), none, some (.int v2), some (.int v3)] [] := by
    intro n8
    induction n8 with
    | zero => intro v2 v3 hf; exact nn_z hf
    | succ n8 ih8 =>
      intro v2 v3 hf
      rw [f_X3_isLate_h8] at hf
      refine r_iload_n B (pc := 8) dX3_isLate_8 rfl rfl ?_
      refine r_aload_n B (pc := 9) dX3_isLate_9 rfl rfl ?_
      refine gC_RX3_21_1 B (pc := 10) dX3_isLate_10 ?_
      refine gC_RX3_119_9 B (pc := 13) dX3_isLate_13 ?_
      refine r_icmp_ge B (pc := 16) (tgt := 54) dX3_isLate_16 (by decide) hf (fun _ hf => ?_) (fun _ hf => ?_)
      · refine r_iconst B (pc := 54) dX3_isLate_54 kc_0 ?_
        exact e_rz hf rfl (RET 55 _ dX3_isLate_55)
      · refine r_iload_n B (pc := 19) dX3_isLate_19 rfl rfl ?_
        refine r_iload_n B (pc := 20) dX3_isLate_20 rfl rfl ?_
        refine r_cNI B (c_X6_has X.l X.D K _ v2 v3) F_X6_has nk_RX3_108 (Nat.le_of_ble_eq_true rfl) (Nat.le_of_ble_eq_true rfl) (Nat.le_of_ble_eq_true rfl) (pc := 21) dX3_isLate_21 rfl ?_
        refine r_if_eq B (pc := 24) (tgt := 48) dX3_isLate_24 (by decide) hf (fun _ hf => ?_) (fun _ hf => ?_)
        · refine r_iincS B hnL (pc := 48) dX3_isLate_48 rfl kc_1 (by decide) hf (fun y3 hf => ?_)
          refine r_lc (loc' := [some (.ref (ad 1)), none, some (.int v2), some (.int y3)]) rfl ?_
          refine r_goto B (pc := 51) (tgt := 8) dX3_isLate_51 (by decide) ?_
          exact r_mask [true, false, true, true] rfl (ih8 v2 y3 hf)
        · refine r_aload_n B (pc := 27) dX3_isLate_27 rfl rfl ?_
          refine gC_RX3_39_1 B (pc := 28) dX3_isLate_28 ?_
          refine r_aload_n B (pc := 31) dX3_isLate_31 rfl rfl ?_
          refine gC_RX3_21_1 B (pc := 32) dX3_isLate_32 ?_
          refine gC_RX3_112_9 B (pc := 35) dX3_isLate_35 ?_
          refine r_iload_n B (pc := 38) dX3_isLate_38 rfl rfl ?_
          refine aldC_10 B (pc := 39) dX3_isLate_39 hf (fun _ hf => ?_)
          refine r_isub B (pc := 40) dX3_isLate_40 ?_
          refine r_bipush B (pc := 41) dX3_isLate_41 kb_9 ?_
          refine r_icmp_lt B (pc := 43) (tgt := 48) dX3_isLate_43 (by decide) hf (fun _ hf => ?_) (fun _ hf => ?_)
          · refine r_iincS B hnL (pc := 48) dX3_isLate_48 rfl kc_1 (by decide) hf (fun y4 hf => ?_)
            refine r_lc (loc' := [some (.ref (ad 1)), none, some (.int v2), some (.int y4)]) rfl ?_
            refine r_goto B (pc := 51) (tgt := 8) dX3_isLate_51 (by decide) ?_
            exact r_mask [true, false, true, true] rfl (ih8 v2 y4 hf)
          · refine r_iconst B (pc := 46) dX3_isLate_46 kc_1 ?_
            exact e_rz hf rfl (RET 47 _ dX3_isLate_47)
  exact r_mask [true, false, true, true] rfl (k8 FU r2 0 hf)
set_option maxHeartbeats 4000000 in
set_option maxRecDepth 20000 in
theorem c_X6_told (l : Launch) (D : va_G) (K : Kt) (ad : Nat → Nat) (nw : Nat) (σ : St) (x1 : Int32) (x2 : Int32) {r : Int32} (hf : f_X6_told σ x1 x2 = some r) : CtI l yX6_told cX6_told 3 (some .int) 5 112 D K [.ref (ad 0), .int x1, .int x2] (wC ad K nw σ) r (wC ad K nw σ) := by
  refine met_i pl_RX6 (Nat.le_of_ble_eq_true rfl) (fun X hnL B RET => ?_)
  suffices h : MW X (wC ad K nw σ) 0 [some (.ref (ad 0)), some (.int x1), some (.int x2)] [] from h
  unfold f_X6_told at hf
  refine r_aload_n B (pc := 0) dX6_told_0 rfl rfl ?_
  refine r_iload_n B (pc := 1) dX6_told_1 rfl rfl ?_
  refine r_cVI B (c_X6_isGrave X.l X.D K ad nw σ x1) F_X6_isGrave lk_RX6_125 (q0 := 0) (ci := 6) rfl rfl (Nat.le_of_ble_eq_true rfl) (Nat.le_of_ble_eq_true rfl) (Nat.le_of_ble_eq_true rfl) (pc := 2) dX6_told_2 rfl ?_
  refine r_if_ne B (pc := 5) (tgt := 10) dX6_told_5 (by decide) hf (fun _ hf => ?_) (fun _ hf => ?_)
  · refine r_iload_n B (pc := 10) dX6_told_10 rfl rfl ?_
    by_cases q11_0 : x2 = 0
    · have hf := it_t hf q11_0
      refine r_tsw B (pc := 11) (off := 45) (tgt := 56) dX6_told_11 (by rw [q11_0]; decide) (by rw [q11_0]; decide) (by rw [q11_0]; decide) (by decide) ?_
      refine r_aload_n B (pc := 56) dX6_told_56 rfl rfl ?_
      refine gC_RX6_10_0 B (pc := 57) dX6_told_57 ?_
      refine gC_RX6_72_1 B (pc := 60) dX6_told_60 ?_
      refine gC_RX6_128_2 B (pc := 63) dX6_told_63 ?_
      refine r_iload_n B (pc := 66) dX6_told_66 rfl rfl ?_
      refine aldC_3 B (pc := 67) dX6_told_67 hf (fun _ hf => ?_)
      exact e_rz hf (nar_i _) (RET 68 _ dX6_told_68)
    have hf := it_f hf q11_0
    by_cases q11_1 : x2 = 1
    · have hf := it_t hf q11_1
      refine r_tsw B (pc := 11) (off := 58) (tgt := 69) dX6_told_11 (by rw [q11_1]; decide) (by rw [q11_1]; decide) (by rw [q11_1]; decide) (by decide) ?_
      refine r_aload_n B (pc := 69) dX6_told_69 rfl rfl ?_
      refine gC_RX6_10_0 B (pc := 70) dX6_told_70 ?_
      refine gC_RX6_72_1 B (pc := 73) dX6_told_73 ?_
      refine gC_RX6_131_2 B (pc := 76) dX6_told_76 ?_
      refine r_iload_n B (pc := 79) dX6_told_79 rfl rfl ?_
      refine aldC_4 B (pc := 80) dX6_told_80 hf (fun _ hf => ?_)
      exact e_rz hf (nar_i _) (RET 81 _ dX6_told_81)
    have hf := it_f hf q11_1
    by_cases q11_2 : x2 = 2
    · have hf := it_t hf q11_2
      refine r_tsw B (pc := 11) (off := 71) (tgt := 82) dX6_told_11 (by rw [q11_2]; decide) (by rw [q11_2]; decide) (by rw [q11_2]; decide) (by decide) ?_
      refine r_aload_n B (pc := 82) dX6_told_82 rfl rfl ?_
      refine gC_RX6_10_0 B (pc := 83) dX6_told_83 ?_
      refine gC_RX6_72_1 B (pc := 86) dX6_told_86 ?_
      refine gC_RX6_134_2 B (pc := 89) dX6_told_89 ?_
      refine r_iload_n B (pc := 92) dX6_told_92 rfl rfl ?_
      refine aldC_5 B (pc := 93) dX6_told_93 hf (fun _ hf => ?_)
      exact e_rz hf (nar_i _) (RET 94 _ dX6_told_94)
    have hf := it_f hf q11_2
    by_cases q11_3 : x2 = 3
    · have hf := it_t hf q11_3
      refine r_tsw B (pc := 11) (off := 84) (tgt := 95) dX6_told_11 (by rw [q11_3]; decide) (by rw [q11_3]; decide) (by rw [q11_3]; decide) (by decide) ?_
      refine r_aload_n B (pc := 95) dX6_told_95 rfl rfl ?_
      refine gC_RX6_10_0 B (pc := 96) dX6_told_96 ?_
      refine gC_RX6_72_1 B (pc := 99) dX6_told_99 ?_
      refine gC_RX6_137_2 B (pc := 102) dX6_told_102 ?_
      refine r_iload_n B (pc := 105) dX6_told_105 rfl rfl ?_
      refine aldC_6 B (pc := 106) dX6_told_106 hf (fun _ hf => ?_)
      exact e_rz hf (nar_i _) (RET 107 _ dX6_told_107)
    have hf := it_f hf q11_3
    by_cases q11_4 : x2 = 4
    · have hf := it_t hf q11_4
      refine r_tsw B (pc := 11) (off := 97) (tgt := 108) dX6_told_11 (by rw [q11_4]; decide) (by rw [q11_4]; decide) (by rw [q11_4]; decide) (by decide) ?_
      refine r_aload_n B (pc := 108) dX6_told_108 rfl rfl ?_
      refine gC_RX6_10_0 B (pc := 109) dX6_told_109 ?_
      refine r_iload_n B (pc := 112) dX6_told_112 rfl rfl ?_
      obtain ⟨r2, hc1, hf⟩ := bdr_e hf
      refine r_cVI B (c_X3_owedTo X.l X.D K ad nw σ x1 hc1) F_X3_owedTo lk_RX6_140 (q0 := 1) (ci := 3) rfl rfl (Nat.le_of_ble_eq_true rfl) (Nat.le_of_ble_eq_true rfl) (Nat.le_of_ble_eq_true rfl) (pc := 113) dX6_told_113 rfl ?_
      exact e_rz hf (nar_i _) (RET 116 _ dX6_told_116)
    have hf := it_f hf q11_4
    by_cases q11_5 : x2 = 5
    · have hf := it_t hf q11_5
      refine r_tsw B (pc := 11) (off := 106) (tgt := 117) dX6_told_11 (by rw [q11_5]; decide) (by rw [q11_5]; decide) (by rw [q11_5]; decide) (by decide) ?_
      refine r_aload_n B (pc := 117) dX6_told_117 rfl rfl ?_
      refine gC_RX6_10_0 B (pc := 118) dX6_told_118 ?_
      refine r_iload_n B (pc := 121) dX6_told_121 rfl rfl ?_
      obtain ⟨r4, hc3, hf⟩ := bdr_e hf
      refine r_cVI B (c_X3_arrearsOf X.l X.D K ad nw σ x1 hc3) F_X3_arrearsOf lk_RX6_144 (q0 := 1) (ci := 3) rfl rfl (Nat.le_of_ble_eq_true rfl) (Nat.le_of_ble_eq_true rfl) (Nat.le_of_ble_eq_true rfl) (pc := 122) dX6_told_122 rfl ?_
      exact e_rz hf (nar_i _) (RET 125 _ dX6_told_125)
    have hf := it_f hf q11_5
    by_cases q11_6 : x2 = 6
    · have hf := it_t hf q11_6
      refine r_tsw B (pc := 11) (off := 115) (tgt := 126) dX6_told_11 (by rw [q11_6]; decide) (by rw [q11_6]; decide) (by rw [q11_6]; decide) (by decide) ?_
      refine r_aload_n B (pc := 126) dX6_told_126 rfl rfl ?_
      refine gC_RX6_10_0 B (pc := 127) dX6_told_127 ?_
      refine gC_RX6_72_1 B (pc := 130) dX6_told_130 ?_
      refine gC_RX6_147_2 B (pc := 133) dX6_told_133 ?_
      refine r_iload_n B (pc := 136) dX6_told_136 rfl rfl ?_
      refine aldC_7 B (pc := 137) dX6_told_137 hf (fun _ hf => ?_)
      exact e_rz hf (nar_i _) (RET 138 _ dX6_told_138)
    have hf := it_f hf q11_6
    by_cases q11_7 : x2 = 7
    · have hf := it_t hf q11_7
      refine r_tsw B (pc := 11) (off := 128) (tgt := 139) dX6_told_11 (by rw [q11_7]; decide) (by rw [q11_7]; decide) (by rw [q11_7]; decide) (by decide) ?_
      refine r_aload_n B (pc := 139) dX6_told_139 rfl rfl ?_
      refine gC_RX6_10_0 B (pc := 140) dX6_told_140 ?_
      refine r_iload_n B (pc := 143) dX6_told_143 rfl rfl ?_
      obtain ⟨r6, hc5, hf⟩ := bdr_e hf
      refine r_cVI B (c_X3_isLate X.l X.D K ad nw σ x1 hc5) F_X3_isLate lk_RX6_150 (q0 := 1) (ci := 3) rfl rfl (Nat.le_of_ble_eq_true rfl) (Nat.le_of_ble_eq_true rfl) (Nat.le_of_ble_eq_true rfl) (pc := 144) dX6_told_144 rfl ?_
      refine r_if_eq B (pc := 147) (tgt := 154) dX6_told_147 (by decide) hf (fun _ hf => ?_) (fun _ hf => ?_)
      · refine r_iconst B (pc := 154) dX6_told_154 kc_0 ?_
        exact e_rz hf (nar_i _) (RET 155 _ dX6_told_155)
      · refine r_iconst B (pc := 150) dX6_told_150 kc_1 ?_
        refine r_goto B (pc := 151) (tgt := 155) dX6_told_151 (by decide) ?_
        exact e_rz hf (nar_i _) (RET 155 _ dX6_told_155)
    have hf := it_f hf q11_7
    refine r_tswd B (pc := 11) (tgt := 156) dX6_told_11 (sw_out 8 0 (fun k hk => match k, hk with | 0, _ => fun e => q11_0 (Int32.toInt_inj.mp (e.trans (by decide))) | 1, _ => fun e => q11_1 (Int32.toInt_inj.mp (e.trans (by decide))) | 2, _ => fun e => q11_2 (Int32.toInt_inj.mp (e.trans (by decide))) | 3, _ => fun e => q11_3 (Int32.toInt_inj.mp (e.trans (by decide))) | 4, _ => fun e => q11_4 (Int32.toInt_inj.mp (e.trans (by decide))) | 5, _ => fun e => q11_5 (Int32.toInt_inj.mp (e.trans (by decide))) | 6, _ => fun e => q11_6 (Int32.toInt_inj.mp (e.trans (by decide))) | 7, _ => fun e => q11_7 (Int32.toInt_inj.mp (e.trans (by decide))))) (by decide) ?_
    refine r_iconst B (pc := 156) dX6_told_156 kc_m1 ?_
    exact e_rz hf (nar_i _) (RET 157 _ dX6_told_157)
  · refine r_iconst B (pc := 8) dX6_told_8 kc_m1 ?_
    exact e_rz hf (nar_i _) (RET 9 _ dX6_told_9)
