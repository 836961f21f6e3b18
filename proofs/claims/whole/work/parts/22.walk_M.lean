set_option maxHeartbeats 4000000 in
set_option maxRecDepth 20000 in
theorem c_X7_readNews (l : Launch) (D : va_G) (K : Kt) (ad : Nat → Nat) (σ : St) (x1 : Int32) {r : Int32} {τ : St} (hf : f_X7_readNews σ x1 = some (r, τ)) : CtI l yX7_readNews cX7_readNews 3 (some .boolean) 2 49 D K [.ref (ad 0), .int x1] (wM ad K σ) r (wM ad K τ) := by
  refine met_i pl_RX7 (Nat.le_of_ble_eq_true rfl) (fun X hnL B RET => ?_)
  suffices h : MW X (wM ad K σ) 0 [some (.ref (ad 0)), some (.int x1), none] [] from h
  unfold f_X7_readNews at hf
  refine r_iconst B (pc := 0) dX7_readNews_0 kc_4 ?_
  refine r_iload_n B (pc := 1) dX7_readNews_1 rfl rfl ?_
  refine r_imul B (pc := 2) dX7_readNews_2 ?_
  refine r_nm hf (fun y1 hf => ?_)
  refine r_istore_n B hnL (pc := 3) dX7_readNews_3 rfl (by decide) ?_
  refine r_lc (loc' := [some (.ref (ad 0)), some (.int x1), some (.int y1)]) rfl ?_
  refine r_aload_n B (pc := 4) dX7_readNews_4 rfl rfl ?_
  refine gM_RX7_47_0 B (pc := 5) dX7_readNews_5 ?_
  refine r_iload_n B (pc := 8) dX7_readNews_8 rfl rfl ?_
  refine r_aload_n B (pc := 9) dX7_readNews_9 rfl rfl ?_
  refine r_bipush B (pc := 10) dX7_readNews_10 kb_99 ?_
  obtain ⟨r3, s4, hc2, hf⟩ := bdp_e hf
  refine r_cVI B (c_X7_readNumber X.l X.D K ad σ 99 hc2) F_X7_readNumber lk_RX7_200 (q0 := 0) (ci := 7) rfl rfl (Nat.le_of_ble_eq_true rfl) (Nat.le_of_ble_eq_true rfl) (Nat.le_of_ble_eq_true rfl) (pc := 12) dX7_readNews_12 rfl ?_
  refine astM_12 B (pc := 15) dX7_readNews_15 hf (fun s5 _ hf => ?_)
  refine r_aload_n B (pc := 16) dX7_readNews_16 rfl rfl ?_
  refine gM_RX7_47_0 B (pc := 17) dX7_readNews_17 ?_
  refine r_iload_n B (pc := 20) dX7_readNews_20 rfl rfl ?_
  refine aldM_12 B (pc := 21) dX7_readNews_21 hf (fun _ hf => ?_)
  refine r_if_ge B (pc := 22) (tgt := 27) dX7_readNews_22 (by decide) hf (fun _ hf => ?_) (fun _ hf => ?_)
  · refine r_aload_n B (pc := 27) dX7_readNews_27 rfl rfl ?_
    refine gM_RX7_47_0 B (pc := 28) dX7_readNews_28 ?_
    refine r_iload_n B (pc := 31) dX7_readNews_31 rfl rfl ?_
    refine r_iconst B (pc := 32) dX7_readNews_32 kc_3 ?_
    refine r_iadd B (pc := 33) dX7_readNews_33 ?_
    refine r_aload_n B (pc := 34) dX7_readNews_34 rfl rfl ?_
    refine r_bipush B (pc := 35) dX7_readNews_35 kb_115 ?_
    obtain ⟨r7, s8, hc6, hf⟩ := bdp_e hf
    refine r_cVI B (c_X7_takes X.l X.D K ad s5 115 hc6) F_X7_takes lk_RX7_197 (q0 := 0) (ci := 7) rfl rfl (Nat.le_of_ble_eq_true rfl) (Nat.le_of_ble_eq_true rfl) (Nat.le_of_ble_eq_true rfl) (pc := 37) dX7_readNews_37 rfl ?_
    have k48 : ∀ (v2 : Int32) (t0 : Int32) (t1 : Int32) (σ48 : St), f_X7_readNews_b48 x1 v2 t0 t1 σ48 = some (r, τ) → MW X (wM ad K σ48) 48 [some (.ref (ad 0)), some (.int x1), some (.int v2)] [.int t0, .int t1, .ref (ad 12)] := by
      intro v2 t0 t1 σ48 hf
      unfold f_X7_readNews_b48 at hf
      refine astM_12 B (pc := 48) dX7_readNews_48 hf (fun s9 _ hf => ?_)
      refine r_aload_n B (pc := 49) dX7_readNews_49 rfl rfl ?_
      refine gM_RX7_47_0 B (pc := 50) dX7_readNews_50 ?_
      refine r_iload_n B (pc := 53) dX7_readNews_53 rfl rfl ?_
      refine r_iconst B (pc := 54) dX7_readNews_54 kc_1 ?_
      refine r_iadd B (pc := 55) dX7_readNews_55 ?_
      refine r_aload_n B (pc := 56) dX7_readNews_56 rfl rfl ?_
      refine r_bipush B (pc := 57) dX7_readNews_57 kb_60 ?_
      obtain ⟨r11, s12, hc10, hf⟩ := bdp_e hf
      refine r_cVI B (c_X7_takes X.l X.D K ad s9 60 hc10) F_X7_takes lk_RX7_197 (q0 := 0) (ci := 7) rfl rfl (Nat.le_of_ble_eq_true rfl) (Nat.le_of_ble_eq_true rfl) (Nat.le_of_ble_eq_true rfl) (pc := 59) dX7_readNews_59 rfl ?_
      have k80 : ∀ (v2 : Int32) (t0 : Int32) (t1 : Int32) (σ80 : St), f_X7_readNews_b80 x1 v2 t0 t1 σ80 = some (r, τ) → MW X (wM ad K σ80) 80 [some (.ref (ad 0)), none, some (.int v2)] [.int t0, .int t1, .ref (ad 12)] := by
        intro v2 t0 t1 σ80 hf
        unfold f_X7_readNews_b80 at hf
        refine astM_12 B (pc := 80) dX7_readNews_80 hf (fun s16 _ hf => ?_)
        refine r_aload_n B (pc := 81) dX7_readNews_81 rfl rfl ?_
        refine gM_RX7_47_0 B (pc := 82) dX7_readNews_82 ?_
        refine r_iload_n B (pc := 85) dX7_readNews_85 rfl rfl ?_
        refine r_iconst B (pc := 86) dX7_readNews_86 kc_1 ?_
        refine r_iadd B (pc := 87) dX7_readNews_87 ?_
        refine aldM_12 B (pc := 88) dX7_readNews_88 hf (fun _ hf => ?_)
        refine r_if_ge B (pc := 89) (tgt := 94) dX7_readNews_89 (by decide) hf (fun _ hf => ?_) (fun _ hf => ?_)
        · refine r_aload_n B (pc := 94) dX7_readNews_94 rfl rfl ?_
          refine gM_RX7_47_0 B (pc := 95) dX7_readNews_95 ?_
          refine r_iload_n B (pc := 98) dX7_readNews_98 rfl rfl ?_
          refine r_iconst B (pc := 99) dX7_readNews_99 kc_2 ?_
          refine r_iadd B (pc := 100) dX7_readNews_100 ?_
          refine r_aload_n B (pc := 101) dX7_readNews_101 rfl rfl ?_
          refine r_bipush B (pc := 102) dX7_readNews_102 kb_33 ?_
          obtain ⟨r18, s19, hc17, hf⟩ := bdp_e hf
          refine r_cVI B (c_X7_takes X.l X.D K ad s16 33 hc17) F_X7_takes lk_RX7_197 (q0 := 0) (ci := 7) rfl rfl (Nat.le_of_ble_eq_true rfl) (Nat.le_of_ble_eq_true rfl) (Nat.le_of_ble_eq_true rfl) (pc := 104) dX7_readNews_104 rfl ?_
          have k118 : ∀ (v2 : Int32) (t0 : Int32) (t1 : Int32) (σ118 : St), f_X7_readNews_b118 x1 v2 t0 t1 σ118 = some (r, τ) → MW X (wM ad K σ118) 118 [some (.ref (ad 0)), none, some (.int v2)] [.int t0, .int t1, .ref (ad 12)] := by
            intro v2 t0 t1 σ118 hf
            unfold f_X7_readNews_b118 at hf
            refine astM_12 B (pc := 118) dX7_readNews_118 hf (fun s23 _ hf => ?_)
            refine r_aload_n B (pc := 119) dX7_readNews_119 rfl rfl ?_
            refine gM_RX7_47_0 B (pc := 120) dX7_readNews_120 ?_
            refine r_iload_n B (pc := 123) dX7_readNews_123 rfl rfl ?_
            refine r_iconst B (pc := 124) dX7_readNews_124 kc_2 ?_
            refine r_iadd B (pc := 125) dX7_readNews_125 ?_
            refine aldM_12 B (pc := 126) dX7_readNews_126 hf (fun _ hf => ?_)
            refine r_if_lt B (pc := 127) (tgt := 134) dX7_readNews_127 (by decide) hf (fun _ hf => ?_) (fun _ hf => ?_)
            · refine r_iconst B (pc := 134) dX7_readNews_134 kc_0 ?_
              exact e_pz (F := (wM ad K)) hf rfl (RET 135 _ dX7_readNews_135)
            · refine r_iconst B (pc := 130) dX7_readNews_130 kc_1 ?_
              refine r_goto B (pc := 131) (tgt := 135) dX7_readNews_131 (by decide) ?_
              exact e_pz (F := (wM ad K)) hf rfl (RET 135 _ dX7_readNews_135)
          refine r_if_eq B (pc := 107) (tgt := 117) dX7_readNews_107 (by decide) hf (fun _ hf => ?_) (fun _ hf => ?_)
          · refine r_iconst B (pc := 117) dX7_readNews_117 kc_0 ?_
            exact r_mask [true, false, true] rfl (k118 v2 0 (v2 + 2) s19 hf)
          · refine r_aload_n B (pc := 110) dX7_readNews_110 rfl rfl ?_
            obtain ⟨r21, s22, hc20, hf⟩ := bdp_e hf
            refine r_cVI B (c_X7_readBarred X.l X.D K ad s19 hc20) F_X7_readBarred lk_RX7_210 (q0 := 0) (ci := 7) rfl rfl (Nat.le_of_ble_eq_true rfl) (Nat.le_of_ble_eq_true rfl) (Nat.le_of_ble_eq_true rfl) (pc := 111) dX7_readNews_111 rfl ?_
            refine r_goto B (pc := 114) (tgt := 118) dX7_readNews_114 (by decide) ?_
            exact r_mask [true, false, true] rfl (k118 v2 r21 (v2 + 2) s22 hf)
        · refine r_iconst B (pc := 92) dX7_readNews_92 kc_0 ?_
          exact e_pz (F := (wM ad K)) hf rfl (RET 93 _ dX7_readNews_93)
      refine r_if_eq B (pc := 62) (tgt := 79) dX7_readNews_62 (by decide) hf (fun _ hf => ?_) (fun _ hf => ?_)
      · refine r_iconst B (pc := 79) dX7_readNews_79 kc_0 ?_
        exact r_mask [true, false, true] rfl (k80 v2 0 (v2 + 1) s12 hf)
      · refine r_aload_n B (pc := 65) dX7_readNews_65 rfl rfl ?_
        refine r_iload_n B (pc := 66) dX7_readNews_66 rfl rfl ?_
        refine r_aload_n B (pc := 67) dX7_readNews_67 rfl rfl ?_
        refine gM_RX7_47_0 B (pc := 68) dX7_readNews_68 ?_
        refine r_iload_n B (pc := 71) dX7_readNews_71 rfl rfl ?_
        refine aldM_12 B (pc := 72) dX7_readNews_72 hf (fun _ hf => ?_)
        obtain ⟨r14, s15, hc13, hf⟩ := bdp_e hf
        refine r_cVI B (c_X7_readAhead X.l X.D K ad s12 x1 (s12.1 12 (ix v2)) hc13) F_X7_readAhead lk_RX7_207 (q0 := 0) (ci := 7) rfl rfl (Nat.le_of_ble_eq_true rfl) (Nat.le_of_ble_eq_true rfl) (Nat.le_of_ble_eq_true rfl) (pc := 73) dX7_readNews_73 rfl ?_
        refine r_goto B (pc := 76) (tgt := 80) dX7_readNews_76 (by decide) ?_
        exact r_mask [true, false, true] rfl (k80 v2 r14 (v2 + 1) s15 hf)
    refine r_if_eq B (pc := 40) (tgt := 47) dX7_readNews_40 (by decide) hf (fun _ hf => ?_) (fun _ hf => ?_)
    · refine r_iconst B (pc := 47) dX7_readNews_47 kc_0 ?_
      exact r_mask [true, true, true] rfl (k48 y1 0 (y1 + 3) s8 hf)
    · refine r_iconst B (pc := 43) dX7_readNews_43 kc_1 ?_
      refine r_goto B (pc := 44) (tgt := 48) dX7_readNews_44 (by decide) ?_
      exact r_mask [true, true, true] rfl (k48 y1 1 (y1 + 3) s8 hf)
  · refine r_iconst B (pc := 25) dX7_readNews_25 kc_0 ?_
    exact e_pz (F := (wM ad K)) hf rfl (RET 26 _ dX7_readNews_26)
set_option maxHeartbeats 4000000 in
set_option maxRecDepth 20000 in
theorem c_X7_readReading (l : Launch) (D : va_G) (K : Kt) (ad : Nat → Nat) (σ : St) (x1 : Int32) {r : Int32} {τ : St} (hf : f_X7_readReading σ x1 = some (r, τ)) : CtI l yX7_readReading cX7_readReading 6 (some .boolean) 2 47 D K [.ref (ad 0), .int x1] (wM ad K σ) r (wM ad K τ) := by
  refine met_i pl_RX7 (Nat.le_of_ble_eq_true rfl) (fun X hnL B RET => ?_)
  suffices h : MW X (wM ad K σ) 0 [some (.ref (ad 0)), some (.int x1), none, none, none, none] [] from h
  unfold f_X7_readReading at hf
  refine r_aload_n B (pc := 0) dX7_readReading_0 rfl rfl ?_
  obtain ⟨r2, s3, hc1, hf⟩ := bdp_e hf
  refine r_cVI B (c_X7_nextLetter X.l X.D K ad σ hc1) F_X7_nextLetter lk_RX7_183 (q0 := 0) (ci := 7) rfl rfl (Nat.le_of_ble_eq_true rfl) (Nat.le_of_ble_eq_true rfl) (Nat.le_of_ble_eq_true rfl) (pc := 1) dX7_readReading_1 rfl ?_
  refine r_bipush B (pc := 4) dX7_readReading_4 kb_48 ?_
  refine r_isub B (pc := 6) dX7_readReading_6 ?_
  refine r_nm hf (fun y4 hf => ?_)
  refine r_istore_n B hnL (pc := 7) dX7_readReading_7 rfl (by decide) ?_
  refine r_lc (loc' := [some (.ref (ad 0)), some (.int x1), some (.int y4), none, none, none]) rfl ?_
  refine r_iload_n B (pc := 8) dX7_readReading_8 rfl rfl ?_
  refine r_i2l B (pc := 9) dX7_readReading_9 ?_
  refine r_lconst B (pc := 10) dX7_readReading_10 kl_0 ?_
  refine r_ldc2 B (pc := 11) kp_RX7_108 dX7_readReading_11 ?_
  refine r_cSI B (c_X7_in X.l X.D K _ (y4.toInt64) 0 9) F_X7_in lk_RX7_81 (Nat.le_of_ble_eq_true rfl) (Nat.le_of_ble_eq_true rfl) (Nat.le_of_ble_eq_true rfl) (pc := 14) dX7_readReading_14 rfl ?_
  refine r_if_eq B (pc := 17) (tgt := 29) dX7_readReading_17 (by decide) hf (fun _ hf => ?_) (fun _ hf => ?_)
  · refine r_iconst B (pc := 29) dX7_readReading_29 kc_0 ?_
    exact e_pz (F := (wM ad K)) hf rfl (RET 30 _ dX7_readReading_30)
  · refine r_aload_n B (pc := 20) dX7_readReading_20 rfl rfl ?_
    refine r_iload_n B (pc := 21) dX7_readReading_21 rfl rfl ?_
    refine r_i2l B (pc := 22) dX7_readReading_22 ?_
    refine r_cVI B (c_X7_isReader X.l X.D K ad s3 (y4.toInt64)) F_X7_isReader lk_RX7_213 (q0 := 0) (ci := 7) rfl rfl (Nat.le_of_ble_eq_true rfl) (Nat.le_of_ble_eq_true rfl) (Nat.le_of_ble_eq_true rfl) (pc := 23) dX7_readReading_23 rfl ?_
    refine r_if_ne B (pc := 26) (tgt := 31) dX7_readReading_26 (by decide) hf (fun _ hf => ?_) (fun _ hf => ?_)
    · refine r_aload_n B (pc := 31) dX7_readReading_31 rfl rfl ?_
      refine r_dup B (pc := 32) dX7_readReading_32 rfl ?_
      refine gM_RX7_180_0 B (pc := 33) dX7_readReading_33 ?_
      refine r_iconst B (pc := 36) dX7_readReading_36 kc_1 ?_
      refine r_iadd B (pc := 37) dX7_readReading_37 ?_
      refine pM_RX7_180_0 B (pc := 38) dX7_readReading_38 hf (fun s5 hf => ?_)
      refine r_aload_n B (pc := 41) dX7_readReading_41 rfl rfl ?_
      refine r_iconst B (pc := 42) dX7_readReading_42 kc_5 ?_
      obtain ⟨r7, s8, hc6, hf⟩ := bdp_e hf
      refine r_cVI B (c_X7_readFigure X.l X.D K ad s5 5 hc6) F_X7_readFigure lk_RX7_194 (q0 := 0) (ci := 7) rfl rfl (Nat.le_of_ble_eq_true rfl) (Nat.le_of_ble_eq_true rfl) (Nat.le_of_ble_eq_true rfl) (pc := 43) dX7_readReading_43 rfl ?_
      refine r_istore_n B hnL (pc := 46) dX7_readReading_46 rfl (by decide) ?_
      refine r_lc (loc' := [some (.ref (ad 0)), some (.int x1), some (.int y4), some (.int r7), none, none]) rfl ?_
      refine r_iload_n B (pc := 47) dX7_readReading_47 rfl rfl ?_
      refine r_if_ge B (pc := 48) (tgt := 53) dX7_readReading_48 (by decide) hf (fun _ hf => ?_) (fun _ hf => ?_)
      · refine r_aload_n B (pc := 53) dX7_readReading_53 rfl rfl ?_
        refine r_iconst B (pc := 54) dX7_readReading_54 kc_5 ?_
        obtain ⟨r10, s11, hc9, hf⟩ := bdp_e hf
        refine r_cVI B (c_X7_readFigure X.l X.D K ad s8 5 hc9) F_X7_readFigure lk_RX7_194 (q0 := 0) (ci := 7) rfl rfl (Nat.le_of_ble_eq_true rfl) (Nat.le_of_ble_eq_true rfl) (Nat.le_of_ble_eq_true rfl) (pc := 55) dX7_readReading_55 rfl ?_
        refine r_istore B hnL (pc := 58) dX7_readReading_58 (by decide) ?_
        refine r_lc (loc' := [some (.ref (ad 0)), some (.int x1), some (.int y4), some (.int r7), some (.int r10), none]) rfl ?_
        refine r_iload B (pc := 60) dX7_readReading_60 rfl ?_
        refine r_if_ge B (pc := 62) (tgt := 67) dX7_readReading_62 (by decide) hf (fun _ hf => ?_) (fun _ hf => ?_)
        · refine r_aload_n B (pc := 67) dX7_readReading_67 rfl rfl ?_
          obtain ⟨r13, s14, hc12, hf⟩ := bdp_e hf
          refine r_cVI B (c_X7_nextLetter X.l X.D K ad s11 hc12) F_X7_nextLetter lk_RX7_183 (q0 := 0) (ci := 7) rfl rfl (Nat.le_of_ble_eq_true rfl) (Nat.le_of_ble_eq_true rfl) (Nat.le_of_ble_eq_true rfl) (pc := 68) dX7_readReading_68 rfl ?_
          refine r_bipush B (pc := 71) dX7_readReading_71 kb_97 ?_
          refine r_isub B (pc := 73) dX7_readReading_73 ?_
          refine r_nm hf (fun y15 hf => ?_)
          refine r_istore B hnL (pc := 74) dX7_readReading_74 (by decide) ?_
          refine r_lc (loc' := [some (.ref (ad 0)), some (.int x1), some (.int y4), some (.int r7), some (.int r10), some (.int y15)]) rfl ?_
          refine r_aload_n B (pc := 76) dX7_readReading_76 rfl rfl ?_
          refine r_iload B (pc := 77) dX7_readReading_77 rfl ?_
          refine r_i2l B (pc := 79) dX7_readReading_79 ?_
          refine r_cVI B (c_X7_isNews X.l X.D K ad s14 (y15.toInt64)) F_X7_isNews lk_RX7_123 (q0 := 0) (ci := 7) rfl rfl (Nat.le_of_ble_eq_true rfl) (Nat.le_of_ble_eq_true rfl) (Nat.le_of_ble_eq_true rfl) (pc := 80) dX7_readReading_80 rfl ?_
          refine r_if_ne B (pc := 83) (tgt := 88) dX7_readReading_83 (by decide) hf (fun _ hf => ?_) (fun _ hf => ?_)
          · refine r_aload_n B (pc := 88) dX7_readReading_88 rfl rfl ?_
            refine r_dup B (pc := 89) dX7_readReading_89 rfl ?_
            refine gM_RX7_180_0 B (pc := 90) dX7_readReading_90 ?_
            refine r_iconst B (pc := 93) dX7_readReading_93 kc_1 ?_
            refine r_iadd B (pc := 94) dX7_readReading_94 ?_
            refine pM_RX7_180_0 B (pc := 95) dX7_readReading_95 hf (fun s16 hf => ?_)
            refine r_aload_n B (pc := 98) dX7_readReading_98 rfl rfl ?_
            refine gM_RX7_47_0 B (pc := 99) dX7_readReading_99 ?_
            refine r_iload_n B (pc := 102) dX7_readReading_102 rfl rfl ?_
            refine r_iload_n B (pc := 103) dX7_readReading_103 rfl rfl ?_
            refine astM_12 B (pc := 104) dX7_readReading_104 hf (fun s17 _ hf => ?_)
            refine r_aload_n B (pc := 105) dX7_readReading_105 rfl rfl ?_
            refine gM_RX7_47_0 B (pc := 106) dX7_readReading_106 ?_
            refine r_iload_n B (pc := 109) dX7_readReading_109 rfl rfl ?_
            refine r_iconst B (pc := 110) dX7_readReading_110 kc_1 ?_
            refine r_iadd B (pc := 111) dX7_readReading_111 ?_
            refine r_bipush B (pc := 112) dX7_readReading_112 kb_6 ?_
            refine r_iload_n B (pc := 114) dX7_readReading_114 rfl rfl ?_
            refine r_imul B (pc := 115) dX7_readReading_115 ?_
            refine r_iload B (pc := 116) dX7_readReading_116 rfl ?_
            refine r_iadd B (pc := 118) dX7_readReading_118 ?_
            refine astM_12 B (pc := 119) dX7_readReading_119 hf (fun s18 _ hf => ?_)
            refine r_aload_n B (pc := 120) dX7_readReading_120 rfl rfl ?_
            refine gM_RX7_47_0 B (pc := 121) dX7_readReading_121 ?_
            refine r_iload_n B (pc := 124) dX7_readReading_124 rfl rfl ?_
            refine r_iconst B (pc := 125) dX7_readReading_125 kc_2 ?_
            refine r_iadd B (pc := 126) dX7_readReading_126 ?_
            refine r_iload B (pc := 127) dX7_readReading_127 rfl ?_
            refine astM_12 B (pc := 129) dX7_readReading_129 hf (fun s19 _ hf => ?_)
            refine r_iconst B (pc := 130) dX7_readReading_130 kc_1 ?_
            exact e_pz (F := (wM ad K)) hf rfl (RET 131 _ dX7_readReading_131)
          · refine r_iconst B (pc := 86) dX7_readReading_86 kc_0 ?_
            exact e_pz (F := (wM ad K)) hf rfl (RET 87 _ dX7_readReading_87)
        · refine r_iconst B (pc := 65) dX7_readReading_65 kc_0 ?_
          exact e_pz (F := (wM ad K)) hf rfl (RET 66 _ dX7_readReading_66)
      · refine r_iconst B (pc := 51) dX7_readReading_51 kc_0 ?_
        exact e_pz (F := (wM ad K)) hf rfl (RET 52 _ dX7_readReading_52)
    · refine r_iconst B (pc := 29) dX7_readReading_29 kc_0 ?_
      exact e_pz (F := (wM ad K)) hf rfl (RET 30 _ dX7_readReading_30)
set_option maxHeartbeats 4000000 in
set_option maxRecDepth 20000 in
theorem c_X7_readAll (l : Launch) (D : va_G) (K : Kt) (ad : Nat → Nat) (σ : St) (x1 : Int32) {r : Int32} {τ : St} (hf : f_X7_readAll σ x1 = some (r, τ)) : CtI l yX7_readAll cX7_readAll 5 (some .boolean) 3 72 D K [.ref (ad 0), .int x1] (wM ad K σ) r (wM ad K τ) := by
  refine met_i pl_RX7 (Nat.le_of_ble_eq_true rfl) (fun X hnL B RET => ?_)
  suffices h : MW X (wM ad K σ) 0 [some (.ref (ad 0)), some (.int x1), none, none, none] [] from h
  unfold f_X7_readAll at hf
  refine r_aload_n B (pc := 0) dX7_readAll_0 rfl rfl ?_
  refine r_iconst B (pc := 1) dX7_readAll_1 kc_0 ?_
  refine pM_RX7_180_0 B (pc := 2) dX7_readAll_2 hf (fun s1 hf => ?_)
  refine r_aload_n B (pc := 5) dX7_readAll_5 rfl rfl ?_
  refine r_iconst B (pc := 6) dX7_readAll_6 kc_0 ?_
  refine pM_RX7_216_0 B (pc := 7) dX7_readAll_7 hf (fun s2 hf => ?_)
  refine r_iload_n B (pc := 10) dX7_readAll_10 rfl rfl ?_
  have k34 : ∀ (n34 : Nat) (v2 : Int32) (v3 : Int32) (σ34 : St), f_X7_readAll_h34 x1 n34 v2 v3 σ34 = some (r, τ) → MW X (wM ad K σ34) 34 [some (.ref (ad 0)), some (.int x1), some (.int v2), some (.int v3), none] [] := by
    intro n34
    induction n34 with
    | zero => intro v2 v3 σ34 hf; exact nn_z hf
    | succ n34 ih34 =>
      intro v2 v3 σ34 hf
      rw [f_X7_readAll_h34] at hf
      refine r_iload_n B (pc := 34) dX7_readAll_34 rfl rfl ?_
      refine r_if_eq B (pc := 35) (tgt := 158) dX7_readAll_35 (by decide) hf (fun _ hf => ?_) (fun _ hf => ?_)
      · refine r_aload_n B (pc := 158) dX7_readAll_158 rfl rfl ?_
        obtain ⟨r4, s5, hc3, hf⟩ := bdp_e hf
        refine r_cVI B (c_X7_nextLetter X.l X.D K ad σ34 hc3) F_X7_nextLetter lk_RX7_183 (q0 := 0) (ci := 7) rfl rfl (Nat.le_of_ble_eq_true rfl) (Nat.le_of_ble_eq_true rfl) (Nat.le_of_ble_eq_true rfl) (pc := 159) dX7_readAll_159 rfl ?_
        refine r_if_ge B (pc := 162) (tgt := 169) dX7_readAll_162 (by decide) hf (fun _ hf => ?_) (fun _ hf => ?_)
        · refine r_iconst B (pc := 169) dX7_readAll_169 kc_0 ?_
          exact e_pz (F := (wM ad K)) hf rfl (RET 170 _ dX7_readAll_170)
        · refine r_iconst B (pc := 165) dX7_readAll_165 kc_1 ?_
          refine r_goto B (pc := 166) (tgt := 170) dX7_readAll_166 (by decide) ?_
          exact e_pz (F := (wM ad K)) hf rfl (RET 170 _ dX7_readAll_170)
      · refine r_aload_n B (pc := 38) dX7_readAll_38 rfl rfl ?_
        refine gM_RX7_216_0 B (pc := 39) dX7_readAll_39 ?_
        refine r_iload_n B (pc := 42) dX7_readAll_42 rfl rfl ?_
        have k103 : ∀ (v2 : Int32) (t0 : Int32) (σ103 : St), f_X7_readAll_b103 (f_X7_readAll_h34 x1 n34) x1 v2 t0 σ103 = some (r, τ) → MW X (wM ad K σ103) 103 [some (.ref (ad 0)), some (.int x1), some (.int v2), none, none] [.int t0] := by
          intro v2 t0 σ103 hf
          unfold f_X7_readAll_b103 at hf
          refine r_istore B hnL (pc := 103) dX7_readAll_103 (by decide) ?_
          refine r_lc (loc' := [some (.ref (ad 0)), some (.int x1), some (.int v2), none, some (.int t0)]) rfl ?_
          refine r_iload B (pc := 105) dX7_readAll_105 rfl ?_
          refine r_if_ne B (pc := 107) (tgt := 112) dX7_readAll_107 (by decide) hf (fun _ hf => ?_) (fun _ hf => ?_)
          · refine r_aload_n B (pc := 112) dX7_readAll_112 rfl rfl ?_
            refine r_dup B (pc := 113) dX7_readAll_113 rfl ?_
            refine gM_RX7_216_0 B (pc := 114) dX7_readAll_114 ?_
            refine r_iconst B (pc := 117) dX7_readAll_117 kc_1 ?_
            refine r_iadd B (pc := 118) dX7_readAll_118 ?_
            refine pM_RX7_216_0 B (pc := 119) dX7_readAll_119 hf (fun s15 hf => ?_)
            refine r_aload_n B (pc := 122) dX7_readAll_122 rfl rfl ?_
            refine gM_RX7_216_0 B (pc := 123) dX7_readAll_123 ?_
            refine r_iload_n B (pc := 126) dX7_readAll_126 rfl rfl ?_
            refine r_icmp_ge B (pc := 127) (tgt := 153) dX7_readAll_127 (by decide) hf (fun _ hf => ?_) (fun _ hf => ?_)
            · refine r_iconst B (pc := 153) dX7_readAll_153 kc_0 ?_
              refine r_istore_n B hnL (pc := 154) dX7_readAll_154 rfl (by decide) ?_
              refine r_lc (loc' := [some (.ref (ad 0)), some (.int x1), some (.int v2), some (.int 0), some (.int t0)]) rfl ?_
              refine r_goto B (pc := 155) (tgt := 34) dX7_readAll_155 (by decide) ?_
              exact r_mask [true, true, true, true, false] rfl (ih34 v2 0 s15 hf)
            · refine r_aload_n B (pc := 130) dX7_readAll_130 rfl rfl ?_
              refine r_iload_n B (pc := 131) dX7_readAll_131 rfl rfl ?_
              refine r_iconst B (pc := 132) dX7_readAll_132 kc_2 ?_
              have k143 : ∀ (v2 : Int32) (t0 : Int32) (σ143 : St), f_X7_readAll_b143 (f_X7_readAll_h34 x1 n34) x1 v2 t0 σ143 = some (r, τ) → MW X (wM ad K σ143) 143 [some (.ref (ad 0)), some (.int x1), some (.int v2), none, none] [.int t0, .ref (ad 0)] := by
                intro v2 t0 σ143 hf
                unfold f_X7_readAll_b143 at hf
                obtain ⟨r17, s18, hc16, hf⟩ := bdp_e hf
                refine r_cVI B (c_X7_takes X.l X.D K ad σ143 t0 hc16) F_X7_takes lk_RX7_197 (q0 := 0) (ci := 7) rfl rfl (Nat.le_of_ble_eq_true rfl) (Nat.le_of_ble_eq_true rfl) (Nat.le_of_ble_eq_true rfl) (pc := 143) dX7_readAll_143 rfl ?_
                refine r_if_eq B (pc := 146) (tgt := 153) dX7_readAll_146 (by decide) hf (fun _ hf => ?_) (fun _ hf => ?_)
                · refine r_iconst B (pc := 153) dX7_readAll_153 kc_0 ?_
                  refine r_istore_n B hnL (pc := 154) dX7_readAll_154 rfl (by decide) ?_
                  refine r_lc (loc' := [some (.ref (ad 0)), some (.int x1), some (.int v2), some (.int 0), none]) rfl ?_
                  refine r_goto B (pc := 155) (tgt := 34) dX7_readAll_155 (by decide) ?_
                  exact r_mask [true, true, true, true, false] rfl (ih34 v2 0 s18 hf)
                · refine r_iconst B (pc := 149) dX7_readAll_149 kc_1 ?_
                  refine r_goto B (pc := 150) (tgt := 154) dX7_readAll_150 (by decide) ?_
                  refine r_istore_n B hnL (pc := 154) dX7_readAll_154 rfl (by decide) ?_
                  refine r_lc (loc' := [some (.ref (ad 0)), some (.int x1), some (.int v2), some (.int 1), none]) rfl ?_
                  refine r_goto B (pc := 155) (tgt := 34) dX7_readAll_155 (by decide) ?_
                  exact r_mask [true, true, true, true, false] rfl (ih34 v2 1 s18 hf)
              refine r_icmp_ne B (pc := 133) (tgt := 141) dX7_readAll_133 (by decide) hf (fun _ hf => ?_) (fun _ hf => ?_)
              · refine r_bipush B (pc := 141) dX7_readAll_141 kb_44 ?_
                exact r_mask [true, true, true, false, false] rfl (k143 v2 44 s15 hf)
              · refine r_bipush B (pc := 136) dX7_readAll_136 kb_59 ?_
                refine r_goto B (pc := 138) (tgt := 143) dX7_readAll_138 (by decide) ?_
                exact r_mask [true, true, true, false, false] rfl (k143 v2 59 s15 hf)
          · refine r_iconst B (pc := 110) dX7_readAll_110 kc_0 ?_
            exact e_pz (F := (wM ad K)) hf rfl (RET 111 _ dX7_readAll_111)
        refine r_icmp_ge B (pc := 43) (tgt := 102) dX7_readAll_43 (by decide) hf (fun _ hf => ?_) (fun _ hf => ?_)
        · refine r_iconst B (pc := 102) dX7_readAll_102 kc_0 ?_
          exact r_mask [true, true, true, false, false] rfl (k103 v2 0 σ34 hf)
        · refine r_iload_n B (pc := 46) dX7_readAll_46 rfl rfl ?_
          refine r_if_ne B (pc := 47) (tgt := 66) dX7_readAll_47 (by decide) hf (fun _ hf => ?_) (fun _ hf => ?_)
          · refine r_iload_n B (pc := 66) dX7_readAll_66 rfl rfl ?_
            refine r_iconst B (pc := 67) dX7_readAll_67 kc_1 ?_
            refine r_icmp_ne B (pc := 68) (tgt := 85) dX7_readAll_68 (by decide) hf (fun _ hf => ?_) (fun _ hf => ?_)
            · refine r_aload_n B (pc := 85) dX7_readAll_85 rfl rfl ?_
              refine r_iconst B (pc := 86) dX7_readAll_86 kc_3 ?_
              refine r_aload_n B (pc := 87) dX7_readAll_87 rfl rfl ?_
              refine gM_RX7_216_0 B (pc := 88) dX7_readAll_88 ?_
              refine r_imul B (pc := 91) dX7_readAll_91 ?_
              obtain ⟨r7, s8, hc6, hf⟩ := bdp_e hf
              refine r_cVI B (c_X7_readReading X.l X.D K ad σ34 (3 * (σ34.1 0 21)) hc6) F_X7_readReading lk_RX7_225 (q0 := 0) (ci := 7) rfl rfl (Nat.le_of_ble_eq_true rfl) (Nat.le_of_ble_eq_true rfl) (Nat.le_of_ble_eq_true rfl) (pc := 92) dX7_readAll_92 rfl ?_
              refine r_if_eq B (pc := 95) (tgt := 102) dX7_readAll_95 (by decide) hf (fun _ hf => ?_) (fun _ hf => ?_)
              · refine r_iconst B (pc := 102) dX7_readAll_102 kc_0 ?_
                exact r_mask [true, true, true, false, false] rfl (k103 v2 0 s8 hf)
              · refine r_iconst B (pc := 98) dX7_readAll_98 kc_1 ?_
                refine r_goto B (pc := 99) (tgt := 103) dX7_readAll_99 (by decide) ?_
                exact r_mask [true, true, true, false, false] rfl (k103 v2 1 s8 hf)
            · refine r_aload_n B (pc := 71) dX7_readAll_71 rfl rfl ?_
              refine r_aload_n B (pc := 72) dX7_readAll_72 rfl rfl ?_
              refine gM_RX7_216_0 B (pc := 73) dX7_readAll_73 ?_
              obtain ⟨r10, s11, hc9, hf⟩ := bdp_e hf
              refine r_cVI B (c_X7_readNews X.l X.D K ad σ34 (σ34.1 0 21) hc9) F_X7_readNews lk_RX7_222 (q0 := 0) (ci := 7) rfl rfl (Nat.le_of_ble_eq_true rfl) (Nat.le_of_ble_eq_true rfl) (Nat.le_of_ble_eq_true rfl) (pc := 76) dX7_readAll_76 rfl ?_
              refine r_if_eq B (pc := 79) (tgt := 102) dX7_readAll_79 (by decide) hf (fun _ hf => ?_) (fun _ hf => ?_)
              · refine r_iconst B (pc := 102) dX7_readAll_102 kc_0 ?_
                exact r_mask [true, true, true, false, false] rfl (k103 v2 0 s11 hf)
              · refine r_goto B (pc := 82) (tgt := 98) dX7_readAll_82 (by decide) ?_
                refine r_iconst B (pc := 98) dX7_readAll_98 kc_1 ?_
                refine r_goto B (pc := 99) (tgt := 103) dX7_readAll_99 (by decide) ?_
                exact r_mask [true, true, true, false, false] rfl (k103 v2 1 s11 hf)
          · refine r_aload_n B (pc := 50) dX7_readAll_50 rfl rfl ?_
            refine r_iconst B (pc := 51) dX7_readAll_51 kc_3 ?_
            refine r_aload_n B (pc := 52) dX7_readAll_52 rfl rfl ?_
            refine gM_RX7_216_0 B (pc := 53) dX7_readAll_53 ?_
            refine r_imul B (pc := 56) dX7_readAll_56 ?_
            obtain ⟨r13, s14, hc12, hf⟩ := bdp_e hf
            refine r_cVI B (c_X7_readGrave X.l X.D K ad σ34 (3 * (σ34.1 0 21)) hc12) F_X7_readGrave lk_RX7_219 (q0 := 0) (ci := 7) rfl rfl (Nat.le_of_ble_eq_true rfl) (Nat.le_of_ble_eq_true rfl) (Nat.le_of_ble_eq_true rfl) (pc := 57) dX7_readAll_57 rfl ?_
            refine r_if_eq B (pc := 60) (tgt := 102) dX7_readAll_60 (by decide) hf (fun _ hf => ?_) (fun _ hf => ?_)
            · refine r_iconst B (pc := 102) dX7_readAll_102 kc_0 ?_
              exact r_mask [true, true, true, false, false] rfl (k103 v2 0 s14 hf)
            · refine r_goto B (pc := 63) (tgt := 98) dX7_readAll_63 (by decide) ?_
              refine r_iconst B (pc := 98) dX7_readAll_98 kc_1 ?_
              refine r_goto B (pc := 99) (tgt := 103) dX7_readAll_99 (by decide) ?_
              exact r_mask [true, true, true, false, false] rfl (k103 v2 1 s14 hf)
  refine r_if_ne B (pc := 11) (tgt := 19) dX7_readAll_11 (by decide) hf (fun _ hf => ?_) (fun _ hf => ?_)
  · refine r_iload_n B (pc := 19) dX7_readAll_19 rfl rfl ?_
    refine r_iconst B (pc := 20) dX7_readAll_20 kc_1 ?_
    refine r_icmp_ne B (pc := 21) (tgt := 29) dX7_readAll_21 (by decide) hf (fun _ hf => ?_) (fun _ hf => ?_)
    · refine r_bipush B (pc := 29) dX7_readAll_29 kb_40 ?_
      refine r_istore_n B hnL (pc := 31) dX7_readAll_31 rfl (by decide) ?_
      refine r_lc (loc' := [some (.ref (ad 0)), some (.int x1), some (.int 40), none, none]) rfl ?_
      refine r_iconst B (pc := 32) dX7_readAll_32 kc_1 ?_
      refine r_istore_n B hnL (pc := 33) dX7_readAll_33 rfl (by decide) ?_
      refine r_lc (loc' := [some (.ref (ad 0)), some (.int x1), some (.int 40), some (.int 1), none]) rfl ?_
      exact r_mask [true, true, true, true, false] rfl (k34 FU 40 1 s2 hf)
    · refine r_bipush B (pc := 24) dX7_readAll_24 kb_12 ?_
      refine r_goto B (pc := 26) (tgt := 31) dX7_readAll_26 (by decide) ?_
      refine r_istore_n B hnL (pc := 31) dX7_readAll_31 rfl (by decide) ?_
      refine r_lc (loc' := [some (.ref (ad 0)), some (.int x1), some (.int 12), none, none]) rfl ?_
      refine r_iconst B (pc := 32) dX7_readAll_32 kc_1 ?_
      refine r_istore_n B hnL (pc := 33) dX7_readAll_33 rfl (by decide) ?_
      refine r_lc (loc' := [some (.ref (ad 0)), some (.int x1), some (.int 12), some (.int 1), none]) rfl ?_
      exact r_mask [true, true, true, true, false] rfl (k34 FU 12 1 s2 hf)
  · refine r_bipush B (pc := 14) dX7_readAll_14 kb_10 ?_
    refine r_goto B (pc := 16) (tgt := 31) dX7_readAll_16 (by decide) ?_
    refine r_istore_n B hnL (pc := 31) dX7_readAll_31 rfl (by decide) ?_
    refine r_lc (loc' := [some (.ref (ad 0)), some (.int x1), some (.int 10), none, none]) rfl ?_
    refine r_iconst B (pc := 32) dX7_readAll_32 kc_1 ?_
    refine r_istore_n B hnL (pc := 33) dX7_readAll_33 rfl (by decide) ?_
    refine r_lc (loc' := [some (.ref (ad 0)), some (.int x1), some (.int 10), some (.int 1), none]) rfl ?_
    exact r_mask [true, true, true, true, false] rfl (k34 FU 10 1 s2 hf)
set_option maxHeartbeats 4000000 in
set_option maxRecDepth 20000 in
theorem c_X7_forget (l : Launch) (D : va_G) (K : Kt) (ad : Nat → Nat) (σ : St) {τ : St} (hf : f_X7_forget σ = some τ) : CtV l yX7_forget cX7_forget 2 none 0 0 D K [.ref (ad 0)] (wM ad K σ) (wM ad K τ) := by
  refine met_v pl_RX7 (Nat.le_of_ble_eq_true rfl) (fun X hnL B RET => ?_)
  suffices h : MW X (wM ad K σ) 0 [some (.ref (ad 0)), none] [] from h
  unfold f_X7_forget at hf
  refine r_iconst B (pc := 0) dX7_forget_0 kc_0 ?_
  refine r_istore_n B hnL (pc := 1) dX7_forget_1 rfl (by decide) ?_
  refine r_lc (loc' := [some (.ref (ad 0)), some (.int 0)]) rfl ?_
  have k2 : ∀ (n2 : Nat) (v1 : Int32) (σ2 : St), f_X7_forget_h2 n2 v1 σ2 = some τ → MW X (wM ad K σ2) 2 [some (.ref (ad 0)), some (.int v1)] [] := by
    intro n2
    induction n2 with
    | zero => intro v1 σ2 hf; exact nn_z hf
    | succ n2 ih2 =>
      intro v1 σ2 hf
      rw [f_X7_forget_h2] at hf
      refine r_iload_n B (pc := 2) dX7_forget_2 rfl rfl ?_
      refine r_bipush B (pc := 3) dX7_forget_3 kb_10 ?_
      refine r_icmp_ge B (pc := 5) (tgt := 33) dX7_forget_5 (by decide) hf (fun _ hf => ?_) (fun _ hf => ?_)
      · refine r_aload_n B (pc := 33) dX7_forget_33 rfl rfl ?_
        refine r_iconst B (pc := 34) dX7_forget_34 kc_0 ?_
        refine pM_RX7_105_0 B (pc := 35) dX7_forget_35 hf (fun s1 hf => ?_)
        exact e_s (F := (wM ad K)) hf (RET 38 _ dX7_forget_38)
      · refine r_aload_n B (pc := 8) dX7_forget_8 rfl rfl ?_
        refine gM_RX7_38_0 B (pc := 9) dX7_forget_9 ?_
        refine r_iconst B (pc := 12) dX7_forget_12 kc_0 ?_
        refine r_iload_n B (pc := 13) dX7_forget_13 rfl rfl ?_
        refine r_iadd B (pc := 14) dX7_forget_14 ?_
        refine r_iconst B (pc := 15) dX7_forget_15 kc_0 ?_
        refine astM_9 B (pc := 16) dX7_forget_16 hf (fun s2 _ hf => ?_)
        refine r_aload_n B (pc := 17) dX7_forget_17 rfl rfl ?_
        refine gM_RX7_38_0 B (pc := 18) dX7_forget_18 ?_
        refine r_bipush B (pc := 21) dX7_forget_21 kb_10 ?_
        refine r_iload_n B (pc := 23) dX7_forget_23 rfl rfl ?_
        refine r_iadd B (pc := 24) dX7_forget_24 ?_
        refine r_iconst B (pc := 25) dX7_forget_25 kc_0 ?_
        refine astM_9 B (pc := 26) dX7_forget_26 hf (fun s3 _ hf => ?_)
        refine r_iincS B hnL (pc := 27) dX7_forget_27 rfl kc_1 (by decide) hf (fun y4 hf => ?_)
        refine r_lc (loc' := [some (.ref (ad 0)), some (.int y4)]) rfl ?_
        refine r_goto B (pc := 30) (tgt := 2) dX7_forget_30 (by decide) ?_
        exact r_mask [true, true] rfl (ih2 y4 s3 hf)
  exact r_mask [true, true] rfl (k2 FU 0 σ hf)
set_option maxHeartbeats 4000000 in
set_option maxRecDepth 20000 in
theorem c_X7_yard (l : Launch) (D : va_G) (K : Kt) (ad : Nat → Nat) (σ : St) {r : Int32} {τ : St} (hf : f_X7_yard σ = some (r, τ)) : CtI l yX7_yard cX7_yard 3 (some .int) 4 96 D K [.ref (ad 0)] (wM ad K σ) r (wM ad K τ) := by
  refine met_i pl_RX7 (Nat.le_of_ble_eq_true rfl) (fun X hnL B RET => ?_)
  suffices h : MW X (wM ad K σ) 0 [some (.ref (ad 0)), none, none] [] from h
  unfold f_X7_yard at hf
  refine r_aload_n B (pc := 0) dX7_yard_0 rfl rfl ?_
  refine r_aload_n B (pc := 1) dX7_yard_1 rfl rfl ?_
  refine r_iconst B (pc := 2) dX7_yard_2 kc_0 ?_
  obtain ⟨r2, s3, hc1, hf⟩ := bdp_e hf
  refine r_cVI B (c_X7_readAll X.l X.D K ad σ 0 hc1) F_X7_readAll lk_RX7_228 (q0 := 0) (ci := 7) rfl rfl (Nat.le_of_ble_eq_true rfl) (Nat.le_of_ble_eq_true rfl) (Nat.le_of_ble_eq_true rfl) (pc := 3) dX7_yard_3 rfl ?_
  obtain ⟨r5, s6, hc4, hf⟩ := bdp_e hf
  refine r_cVI B (c_X7_end X.l X.D K ad s3 r2 hc4) F_X7_end lk_RX7_231 (q0 := 0) (ci := 7) rfl rfl (Nat.le_of_ble_eq_true rfl) (Nat.le_of_ble_eq_true rfl) (Nat.le_of_ble_eq_true rfl) (pc := 6) dX7_yard_6 rfl ?_
  refine r_istore_n B hnL (pc := 9) dX7_yard_9 rfl (by decide) ?_
  refine r_lc (loc' := [some (.ref (ad 0)), some (.int r5), none]) rfl ?_
  refine r_iload_n B (pc := 10) dX7_yard_10 rfl rfl ?_
  refine r_if_ge B (pc := 11) (tgt := 16) dX7_yard_11 (by decide) hf (fun _ hf => ?_) (fun _ hf => ?_)
  · refine r_aload_n B (pc := 16) dX7_yard_16 rfl rfl ?_
    refine r_iconst B (pc := 17) dX7_yard_17 kc_0 ?_
    refine pM_RX7_78_0 B (pc := 18) dX7_yard_18 hf (fun s7 hf => ?_)
    refine r_aload_n B (pc := 21) dX7_yard_21 rfl rfl ?_
    obtain ⟨s9, hc8, hf⟩ := bdr_e hf
    refine r_cVV B (c_X7_forget X.l X.D K ad s7 hc8) F_X7_forget lk_RX7_235 (q0 := 0) (ci := 7) rfl rfl (Nat.le_of_ble_eq_true rfl) (Nat.le_of_ble_eq_true rfl) (Nat.le_of_ble_eq_true rfl) (pc := 22) dX7_yard_22 rfl ?_
    refine r_iconst B (pc := 25) dX7_yard_25 kc_0 ?_
    refine r_istore_n B hnL (pc := 26) dX7_yard_26 rfl (by decide) ?_
    refine r_lc (loc' := [some (.ref (ad 0)), some (.int r5), some (.int 0)]) rfl ?_
    have k27 : ∀ (n27 : Nat) (v2 : Int32) (σ27 : St), f_X7_yard_h27 n27 v2 σ27 = some (r, τ) → MW X (wM ad K σ27) 27 [some (.ref (ad 0)), none, some (.int v2)] [] := by
      intro n27
      induction n27 with
      | zero => intro v2 σ27 hf; exact nn_z hf
      | succ n27 ih27 =>
        intro v2 σ27 hf
        rw [f_X7_yard_h27] at hf
        refine r_iload_n B (pc := 27) dX7_yard_27 rfl rfl ?_
        refine r_aload_n B (pc := 28) dX7_yard_28 rfl rfl ?_
        refine gM_RX7_216_0 B (pc := 29) dX7_yard_29 ?_
        refine r_icmp_ge B (pc := 32) (tgt := 73) dX7_yard_32 (by decide) hf (fun _ hf => ?_) (fun _ hf => ?_)
        · refine r_aload_n B (pc := 73) dX7_yard_73 rfl rfl ?_
          refine gM_RX7_78_0 B (pc := 74) dX7_yard_74 ?_
          exact e_pz (F := (wM ad K)) hf (nar_i _) (RET 77 _ dX7_yard_77)
        · refine r_aload_n B (pc := 35) dX7_yard_35 rfl rfl ?_
          refine r_aload_n B (pc := 36) dX7_yard_36 rfl rfl ?_
          refine gM_RX7_47_0 B (pc := 37) dX7_yard_37 ?_
          refine r_iconst B (pc := 40) dX7_yard_40 kc_3 ?_
          refine r_iload_n B (pc := 41) dX7_yard_41 rfl rfl ?_
          refine r_imul B (pc := 42) dX7_yard_42 ?_
          refine aldM_12 B (pc := 43) dX7_yard_43 hf (fun _ hf => ?_)
          refine r_aload_n B (pc := 44) dX7_yard_44 rfl rfl ?_
          refine gM_RX7_47_0 B (pc := 45) dX7_yard_45 ?_
          refine r_iconst B (pc := 48) dX7_yard_48 kc_3 ?_
          refine r_iload_n B (pc := 49) dX7_yard_49 rfl rfl ?_
          refine r_imul B (pc := 50) dX7_yard_50 ?_
          refine r_iconst B (pc := 51) dX7_yard_51 kc_1 ?_
          refine r_iadd B (pc := 52) dX7_yard_52 ?_
          refine aldM_12 B (pc := 53) dX7_yard_53 hf (fun _ hf => ?_)
          refine r_aload_n B (pc := 54) dX7_yard_54 rfl rfl ?_
          refine gM_RX7_47_0 B (pc := 55) dX7_yard_55 ?_
          refine r_iconst B (pc := 58) dX7_yard_58 kc_3 ?_
          refine r_iload_n B (pc := 59) dX7_yard_59 rfl rfl ?_
          refine r_imul B (pc := 60) dX7_yard_60 ?_
          refine r_iconst B (pc := 61) dX7_yard_61 kc_2 ?_
          refine r_iadd B (pc := 62) dX7_yard_62 ?_
          refine aldM_12 B (pc := 63) dX7_yard_63 hf (fun _ hf => ?_)
          obtain ⟨s11, hc10, hf⟩ := bdr_e hf
          refine r_cVV B (c_X7_addGrave X.l X.D K ad σ27 (σ27.1 12 (ix (3 * v2))) (σ27.1 12 (ix ((3 * v2) + 1))) (σ27.1 12 (ix ((3 * v2) + 2))) hc10) F_X7_addGrave lk_RX7_101 (q0 := 0) (ci := 7) rfl rfl (Nat.le_of_ble_eq_true rfl) (Nat.le_of_ble_eq_true rfl) (Nat.le_of_ble_eq_true rfl) (pc := 64) dX7_yard_64 rfl ?_
          refine r_iincS B hnL (pc := 67) dX7_yard_67 rfl kc_1 (by decide) hf (fun y12 hf => ?_)
          refine r_lc (loc' := [some (.ref (ad 0)), none, some (.int y12)]) rfl ?_
          refine r_goto B (pc := 70) (tgt := 27) dX7_yard_70 (by decide) ?_
          exact r_mask [true, false, true] rfl (ih27 y12 s11 hf)
    exact r_mask [true, false, true] rfl (k27 FU 0 s9 hf)
  · refine r_iload_n B (pc := 14) dX7_yard_14 rfl rfl ?_
    exact e_pz (F := (wM ad K)) hf (nar_i _) (RET 15 _ dX7_yard_15)
set_option maxHeartbeats 4000000 in
set_option maxRecDepth 20000 in
theorem c_X7_paper (l : Launch) (D : va_G) (K : Kt) (ad : Nat → Nat) (σ : St) {r : Int32} {τ : St} (hf : f_X7_paper σ = some (r, τ)) : CtI l yX7_paper cX7_paper 3 (some .int) 4 96 D K [.ref (ad 0)] (wM ad K σ) r (wM ad K τ) := by
  refine met_i pl_RX7 (Nat.le_of_ble_eq_true rfl) (fun X hnL B RET => ?_)
  suffices h : MW X (wM ad K σ) 0 [some (.ref (ad 0)), none, none] [] from h
  unfold f_X7_paper at hf
  refine r_aload_n B (pc := 0) dX7_paper_0 rfl rfl ?_
  refine r_aload_n B (pc := 1) dX7_paper_1 rfl rfl ?_
  refine r_iconst B (pc := 2) dX7_paper_2 kc_1 ?_
  obtain ⟨r2, s3, hc1, hf⟩ := bdp_e hf
  refine r_cVI B (c_X7_readAll X.l X.D K ad σ 1 hc1) F_X7_readAll lk_RX7_228 (q0 := 0) (ci := 7) rfl rfl (Nat.le_of_ble_eq_true rfl) (Nat.le_of_ble_eq_true rfl) (Nat.le_of_ble_eq_true rfl) (pc := 3) dX7_paper_3 rfl ?_
  obtain ⟨r5, s6, hc4, hf⟩ := bdp_e hf
  refine r_cVI B (c_X7_end X.l X.D K ad s3 r2 hc4) F_X7_end lk_RX7_231 (q0 := 0) (ci := 7) rfl rfl (Nat.le_of_ble_eq_true rfl) (Nat.le_of_ble_eq_true rfl) (Nat.le_of_ble_eq_true rfl) (pc := 6) dX7_paper_6 rfl ?_
  refine r_istore_n B hnL (pc := 9) dX7_paper_9 rfl (by decide) ?_
  refine r_lc (loc' := [some (.ref (ad 0)), some (.int r5), none]) rfl ?_
  refine r_iload_n B (pc := 10) dX7_paper_10 rfl rfl ?_
  refine r_if_ge B (pc := 11) (tgt := 16) dX7_paper_11 (by decide) hf (fun _ hf => ?_) (fun _ hf => ?_)
  · refine r_aload_n B (pc := 16) dX7_paper_16 rfl rfl ?_
    refine r_iconst B (pc := 17) dX7_paper_17 kc_0 ?_
    refine pM_RX7_85_0 B (pc := 18) dX7_paper_18 hf (fun s7 hf => ?_)
    refine r_aload_n B (pc := 21) dX7_paper_21 rfl rfl ?_
    obtain ⟨s9, hc8, hf⟩ := bdr_e hf
    refine r_cVV B (c_X7_forget X.l X.D K ad s7 hc8) F_X7_forget lk_RX7_235 (q0 := 0) (ci := 7) rfl rfl (Nat.le_of_ble_eq_true rfl) (Nat.le_of_ble_eq_true rfl) (Nat.le_of_ble_eq_true rfl) (pc := 22) dX7_paper_22 rfl ?_
    refine r_iconst B (pc := 25) dX7_paper_25 kc_0 ?_
    refine r_istore_n B hnL (pc := 26) dX7_paper_26 rfl (by decide) ?_
    refine r_lc (loc' := [some (.ref (ad 0)), some (.int r5), some (.int 0)]) rfl ?_
    have k27 : ∀ (n27 : Nat) (v2 : Int32) (σ27 : St), f_X7_paper_h27 n27 v2 σ27 = some (r, τ) → MW X (wM ad K σ27) 27 [some (.ref (ad 0)), none, some (.int v2)] [] := by
      intro n27
      induction n27 with
      | zero => intro v2 σ27 hf; exact nn_z hf
      | succ n27 ih27 =>
        intro v2 σ27 hf
        rw [f_X7_paper_h27] at hf
        refine r_iload_n B (pc := 27) dX7_paper_27 rfl rfl ?_
        refine r_aload_n B (pc := 28) dX7_paper_28 rfl rfl ?_
        refine gM_RX7_216_0 B (pc := 29) dX7_paper_29 ?_
        refine r_icmp_ge B (pc := 32) (tgt := 83) dX7_paper_32 (by decide) hf (fun _ hf => ?_) (fun _ hf => ?_)
        · refine r_aload_n B (pc := 83) dX7_paper_83 rfl rfl ?_
          refine gM_RX7_85_0 B (pc := 84) dX7_paper_84 ?_
          exact e_pz (F := (wM ad K)) hf (nar_i _) (RET 87 _ dX7_paper_87)
        · refine r_aload_n B (pc := 35) dX7_paper_35 rfl rfl ?_
          refine r_aload_n B (pc := 36) dX7_paper_36 rfl rfl ?_
          refine gM_RX7_47_0 B (pc := 37) dX7_paper_37 ?_
          refine r_iconst B (pc := 40) dX7_paper_40 kc_4 ?_
          refine r_iload_n B (pc := 41) dX7_paper_41 rfl rfl ?_
          refine r_imul B (pc := 42) dX7_paper_42 ?_
          refine aldM_12 B (pc := 43) dX7_paper_43 hf (fun _ hf => ?_)
          refine r_aload_n B (pc := 44) dX7_paper_44 rfl rfl ?_
          refine gM_RX7_47_0 B (pc := 45) dX7_paper_45 ?_
          refine r_iconst B (pc := 48) dX7_paper_48 kc_4 ?_
          refine r_iload_n B (pc := 49) dX7_paper_49 rfl rfl ?_
          refine r_imul B (pc := 50) dX7_paper_50 ?_
          refine r_iconst B (pc := 51) dX7_paper_51 kc_1 ?_
          refine r_iadd B (pc := 52) dX7_paper_52 ?_
          refine aldM_12 B (pc := 53) dX7_paper_53 hf (fun _ hf => ?_)
          refine r_aload_n B (pc := 54) dX7_paper_54 rfl rfl ?_
          refine gM_RX7_47_0 B (pc := 55) dX7_paper_55 ?_
          refine r_iconst B (pc := 58) dX7_paper_58 kc_4 ?_
          refine r_iload_n B (pc := 59) dX7_paper_59 rfl rfl ?_
          refine r_imul B (pc := 60) dX7_paper_60 ?_
          refine r_iconst B (pc := 61) dX7_paper_61 kc_2 ?_
          refine r_iadd B (pc := 62) dX7_paper_62 ?_
          refine aldM_12 B (pc := 63) dX7_paper_63 hf (fun _ hf => ?_)
          refine r_aload_n B (pc := 64) dX7_paper_64 rfl rfl ?_
          refine gM_RX7_47_0 B (pc := 65) dX7_paper_65 ?_
          refine r_iconst B (pc := 68) dX7_paper_68 kc_4 ?_
          refine r_iload_n B (pc := 69) dX7_paper_69 rfl rfl ?_
          refine r_imul B (pc := 70) dX7_paper_70 ?_
          refine r_iconst B (pc := 71) dX7_paper_71 kc_3 ?_
          refine r_iadd B (pc := 72) dX7_paper_72 ?_
          refine aldM_12 B (pc := 73) dX7_paper_73 hf (fun _ hf => ?_)
          obtain ⟨s11, hc10, hf⟩ := bdr_e hf
          refine r_cVV B (c_X7_addNews X.l X.D K ad σ27 (σ27.1 12 (ix (4 * v2))) (σ27.1 12 (ix ((4 * v2) + 1))) (σ27.1 12 (ix ((4 * v2) + 2))) (σ27.1 12 (ix ((4 * v2) + 3))) hc10) F_X7_addNews lk_RX7_119 (q0 := 0) (ci := 7) rfl rfl (Nat.le_of_ble_eq_true rfl) (Nat.le_of_ble_eq_true rfl) (Nat.le_of_ble_eq_true rfl) (pc := 74) dX7_paper_74 rfl ?_
          refine r_iincS B hnL (pc := 77) dX7_paper_77 rfl kc_1 (by decide) hf (fun y12 hf => ?_)
          refine r_lc (loc' := [some (.ref (ad 0)), none, some (.int y12)]) rfl ?_
          refine r_goto B (pc := 80) (tgt := 27) dX7_paper_80 (by decide) ?_
          exact r_mask [true, false, true] rfl (ih27 y12 s11 hf)
    exact r_mask [true, false, true] rfl (k27 FU 0 s9 hf)
  · refine r_iload_n B (pc := 14) dX7_paper_14 rfl rfl ?_
    exact e_pz (F := (wM ad K)) hf (nar_i _) (RET 15 _ dX7_paper_15)
set_option maxHeartbeats 4000000 in
set_option maxRecDepth 20000 in
theorem c_X7_wrongedBy (l : Launch) (D : va_G) (K : Kt) (ad : Nat → Nat) (σ : St) (x1 : Int32) (x2 : Int32) (x3 : Int32) {r : Int32} (hf : f_X7_wrongedBy σ x1 x2 x3 = some r) : CtI l yX7_wrongedBy cX7_wrongedBy 9 (some .int) 4 97 D K [.ref (ad 0), .int x1, .int x2, .int x3] (wM ad K σ) r (wM ad K σ) := by
  refine met_i pl_RX7 (Nat.le_of_ble_eq_true rfl) (fun X hnL B RET => ?_)
  suffices h : MW X (wM ad K σ) 0 [some (.ref (ad 0)), some (.int x1), some (.int x2), some (.int x3), none, none, none, none, none] [] from h
  unfold f_X7_wrongedBy at hf
  refine r_aload_n B (pc := 0) dX7_wrongedBy_0 rfl rfl ?_
  refine r_iload_n B (pc := 1) dX7_wrongedBy_1 rfl rfl ?_
  refine r_iload_n B (pc := 2) dX7_wrongedBy_2 rfl rfl ?_
  refine r_aload_n B (pc := 3) dX7_wrongedBy_3 rfl rfl ?_
  refine gM_RX7_130_0 B (pc := 4) dX7_wrongedBy_4 ?_
  obtain ⟨r2, hc1, hf⟩ := bdr_e hf
  refine r_cVI B (c_X7_hearers X.l X.D K ad σ x1 x2 (σ.1 0 11) hc1) F_X7_hearers lk_RX7_247 (q0 := 0) (ci := 7) rfl rfl (Nat.le_of_ble_eq_true rfl) (Nat.le_of_ble_eq_true rfl) (Nat.le_of_ble_eq_true rfl) (pc := 7) dX7_wrongedBy_7 rfl ?_
  refine r_istore B hnL (pc := 10) dX7_wrongedBy_10 (by decide) ?_
  refine r_lc (loc' := [some (.ref (ad 0)), some (.int x1), some (.int x2), some (.int x3), some (.int r2), none, none, none, none]) rfl ?_
  refine r_iconst B (pc := 12) dX7_wrongedBy_12 kc_0 ?_
  refine r_istore B hnL (pc := 13) dX7_wrongedBy_13 (by decide) ?_
  refine r_lc (loc' := [some (.ref (ad 0)), some (.int x1), some (.int x2), some (.int x3), some (.int r2), some (.int 0), none, none, none]) rfl ?_
  refine r_iconst B (pc := 15) dX7_wrongedBy_15 kc_0 ?_
  refine r_istore B hnL (pc := 16) dX7_wrongedBy_16 (by decide) ?_
  refine r_lc (loc' := [some (.ref (ad 0)), some (.int x1), some (.int x2), some (.int x3), some (.int r2), some (.int 0), some (.int 0), none, none]) rfl ?_
  have k18 : ∀ (n18 : Nat) (v4 : Int32) (v5 : Int32) (v6 : Int32), f_X7_wrongedBy_h18 σ x1 x2 x3 n18 v4 v5 v6 = some r → MW X (wM ad K σ) 18 [some (.ref (ad 0)), none, none, some (.int x3), some (.int v4), some (.int v5), some (.int v6), none, none] [] := by
    intro n18
    induction n18 with
    | zero => intro v4 v5 v6 hf; exact nn_z hf
    | succ n18 ih18 =>
      intro v4 v5 v6 hf
      rw [f_X7_wrongedBy_h18] at hf
      refine r_iload B (pc := 18) dX7_wrongedBy_18 rfl ?_
      refine r_aload_n B (pc := 20) dX7_wrongedBy_20 rfl rfl ?_
      refine gM_RX7_78_0 B (pc := 21) dX7_wrongedBy_21 ?_
      refine r_icmp_ge B (pc := 24) (tgt := 138) dX7_wrongedBy_24 (by decide) hf (fun _ hf => ?_) (fun _ hf => ?_)
      · refine r_iload B (pc := 138) dX7_wrongedBy_138 rfl ?_
        exact e_rz hf (nar_i _) (RET 140 _ dX7_wrongedBy_140)
      · refine r_aload_n B (pc := 27) dX7_wrongedBy_27 rfl rfl ?_
        refine gM_RX7_22_0 B (pc := 28) dX7_wrongedBy_28 ?_
        refine r_iload_n B (pc := 31) dX7_wrongedBy_31 rfl rfl ?_
        refine aldM_5 B (pc := 32) dX7_wrongedBy_32 hf (fun _ hf => ?_)
        refine r_aload_n B (pc := 33) dX7_wrongedBy_33 rfl rfl ?_
        refine r_iload B (pc := 34) dX7_wrongedBy_34 rfl ?_
        obtain ⟨r4, hc3, hf⟩ := bdr_e hf
        refine r_cVI B (c_X7_owedTo X.l X.D K ad σ v6 hc3) F_X7_owedTo lk_RX7_160 (q0 := 0) (ci := 7) rfl rfl (Nat.le_of_ble_eq_true rfl) (Nat.le_of_ble_eq_true rfl) (Nat.le_of_ble_eq_true rfl) (pc := 36) dX7_wrongedBy_36 rfl ?_
        refine r_iand B (pc := 39) dX7_wrongedBy_39 ?_
        refine r_aload_n B (pc := 40) dX7_wrongedBy_40 rfl rfl ?_
        refine gM_RX7_38_0 B (pc := 41) dX7_wrongedBy_41 ?_
        refine r_iconst B (pc := 44) dX7_wrongedBy_44 kc_0 ?_
        refine r_iload B (pc := 45) dX7_wrongedBy_45 rfl ?_
        refine r_iadd B (pc := 47) dX7_wrongedBy_47 ?_
        refine aldM_9 B (pc := 48) dX7_wrongedBy_48 hf (fun _ hf => ?_)
        refine r_iconst B (pc := 49) dX7_wrongedBy_49 kc_m1 ?_
        refine r_ixor B (pc := 50) dX7_wrongedBy_50 ?_
        refine r_iand B (pc := 51) dX7_wrongedBy_51 ?_
        have k60 : ∀ (v4 : Int32) (v5 : Int32) (v6 : Int32) (t0 : Int32), f_X7_wrongedBy_b60 (f_X7_wrongedBy_h18 σ x1 x2 x3 n18) σ x1 x2 x3 v4 v5 v6 t0 = some r → MW X (wM ad K σ) 60 [some (.ref (ad 0)), none, none, some (.int x3), some (.int v4), some (.int v5), some (.int v6), none, none] [.int t0] := by
          intro v4 v5 v6 t0 hf
          unfold f_X7_wrongedBy_b60 at hf
          refine r_istore B hnL (pc := 60) dX7_wrongedBy_60 (by decide) ?_
          refine r_lc (loc' := [some (.ref (ad 0)), none, none, some (.int x3), some (.int v4), some (.int v5), some (.int v6), some (.int t0), none]) rfl ?_
          refine r_aload_n B (pc := 62) dX7_wrongedBy_62 rfl rfl ?_
          refine gM_RX7_25_0 B (pc := 63) dX7_wrongedBy_63 ?_
          refine r_iload_n B (pc := 66) dX7_wrongedBy_66 rfl rfl ?_
          refine aldM_6 B (pc := 67) dX7_wrongedBy_67 hf (fun _ hf => ?_)
          refine r_iload B (pc := 68) dX7_wrongedBy_68 rfl ?_
          refine r_cSI B (c_X7_has X.l X.D K _ (σ.1 6 (ix x3)) v6) F_X7_has lk_RX7_153 (Nat.le_of_ble_eq_true rfl) (Nat.le_of_ble_eq_true rfl) (Nat.le_of_ble_eq_true rfl) (pc := 70) dX7_wrongedBy_70 rfl ?_
          have k102 : ∀ (v4 : Int32) (v5 : Int32) (v6 : Int32) (t0 : Int32), f_X7_wrongedBy_b102 (f_X7_wrongedBy_h18 σ x1 x2 x3 n18) σ x1 x2 x3 v4 v5 v6 t0 = some r → MW X (wM ad K σ) 102 [some (.ref (ad 0)), none, none, some (.int x3), some (.int v4), some (.int v5), some (.int v6), none, none] [.int t0] := by
            intro v4 v5 v6 t0 hf
            unfold f_X7_wrongedBy_b102 at hf
            refine r_istore B hnL (pc := 102) dX7_wrongedBy_102 (by decide) ?_
            refine r_lc (loc' := [some (.ref (ad 0)), none, none, some (.int x3), some (.int v4), some (.int v5), some (.int v6), none, some (.int t0)]) rfl ?_
            refine r_iload B (pc := 104) dX7_wrongedBy_104 rfl ?_
            refine r_iload B (pc := 106) dX7_wrongedBy_106 rfl ?_
            refine r_iload B (pc := 108) dX7_wrongedBy_108 rfl ?_
            refine r_cSI B (c_X7_has X.l X.D K _ v4 v6) F_X7_has lk_RX7_153 (Nat.le_of_ble_eq_true rfl) (Nat.le_of_ble_eq_true rfl) (Nat.le_of_ble_eq_true rfl) (pc := 110) dX7_wrongedBy_110 rfl ?_
            have k129 : ∀ (v4 : Int32) (v6 : Int32) (t0 : Int32) (t1 : Int32), f_X7_wrongedBy_b129 (f_X7_wrongedBy_h18 σ x1 x2 x3 n18) σ x1 x2 x3 v4 v6 t0 t1 = some r → MW X (wM ad K σ) 129 [some (.ref (ad 0)), none, none, some (.int x3), some (.int v4), none, some (.int v6), none, none] [.int t0, .int t1] := by
              intro v4 v6 t0 t1 hf
              unfold f_X7_wrongedBy_b129 at hf
              refine r_ior B (pc := 129) dX7_wrongedBy_129 ?_
              refine r_nm hf (fun y5 hf => ?_)
              refine r_istore B hnL (pc := 130) dX7_wrongedBy_130 (by decide) ?_
              refine r_lc (loc' := [some (.ref (ad 0)), none, none, some (.int x3), some (.int v4), some (.int y5), some (.int v6), none, none]) rfl ?_
              refine r_iincS B hnL (pc := 132) dX7_wrongedBy_132 rfl kc_1 (by decide) hf (fun y6 hf => ?_)
              refine r_lc (loc' := [some (.ref (ad 0)), none, none, some (.int x3), some (.int v4), some (.int y5), some (.int y6), none, none]) rfl ?_
              refine r_goto B (pc := 135) (tgt := 18) dX7_wrongedBy_135 (by decide) ?_
              exact r_mask [true, false, false, true, true, true, true, false, false] rfl (ih18 v4 y5 y6 hf)
            refine r_if_eq B (pc := 113) (tgt := 128) dX7_wrongedBy_113 (by decide) hf (fun _ hf => ?_) (fun _ hf => ?_)
            · refine r_iconst B (pc := 128) dX7_wrongedBy_128 kc_0 ?_
              exact r_mask [true, false, false, true, true, false, true, false, false] rfl (k129 v4 v6 0 v5 hf)
            · refine r_iload B (pc := 116) dX7_wrongedBy_116 rfl ?_
              refine r_if_eq B (pc := 118) (tgt := 128) dX7_wrongedBy_118 (by decide) hf (fun _ hf => ?_) (fun _ hf => ?_)
              · refine r_iconst B (pc := 128) dX7_wrongedBy_128 kc_0 ?_
                exact r_mask [true, false, false, true, true, false, true, false, false] rfl (k129 v4 v6 0 v5 hf)
              · refine r_iconst B (pc := 121) dX7_wrongedBy_121 kc_1 ?_
                refine r_iload B (pc := 122) dX7_wrongedBy_122 rfl ?_
                refine r_ishl B (pc := 124) dX7_wrongedBy_124 ?_
                refine r_goto B (pc := 125) (tgt := 129) dX7_wrongedBy_125 (by decide) ?_
                exact r_mask [true, false, false, true, true, false, true, false, false] rfl (k129 v4 v6 (isl 1 v6) v5 hf)
          refine r_if_ne B (pc := 73) (tgt := 97) dX7_wrongedBy_73 (by decide) hf (fun _ hf => ?_) (fun _ hf => ?_)
          · refine r_iconst B (pc := 97) dX7_wrongedBy_97 kc_1 ?_
            refine r_goto B (pc := 98) (tgt := 102) dX7_wrongedBy_98 (by decide) ?_
            exact r_mask [true, false, false, true, true, true, true, false, false] rfl (k102 v4 v5 v6 1 hf)
          · refine r_aload_n B (pc := 76) dX7_wrongedBy_76 rfl rfl ?_
            refine gM_RX7_38_0 B (pc := 77) dX7_wrongedBy_77 ?_
            refine r_iconst B (pc := 80) dX7_wrongedBy_80 kc_0 ?_
            refine r_iload B (pc := 81) dX7_wrongedBy_81 rfl ?_
            refine r_iadd B (pc := 83) dX7_wrongedBy_83 ?_
            refine aldM_9 B (pc := 84) dX7_wrongedBy_84 hf (fun _ hf => ?_)
            refine r_iload_n B (pc := 85) dX7_wrongedBy_85 rfl rfl ?_
            refine r_cSI B (c_X7_has X.l X.D K _ (σ.1 9 (ix (0 + v6))) x3) F_X7_has lk_RX7_153 (Nat.le_of_ble_eq_true rfl) (Nat.le_of_ble_eq_true rfl) (Nat.le_of_ble_eq_true rfl) (pc := 86) dX7_wrongedBy_86 rfl ?_
            refine r_if_ne B (pc := 89) (tgt := 97) dX7_wrongedBy_89 (by decide) hf (fun _ hf => ?_) (fun _ hf => ?_)
            · refine r_iconst B (pc := 97) dX7_wrongedBy_97 kc_1 ?_
              refine r_goto B (pc := 98) (tgt := 102) dX7_wrongedBy_98 (by decide) ?_
              exact r_mask [true, false, false, true, true, true, true, false, false] rfl (k102 v4 v5 v6 1 hf)
            · refine r_iload B (pc := 92) dX7_wrongedBy_92 rfl ?_
              refine r_if_eq B (pc := 94) (tgt := 101) dX7_wrongedBy_94 (by decide) hf (fun _ hf => ?_) (fun _ hf => ?_)
              · refine r_iconst B (pc := 101) dX7_wrongedBy_101 kc_0 ?_
                exact r_mask [true, false, false, true, true, true, true, false, false] rfl (k102 v4 v5 v6 0 hf)
              · refine r_iconst B (pc := 97) dX7_wrongedBy_97 kc_1 ?_
                refine r_goto B (pc := 98) (tgt := 102) dX7_wrongedBy_98 (by decide) ?_
                exact r_mask [true, false, false, true, true, true, true, false, false] rfl (k102 v4 v5 v6 1 hf)
        refine r_if_eq B (pc := 52) (tgt := 59) dX7_wrongedBy_52 (by decide) hf (fun _ hf => ?_) (fun _ hf => ?_)
        · refine r_iconst B (pc := 59) dX7_wrongedBy_59 kc_0 ?_
          exact r_mask [true, false, false, true, true, true, true, false, false] rfl (k60 v4 v5 v6 0 hf)
        · refine r_iconst B (pc := 55) dX7_wrongedBy_55 kc_1 ?_
          refine r_goto B (pc := 56) (tgt := 60) dX7_wrongedBy_56 (by decide) ?_
          exact r_mask [true, false, false, true, true, true, true, false, false] rfl (k60 v4 v5 v6 1 hf)
  exact r_mask [true, false, false, true, true, true, true, false, false] rfl (k18 FU r2 0 0 hf)
set_option maxHeartbeats 4000000 in
set_option maxRecDepth 20000 in
theorem c_X7_note (l : Launch) (D : va_G) (K : Kt) (ad : Nat → Nat) (σ : St) {τ : St} (hf : f_X7_note σ = some τ) : CtV l yX7_note cX7_note 2 none 0 0 D K [.ref (ad 0)] (wM ad K σ) (wM ad K τ) := by
  refine met_v pl_RX7 (Nat.le_of_ble_eq_true rfl) (fun X hnL B RET => ?_)
  suffices h : MW X (wM ad K σ) 0 [some (.ref (ad 0)), none] [] from h
  unfold f_X7_note at hf
  refine r_aload_n B (pc := 0) dX7_note_0 rfl rfl ?_
  refine gM_RX7_105_0 B (pc := 1) dX7_note_1 ?_
  refine r_bipush B (pc := 4) dX7_note_4 kb_10 ?_
  have k52 : ∀ (n52 : Nat) (v1 : Int32) (σ52 : St), f_X7_note_h52 n52 v1 σ52 = some τ → MW X (wM ad K σ52) 52 [some (.ref (ad 0)), some (.int v1)] [] := by
    intro n52
    induction n52 with
    | zero => intro v1 σ52 hf; exact nn_z hf
    | succ n52 ih52 =>
      intro v1 σ52 hf
      rw [f_X7_note_h52] at hf
      refine r_iload_n B (pc := 52) dX7_note_52 rfl rfl ?_
      refine r_sipush B (pc := 53) dX7_note_53 ks_141 ?_
      refine r_icmp_ge B (pc := 56) (tgt := 86) dX7_note_56 (by decide) hf (fun _ hf => ?_) (fun _ hf => ?_)
      · refine r_aload_n B (pc := 86) dX7_note_86 rfl rfl ?_
        refine r_dup B (pc := 87) dX7_note_87 rfl ?_
        refine gM_RX7_105_0 B (pc := 88) dX7_note_88 ?_
        refine r_iconst B (pc := 91) dX7_note_91 kc_1 ?_
        refine r_iadd B (pc := 92) dX7_note_92 ?_
        refine pM_RX7_105_0 B (pc := 93) dX7_note_93 hf (fun s4 hf => ?_)
        exact e_s (F := (wM ad K)) hf (RET 96 _ dX7_note_96)
      · refine r_aload_n B (pc := 59) dX7_note_59 rfl rfl ?_
        refine gM_RX7_41_0 B (pc := 60) dX7_note_60 ?_
        refine r_sipush B (pc := 63) dX7_note_63 ks_141 ?_
        refine r_aload_n B (pc := 66) dX7_note_66 rfl rfl ?_
        refine gM_RX7_105_0 B (pc := 67) dX7_note_67 ?_
        refine r_imul B (pc := 70) dX7_note_70 ?_
        refine r_iload_n B (pc := 71) dX7_note_71 rfl rfl ?_
        refine r_iadd B (pc := 72) dX7_note_72 ?_
        refine r_aload_n B (pc := 73) dX7_note_73 rfl rfl ?_
        refine gM_RX7_38_0 B (pc := 74) dX7_note_74 ?_
        refine r_iload_n B (pc := 77) dX7_note_77 rfl rfl ?_
        refine aldM_9 B (pc := 78) dX7_note_78 hf (fun _ hf => ?_)
        refine astM_10 B (pc := 79) dX7_note_79 hf (fun s5 _ hf => ?_)
        refine r_iincS B hnL (pc := 80) dX7_note_80 rfl kc_1 (by decide) hf (fun y6 hf => ?_)
        refine r_lc (loc' := [some (.ref (ad 0)), some (.int y6)]) rfl ?_
        refine r_goto B (pc := 83) (tgt := 52) dX7_note_83 (by decide) ?_
        exact r_mask [true, true] rfl (ih52 y6 s5 hf)
  refine r_icmp_ne B (pc := 6) (tgt := 50) dX7_note_6 (by decide) hf (fun _ hf => ?_) (fun _ hf => ?_)
  · refine r_iconst B (pc := 50) dX7_note_50 kc_0 ?_
    refine r_istore_n B hnL (pc := 51) dX7_note_51 rfl (by decide) ?_
    refine r_lc (loc' := [some (.ref (ad 0)), some (.int 0)]) rfl ?_
    exact r_mask [true, true] rfl (k52 FU 0 σ hf)
  · refine r_iconst B (pc := 9) dX7_note_9 kc_0 ?_
    refine r_istore_n B hnL (pc := 10) dX7_note_10 rfl (by decide) ?_
    refine r_lc (loc' := [some (.ref (ad 0)), some (.int 0)]) rfl ?_
    have k11 : ∀ (n11 : Nat) (v1 : Int32) (σ11 : St), f_X7_note_h11 n11 v1 σ11 = some τ → MW X (wM ad K σ11) 11 [some (.ref (ad 0)), some (.int v1)] [] := by
      intro n11
      induction n11 with
      | zero => intro v1 σ11 hf; exact nn_z hf
      | succ n11 ih11 =>
        intro v1 σ11 hf
        rw [f_X7_note_h11] at hf
        refine r_iload_n B (pc := 11) dX7_note_11 rfl rfl ?_
        refine r_sipush B (pc := 12) dX7_note_12 ks_1269 ?_
        refine r_icmp_ge B (pc := 15) (tgt := 40) dX7_note_15 (by decide) hf (fun _ hf => ?_) (fun _ hf => ?_)
        · refine r_aload_n B (pc := 40) dX7_note_40 rfl rfl ?_
          refine r_dup B (pc := 41) dX7_note_41 rfl ?_
          refine gM_RX7_105_0 B (pc := 42) dX7_note_42 ?_
          refine r_iconst B (pc := 45) dX7_note_45 kc_1 ?_
          refine r_isub B (pc := 46) dX7_note_46 ?_
          refine pM_RX7_105_0 B (pc := 47) dX7_note_47 hf (fun s1 hf => ?_)
          refine r_iconst B (pc := 50) dX7_note_50 kc_0 ?_
          refine r_istore_n B hnL (pc := 51) dX7_note_51 rfl (by decide) ?_
          refine r_lc (loc' := [some (.ref (ad 0)), some (.int 0)]) rfl ?_
          exact r_mask [true, true] rfl (k52 FU 0 s1 hf)
        · refine r_aload_n B (pc := 18) dX7_note_18 rfl rfl ?_
          refine gM_RX7_41_0 B (pc := 19) dX7_note_19 ?_
          refine r_iload_n B (pc := 22) dX7_note_22 rfl rfl ?_
          refine r_aload_n B (pc := 23) dX7_note_23 rfl rfl ?_
          refine gM_RX7_41_0 B (pc := 24) dX7_note_24 ?_
          refine r_iload_n B (pc := 27) dX7_note_27 rfl rfl ?_
          refine r_sipush B (pc := 28) dX7_note_28 ks_141 ?_
          refine r_iadd B (pc := 31) dX7_note_31 ?_
          refine aldM_10 B (pc := 32) dX7_note_32 hf (fun _ hf => ?_)
          refine astM_10 B (pc := 33) dX7_note_33 hf (fun s2 _ hf => ?_)
          refine r_iincS B hnL (pc := 34) dX7_note_34 rfl kc_1 (by decide) hf (fun y3 hf => ?_)
          refine r_lc (loc' := [some (.ref (ad 0)), some (.int y3)]) rfl ?_
          refine r_goto B (pc := 37) (tgt := 11) dX7_note_37 (by decide) ?_
          exact r_mask [true, true] rfl (ih11 y3 s2 hf)
    exact r_mask [true, true] rfl (k11 FU 0 σ hf)
set_option maxHeartbeats 4000000 in
set_option maxRecDepth 20000 in
theorem c_X7_tell (l : Launch) (D : va_G) (K : Kt) (ad : Nat → Nat) (σ : St) (x1 : Int32) (x2 : Int32) (x3 : Int32) {τ : St} (hf : f_X7_tell σ x1 x2 x3 = some τ) : CtV l yX7_tell cX7_tell 8 none 5 125 D K [.ref (ad 0), .int x1, .int x2, .int x3] (wM ad K σ) (wM ad K τ) := by
  refine met_v pl_RX7 (Nat.le_of_ble_eq_true rfl) (fun X hnL B RET => ?_)
  suffices h : MW X (wM ad K σ) 0 [some (.ref (ad 0)), some (.int x1), some (.int x2), some (.int x3), none, none, none, none] [] from h
  unfold f_X7_tell at hf
  refine r_aload_n B (pc := 0) dX7_tell_0 rfl rfl ?_
  refine r_iload_n B (pc := 1) dX7_tell_1 rfl rfl ?_
  refine r_iload_n B (pc := 2) dX7_tell_2 rfl rfl ?_
  refine r_aload_n B (pc := 3) dX7_tell_3 rfl rfl ?_
  refine gM_RX7_130_0 B (pc := 4) dX7_tell_4 ?_
  obtain ⟨r2, hc1, hf⟩ := bdr_e hf
  refine r_cVI B (c_X7_hearers X.l X.D K ad σ x1 x2 (σ.1 0 11) hc1) F_X7_hearers lk_RX7_247 (q0 := 0) (ci := 7) rfl rfl (Nat.le_of_ble_eq_true rfl) (Nat.le_of_ble_eq_true rfl) (Nat.le_of_ble_eq_true rfl) (pc := 7) dX7_tell_7 rfl ?_
  refine r_istore B hnL (pc := 10) dX7_tell_10 (by decide) ?_
  refine r_lc (loc' := [some (.ref (ad 0)), some (.int x1), some (.int x2), some (.int x3), some (.int r2), none, none, none]) rfl ?_
  refine r_aload_n B (pc := 12) dX7_tell_12 rfl rfl ?_
  refine r_iload_n B (pc := 13) dX7_tell_13 rfl rfl ?_
  refine r_iload_n B (pc := 14) dX7_tell_14 rfl rfl ?_
  refine r_iload_n B (pc := 15) dX7_tell_15 rfl rfl ?_
  obtain ⟨r4, hc3, hf⟩ := bdr_e hf
  refine r_cVI B (c_X7_wrongedBy X.l X.D K ad σ x1 x2 x3 hc3) F_X7_wrongedBy lk_RX7_238 (q0 := 0) (ci := 7) rfl rfl (Nat.le_of_ble_eq_true rfl) (Nat.le_of_ble_eq_true rfl) (Nat.le_of_ble_eq_true rfl) (pc := 16) dX7_tell_16 rfl ?_
  refine r_istore B hnL (pc := 19) dX7_tell_19 (by decide) ?_
  refine r_lc (loc' := [some (.ref (ad 0)), some (.int x1), some (.int x2), some (.int x3), some (.int r2), some (.int r4), none, none]) rfl ?_
  refine r_iconst B (pc := 21) dX7_tell_21 kc_0 ?_
  refine r_istore B hnL (pc := 22) dX7_tell_22 (by decide) ?_
  refine r_lc (loc' := [some (.ref (ad 0)), some (.int x1), some (.int x2), some (.int x3), some (.int r2), some (.int r4), some (.int 0), none]) rfl ?_
  have k24 : ∀ (n24 : Nat) (v4 : Int32) (v5 : Int32) (v6 : Int32) (σ24 : St), f_X7_tell_h24 x1 x2 x3 n24 v4 v5 v6 σ24 = some τ → MW X (wM ad K σ24) 24 [some (.ref (ad 0)), none, none, some (.int x3), some (.int v4), some (.int v5), some (.int v6), none] [] := by
    intro n24
    induction n24 with
    | zero => intro v4 v5 v6 σ24 hf; exact nn_z hf
    | succ n24 ih24 =>
      intro v4 v5 v6 σ24 hf
      rw [f_X7_tell_h24] at hf
      refine r_iload B (pc := 24) dX7_tell_24 rfl ?_
      refine r_aload_n B (pc := 26) dX7_tell_26 rfl rfl ?_
      refine gM_RX7_78_0 B (pc := 27) dX7_tell_27 ?_
      refine r_icmp_ge B (pc := 30) (tgt := 160) dX7_tell_30 (by decide) hf (fun _ hf => ?_) (fun _ hf => ?_)
      · refine r_aload_n B (pc := 160) dX7_tell_160 rfl rfl ?_
        refine gM_RX7_38_0 B (pc := 161) dX7_tell_161 ?_
        refine r_sipush B (pc := 164) dX7_tell_164 ks_140 ?_
        refine r_dup2 B (pc := 167) dX7_tell_167 rfl rfl ?_
        refine aldM_9 B (pc := 168) dX7_tell_168 hf (fun _ hf => ?_)
        refine r_iconst B (pc := 169) dX7_tell_169 kc_1 ?_
        refine r_iadd B (pc := 170) dX7_tell_170 ?_
        refine astM_9 B (pc := 171) dX7_tell_171 hf (fun s5 _ hf => ?_)
        exact e_s (F := (wM ad K)) hf (RET 172 _ dX7_tell_172)
      · refine r_iload B (pc := 33) dX7_tell_33 rfl ?_
        refine r_iload B (pc := 35) dX7_tell_35 rfl ?_
        refine r_cSI B (c_X7_has X.l X.D K _ v4 v6) F_X7_has lk_RX7_153 (Nat.le_of_ble_eq_true rfl) (Nat.le_of_ble_eq_true rfl) (Nat.le_of_ble_eq_true rfl) (pc := 37) dX7_tell_37 rfl ?_
        refine r_if_eq B (pc := 40) (tgt := 154) dX7_tell_40 (by decide) hf (fun _ hf => ?_) (fun _ hf => ?_)
        · refine r_iincS B hnL (pc := 154) dX7_tell_154 rfl kc_1 (by decide) hf (fun y6 hf => ?_)
          refine r_lc (loc' := [some (.ref (ad 0)), none, none, some (.int x3), some (.int v4), some (.int v5), some (.int y6), none]) rfl ?_
          refine r_goto B (pc := 157) (tgt := 24) dX7_tell_157 (by decide) ?_
          exact r_mask [true, false, false, true, true, true, true, false] rfl (ih24 v4 v5 y6 σ24 hf)
        · refine r_bipush B (pc := 43) dX7_tell_43 kb_20 ?_
          refine r_bipush B (pc := 45) dX7_tell_45 kb_12 ?_
          refine r_iload B (pc := 47) dX7_tell_47 rfl ?_
          refine r_imul B (pc := 49) dX7_tell_49 ?_
          refine r_iadd B (pc := 50) dX7_tell_50 ?_
          refine r_iload_n B (pc := 51) dX7_tell_51 rfl rfl ?_
          refine r_iadd B (pc := 52) dX7_tell_52 ?_
          refine r_nm hf (fun y7 hf => ?_)
          refine r_istore B hnL (pc := 53) dX7_tell_53 (by decide) ?_
          refine r_lc (loc' := [some (.ref (ad 0)), none, none, some (.int x3), some (.int v4), some (.int v5), some (.int v6), some (.int y7)]) rfl ?_
          refine r_aload_n B (pc := 55) dX7_tell_55 rfl rfl ?_
          refine gM_RX7_38_0 B (pc := 56) dX7_tell_56 ?_
          refine r_iload B (pc := 59) dX7_tell_59 rfl ?_
          refine r_aload_n B (pc := 61) dX7_tell_61 rfl rfl ?_
          refine gM_RX7_38_0 B (pc := 62) dX7_tell_62 ?_
          refine r_iconst B (pc := 65) dX7_tell_65 kc_0 ?_
          refine r_iload B (pc := 66) dX7_tell_66 rfl ?_
          refine r_iadd B (pc := 68) dX7_tell_68 ?_
          refine aldM_9 B (pc := 69) dX7_tell_69 hf (fun _ hf => ?_)
          refine r_iload_n B (pc := 70) dX7_tell_70 rfl rfl ?_
          refine r_cSI B (c_X7_has X.l X.D K _ (σ24.1 9 (ix (0 + v6))) x3) F_X7_has lk_RX7_153 (Nat.le_of_ble_eq_true rfl) (Nat.le_of_ble_eq_true rfl) (Nat.le_of_ble_eq_true rfl) (pc := 71) dX7_tell_71 rfl ?_
          have k95 : ∀ (v4 : Int32) (v5 : Int32) (v6 : Int32) (t0 : Int32) (t1 : Int32) (σ95 : St), f_X7_tell_b95 (f_X7_tell_h24 x1 x2 x3 n24) x1 x2 x3 v4 v5 v6 t0 t1 σ95 = some τ → MW X (wM ad K σ95) 95 [some (.ref (ad 0)), none, none, some (.int x3), some (.int v4), some (.int v5), some (.int v6), none] [.int t0, .int t1, .ref (ad 9)] := by
            intro v4 v5 v6 t0 t1 σ95 hf
            unfold f_X7_tell_b95 at hf
            refine astM_9 B (pc := 95) dX7_tell_95 hf (fun s8 _ hf => ?_)
            refine r_aload_n B (pc := 96) dX7_tell_96 rfl rfl ?_
            refine gM_RX7_38_0 B (pc := 97) dX7_tell_97 ?_
            refine r_iconst B (pc := 100) dX7_tell_100 kc_0 ?_
            refine r_iload B (pc := 101) dX7_tell_101 rfl ?_
            refine r_iadd B (pc := 103) dX7_tell_103 ?_
            refine r_dup2 B (pc := 104) dX7_tell_104 rfl rfl ?_
            refine aldM_9 B (pc := 105) dX7_tell_105 hf (fun _ hf => ?_)
            refine r_iconst B (pc := 106) dX7_tell_106 kc_1 ?_
            refine r_iload_n B (pc := 107) dX7_tell_107 rfl rfl ?_
            refine r_ishl B (pc := 108) dX7_tell_108 ?_
            refine r_ior B (pc := 109) dX7_tell_109 ?_
            refine astM_9 B (pc := 110) dX7_tell_110 hf (fun s9 _ hf => ?_)
            refine r_aload_n B (pc := 111) dX7_tell_111 rfl rfl ?_
            refine gM_RX7_38_0 B (pc := 112) dX7_tell_112 ?_
            refine r_bipush B (pc := 115) dX7_tell_115 kb_10 ?_
            refine r_iload B (pc := 117) dX7_tell_117 rfl ?_
            refine r_iadd B (pc := 119) dX7_tell_119 ?_
            refine r_dup2 B (pc := 120) dX7_tell_120 rfl rfl ?_
            refine aldM_9 B (pc := 121) dX7_tell_121 hf (fun _ hf => ?_)
            refine r_iload B (pc := 122) dX7_tell_122 rfl ?_
            refine r_iload B (pc := 124) dX7_tell_124 rfl ?_
            refine r_cSI B (c_X7_has X.l X.D K _ v5 v6) F_X7_has lk_RX7_153 (Nat.le_of_ble_eq_true rfl) (Nat.le_of_ble_eq_true rfl) (Nat.le_of_ble_eq_true rfl) (pc := 126) dX7_tell_126 rfl ?_
            have k152 : ∀ (v4 : Int32) (v5 : Int32) (v6 : Int32) (t0 : Int32) (t1 : Int32) (t2 : Int32) (σ152 : St), f_X7_tell_b152 (f_X7_tell_h24 x1 x2 x3 n24) x1 x2 x3 v4 v5 v6 t0 t1 t2 σ152 = some τ → MW X (wM ad K σ152) 152 [some (.ref (ad 0)), none, none, some (.int x3), some (.int v4), some (.int v5), some (.int v6), none] [.int t0, .int t1, .int t2, .ref (ad 9)] := by
              intro v4 v5 v6 t0 t1 t2 σ152 hf
              unfold f_X7_tell_b152 at hf
              refine r_iadd B (pc := 152) dX7_tell_152 ?_
              refine astM_9 B (pc := 153) dX7_tell_153 hf (fun s10 _ hf => ?_)
              refine r_iincS B hnL (pc := 154) dX7_tell_154 rfl kc_1 (by decide) hf (fun y11 hf => ?_)
              refine r_lc (loc' := [some (.ref (ad 0)), none, none, some (.int x3), some (.int v4), some (.int v5), some (.int y11), none]) rfl ?_
              refine r_goto B (pc := 157) (tgt := 24) dX7_tell_157 (by decide) ?_
              exact r_mask [true, false, false, true, true, true, true, false] rfl (ih24 v4 v5 y11 s10 hf)
            refine r_if_eq B (pc := 129) (tgt := 151) dX7_tell_129 (by decide) hf (fun _ hf => ?_) (fun _ hf => ?_)
            · refine r_iconst B (pc := 151) dX7_tell_151 kc_0 ?_
              exact r_mask [true, false, false, true, true, true, true, false] rfl (k152 v4 v5 v6 0 (s9.1 9 (ix (10 + v6))) (10 + v6) s9 hf)
            · refine r_aload_n B (pc := 132) dX7_tell_132 rfl rfl ?_
              refine gM_RX7_38_0 B (pc := 133) dX7_tell_133 ?_
              refine r_bipush B (pc := 136) dX7_tell_136 kb_10 ?_
              refine r_iload B (pc := 138) dX7_tell_138 rfl ?_
              refine r_iadd B (pc := 140) dX7_tell_140 ?_
              refine aldM_9 B (pc := 141) dX7_tell_141 hf (fun _ hf => ?_)
              refine r_bipush B (pc := 142) dX7_tell_142 kb_99 ?_
              refine r_icmp_ge B (pc := 144) (tgt := 151) dX7_tell_144 (by decide) hf (fun _ hf => ?_) (fun _ hf => ?_)
              · refine r_iconst B (pc := 151) dX7_tell_151 kc_0 ?_
                exact r_mask [true, false, false, true, true, true, true, false] rfl (k152 v4 v5 v6 0 (s9.1 9 (ix (10 + v6))) (10 + v6) s9 hf)
              · refine r_iconst B (pc := 147) dX7_tell_147 kc_1 ?_
                refine r_goto B (pc := 148) (tgt := 152) dX7_tell_148 (by decide) ?_
                exact r_mask [true, false, false, true, true, true, true, false] rfl (k152 v4 v5 v6 1 (s9.1 9 (ix (10 + v6))) (10 + v6) s9 hf)
          refine r_if_eq B (pc := 74) (tgt := 87) dX7_tell_74 (by decide) hf (fun _ hf => ?_) (fun _ hf => ?_)
          · refine r_aload_n B (pc := 87) dX7_tell_87 rfl rfl ?_
            refine gM_RX7_38_0 B (pc := 88) dX7_tell_88 ?_
            refine r_sipush B (pc := 91) dX7_tell_91 ks_140 ?_
            refine aldM_9 B (pc := 94) dX7_tell_94 hf (fun _ hf => ?_)
            exact r_mask [true, false, false, true, true, true, true, false] rfl (k95 v4 v5 v6 (σ24.1 9 (ix 140)) y7 σ24 hf)
          · refine r_aload_n B (pc := 77) dX7_tell_77 rfl rfl ?_
            refine gM_RX7_38_0 B (pc := 78) dX7_tell_78 ?_
            refine r_iload B (pc := 81) dX7_tell_81 rfl ?_
            refine aldM_9 B (pc := 83) dX7_tell_83 hf (fun _ hf => ?_)
            refine r_goto B (pc := 84) (tgt := 95) dX7_tell_84 (by decide) ?_
            exact r_mask [true, false, false, true, true, true, true, false] rfl (k95 v4 v5 v6 (σ24.1 9 (ix y7)) y7 σ24 hf)
  exact r_mask [true, false, false, true, true, true, true, false] rfl (k24 FU r2 r4 0 σ hf)
