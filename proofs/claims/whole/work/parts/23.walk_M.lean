set_option maxHeartbeats 4000000 in
set_option maxRecDepth 20000 in
theorem c_X7_readNow (l : Launch) (D : va_G) (K : Kt) (ad : Nat → Nat) (σ : St) (x1 : Int32) (x2 : Int32) (x3 : Int32) {r : Int32} {τ : St} (hf : f_X7_readNow σ x1 x2 x3 = some (r, τ)) : CtI l yX7_readNow cX7_readNow 4 (some .int) 6 152 D K [.ref (ad 0), .int x1, .int x2, .int x3] (wM ad K σ) r (wM ad K τ) := by
  refine met_i pl_RX7 (Nat.le_of_ble_eq_true rfl) (fun X hnL B RET => ?_)
  suffices h : MW X (wM ad K σ) 0 [some (.ref (ad 0)), some (.int x1), some (.int x2), some (.int x3)] [] from h
  unfold f_X7_readNow at hf
  refine r_aload_n B (pc := 0) dX7_readNow_0 rfl rfl ?_
  obtain ⟨s2, hc1, hf⟩ := bdr_e hf
  refine r_cVV B (c_X7_note X.l X.D K ad σ hc1) F_X7_note lk_RX7_253 (q0 := 0) (ci := 7) rfl rfl (Nat.le_of_ble_eq_true rfl) (Nat.le_of_ble_eq_true rfl) (Nat.le_of_ble_eq_true rfl) (pc := 1) dX7_readNow_1 rfl ?_
  refine r_aload_n B (pc := 4) dX7_readNow_4 rfl rfl ?_
  refine r_iload_n B (pc := 5) dX7_readNow_5 rfl rfl ?_
  refine r_iload_n B (pc := 6) dX7_readNow_6 rfl rfl ?_
  refine r_iload_n B (pc := 7) dX7_readNow_7 rfl rfl ?_
  obtain ⟨s4, hc3, hf⟩ := bdr_e hf
  refine r_cVV B (c_X7_tell X.l X.D K ad s2 x1 x2 x3 hc3) F_X7_tell lk_RX7_256 (q0 := 0) (ci := 7) rfl rfl (Nat.le_of_ble_eq_true rfl) (Nat.le_of_ble_eq_true rfl) (Nat.le_of_ble_eq_true rfl) (pc := 8) dX7_readNow_8 rfl ?_
  refine r_aload_n B (pc := 11) dX7_readNow_11 rfl rfl ?_
  refine r_iload_n B (pc := 12) dX7_readNow_12 rfl rfl ?_
  refine r_iload_n B (pc := 13) dX7_readNow_13 rfl rfl ?_
  refine r_aload_n B (pc := 14) dX7_readNow_14 rfl rfl ?_
  refine gM_RX7_130_0 B (pc := 15) dX7_readNow_15 ?_
  obtain ⟨r6, hc5, hf⟩ := bdr_e hf
  refine r_cVI B (c_X7_hearers X.l X.D K ad s4 x1 x2 (s4.1 0 11) hc5) F_X7_hearers lk_RX7_247 (q0 := 0) (ci := 7) rfl rfl (Nat.le_of_ble_eq_true rfl) (Nat.le_of_ble_eq_true rfl) (Nat.le_of_ble_eq_true rfl) (pc := 18) dX7_readNow_18 rfl ?_
  exact e_pz (F := (wM ad K)) hf (nar_i _) (RET 21 _ dX7_readNow_21)
set_option maxHeartbeats 4000000 in
set_option maxRecDepth 20000 in
theorem c_X7_day (l : Launch) (D : va_G) (K : Kt) (ad : Nat → Nat) (σ : St) {r : Int32} {τ : St} (hf : f_X7_day σ = some (r, τ)) : CtI l yX7_day cX7_day 5 (some .int) 7 175 D K [.ref (ad 0)] (wM ad K σ) r (wM ad K τ) := by
  refine met_i pl_RX7 (Nat.le_of_ble_eq_true rfl) (fun X hnL B RET => ?_)
  suffices h : MW X (wM ad K σ) 0 [some (.ref (ad 0)), none, none, none, none] [] from h
  unfold f_X7_day at hf
  refine r_aload_n B (pc := 0) dX7_day_0 rfl rfl ?_
  refine r_aload_n B (pc := 1) dX7_day_1 rfl rfl ?_
  refine r_iconst B (pc := 2) dX7_day_2 kc_2 ?_
  obtain ⟨r2, s3, hc1, hf⟩ := bdp_e hf
  refine r_cVI B (c_X7_readAll X.l X.D K ad σ 2 hc1) F_X7_readAll lk_RX7_228 (q0 := 0) (ci := 7) rfl rfl (Nat.le_of_ble_eq_true rfl) (Nat.le_of_ble_eq_true rfl) (Nat.le_of_ble_eq_true rfl) (pc := 3) dX7_day_3 rfl ?_
  obtain ⟨r5, s6, hc4, hf⟩ := bdp_e hf
  refine r_cVI B (c_X7_end X.l X.D K ad s3 r2 hc4) F_X7_end lk_RX7_231 (q0 := 0) (ci := 7) rfl rfl (Nat.le_of_ble_eq_true rfl) (Nat.le_of_ble_eq_true rfl) (Nat.le_of_ble_eq_true rfl) (pc := 6) dX7_day_6 rfl ?_
  refine r_istore_n B hnL (pc := 9) dX7_day_9 rfl (by decide) ?_
  refine r_lc (loc' := [some (.ref (ad 0)), some (.int r5), none, none, none]) rfl ?_
  refine r_iload_n B (pc := 10) dX7_day_10 rfl rfl ?_
  refine r_if_ge B (pc := 11) (tgt := 16) dX7_day_11 (by decide) hf (fun _ hf => ?_) (fun _ hf => ?_)
  · refine r_iconst B (pc := 16) dX7_day_16 kc_0 ?_
    refine r_istore_n B hnL (pc := 17) dX7_day_17 rfl (by decide) ?_
    refine r_lc (loc' := [some (.ref (ad 0)), some (.int r5), some (.int 0), none, none]) rfl ?_
    refine r_iconst B (pc := 18) dX7_day_18 kc_0 ?_
    refine r_istore_n B hnL (pc := 19) dX7_day_19 rfl (by decide) ?_
    refine r_lc (loc' := [some (.ref (ad 0)), some (.int r5), some (.int 0), some (.int 0), none]) rfl ?_
    have k20 : ∀ (n20 : Nat) (v2 : Int32) (v3 : Int32) (σ20 : St), f_X7_day_h20 n20 v2 v3 σ20 = some (r, τ) → MW X (wM ad K σ20) 20 [some (.ref (ad 0)), none, some (.int v2), some (.int v3), none] [] := by
      intro n20
      induction n20 with
      | zero => intro v2 v3 σ20 hf; exact nn_z hf
      | succ n20 ih20 =>
        intro v2 v3 σ20 hf
        rw [f_X7_day_h20] at hf
        refine r_iload_n B (pc := 20) dX7_day_20 rfl rfl ?_
        refine r_aload_n B (pc := 21) dX7_day_21 rfl rfl ?_
        refine gM_RX7_216_0 B (pc := 22) dX7_day_22 ?_
        refine r_icmp_ge B (pc := 25) (tgt := 123) dX7_day_25 (by decide) hf (fun _ hf => ?_) (fun _ hf => ?_)
        · refine r_iload_n B (pc := 123) dX7_day_123 rfl rfl ?_
          exact e_pz (F := (wM ad K)) hf (nar_i _) (RET 124 _ dX7_day_124)
        · refine r_aload_n B (pc := 28) dX7_day_28 rfl rfl ?_
          refine gM_RX7_38_0 B (pc := 29) dX7_day_29 ?_
          refine r_sipush B (pc := 32) dX7_day_32 ks_140 ?_
          refine aldM_9 B (pc := 35) dX7_day_35 hf (fun _ hf => ?_)
          refine r_sipush B (pc := 36) dX7_day_36 ks_9999 ?_
          refine r_icmp_ge B (pc := 39) (tgt := 123) dX7_day_39 (by decide) hf (fun _ hf => ?_) (fun _ hf => ?_)
          · refine r_iload_n B (pc := 123) dX7_day_123 rfl rfl ?_
            exact e_pz (F := (wM ad K)) hf (nar_i _) (RET 124 _ dX7_day_124)
          · refine r_iconst B (pc := 42) dX7_day_42 kc_3 ?_
            refine r_iload_n B (pc := 43) dX7_day_43 rfl rfl ?_
            refine r_imul B (pc := 44) dX7_day_44 ?_
            refine r_nm hf (fun y7 hf => ?_)
            refine r_istore B hnL (pc := 45) dX7_day_45 (by decide) ?_
            refine r_lc (loc' := [some (.ref (ad 0)), none, some (.int v2), some (.int v3), some (.int y7)]) rfl ?_
            refine r_iload_n B (pc := 47) dX7_day_47 rfl rfl ?_
            refine r_aload_n B (pc := 48) dX7_day_48 rfl rfl ?_
            refine r_aload_n B (pc := 49) dX7_day_49 rfl rfl ?_
            refine gM_RX7_47_0 B (pc := 50) dX7_day_50 ?_
            refine r_iload B (pc := 53) dX7_day_53 rfl ?_
            refine aldM_12 B (pc := 55) dX7_day_55 hf (fun _ hf => ?_)
            refine r_aload_n B (pc := 56) dX7_day_56 rfl rfl ?_
            refine gM_RX7_47_0 B (pc := 57) dX7_day_57 ?_
            refine r_iload B (pc := 60) dX7_day_60 rfl ?_
            refine r_iconst B (pc := 62) dX7_day_62 kc_1 ?_
            refine r_iadd B (pc := 63) dX7_day_63 ?_
            refine aldM_12 B (pc := 64) dX7_day_64 hf (fun _ hf => ?_)
            refine r_aload_n B (pc := 65) dX7_day_65 rfl rfl ?_
            refine gM_RX7_47_0 B (pc := 66) dX7_day_66 ?_
            refine r_iload B (pc := 69) dX7_day_69 rfl ?_
            refine r_iconst B (pc := 71) dX7_day_71 kc_2 ?_
            refine r_iadd B (pc := 72) dX7_day_72 ?_
            refine aldM_12 B (pc := 73) dX7_day_73 hf (fun _ hf => ?_)
            obtain ⟨r9, hc8, hf⟩ := bdr_e hf
            refine r_cVI B (c_X7_wrongedBy X.l X.D K ad σ20 (σ20.1 12 (ix y7)) (σ20.1 12 (ix (y7 + 1))) (σ20.1 12 (ix (y7 + 2))) hc8) F_X7_wrongedBy lk_RX7_238 (q0 := 0) (ci := 7) rfl rfl (Nat.le_of_ble_eq_true rfl) (Nat.le_of_ble_eq_true rfl) (Nat.le_of_ble_eq_true rfl) (pc := 74) dX7_day_74 rfl ?_
            have k85 : ∀ (v3 : Int32) (v4 : Int32) (t0 : Int32) (t1 : Int32) (σ85 : St), f_X7_day_b85 (f_X7_day_h20 n20) v3 v4 t0 t1 σ85 = some (r, τ) → MW X (wM ad K σ85) 85 [some (.ref (ad 0)), none, none, some (.int v3), some (.int v4)] [.int t0, .int t1] := by
              intro v3 v4 t0 t1 σ85 hf
              unfold f_X7_day_b85 at hf
              refine r_iadd B (pc := 85) dX7_day_85 ?_
              refine r_nm hf (fun y10 hf => ?_)
              refine r_istore_n B hnL (pc := 86) dX7_day_86 rfl (by decide) ?_
              refine r_lc (loc' := [some (.ref (ad 0)), none, some (.int y10), some (.int v3), some (.int v4)]) rfl ?_
              refine r_aload_n B (pc := 87) dX7_day_87 rfl rfl ?_
              refine r_aload_n B (pc := 88) dX7_day_88 rfl rfl ?_
              refine gM_RX7_47_0 B (pc := 89) dX7_day_89 ?_
              refine r_iload B (pc := 92) dX7_day_92 rfl ?_
              refine aldM_12 B (pc := 94) dX7_day_94 hf (fun _ hf => ?_)
              refine r_aload_n B (pc := 95) dX7_day_95 rfl rfl ?_
              refine gM_RX7_47_0 B (pc := 96) dX7_day_96 ?_
              refine r_iload B (pc := 99) dX7_day_99 rfl ?_
              refine r_iconst B (pc := 101) dX7_day_101 kc_1 ?_
              refine r_iadd B (pc := 102) dX7_day_102 ?_
              refine aldM_12 B (pc := 103) dX7_day_103 hf (fun _ hf => ?_)
              refine r_aload_n B (pc := 104) dX7_day_104 rfl rfl ?_
              refine gM_RX7_47_0 B (pc := 105) dX7_day_105 ?_
              refine r_iload B (pc := 108) dX7_day_108 rfl ?_
              refine r_iconst B (pc := 110) dX7_day_110 kc_2 ?_
              refine r_iadd B (pc := 111) dX7_day_111 ?_
              refine aldM_12 B (pc := 112) dX7_day_112 hf (fun _ hf => ?_)
              obtain ⟨r12, s13, hc11, hf⟩ := bdp_e hf
              refine r_cVI B (c_X7_readNow X.l X.D K ad σ85 (σ85.1 12 (ix v4)) (σ85.1 12 (ix (v4 + 1))) (σ85.1 12 (ix (v4 + 2))) hc11) F_X7_readNow lk_RX7_241 (q0 := 0) (ci := 7) rfl rfl (Nat.le_of_ble_eq_true rfl) (Nat.le_of_ble_eq_true rfl) (Nat.le_of_ble_eq_true rfl) (pc := 113) dX7_day_113 rfl ?_
              refine r_pop B (pc := 116) dX7_day_116 rfl ?_
              refine r_iincS B hnL (pc := 117) dX7_day_117 rfl kc_1 (by decide) hf (fun y14 hf => ?_)
              refine r_lc (loc' := [some (.ref (ad 0)), none, some (.int y10), some (.int y14), some (.int v4)]) rfl ?_
              refine r_goto B (pc := 120) (tgt := 20) dX7_day_120 (by decide) ?_
              exact r_mask [true, false, true, true, false] rfl (ih20 y10 y14 s13 hf)
            refine r_if_ne B (pc := 77) (tgt := 84) dX7_day_77 (by decide) hf (fun _ hf => ?_) (fun _ hf => ?_)
            · refine r_iconst B (pc := 84) dX7_day_84 kc_0 ?_
              exact r_mask [true, false, false, true, true] rfl (k85 v3 y7 0 v2 σ20 hf)
            · refine r_iconst B (pc := 80) dX7_day_80 kc_1 ?_
              refine r_goto B (pc := 81) (tgt := 85) dX7_day_81 (by decide) ?_
              exact r_mask [true, false, false, true, true] rfl (k85 v3 y7 1 v2 σ20 hf)
    exact r_mask [true, false, true, true, false] rfl (k20 FU 0 0 s6 hf)
  · refine r_iload_n B (pc := 14) dX7_day_14 rfl rfl ?_
    exact e_pz (F := (wM ad K)) hf (nar_i _) (RET 15 _ dX7_day_15)
set_option maxHeartbeats 4000000 in
set_option maxRecDepth 20000 in
theorem c_X7_count (l : Launch) (D : va_G) (K : Kt) (ad : Nat → Nat) (σ : St) (x1 : Int32) {r : Int32} (hf : f_X7_count σ x1 = some r) : CtI l yX7_count cX7_count 7 (some .int) 5 119 D K [.ref (ad 0), .int x1] (wM ad K σ) r (wM ad K σ) := by
  refine met_i pl_RX7 (Nat.le_of_ble_eq_true rfl) (fun X hnL B RET => ?_)
  suffices h : MW X (wM ad K σ) 0 [some (.ref (ad 0)), some (.int x1), none, none, none, none, none] [] from h
  unfold f_X7_count at hf
  refine r_iconst B (pc := 0) dX7_count_0 kc_0 ?_
  refine r_istore_n B hnL (pc := 1) dX7_count_1 rfl (by decide) ?_
  refine r_lc (loc' := [some (.ref (ad 0)), some (.int x1), some (.int 0), none, none, none, none]) rfl ?_
  refine r_iconst B (pc := 2) dX7_count_2 kc_0 ?_
  refine r_istore_n B hnL (pc := 3) dX7_count_3 rfl (by decide) ?_
  refine r_lc (loc' := [some (.ref (ad 0)), some (.int x1), some (.int 0), some (.int 0), none, none, none]) rfl ?_
  refine r_iconst B (pc := 4) dX7_count_4 kc_0 ?_
  refine r_istore B hnL (pc := 5) dX7_count_5 (by decide) ?_
  refine r_lc (loc' := [some (.ref (ad 0)), some (.int x1), some (.int 0), some (.int 0), some (.int 0), none, none]) rfl ?_
  refine r_iconst B (pc := 7) dX7_count_7 kc_0 ?_
  refine r_istore B hnL (pc := 8) dX7_count_8 (by decide) ?_
  refine r_lc (loc' := [some (.ref (ad 0)), some (.int x1), some (.int 0), some (.int 0), some (.int 0), some (.int 0), none]) rfl ?_
  refine r_iconst B (pc := 10) dX7_count_10 kc_0 ?_
  refine r_istore B hnL (pc := 11) dX7_count_11 (by decide) ?_
  refine r_lc (loc' := [some (.ref (ad 0)), some (.int x1), some (.int 0), some (.int 0), some (.int 0), some (.int 0), some (.int 0)]) rfl ?_
  have k13 : ∀ (n13 : Nat) (v2 : Int32) (v3 : Int32) (v4 : Int32) (v5 : Int32) (v6 : Int32), f_X7_count_h13 σ x1 n13 v2 v3 v4 v5 v6 = some r → MW X (wM ad K σ) 13 [some (.ref (ad 0)), some (.int x1), some (.int v2), some (.int v3), some (.int v4), some (.int v5), some (.int v6)] [] := by
    intro n13
    induction n13 with
    | zero => intro v2 v3 v4 v5 v6 hf; exact nn_z hf
    | succ n13 ih13 =>
      intro v2 v3 v4 v5 v6 hf
      rw [f_X7_count_h13] at hf
      refine r_iload B (pc := 13) dX7_count_13 rfl ?_
      refine r_aload_n B (pc := 15) dX7_count_15 rfl rfl ?_
      refine gM_RX7_78_0 B (pc := 16) dX7_count_16 ?_
      refine r_icmp_ge B (pc := 19) (tgt := 91) dX7_count_19 (by decide) hf (fun _ hf => ?_) (fun _ hf => ?_)
      · refine r_iload_n B (pc := 91) dX7_count_91 rfl rfl ?_
        by_cases q92_0 : x1 = 0
        · have hf := it_t hf q92_0
          refine r_tsw B (pc := 92) (off := 56) (tgt := 148) dX7_count_92 (by rw [q92_0]; decide) (by rw [q92_0]; decide) (by rw [q92_0]; decide) (by decide) ?_
          refine r_aload_n B (pc := 148) dX7_count_148 rfl rfl ?_
          refine gM_RX7_78_0 B (pc := 149) dX7_count_149 ?_
          exact e_rz hf (nar_i _) (RET 152 _ dX7_count_152)
        have hf := it_f hf q92_0
        by_cases q92_1 : x1 = 1
        · have hf := it_t hf q92_1
          refine r_tsw B (pc := 92) (off := 61) (tgt := 153) dX7_count_92 (by rw [q92_1]; decide) (by rw [q92_1]; decide) (by rw [q92_1]; decide) (by decide) ?_
          refine r_aload_n B (pc := 153) dX7_count_153 rfl rfl ?_
          refine gM_RX7_85_0 B (pc := 154) dX7_count_154 ?_
          exact e_rz hf (nar_i _) (RET 157 _ dX7_count_157)
        have hf := it_f hf q92_1
        by_cases q92_2 : x1 = 2
        · have hf := it_t hf q92_2
          refine r_tsw B (pc := 92) (off := 66) (tgt := 158) dX7_count_92 (by rw [q92_2]; decide) (by rw [q92_2]; decide) (by rw [q92_2]; decide) (by decide) ?_
          refine r_aload_n B (pc := 158) dX7_count_158 rfl rfl ?_
          refine gM_RX7_88_0 B (pc := 159) dX7_count_159 ?_
          exact e_rz hf (nar_i _) (RET 162 _ dX7_count_162)
        have hf := it_f hf q92_2
        by_cases q92_3 : x1 = 3
        · have hf := it_t hf q92_3
          refine r_tsw B (pc := 92) (off := 71) (tgt := 163) dX7_count_92 (by rw [q92_3]; decide) (by rw [q92_3]; decide) (by rw [q92_3]; decide) (by decide) ?_
          refine r_aload_n B (pc := 163) dX7_count_163 rfl rfl ?_
          refine gM_RX7_38_0 B (pc := 164) dX7_count_164 ?_
          refine r_sipush B (pc := 167) dX7_count_167 ks_140 ?_
          refine aldM_9 B (pc := 170) dX7_count_170 hf (fun _ hf => ?_)
          exact e_rz hf (nar_i _) (RET 171 _ dX7_count_171)
        have hf := it_f hf q92_3
        by_cases q92_4 : x1 = 4
        · have hf := it_t hf q92_4
          refine r_tsw B (pc := 92) (off := 80) (tgt := 172) dX7_count_92 (by rw [q92_4]; decide) (by rw [q92_4]; decide) (by rw [q92_4]; decide) (by decide) ?_
          refine r_iload_n B (pc := 172) dX7_count_172 rfl rfl ?_
          exact e_rz hf (nar_i _) (RET 173 _ dX7_count_173)
        have hf := it_f hf q92_4
        by_cases q92_5 : x1 = 5
        · have hf := it_t hf q92_5
          refine r_tsw B (pc := 92) (off := 82) (tgt := 174) dX7_count_92 (by rw [q92_5]; decide) (by rw [q92_5]; decide) (by rw [q92_5]; decide) (by decide) ?_
          refine r_iload_n B (pc := 174) dX7_count_174 rfl rfl ?_
          exact e_rz hf (nar_i _) (RET 175 _ dX7_count_175)
        have hf := it_f hf q92_5
        by_cases q92_6 : x1 = 6
        · have hf := it_t hf q92_6
          refine r_tsw B (pc := 92) (off := 84) (tgt := 176) dX7_count_92 (by rw [q92_6]; decide) (by rw [q92_6]; decide) (by rw [q92_6]; decide) (by decide) ?_
          refine r_iload B (pc := 176) dX7_count_176 rfl ?_
          exact e_rz hf (nar_i _) (RET 178 _ dX7_count_178)
        have hf := it_f hf q92_6
        by_cases q92_7 : x1 = 7
        · have hf := it_t hf q92_7
          refine r_tsw B (pc := 92) (off := 87) (tgt := 179) dX7_count_92 (by rw [q92_7]; decide) (by rw [q92_7]; decide) (by rw [q92_7]; decide) (by decide) ?_
          refine r_aload_n B (pc := 179) dX7_count_179 rfl rfl ?_
          refine gM_RX7_105_0 B (pc := 180) dX7_count_180 ?_
          exact e_rz hf (nar_i _) (RET 183 _ dX7_count_183)
        have hf := it_f hf q92_7
        by_cases q92_8 : x1 = 8
        · have hf := it_t hf q92_8
          refine r_tsw B (pc := 92) (off := 92) (tgt := 184) dX7_count_92 (by rw [q92_8]; decide) (by rw [q92_8]; decide) (by rw [q92_8]; decide) (by decide) ?_
          refine r_aload_n B (pc := 184) dX7_count_184 rfl rfl ?_
          refine gM_RX7_130_0 B (pc := 185) dX7_count_185 ?_
          exact e_rz hf (nar_i _) (RET 188 _ dX7_count_188)
        have hf := it_f hf q92_8
        by_cases q92_9 : x1 = 9
        · have hf := it_t hf q92_9
          refine r_tsw B (pc := 92) (off := 97) (tgt := 189) dX7_count_92 (by rw [q92_9]; decide) (by rw [q92_9]; decide) (by rw [q92_9]; decide) (by decide) ?_
          refine r_iload B (pc := 189) dX7_count_189 rfl ?_
          exact e_rz hf (nar_i _) (RET 191 _ dX7_count_191)
        have hf := it_f hf q92_9
        refine r_tswd B (pc := 92) (tgt := 192) dX7_count_92 (sw_out 10 0 (fun k hk => match k, hk with | 0, _ => fun e => q92_0 (Int32.toInt_inj.mp (e.trans (by decide))) | 1, _ => fun e => q92_1 (Int32.toInt_inj.mp (e.trans (by decide))) | 2, _ => fun e => q92_2 (Int32.toInt_inj.mp (e.trans (by decide))) | 3, _ => fun e => q92_3 (Int32.toInt_inj.mp (e.trans (by decide))) | 4, _ => fun e => q92_4 (Int32.toInt_inj.mp (e.trans (by decide))) | 5, _ => fun e => q92_5 (Int32.toInt_inj.mp (e.trans (by decide))) | 6, _ => fun e => q92_6 (Int32.toInt_inj.mp (e.trans (by decide))) | 7, _ => fun e => q92_7 (Int32.toInt_inj.mp (e.trans (by decide))) | 8, _ => fun e => q92_8 (Int32.toInt_inj.mp (e.trans (by decide))) | 9, _ => fun e => q92_9 (Int32.toInt_inj.mp (e.trans (by decide))))) (by decide) ?_
        refine r_iconst B (pc := 192) dX7_count_192 kc_m1 ?_
        exact e_rz hf (nar_i _) (RET 193 _ dX7_count_193)
      · refine r_iload_n B (pc := 22) dX7_count_22 rfl rfl ?_
        refine r_aload_n B (pc := 23) dX7_count_23 rfl rfl ?_
        refine r_iload B (pc := 24) dX7_count_24 rfl ?_
        obtain ⟨r2, hc1, hf⟩ := bdr_e hf
        refine r_cVI B (c_X7_arrears X.l X.D K ad σ v6 hc1) F_X7_arrears lk_RX7_163 (q0 := 0) (ci := 7) rfl rfl (Nat.le_of_ble_eq_true rfl) (Nat.le_of_ble_eq_true rfl) (Nat.le_of_ble_eq_true rfl) (pc := 26) dX7_count_26 rfl ?_
        obtain ⟨r4, hc3, hf⟩ := bdr_e hf
        refine r_cSI B (c_X7_ones X.l X.D K _ r2 hc3) F_X7_ones lk_RX7_244 (Nat.le_of_ble_eq_true rfl) (Nat.le_of_ble_eq_true rfl) (Nat.le_of_ble_eq_true rfl) (pc := 29) dX7_count_29 rfl ?_
        refine r_iadd B (pc := 32) dX7_count_32 ?_
        refine r_nm hf (fun y5 hf => ?_)
        refine r_istore_n B hnL (pc := 33) dX7_count_33 rfl (by decide) ?_
        refine r_lc (loc' := [some (.ref (ad 0)), some (.int x1), some (.int y5), some (.int v3), some (.int v4), some (.int v5), some (.int v6)]) rfl ?_
        refine r_iload_n B (pc := 34) dX7_count_34 rfl rfl ?_
        refine r_aload_n B (pc := 35) dX7_count_35 rfl rfl ?_
        refine r_iload B (pc := 36) dX7_count_36 rfl ?_
        obtain ⟨r7, hc6, hf⟩ := bdr_e hf
        refine r_cVI B (c_X7_arrears X.l X.D K ad σ v6 hc6) F_X7_arrears lk_RX7_163 (q0 := 0) (ci := 7) rfl rfl (Nat.le_of_ble_eq_true rfl) (Nat.le_of_ble_eq_true rfl) (Nat.le_of_ble_eq_true rfl) (pc := 38) dX7_count_38 rfl ?_
        have k49 : ∀ (v2 : Int32) (v4 : Int32) (v5 : Int32) (v6 : Int32) (t0 : Int32) (t1 : Int32), f_X7_count_b49 (f_X7_count_h13 σ x1 n13) σ x1 v2 v4 v5 v6 t0 t1 = some r → MW X (wM ad K σ) 49 [some (.ref (ad 0)), some (.int x1), some (.int v2), none, some (.int v4), some (.int v5), some (.int v6)] [.int t0, .int t1] := by
          intro v2 v4 v5 v6 t0 t1 hf
          unfold f_X7_count_b49 at hf
          refine r_iadd B (pc := 49) dX7_count_49 ?_
          refine r_nm hf (fun y8 hf => ?_)
          refine r_istore_n B hnL (pc := 50) dX7_count_50 rfl (by decide) ?_
          refine r_lc (loc' := [some (.ref (ad 0)), some (.int x1), some (.int v2), some (.int y8), some (.int v4), some (.int v5), some (.int v6)]) rfl ?_
          refine r_iload B (pc := 51) dX7_count_51 rfl ?_
          refine r_aload_n B (pc := 53) dX7_count_53 rfl rfl ?_
          refine r_iload B (pc := 54) dX7_count_54 rfl ?_
          obtain ⟨r10, hc9, hf⟩ := bdr_e hf
          refine r_cVI B (c_X7_isLate X.l X.D K ad σ v6 hc9) F_X7_isLate lk_RX7_170 (q0 := 0) (ci := 7) rfl rfl (Nat.le_of_ble_eq_true rfl) (Nat.le_of_ble_eq_true rfl) (Nat.le_of_ble_eq_true rfl) (pc := 56) dX7_count_56 rfl ?_
          have k67 : ∀ (v2 : Int32) (v3 : Int32) (v5 : Int32) (v6 : Int32) (t0 : Int32) (t1 : Int32), f_X7_count_b67 (f_X7_count_h13 σ x1 n13) σ x1 v2 v3 v5 v6 t0 t1 = some r → MW X (wM ad K σ) 67 [some (.ref (ad 0)), some (.int x1), some (.int v2), some (.int v3), none, some (.int v5), some (.int v6)] [.int t0, .int t1] := by
            intro v2 v3 v5 v6 t0 t1 hf
            unfold f_X7_count_b67 at hf
            refine r_iadd B (pc := 67) dX7_count_67 ?_
            refine r_nm hf (fun y11 hf => ?_)
            refine r_istore B hnL (pc := 68) dX7_count_68 (by decide) ?_
            refine r_lc (loc' := [some (.ref (ad 0)), some (.int x1), some (.int v2), some (.int v3), some (.int y11), some (.int v5), some (.int v6)]) rfl ?_
            refine r_iload B (pc := 70) dX7_count_70 rfl ?_
            refine r_aload_n B (pc := 72) dX7_count_72 rfl rfl ?_
            refine gM_RX7_38_0 B (pc := 73) dX7_count_73 ?_
            refine r_bipush B (pc := 76) dX7_count_76 kb_10 ?_
            refine r_iload B (pc := 78) dX7_count_78 rfl ?_
            refine r_iadd B (pc := 80) dX7_count_80 ?_
            refine aldM_9 B (pc := 81) dX7_count_81 hf (fun _ hf => ?_)
            refine r_iadd B (pc := 82) dX7_count_82 ?_
            refine r_nm hf (fun y12 hf => ?_)
            refine r_istore B hnL (pc := 83) dX7_count_83 (by decide) ?_
            refine r_lc (loc' := [some (.ref (ad 0)), some (.int x1), some (.int v2), some (.int v3), some (.int y11), some (.int y12), some (.int v6)]) rfl ?_
            refine r_iincS B hnL (pc := 85) dX7_count_85 rfl kc_1 (by decide) hf (fun y13 hf => ?_)
            refine r_lc (loc' := [some (.ref (ad 0)), some (.int x1), some (.int v2), some (.int v3), some (.int y11), some (.int y12), some (.int y13)]) rfl ?_
            refine r_goto B (pc := 88) (tgt := 13) dX7_count_88 (by decide) ?_
            exact r_mask [true, true, true, true, true, true, true] rfl (ih13 v2 v3 y11 y12 y13 hf)
          refine r_if_eq B (pc := 59) (tgt := 66) dX7_count_59 (by decide) hf (fun _ hf => ?_) (fun _ hf => ?_)
          · refine r_iconst B (pc := 66) dX7_count_66 kc_0 ?_
            exact r_mask [true, true, true, true, false, true, true] rfl (k67 v2 y8 v5 v6 0 v4 hf)
          · refine r_iconst B (pc := 62) dX7_count_62 kc_1 ?_
            refine r_goto B (pc := 63) (tgt := 67) dX7_count_63 (by decide) ?_
            exact r_mask [true, true, true, true, false, true, true] rfl (k67 v2 y8 v5 v6 1 v4 hf)
        refine r_if_ne B (pc := 41) (tgt := 48) dX7_count_41 (by decide) hf (fun _ hf => ?_) (fun _ hf => ?_)
        · refine r_iconst B (pc := 48) dX7_count_48 kc_0 ?_
          exact r_mask [true, true, true, false, true, true, true] rfl (k49 y5 v4 v5 v6 0 v3 hf)
        · refine r_iconst B (pc := 44) dX7_count_44 kc_1 ?_
          refine r_goto B (pc := 45) (tgt := 49) dX7_count_45 (by decide) ?_
          exact r_mask [true, true, true, false, true, true, true] rfl (k49 y5 v4 v5 v6 1 v3 hf)
  exact r_mask [true, true, true, true, true, true, true] rfl (k13 FU 0 0 0 0 0 hf)
set_option maxHeartbeats 4000000 in
set_option maxRecDepth 20000 in
theorem c_X7_hears (l : Launch) (D : va_G) (K : Kt) (ad : Nat → Nat) (σ : St) (x1 : Int32) (x2 : Int32) {r : Int32} (hf : f_X7_hears σ x1 x2 = some r) : CtI l yX7_hears cX7_hears 3 (some .int) 4 97 D K [.ref (ad 0), .int x1, .int x2] (wM ad K σ) r (wM ad K σ) := by
  refine met_i pl_RX7 (Nat.le_of_ble_eq_true rfl) (fun X hnL B RET => ?_)
  suffices h : MW X (wM ad K σ) 0 [some (.ref (ad 0)), some (.int x1), some (.int x2)] [] from h
  unfold f_X7_hears at hf
  refine r_aload_n B (pc := 0) dX7_hears_0 rfl rfl ?_
  refine r_iload_n B (pc := 1) dX7_hears_1 rfl rfl ?_
  refine r_i2l B (pc := 2) dX7_hears_2 ?_
  refine r_cVI B (c_X7_isReader X.l X.D K ad σ (x1.toInt64)) F_X7_isReader lk_RX7_213 (q0 := 0) (ci := 7) rfl rfl (Nat.le_of_ble_eq_true rfl) (Nat.le_of_ble_eq_true rfl) (Nat.le_of_ble_eq_true rfl) (pc := 3) dX7_hears_3 rfl ?_
  refine r_if_eq B (pc := 6) (tgt := 30) dX7_hears_6 (by decide) hf (fun _ hf => ?_) (fun _ hf => ?_)
  · refine r_iconst B (pc := 30) dX7_hears_30 kc_m1 ?_
    exact e_rz hf (nar_i _) (RET 31 _ dX7_hears_31)
  · refine r_iload_n B (pc := 9) dX7_hears_9 rfl rfl ?_
    refine r_i2l B (pc := 10) dX7_hears_10 ?_
    refine r_cSI B (c_X7_isPlace X.l X.D K _ (x2.toInt64)) F_X7_isPlace lk_RX7_95 (Nat.le_of_ble_eq_true rfl) (Nat.le_of_ble_eq_true rfl) (Nat.le_of_ble_eq_true rfl) (pc := 11) dX7_hears_11 rfl ?_
    refine r_if_eq B (pc := 14) (tgt := 30) dX7_hears_14 (by decide) hf (fun _ hf => ?_) (fun _ hf => ?_)
    · refine r_iconst B (pc := 30) dX7_hears_30 kc_m1 ?_
      exact e_rz hf (nar_i _) (RET 31 _ dX7_hears_31)
    · refine r_aload_n B (pc := 17) dX7_hears_17 rfl rfl ?_
      refine r_iload_n B (pc := 18) dX7_hears_18 rfl rfl ?_
      refine r_iload_n B (pc := 19) dX7_hears_19 rfl rfl ?_
      refine r_aload_n B (pc := 20) dX7_hears_20 rfl rfl ?_
      refine gM_RX7_130_0 B (pc := 21) dX7_hears_21 ?_
      obtain ⟨r2, hc1, hf⟩ := bdr_e hf
      refine r_cVI B (c_X7_hearers X.l X.D K ad σ x1 x2 (σ.1 0 11) hc1) F_X7_hearers lk_RX7_247 (q0 := 0) (ci := 7) rfl rfl (Nat.le_of_ble_eq_true rfl) (Nat.le_of_ble_eq_true rfl) (Nat.le_of_ble_eq_true rfl) (pc := 24) dX7_hears_24 rfl ?_
      refine r_goto B (pc := 27) (tgt := 31) dX7_hears_27 (by decide) ?_
      exact e_rz hf (nar_i _) (RET 31 _ dX7_hears_31)
set_option maxHeartbeats 4000000 in
set_option maxRecDepth 20000 in
theorem c_X7_isReading (l : Launch) (D : va_G) (K : Kt) (ad : Nat → Nat) (σ : St) (x1 : Int64) (x3 : Int64) (x5 : Int64) : CtI l yX7_isReading cX7_isReading 7 (some .boolean) 2 47 D K [.ref (ad 0), .long x1, .long x3, .long x5] (wM ad K σ) (f_X7_isReading σ x1 x3 x5) (wM ad K σ) := by
  refine met_i pl_RX7 (Nat.le_of_ble_eq_true rfl) (fun X hnL B RET => ?_)
  generalize hf : f_X7_isReading σ x1 x3 x5 = r at RET
  suffices h : MW X (wM ad K σ) 0 [some (.ref (ad 0)), some (.long x1), none, some (.long x3), none, some (.long x5), none] [] from h
  unfold f_X7_isReading at hf
  refine r_aload_n B (pc := 0) dX7_isReading_0 rfl rfl ?_
  refine r_lload_n B (pc := 1) dX7_isReading_1 rfl rfl ?_
  refine r_cVI B (c_X7_isReader X.l X.D K ad σ x1) F_X7_isReader lk_RX7_213 (q0 := 0) (ci := 7) rfl rfl (Nat.le_of_ble_eq_true rfl) (Nat.le_of_ble_eq_true rfl) (Nat.le_of_ble_eq_true rfl) (pc := 2) dX7_isReading_2 rfl ?_
  refine r_if_eq B (pc := 5) (tgt := 28) dX7_isReading_5 (by decide) hf (fun _ hf => ?_) (fun _ hf => ?_)
  · refine r_iconst B (pc := 28) dX7_isReading_28 kc_0 ?_
    exact e_tz hf rfl (RET 29 _ dX7_isReading_29)
  · refine r_lload_n B (pc := 8) dX7_isReading_8 rfl rfl ?_
    refine r_cSI B (c_X7_isPlace X.l X.D K _ x3) F_X7_isPlace lk_RX7_95 (Nat.le_of_ble_eq_true rfl) (Nat.le_of_ble_eq_true rfl) (Nat.le_of_ble_eq_true rfl) (pc := 9) dX7_isReading_9 rfl ?_
    refine r_if_eq B (pc := 12) (tgt := 28) dX7_isReading_12 (by decide) hf (fun _ hf => ?_) (fun _ hf => ?_)
    · refine r_iconst B (pc := 28) dX7_isReading_28 kc_0 ?_
      exact e_tz hf rfl (RET 29 _ dX7_isReading_29)
    · refine r_aload_n B (pc := 15) dX7_isReading_15 rfl rfl ?_
      refine r_lload B (pc := 16) dX7_isReading_16 rfl ?_
      refine r_cVI B (c_X7_isNews X.l X.D K ad σ x5) F_X7_isNews lk_RX7_123 (q0 := 0) (ci := 7) rfl rfl (Nat.le_of_ble_eq_true rfl) (Nat.le_of_ble_eq_true rfl) (Nat.le_of_ble_eq_true rfl) (pc := 18) dX7_isReading_18 rfl ?_
      refine r_if_eq B (pc := 21) (tgt := 28) dX7_isReading_21 (by decide) hf (fun _ hf => ?_) (fun _ hf => ?_)
      · refine r_iconst B (pc := 28) dX7_isReading_28 kc_0 ?_
        exact e_tz hf rfl (RET 29 _ dX7_isReading_29)
      · refine r_iconst B (pc := 24) dX7_isReading_24 kc_1 ?_
        refine r_goto B (pc := 25) (tgt := 29) dX7_isReading_25 (by decide) ?_
        exact e_tz hf rfl (RET 29 _ dX7_isReading_29)
set_option maxHeartbeats 4000000 in
set_option maxRecDepth 20000 in
theorem c_X7_wronged (l : Launch) (D : va_G) (K : Kt) (ad : Nat → Nat) (σ : St) (x1 : Int32) (x2 : Int32) (x3 : Int32) {r : Int32} (hf : f_X7_wronged σ x1 x2 x3 = some r) : CtI l yX7_wronged cX7_wronged 4 (some .int) 5 125 D K [.ref (ad 0), .int x1, .int x2, .int x3] (wM ad K σ) r (wM ad K σ) := by
  refine met_i pl_RX7 (Nat.le_of_ble_eq_true rfl) (fun X hnL B RET => ?_)
  suffices h : MW X (wM ad K σ) 0 [some (.ref (ad 0)), some (.int x1), some (.int x2), some (.int x3)] [] from h
  unfold f_X7_wronged at hf
  refine r_aload_n B (pc := 0) dX7_wronged_0 rfl rfl ?_
  refine r_iload_n B (pc := 1) dX7_wronged_1 rfl rfl ?_
  refine r_i2l B (pc := 2) dX7_wronged_2 ?_
  refine r_iload_n B (pc := 3) dX7_wronged_3 rfl rfl ?_
  refine r_i2l B (pc := 4) dX7_wronged_4 ?_
  refine r_iload_n B (pc := 5) dX7_wronged_5 rfl rfl ?_
  refine r_i2l B (pc := 6) dX7_wronged_6 ?_
  refine r_cVI B (c_X7_isReading X.l X.D K ad σ (x1.toInt64) (x2.toInt64) (x3.toInt64)) F_X7_isReading lk_RX7_250 (q0 := 0) (ci := 7) rfl rfl (Nat.le_of_ble_eq_true rfl) (Nat.le_of_ble_eq_true rfl) (Nat.le_of_ble_eq_true rfl) (pc := 7) dX7_wronged_7 rfl ?_
  refine r_if_eq B (pc := 10) (tgt := 23) dX7_wronged_10 (by decide) hf (fun _ hf => ?_) (fun _ hf => ?_)
  · refine r_iconst B (pc := 23) dX7_wronged_23 kc_m1 ?_
    exact e_rz hf (nar_i _) (RET 24 _ dX7_wronged_24)
  · refine r_aload_n B (pc := 13) dX7_wronged_13 rfl rfl ?_
    refine r_iload_n B (pc := 14) dX7_wronged_14 rfl rfl ?_
    refine r_iload_n B (pc := 15) dX7_wronged_15 rfl rfl ?_
    refine r_iload_n B (pc := 16) dX7_wronged_16 rfl rfl ?_
    obtain ⟨r2, hc1, hf⟩ := bdr_e hf
    refine r_cVI B (c_X7_wrongedBy X.l X.D K ad σ x1 x2 x3 hc1) F_X7_wrongedBy lk_RX7_238 (q0 := 0) (ci := 7) rfl rfl (Nat.le_of_ble_eq_true rfl) (Nat.le_of_ble_eq_true rfl) (Nat.le_of_ble_eq_true rfl) (pc := 17) dX7_wronged_17 rfl ?_
    refine r_goto B (pc := 20) (tgt := 24) dX7_wronged_20 (by decide) ?_
    exact e_rz hf (nar_i _) (RET 24 _ dX7_wronged_24)
set_option maxHeartbeats 4000000 in
set_option maxRecDepth 20000 in
theorem c_X7_read (l : Launch) (D : va_G) (K : Kt) (ad : Nat → Nat) (σ : St) (x1 : Int32) (x2 : Int32) (x3 : Int32) {r : Int32} {τ : St} (hf : f_X7_read σ x1 x2 x3 = some (r, τ)) : CtI l yX7_read cX7_read 4 (some .int) 7 175 D K [.ref (ad 0), .int x1, .int x2, .int x3] (wM ad K σ) r (wM ad K τ) := by
  refine met_i pl_RX7 (Nat.le_of_ble_eq_true rfl) (fun X hnL B RET => ?_)
  suffices h : MW X (wM ad K σ) 0 [some (.ref (ad 0)), some (.int x1), some (.int x2), some (.int x3)] [] from h
  unfold f_X7_read at hf
  refine r_aload_n B (pc := 0) dX7_read_0 rfl rfl ?_
  refine r_iload_n B (pc := 1) dX7_read_1 rfl rfl ?_
  refine r_i2l B (pc := 2) dX7_read_2 ?_
  refine r_iload_n B (pc := 3) dX7_read_3 rfl rfl ?_
  refine r_i2l B (pc := 4) dX7_read_4 ?_
  refine r_iload_n B (pc := 5) dX7_read_5 rfl rfl ?_
  refine r_i2l B (pc := 6) dX7_read_6 ?_
  refine r_cVI B (c_X7_isReading X.l X.D K ad σ (x1.toInt64) (x2.toInt64) (x3.toInt64)) F_X7_isReading lk_RX7_250 (q0 := 0) (ci := 7) rfl rfl (Nat.le_of_ble_eq_true rfl) (Nat.le_of_ble_eq_true rfl) (Nat.le_of_ble_eq_true rfl) (pc := 7) dX7_read_7 rfl ?_
  refine r_if_ne B (pc := 10) (tgt := 15) dX7_read_10 (by decide) hf (fun _ hf => ?_) (fun _ hf => ?_)
  · refine r_aload_n B (pc := 15) dX7_read_15 rfl rfl ?_
    refine gM_RX7_38_0 B (pc := 16) dX7_read_16 ?_
    refine r_sipush B (pc := 19) dX7_read_19 ks_140 ?_
    refine aldM_9 B (pc := 22) dX7_read_22 hf (fun _ hf => ?_)
    refine r_sipush B (pc := 23) dX7_read_23 ks_9999 ?_
    refine r_icmp_ne B (pc := 26) (tgt := 34) dX7_read_26 (by decide) hf (fun _ hf => ?_) (fun _ hf => ?_)
    · refine r_aload_n B (pc := 34) dX7_read_34 rfl rfl ?_
      refine r_iload_n B (pc := 35) dX7_read_35 rfl rfl ?_
      refine r_iload_n B (pc := 36) dX7_read_36 rfl rfl ?_
      refine r_iload_n B (pc := 37) dX7_read_37 rfl rfl ?_
      obtain ⟨r2, s3, hc1, hf⟩ := bdp_e hf
      refine r_cVI B (c_X7_readNow X.l X.D K ad σ x1 x2 x3 hc1) F_X7_readNow lk_RX7_241 (q0 := 0) (ci := 7) rfl rfl (Nat.le_of_ble_eq_true rfl) (Nat.le_of_ble_eq_true rfl) (Nat.le_of_ble_eq_true rfl) (pc := 38) dX7_read_38 rfl ?_
      exact e_pz (F := (wM ad K)) hf (nar_i _) (RET 41 _ dX7_read_41)
    · refine r_bipush B (pc := 29) dX7_read_29 kb_m3 ?_
      refine r_goto B (pc := 31) (tgt := 41) dX7_read_31 (by decide) ?_
      exact e_pz (F := (wM ad K)) hf (nar_i _) (RET 41 _ dX7_read_41)
  · refine r_iconst B (pc := 13) dX7_read_13 kc_m1 ?_
    exact e_pz (F := (wM ad K)) hf (nar_i _) (RET 14 _ dX7_read_14)
set_option maxHeartbeats 4000000 in
set_option maxRecDepth 20000 in
theorem c_X7_undo (l : Launch) (D : va_G) (K : Kt) (ad : Nat → Nat) (σ : St) {r : Int32} {τ : St} (hf : f_X7_undo σ = some (r, τ)) : CtI l yX7_undo cX7_undo 2 (some .int) 0 0 D K [.ref (ad 0)] (wM ad K σ) r (wM ad K τ) := by
  refine met_i pl_RX7 (Nat.le_of_ble_eq_true rfl) (fun X hnL B RET => ?_)
  suffices h : MW X (wM ad K σ) 0 [some (.ref (ad 0)), none] [] from h
  unfold f_X7_undo at hf
  refine r_aload_n B (pc := 0) dX7_undo_0 rfl rfl ?_
  refine gM_RX7_105_0 B (pc := 1) dX7_undo_1 ?_
  refine r_if_ne B (pc := 4) (tgt := 10) dX7_undo_4 (by decide) hf (fun _ hf => ?_) (fun _ hf => ?_)
  · refine r_aload_n B (pc := 10) dX7_undo_10 rfl rfl ?_
    refine r_dup B (pc := 11) dX7_undo_11 rfl ?_
    refine gM_RX7_105_0 B (pc := 12) dX7_undo_12 ?_
    refine r_iconst B (pc := 15) dX7_undo_15 kc_1 ?_
    refine r_isub B (pc := 16) dX7_undo_16 ?_
    refine pM_RX7_105_0 B (pc := 17) dX7_undo_17 hf (fun s1 hf => ?_)
    refine r_iconst B (pc := 20) dX7_undo_20 kc_0 ?_
    refine r_istore_n B hnL (pc := 21) dX7_undo_21 rfl (by decide) ?_
    refine r_lc (loc' := [some (.ref (ad 0)), some (.int 0)]) rfl ?_
    have k22 : ∀ (n22 : Nat) (v1 : Int32) (σ22 : St), f_X7_undo_h22 n22 v1 σ22 = some (r, τ) → MW X (wM ad K σ22) 22 [some (.ref (ad 0)), some (.int v1)] [] := by
      intro n22
      induction n22 with
      | zero => intro v1 σ22 hf; exact nn_z hf
      | succ n22 ih22 =>
        intro v1 σ22 hf
        rw [f_X7_undo_h22] at hf
        refine r_iload_n B (pc := 22) dX7_undo_22 rfl rfl ?_
        refine r_sipush B (pc := 23) dX7_undo_23 ks_141 ?_
        refine r_icmp_ge B (pc := 26) (tgt := 56) dX7_undo_26 (by decide) hf (fun _ hf => ?_) (fun _ hf => ?_)
        · refine r_aload_n B (pc := 56) dX7_undo_56 rfl rfl ?_
          refine gM_RX7_105_0 B (pc := 57) dX7_undo_57 ?_
          exact e_pz (F := (wM ad K)) hf (nar_i _) (RET 60 _ dX7_undo_60)
        · refine r_aload_n B (pc := 29) dX7_undo_29 rfl rfl ?_
          refine gM_RX7_38_0 B (pc := 30) dX7_undo_30 ?_
          refine r_iload_n B (pc := 33) dX7_undo_33 rfl rfl ?_
          refine r_aload_n B (pc := 34) dX7_undo_34 rfl rfl ?_
          refine gM_RX7_41_0 B (pc := 35) dX7_undo_35 ?_
          refine r_sipush B (pc := 38) dX7_undo_38 ks_141 ?_
          refine r_aload_n B (pc := 41) dX7_undo_41 rfl rfl ?_
          refine gM_RX7_105_0 B (pc := 42) dX7_undo_42 ?_
          refine r_imul B (pc := 45) dX7_undo_45 ?_
          refine r_iload_n B (pc := 46) dX7_undo_46 rfl rfl ?_
          refine r_iadd B (pc := 47) dX7_undo_47 ?_
          refine aldM_10 B (pc := 48) dX7_undo_48 hf (fun _ hf => ?_)
          refine astM_9 B (pc := 49) dX7_undo_49 hf (fun s2 _ hf => ?_)
          refine r_iincS B hnL (pc := 50) dX7_undo_50 rfl kc_1 (by decide) hf (fun y3 hf => ?_)
          refine r_lc (loc' := [some (.ref (ad 0)), some (.int y3)]) rfl ?_
          refine r_goto B (pc := 53) (tgt := 22) dX7_undo_53 (by decide) ?_
          exact r_mask [true, true] rfl (ih22 y3 s2 hf)
    exact r_mask [true, true] rfl (k22 FU 0 s1 hf)
  · refine r_bipush B (pc := 7) dX7_undo_7 kb_m4 ?_
    exact e_pz (F := (wM ad K)) hf (nar_i _) (RET 9 _ dX7_undo_9)
set_option maxHeartbeats 4000000 in
set_option maxRecDepth 20000 in
theorem c_X7_nextDraw (l : Launch) (D : va_G) (K : Kt) (ad : Nat → Nat) (σ : St) (x1 : Int32) {r : Int32} {τ : St} (hf : f_X7_nextDraw σ x1 = some (r, τ)) : CtI l yX7_nextDraw cX7_nextDraw 2 (some .int) 0 0 D K [.ref (ad 0), .int x1] (wM ad K σ) r (wM ad K τ) := by
  refine met_i pl_RX7 (Nat.le_of_ble_eq_true rfl) (fun X hnL B RET => ?_)
  suffices h : MW X (wM ad K σ) 0 [some (.ref (ad 0)), some (.int x1)] [] from h
  unfold f_X7_nextDraw at hf
  refine r_aload_n B (pc := 0) dX7_nextDraw_0 rfl rfl ?_
  refine r_aload_n B (pc := 1) dX7_nextDraw_1 rfl rfl ?_
  refine gM_RX7_34_0 B (pc := 2) dX7_nextDraw_2 ?_
  refine r_i2l B (pc := 5) dX7_nextDraw_5 ?_
  refine r_ldc2 B (pc := 6) kp_RX7_259 dX7_nextDraw_6 ?_
  refine r_lmul B (pc := 9) dX7_nextDraw_9 ?_
  refine r_ldc2 B (pc := 10) kp_RX7_261 dX7_nextDraw_10 ?_
  refine r_ladd B (pc := 13) dX7_nextDraw_13 ?_
  refine r_ldc2 B (pc := 14) kp_RX7_263 dX7_nextDraw_14 ?_
  refine r_land B (pc := 17) dX7_nextDraw_17 ?_
  refine r_l2i B (pc := 18) dX7_nextDraw_18 ?_
  refine pM_RX7_34_0 B (pc := 19) dX7_nextDraw_19 hf (fun s1 hf => ?_)
  refine r_aload_n B (pc := 22) dX7_nextDraw_22 rfl rfl ?_
  refine gM_RX7_34_0 B (pc := 23) dX7_nextDraw_23 ?_
  refine r_ldcw B (pc := 26) kp_RX7_265 dX7_nextDraw_26 ?_
  refine r_idiv B (pc := 29) dX7_nextDraw_29 (by decide) ?_
  refine r_iload_n B (pc := 30) dX7_nextDraw_30 rfl rfl ?_
  refine r_iremS B (pc := 31) dX7_nextDraw_31 hf (fun _ hf => ?_)
  exact e_pz (F := (wM ad K)) hf (nar_i _) (RET 32 _ dX7_nextDraw_32)
set_option maxHeartbeats 4000000 in
set_option maxRecDepth 20000 in
theorem c_X7_lots (l : Launch) (D : va_G) (K : Kt) (ad : Nat → Nat) (σ : St) (x1 : Int32) {r : Int32} {τ : St} (hf : f_X7_lots σ x1 = some (r, τ)) : CtI l yX7_lots cX7_lots 7 (some .int) 7 175 D K [.ref (ad 0), .int x1] (wM ad K σ) r (wM ad K τ) := by
  refine met_i pl_RX7 (Nat.le_of_ble_eq_true rfl) (fun X hnL B RET => ?_)
  suffices h : MW X (wM ad K σ) 0 [some (.ref (ad 0)), some (.int x1), none, none, none, none, none] [] from h
  unfold f_X7_lots at hf
  refine r_iload_n B (pc := 0) dX7_lots_0 rfl rfl ?_
  refine r_i2l B (pc := 1) dX7_lots_1 ?_
  refine r_lconst B (pc := 2) dX7_lots_2 kl_1 ?_
  refine r_ldc2 B (pc := 3) kp_RX7_266 dX7_lots_3 ?_
  refine r_cSI B (c_X7_in X.l X.D K _ (x1.toInt64) 1 30) F_X7_in lk_RX7_81 (Nat.le_of_ble_eq_true rfl) (Nat.le_of_ble_eq_true rfl) (Nat.le_of_ble_eq_true rfl) (pc := 6) dX7_lots_6 rfl ?_
  refine r_if_ne B (pc := 9) (tgt := 14) dX7_lots_9 (by decide) hf (fun _ hf => ?_) (fun _ hf => ?_)
  · refine r_aload_n B (pc := 14) dX7_lots_14 rfl rfl ?_
    refine gM_RX7_88_0 B (pc := 15) dX7_lots_15 ?_
    refine r_if_eq B (pc := 18) (tgt := 28) dX7_lots_18 (by decide) hf (fun _ hf => ?_) (fun _ hf => ?_)
    · refine r_bipush B (pc := 28) dX7_lots_28 kb_m2 ?_
      exact e_pz (F := (wM ad K)) hf (nar_i _) (RET 30 _ dX7_lots_30)
    · refine r_aload_n B (pc := 21) dX7_lots_21 rfl rfl ?_
      refine gM_RX7_85_0 B (pc := 22) dX7_lots_22 ?_
      refine r_if_ne B (pc := 25) (tgt := 31) dX7_lots_25 (by decide) hf (fun _ hf => ?_) (fun _ hf => ?_)
      · refine r_aload_n B (pc := 31) dX7_lots_31 rfl rfl ?_
        refine gM_RX7_38_0 B (pc := 32) dX7_lots_32 ?_
        refine r_sipush B (pc := 35) dX7_lots_35 ks_140 ?_
        refine aldM_9 B (pc := 38) dX7_lots_38 hf (fun _ hf => ?_)
        refine r_iload_n B (pc := 39) dX7_lots_39 rfl rfl ?_
        refine r_iadd B (pc := 40) dX7_lots_40 ?_
        refine r_sipush B (pc := 41) dX7_lots_41 ks_9999 ?_
        refine r_icmp_le B (pc := 44) (tgt := 50) dX7_lots_44 (by decide) hf (fun _ hf => ?_) (fun _ hf => ?_)
        · refine r_iconst B (pc := 50) dX7_lots_50 kc_0 ?_
          refine r_istore_n B hnL (pc := 51) dX7_lots_51 rfl (by decide) ?_
          refine r_lc (loc' := [some (.ref (ad 0)), some (.int x1), some (.int 0), none, none, none, none]) rfl ?_
          refine r_iconst B (pc := 52) dX7_lots_52 kc_0 ?_
          refine r_istore_n B hnL (pc := 53) dX7_lots_53 rfl (by decide) ?_
          refine r_lc (loc' := [some (.ref (ad 0)), some (.int x1), some (.int 0), some (.int 0), none, none, none]) rfl ?_
          have k54 : ∀ (n54 : Nat) (v2 : Int32) (v3 : Int32) (σ54 : St), f_X7_lots_h54 x1 n54 v2 v3 σ54 = some (r, τ) → MW X (wM ad K σ54) 54 [some (.ref (ad 0)), some (.int x1), some (.int v2), some (.int v3), none, none, none] [] := by
            intro n54
            induction n54 with
            | zero => intro v2 v3 σ54 hf; exact nn_z hf
            | succ n54 ih54 =>
              intro v2 v3 σ54 hf
              rw [f_X7_lots_h54] at hf
              refine r_iload_n B (pc := 54) dX7_lots_54 rfl rfl ?_
              refine r_iload_n B (pc := 55) dX7_lots_55 rfl rfl ?_
              refine r_icmp_ge B (pc := 56) (tgt := 134) dX7_lots_56 (by decide) hf (fun _ hf => ?_) (fun _ hf => ?_)
              · refine r_iload_n B (pc := 134) dX7_lots_134 rfl rfl ?_
                exact e_pz (F := (wM ad K)) hf (nar_i _) (RET 135 _ dX7_lots_135)
              · refine r_aload_n B (pc := 59) dX7_lots_59 rfl rfl ?_
                refine r_aload_n B (pc := 60) dX7_lots_60 rfl rfl ?_
                refine r_iconst B (pc := 61) dX7_lots_61 kc_5 ?_
                obtain ⟨r2, s3, hc1, hf⟩ := bdp_e hf
                refine r_cVI B (c_X7_nextDraw X.l X.D K ad σ54 5 hc1) F_X7_nextDraw lk_RX7_268 (q0 := 0) (ci := 7) rfl rfl (Nat.le_of_ble_eq_true rfl) (Nat.le_of_ble_eq_true rfl) (Nat.le_of_ble_eq_true rfl) (pc := 62) dX7_lots_62 rfl ?_
                refine pM_RX7_130_0 B (pc := 65) dX7_lots_65 hf (fun s4 hf => ?_)
                refine r_aload_n B (pc := 68) dX7_lots_68 rfl rfl ?_
                refine r_aload_n B (pc := 69) dX7_lots_69 rfl rfl ?_
                refine gM_RX7_88_0 B (pc := 70) dX7_lots_70 ?_
                obtain ⟨r6, s7, hc5, hf⟩ := bdp_e hf
                refine r_cVI B (c_X7_nextDraw X.l X.D K ad s4 (s4.1 0 10) hc5) F_X7_nextDraw lk_RX7_268 (q0 := 0) (ci := 7) rfl rfl (Nat.le_of_ble_eq_true rfl) (Nat.le_of_ble_eq_true rfl) (Nat.le_of_ble_eq_true rfl) (pc := 73) dX7_lots_73 rfl ?_
                refine r_istore B hnL (pc := 76) dX7_lots_76 (by decide) ?_
                refine r_lc (loc' := [some (.ref (ad 0)), some (.int x1), some (.int v2), some (.int v3), some (.int r6), none, none]) rfl ?_
                refine r_aload_n B (pc := 78) dX7_lots_78 rfl rfl ?_
                refine r_bipush B (pc := 79) dX7_lots_79 kb_36 ?_
                obtain ⟨r9, s10, hc8, hf⟩ := bdp_e hf
                refine r_cVI B (c_X7_nextDraw X.l X.D K ad s7 36 hc8) F_X7_nextDraw lk_RX7_268 (q0 := 0) (ci := 7) rfl rfl (Nat.le_of_ble_eq_true rfl) (Nat.le_of_ble_eq_true rfl) (Nat.le_of_ble_eq_true rfl) (pc := 81) dX7_lots_81 rfl ?_
                refine r_istore B hnL (pc := 84) dX7_lots_84 (by decide) ?_
                refine r_lc (loc' := [some (.ref (ad 0)), some (.int x1), some (.int v2), some (.int v3), some (.int r6), some (.int r9), none]) rfl ?_
                refine r_aload_n B (pc := 86) dX7_lots_86 rfl rfl ?_
                refine r_aload_n B (pc := 87) dX7_lots_87 rfl rfl ?_
                refine gM_RX7_85_0 B (pc := 88) dX7_lots_88 ?_
                obtain ⟨r12, s13, hc11, hf⟩ := bdp_e hf
                refine r_cVI B (c_X7_nextDraw X.l X.D K ad s10 (s10.1 0 8) hc11) F_X7_nextDraw lk_RX7_268 (q0 := 0) (ci := 7) rfl rfl (Nat.le_of_ble_eq_true rfl) (Nat.le_of_ble_eq_true rfl) (Nat.le_of_ble_eq_true rfl) (pc := 91) dX7_lots_91 rfl ?_
                refine r_istore B hnL (pc := 94) dX7_lots_94 (by decide) ?_
                refine r_lc (loc' := [some (.ref (ad 0)), some (.int x1), some (.int v2), some (.int v3), some (.int r6), some (.int r9), some (.int r12)]) rfl ?_
                refine r_iload_n B (pc := 96) dX7_lots_96 rfl rfl ?_
                refine r_aload_n B (pc := 97) dX7_lots_97 rfl rfl ?_
                refine r_iload B (pc := 98) dX7_lots_98 rfl ?_
                refine r_iload B (pc := 100) dX7_lots_100 rfl ?_
                refine r_iload B (pc := 102) dX7_lots_102 rfl ?_
                obtain ⟨r15, hc14, hf⟩ := bdr_e hf
                refine r_cVI B (c_X7_wrongedBy X.l X.D K ad s13 r6 r9 r12 hc14) F_X7_wrongedBy lk_RX7_238 (q0 := 0) (ci := 7) rfl rfl (Nat.le_of_ble_eq_true rfl) (Nat.le_of_ble_eq_true rfl) (Nat.le_of_ble_eq_true rfl) (pc := 104) dX7_lots_104 rfl ?_
                have k115 : ∀ (v3 : Int32) (v4 : Int32) (v5 : Int32) (v6 : Int32) (t0 : Int32) (t1 : Int32) (σ115 : St), f_X7_lots_b115 (f_X7_lots_h54 x1 n54) x1 v3 v4 v5 v6 t0 t1 σ115 = some (r, τ) → MW X (wM ad K σ115) 115 [some (.ref (ad 0)), some (.int x1), none, some (.int v3), some (.int v4), some (.int v5), some (.int v6)] [.int t0, .int t1] := by
                  intro v3 v4 v5 v6 t0 t1 σ115 hf
                  unfold f_X7_lots_b115 at hf
                  refine r_iadd B (pc := 115) dX7_lots_115 ?_
                  refine r_nm hf (fun y16 hf => ?_)
                  refine r_istore_n B hnL (pc := 116) dX7_lots_116 rfl (by decide) ?_
                  refine r_lc (loc' := [some (.ref (ad 0)), some (.int x1), some (.int y16), some (.int v3), some (.int v4), some (.int v5), some (.int v6)]) rfl ?_
                  refine r_aload_n B (pc := 117) dX7_lots_117 rfl rfl ?_
                  refine r_iload B (pc := 118) dX7_lots_118 rfl ?_
                  refine r_iload B (pc := 120) dX7_lots_120 rfl ?_
                  refine r_iload B (pc := 122) dX7_lots_122 rfl ?_
                  obtain ⟨r18, s19, hc17, hf⟩ := bdp_e hf
                  refine r_cVI B (c_X7_readNow X.l X.D K ad σ115 v4 v5 v6 hc17) F_X7_readNow lk_RX7_241 (q0 := 0) (ci := 7) rfl rfl (Nat.le_of_ble_eq_true rfl) (Nat.le_of_ble_eq_true rfl) (Nat.le_of_ble_eq_true rfl) (pc := 124) dX7_lots_124 rfl ?_
                  refine r_pop B (pc := 127) dX7_lots_127 rfl ?_
                  refine r_iincS B hnL (pc := 128) dX7_lots_128 rfl kc_1 (by decide) hf (fun y20 hf => ?_)
                  refine r_lc (loc' := [some (.ref (ad 0)), some (.int x1), some (.int y16), some (.int y20), some (.int v4), some (.int v5), some (.int v6)]) rfl ?_
                  refine r_goto B (pc := 131) (tgt := 54) dX7_lots_131 (by decide) ?_
                  exact r_mask [true, true, true, true, false, false, false] rfl (ih54 y16 y20 s19 hf)
                refine r_if_ne B (pc := 107) (tgt := 114) dX7_lots_107 (by decide) hf (fun _ hf => ?_) (fun _ hf => ?_)
                · refine r_iconst B (pc := 114) dX7_lots_114 kc_0 ?_
                  exact r_mask [true, true, false, true, true, true, true] rfl (k115 v3 r6 r9 r12 0 v2 s13 hf)
                · refine r_iconst B (pc := 110) dX7_lots_110 kc_1 ?_
                  refine r_goto B (pc := 111) (tgt := 115) dX7_lots_111 (by decide) ?_
                  exact r_mask [true, true, false, true, true, true, true] rfl (k115 v3 r6 r9 r12 1 v2 s13 hf)
          exact r_mask [true, true, true, true, false, false, false] rfl (k54 FU 0 0 σ hf)
        · refine r_bipush B (pc := 47) dX7_lots_47 kb_m3 ?_
          exact e_pz (F := (wM ad K)) hf (nar_i _) (RET 49 _ dX7_lots_49)
      · refine r_bipush B (pc := 28) dX7_lots_28 kb_m2 ?_
        exact e_pz (F := (wM ad K)) hf (nar_i _) (RET 30 _ dX7_lots_30)
  · refine r_iconst B (pc := 12) dX7_lots_12 kc_m1 ?_
    exact e_pz (F := (wM ad K)) hf (nar_i _) (RET 13 _ dX7_lots_13)
set_option maxHeartbeats 4000000 in
set_option maxRecDepth 20000 in
theorem c_X7_seed (l : Launch) (D : va_G) (K : Kt) (ad : Nat → Nat) (σ : St) (x1 : Int32) {r : Int32} {τ : St} (hf : f_X7_seed σ x1 = some (r, τ)) : CtI l yX7_seed cX7_seed 3 (some .int) 0 0 D K [.ref (ad 0), .int x1] (wM ad K σ) r (wM ad K τ) := by
  refine met_i pl_RX7 (Nat.le_of_ble_eq_true rfl) (fun X hnL B RET => ?_)
  suffices h : MW X (wM ad K σ) 0 [some (.ref (ad 0)), some (.int x1), none] [] from h
  unfold f_X7_seed at hf
  refine r_iload_n B (pc := 0) dX7_seed_0 rfl rfl ?_
  refine r_if_ge B (pc := 1) (tgt := 6) dX7_seed_1 (by decide) hf (fun _ hf => ?_) (fun _ hf => ?_)
  · refine r_aload_n B (pc := 6) dX7_seed_6 rfl rfl ?_
    refine gM_RX7_34_0 B (pc := 7) dX7_seed_7 ?_
    refine r_nm hf (fun y1 hf => ?_)
    refine r_istore_n B hnL (pc := 10) dX7_seed_10 rfl (by decide) ?_
    refine r_lc (loc' := [some (.ref (ad 0)), some (.int x1), some (.int y1)]) rfl ?_
    refine r_aload_n B (pc := 11) dX7_seed_11 rfl rfl ?_
    refine r_iload_n B (pc := 12) dX7_seed_12 rfl rfl ?_
    refine pM_RX7_34_0 B (pc := 13) dX7_seed_13 hf (fun s2 hf => ?_)
    refine r_iload_n B (pc := 16) dX7_seed_16 rfl rfl ?_
    exact e_pz (F := (wM ad K)) hf (nar_i _) (RET 17 _ dX7_seed_17)
  · refine r_iconst B (pc := 4) dX7_seed_4 kc_m1 ?_
    exact e_pz (F := (wM ad K)) hf (nar_i _) (RET 5 _ dX7_seed_5)
set_option maxHeartbeats 4000000 in
set_option maxRecDepth 20000 in
theorem c_X7_lacking (l : Launch) (D : va_G) (K : Kt) (ad : Nat → Nat) (σ : St) (x1 : Int32) {r : Int32} (hf : f_X7_lacking σ x1 = some r) : CtI l yX7_lacking cX7_lacking 4 (some .int) 4 96 D K [.ref (ad 0), .int x1] (wM ad K σ) r (wM ad K σ) := by
  refine met_i pl_RX7 (Nat.le_of_ble_eq_true rfl) (fun X hnL B RET => ?_)
  suffices h : MW X (wM ad K σ) 0 [some (.ref (ad 0)), some (.int x1), none, none] [] from h
  unfold f_X7_lacking at hf
  refine r_iconst B (pc := 0) dX7_lacking_0 kc_0 ?_
  refine r_istore_n B hnL (pc := 1) dX7_lacking_1 rfl (by decide) ?_
  refine r_lc (loc' := [some (.ref (ad 0)), some (.int x1), some (.int 0), none]) rfl ?_
  refine r_iconst B (pc := 2) dX7_lacking_2 kc_0 ?_
  refine r_istore_n B hnL (pc := 3) dX7_lacking_3 rfl (by decide) ?_
  refine r_lc (loc' := [some (.ref (ad 0)), some (.int x1), some (.int 0), some (.int 0)]) rfl ?_
  have k4 : ∀ (n4 : Nat) (v2 : Int32) (v3 : Int32), f_X7_lacking_h4 σ x1 n4 v2 v3 = some r → MW X (wM ad K σ) 4 [some (.ref (ad 0)), some (.int x1), some (.int v2), some (.int v3)] [] := by
    intro n4
    induction n4 with
    | zero => intro v2 v3 hf; exact nn_z hf
    | succ n4 ih4 =>
      intro v2 v3 hf
      rw [f_X7_lacking_h4] at hf
      refine r_iload_n B (pc := 4) dX7_lacking_4 rfl rfl ?_
      refine r_aload_n B (pc := 5) dX7_lacking_5 rfl rfl ?_
      refine gM_RX7_78_0 B (pc := 6) dX7_lacking_6 ?_
      refine r_icmp_ge B (pc := 9) (tgt := 40) dX7_lacking_9 (by decide) hf (fun _ hf => ?_) (fun _ hf => ?_)
      · refine r_iload_n B (pc := 40) dX7_lacking_40 rfl rfl ?_
        exact e_rz hf (nar_i _) (RET 41 _ dX7_lacking_41)
      · refine r_iload_n B (pc := 12) dX7_lacking_12 rfl rfl ?_
        refine r_aload_n B (pc := 13) dX7_lacking_13 rfl rfl ?_
        refine r_iload_n B (pc := 14) dX7_lacking_14 rfl rfl ?_
        obtain ⟨r2, hc1, hf⟩ := bdr_e hf
        refine r_cVI B (c_X7_arrears X.l X.D K ad σ v3 hc1) F_X7_arrears lk_RX7_163 (q0 := 0) (ci := 7) rfl rfl (Nat.le_of_ble_eq_true rfl) (Nat.le_of_ble_eq_true rfl) (Nat.le_of_ble_eq_true rfl) (pc := 15) dX7_lacking_15 rfl ?_
        refine r_iload_n B (pc := 18) dX7_lacking_18 rfl rfl ?_
        refine r_cSI B (c_X7_has X.l X.D K _ r2 x1) F_X7_has lk_RX7_153 (Nat.le_of_ble_eq_true rfl) (Nat.le_of_ble_eq_true rfl) (Nat.le_of_ble_eq_true rfl) (pc := 19) dX7_lacking_19 rfl ?_
        have k32 : ∀ (v3 : Int32) (t0 : Int32) (t1 : Int32), f_X7_lacking_b32 (f_X7_lacking_h4 σ x1 n4) σ x1 v3 t0 t1 = some r → MW X (wM ad K σ) 32 [some (.ref (ad 0)), some (.int x1), none, some (.int v3)] [.int t0, .int t1] := by
          intro v3 t0 t1 hf
          unfold f_X7_lacking_b32 at hf
          refine r_ior B (pc := 32) dX7_lacking_32 ?_
          refine r_nm hf (fun y3 hf => ?_)
          refine r_istore_n B hnL (pc := 33) dX7_lacking_33 rfl (by decide) ?_
          refine r_lc (loc' := [some (.ref (ad 0)), some (.int x1), some (.int y3), some (.int v3)]) rfl ?_
          refine r_iincS B hnL (pc := 34) dX7_lacking_34 rfl kc_1 (by decide) hf (fun y4 hf => ?_)
          refine r_lc (loc' := [some (.ref (ad 0)), some (.int x1), some (.int y3), some (.int y4)]) rfl ?_
          refine r_goto B (pc := 37) (tgt := 4) dX7_lacking_37 (by decide) ?_
          exact r_mask [true, true, true, true] rfl (ih4 y3 y4 hf)
        refine r_if_eq B (pc := 22) (tgt := 31) dX7_lacking_22 (by decide) hf (fun _ hf => ?_) (fun _ hf => ?_)
        · refine r_iconst B (pc := 31) dX7_lacking_31 kc_0 ?_
          exact r_mask [true, true, false, true] rfl (k32 v3 0 v2 hf)
        · refine r_iconst B (pc := 25) dX7_lacking_25 kc_1 ?_
          refine r_iload_n B (pc := 26) dX7_lacking_26 rfl rfl ?_
          refine r_ishl B (pc := 27) dX7_lacking_27 ?_
          refine r_goto B (pc := 28) (tgt := 32) dX7_lacking_28 (by decide) ?_
          exact r_mask [true, true, false, true] rfl (k32 v3 (isl 1 v3) v2 hf)
  exact r_mask [true, true, true, true] rfl (k4 FU 0 0 hf)
set_option maxHeartbeats 4000000 in
set_option maxRecDepth 20000 in
theorem c_X7_stand (l : Launch) (D : va_G) (K : Kt) (ad : Nat → Nat) (σ : St) (x1 : Int32) (x2 : Int32) {r : Int32} (hf : f_X7_stand σ x1 x2 = some r) : CtI l yX7_stand cX7_stand 8 (some .int) 5 125 D K [.ref (ad 0), .int x1, .int x2] (wM ad K σ) r (wM ad K σ) := by
  refine met_i pl_RX7 (Nat.le_of_ble_eq_true rfl) (fun X hnL B RET => ?_)
  suffices h : MW X (wM ad K σ) 0 [some (.ref (ad 0)), some (.int x1), some (.int x2), none, none, none, none, none] [] from h
  unfold f_X7_stand at hf
  refine r_aload_n B (pc := 0) dX7_stand_0 rfl rfl ?_
  refine r_iload_n B (pc := 1) dX7_stand_1 rfl rfl ?_
  refine r_i2l B (pc := 2) dX7_stand_2 ?_
  refine r_cVI B (c_X7_isReader X.l X.D K ad σ (x1.toInt64)) F_X7_isReader lk_RX7_213 (q0 := 0) (ci := 7) rfl rfl (Nat.le_of_ble_eq_true rfl) (Nat.le_of_ble_eq_true rfl) (Nat.le_of_ble_eq_true rfl) (pc := 3) dX7_stand_3 rfl ?_
  refine r_if_eq B (pc := 6) (tgt := 18) dX7_stand_6 (by decide) hf (fun _ hf => ?_) (fun _ hf => ?_)
  · refine r_iconst B (pc := 18) dX7_stand_18 kc_m1 ?_
    exact e_rz hf (nar_i _) (RET 19 _ dX7_stand_19)
  · refine r_aload_n B (pc := 9) dX7_stand_9 rfl rfl ?_
    refine r_iload_n B (pc := 10) dX7_stand_10 rfl rfl ?_
    refine r_i2l B (pc := 11) dX7_stand_11 ?_
    refine r_cVI B (c_X7_isNews X.l X.D K ad σ (x2.toInt64)) F_X7_isNews lk_RX7_123 (q0 := 0) (ci := 7) rfl rfl (Nat.le_of_ble_eq_true rfl) (Nat.le_of_ble_eq_true rfl) (Nat.le_of_ble_eq_true rfl) (pc := 12) dX7_stand_12 rfl ?_
    refine r_if_ne B (pc := 15) (tgt := 20) dX7_stand_15 (by decide) hf (fun _ hf => ?_) (fun _ hf => ?_)
    · refine r_bipush B (pc := 20) dX7_stand_20 kb_m4 ?_
      refine r_istore_n B hnL (pc := 22) dX7_stand_22 rfl (by decide) ?_
      refine r_lc (loc' := [some (.ref (ad 0)), some (.int x1), some (.int x2), some (.int ((-4))), none, none, none, none]) rfl ?_
      refine r_iconst B (pc := 23) dX7_stand_23 kc_0 ?_
      refine r_istore B hnL (pc := 24) dX7_stand_24 (by decide) ?_
      refine r_lc (loc' := [some (.ref (ad 0)), some (.int x1), some (.int x2), some (.int ((-4))), some (.int 0), none, none, none]) rfl ?_
      refine r_aload_n B (pc := 26) dX7_stand_26 rfl rfl ?_
      refine r_iload_n B (pc := 27) dX7_stand_27 rfl rfl ?_
      obtain ⟨r2, hc1, hf⟩ := bdr_e hf
      refine r_cVI B (c_X7_lacking X.l X.D K ad σ x2 hc1) F_X7_lacking lk_RX7_271 (q0 := 0) (ci := 7) rfl rfl (Nat.le_of_ble_eq_true rfl) (Nat.le_of_ble_eq_true rfl) (Nat.le_of_ble_eq_true rfl) (pc := 28) dX7_stand_28 rfl ?_
      refine r_istore B hnL (pc := 31) dX7_stand_31 (by decide) ?_
      refine r_lc (loc' := [some (.ref (ad 0)), some (.int x1), some (.int x2), some (.int ((-4))), some (.int 0), some (.int r2), none, none]) rfl ?_
      refine r_iconst B (pc := 33) dX7_stand_33 kc_0 ?_
      refine r_istore B hnL (pc := 34) dX7_stand_34 (by decide) ?_
      refine r_lc (loc' := [some (.ref (ad 0)), some (.int x1), some (.int x2), some (.int ((-4))), some (.int 0), some (.int r2), some (.int 0), none]) rfl ?_
      have k36 : ∀ (n36 : Nat) (v3 : Int32) (v4 : Int32) (v5 : Int32) (v6 : Int32), f_X7_stand_h36 σ x1 x2 n36 v3 v4 v5 v6 = some r → MW X (wM ad K σ) 36 [some (.ref (ad 0)), some (.int x1), some (.int x2), some (.int v3), some (.int v4), some (.int v5), some (.int v6), none] [] := by
        intro n36
        induction n36 with
        | zero => intro v3 v4 v5 v6 hf; exact nn_z hf
        | succ n36 ih36 =>
          intro v3 v4 v5 v6 hf
          rw [f_X7_stand_h36] at hf
          refine r_iload B (pc := 36) dX7_stand_36 rfl ?_
          refine r_bipush B (pc := 38) dX7_stand_38 kb_36 ?_
          refine r_icmp_ge B (pc := 40) (tgt := 93) dX7_stand_40 (by decide) hf (fun _ hf => ?_) (fun _ hf => ?_)
          · refine r_iload_n B (pc := 93) dX7_stand_93 rfl rfl ?_
            exact e_rz hf (nar_i _) (RET 94 _ dX7_stand_94)
          · refine r_aload_n B (pc := 43) dX7_stand_43 rfl rfl ?_
            refine r_iload_n B (pc := 44) dX7_stand_44 rfl rfl ?_
            refine r_iload B (pc := 45) dX7_stand_45 rfl ?_
            refine r_aload_n B (pc := 47) dX7_stand_47 rfl rfl ?_
            refine gM_RX7_130_0 B (pc := 48) dX7_stand_48 ?_
            obtain ⟨r4, hc3, hf⟩ := bdr_e hf
            refine r_cVI B (c_X7_hearers X.l X.D K ad σ x1 v6 (σ.1 0 11) hc3) F_X7_hearers lk_RX7_247 (q0 := 0) (ci := 7) rfl rfl (Nat.le_of_ble_eq_true rfl) (Nat.le_of_ble_eq_true rfl) (Nat.le_of_ble_eq_true rfl) (pc := 51) dX7_stand_51 rfl ?_
            refine r_iload B (pc := 54) dX7_stand_54 rfl ?_
            refine r_iand B (pc := 56) dX7_stand_56 ?_
            obtain ⟨r6, hc5, hf⟩ := bdr_e hf
            refine r_cSI B (c_X7_ones X.l X.D K _ (r4 &&& v5) hc5) F_X7_ones lk_RX7_244 (Nat.le_of_ble_eq_true rfl) (Nat.le_of_ble_eq_true rfl) (Nat.le_of_ble_eq_true rfl) (pc := 57) dX7_stand_57 rfl ?_
            refine r_istore B hnL (pc := 60) dX7_stand_60 (by decide) ?_
            refine r_lc (loc' := [some (.ref (ad 0)), some (.int x1), some (.int x2), some (.int v3), some (.int v4), some (.int v5), some (.int v6), some (.int r6)]) rfl ?_
            refine r_iload B (pc := 62) dX7_stand_62 rfl ?_
            refine r_iload B (pc := 64) dX7_stand_64 rfl ?_
            refine r_icmp_le B (pc := 66) (tgt := 87) dX7_stand_66 (by decide) hf (fun _ hf => ?_) (fun _ hf => ?_)
            · refine r_iincS B hnL (pc := 87) dX7_stand_87 rfl kc_1 (by decide) hf (fun y7 hf => ?_)
              refine r_lc (loc' := [some (.ref (ad 0)), some (.int x1), some (.int x2), some (.int v3), some (.int v4), some (.int v5), some (.int y7), some (.int r6)]) rfl ?_
              refine r_goto B (pc := 90) (tgt := 36) dX7_stand_90 (by decide) ?_
              exact r_mask [true, true, true, true, true, true, true, false] rfl (ih36 v3 v4 v5 y7 hf)
            · refine r_aload_n B (pc := 69) dX7_stand_69 rfl rfl ?_
              refine r_iload_n B (pc := 70) dX7_stand_70 rfl rfl ?_
              refine r_iload B (pc := 71) dX7_stand_71 rfl ?_
              refine r_iload_n B (pc := 73) dX7_stand_73 rfl rfl ?_
              obtain ⟨r9, hc8, hf⟩ := bdr_e hf
              refine r_cVI B (c_X7_wrongedBy X.l X.D K ad σ x1 v6 x2 hc8) F_X7_wrongedBy lk_RX7_238 (q0 := 0) (ci := 7) rfl rfl (Nat.le_of_ble_eq_true rfl) (Nat.le_of_ble_eq_true rfl) (Nat.le_of_ble_eq_true rfl) (pc := 74) dX7_stand_74 rfl ?_
              refine r_if_ne B (pc := 77) (tgt := 87) dX7_stand_77 (by decide) hf (fun _ hf => ?_) (fun _ hf => ?_)
              · refine r_iincS B hnL (pc := 87) dX7_stand_87 rfl kc_1 (by decide) hf (fun y10 hf => ?_)
                refine r_lc (loc' := [some (.ref (ad 0)), some (.int x1), some (.int x2), some (.int v3), some (.int v4), some (.int v5), some (.int y10), some (.int r6)]) rfl ?_
                refine r_goto B (pc := 90) (tgt := 36) dX7_stand_90 (by decide) ?_
                exact r_mask [true, true, true, true, true, true, true, false] rfl (ih36 v3 v4 v5 y10 hf)
              · refine r_iload B (pc := 80) dX7_stand_80 rfl ?_
                refine r_istore_n B hnL (pc := 82) dX7_stand_82 rfl (by decide) ?_
                refine r_lc (loc' := [some (.ref (ad 0)), some (.int x1), some (.int x2), some (.int v6), some (.int v4), some (.int v5), some (.int v6), some (.int r6)]) rfl ?_
                refine r_iload B (pc := 83) dX7_stand_83 rfl ?_
                refine r_istore B hnL (pc := 85) dX7_stand_85 (by decide) ?_
                refine r_lc (loc' := [some (.ref (ad 0)), some (.int x1), some (.int x2), some (.int v6), some (.int r6), some (.int v5), some (.int v6), some (.int r6)]) rfl ?_
                refine r_iincS B hnL (pc := 87) dX7_stand_87 rfl kc_1 (by decide) hf (fun y11 hf => ?_)
                refine r_lc (loc' := [some (.ref (ad 0)), some (.int x1), some (.int x2), some (.int v6), some (.int r6), some (.int v5), some (.int y11), some (.int r6)]) rfl ?_
                refine r_goto B (pc := 90) (tgt := 36) dX7_stand_90 (by decide) ?_
                exact r_mask [true, true, true, true, true, true, true, false] rfl (ih36 v6 r6 v5 y11 hf)
      exact r_mask [true, true, true, true, true, true, true, false] rfl (k36 FU ((-4)) 0 r2 0 hf)
    · refine r_iconst B (pc := 18) dX7_stand_18 kc_m1 ?_
      exact e_rz hf (nar_i _) (RET 19 _ dX7_stand_19)
set_option maxHeartbeats 4000000 in
set_option maxRecDepth 20000 in
theorem c_X7_areApart (l : Launch) (D : va_G) (K : Kt) (ad : Nat → Nat) (σ : St) (x1 : Int32) (x2 : Int32) {r : Int32} (hf : f_X7_areApart σ x1 x2 = some r) : CtI l yX7_areApart cX7_areApart 3 (some .boolean) 0 0 D K [.ref (ad 0), .int x1, .int x2] (wM ad K σ) r (wM ad K σ) := by
  refine met_i pl_RX7 (Nat.le_of_ble_eq_true rfl) (fun X hnL B RET => ?_)
  suffices h : MW X (wM ad K σ) 0 [some (.ref (ad 0)), some (.int x1), some (.int x2)] [] from h
  unfold f_X7_areApart at hf
  refine r_aload_n B (pc := 0) dX7_areApart_0 rfl rfl ?_
  refine gM_RX7_50_0 B (pc := 1) dX7_areApart_1 ?_
  refine r_iload_n B (pc := 4) dX7_areApart_4 rfl rfl ?_
  refine aldM_13 B (pc := 5) dX7_areApart_5 hf (fun _ hf => ?_)
  refine r_if_lt B (pc := 6) (tgt := 38) dX7_areApart_6 (by decide) hf (fun _ hf => ?_) (fun _ hf => ?_)
  · refine r_iconst B (pc := 38) dX7_areApart_38 kc_0 ?_
    exact e_rz hf rfl (RET 39 _ dX7_areApart_39)
  · refine r_aload_n B (pc := 9) dX7_areApart_9 rfl rfl ?_
    refine gM_RX7_50_0 B (pc := 10) dX7_areApart_10 ?_
    refine r_iload_n B (pc := 13) dX7_areApart_13 rfl rfl ?_
    refine aldM_13 B (pc := 14) dX7_areApart_14 hf (fun _ hf => ?_)
    refine r_if_lt B (pc := 15) (tgt := 38) dX7_areApart_15 (by decide) hf (fun _ hf => ?_) (fun _ hf => ?_)
    · refine r_iconst B (pc := 38) dX7_areApart_38 kc_0 ?_
      exact e_rz hf rfl (RET 39 _ dX7_areApart_39)
    · refine r_aload_n B (pc := 18) dX7_areApart_18 rfl rfl ?_
      refine gM_RX7_50_0 B (pc := 19) dX7_areApart_19 ?_
      refine r_iload_n B (pc := 22) dX7_areApart_22 rfl rfl ?_
      refine aldM_13 B (pc := 23) dX7_areApart_23 hf (fun _ hf => ?_)
      refine r_aload_n B (pc := 24) dX7_areApart_24 rfl rfl ?_
      refine gM_RX7_50_0 B (pc := 25) dX7_areApart_25 ?_
      refine r_iload_n B (pc := 28) dX7_areApart_28 rfl rfl ?_
      refine aldM_13 B (pc := 29) dX7_areApart_29 hf (fun _ hf => ?_)
      refine r_iand B (pc := 30) dX7_areApart_30 ?_
      refine r_if_ne B (pc := 31) (tgt := 38) dX7_areApart_31 (by decide) hf (fun _ hf => ?_) (fun _ hf => ?_)
      · refine r_iconst B (pc := 38) dX7_areApart_38 kc_0 ?_
        exact e_rz hf rfl (RET 39 _ dX7_areApart_39)
      · refine r_iconst B (pc := 34) dX7_areApart_34 kc_1 ?_
        refine r_goto B (pc := 35) (tgt := 39) dX7_areApart_35 (by decide) ?_
        exact e_rz hf rfl (RET 39 _ dX7_areApart_39)
set_option maxHeartbeats 4000000 in
set_option maxRecDepth 20000 in
theorem c_X7_findCover (l : Launch) (D : va_G) (K : Kt) (ad : Nat → Nat) (σ : St) (x1 : Int32) (x2 : Int32) {r : Int32} {τ : St} (hf : f_X7_findCover σ x1 x2 = some (r, τ)) : CtI l yX7_findCover cX7_findCover 8 (some .int) 5 125 D K [.ref (ad 0), .int x1, .int x2] (wM ad K σ) r (wM ad K τ) := by
  refine met_i pl_RX7 (Nat.le_of_ble_eq_true rfl) (fun X hnL B RET => ?_)
  suffices h : MW X (wM ad K σ) 0 [some (.ref (ad 0)), some (.int x1), some (.int x2), none, none, none, none, none] [] from h
  unfold f_X7_findCover at hf
  refine r_aload_n B (pc := 0) dX7_findCover_0 rfl rfl ?_
  refine r_iload_n B (pc := 1) dX7_findCover_1 rfl rfl ?_
  obtain ⟨r2, hc1, hf⟩ := bdr_e hf
  refine r_cVI B (c_X7_lacking X.l X.D K ad σ x2 hc1) F_X7_lacking lk_RX7_271 (q0 := 0) (ci := 7) rfl rfl (Nat.le_of_ble_eq_true rfl) (Nat.le_of_ble_eq_true rfl) (Nat.le_of_ble_eq_true rfl) (pc := 2) dX7_findCover_2 rfl ?_
  refine r_istore_n B hnL (pc := 5) dX7_findCover_5 rfl (by decide) ?_
  refine r_lc (loc' := [some (.ref (ad 0)), some (.int x1), some (.int x2), some (.int r2), none, none, none, none]) rfl ?_
  refine r_iload_n B (pc := 6) dX7_findCover_6 rfl rfl ?_
  refine r_if_ne B (pc := 7) (tgt := 12) dX7_findCover_7 (by decide) hf (fun _ hf => ?_) (fun _ hf => ?_)
  · refine r_iconst B (pc := 12) dX7_findCover_12 kc_0 ?_
    refine r_istore B hnL (pc := 13) dX7_findCover_13 (by decide) ?_
    refine r_lc (loc' := [some (.ref (ad 0)), some (.int x1), some (.int x2), some (.int r2), some (.int 0), none, none, none]) rfl ?_
    have k15 : ∀ (n15 : Nat) (v3 : Int32) (v4 : Int32) (σ15 : St), f_X7_findCover_h15 x1 x2 n15 v3 v4 σ15 = some (r, τ) → MW X (wM ad K σ15) 15 [some (.ref (ad 0)), some (.int x1), some (.int x2), some (.int v3), some (.int v4), none, none, none] [] := by
      intro n15
      induction n15 with
      | zero => intro v3 v4 σ15 hf; exact nn_z hf
      | succ n15 ih15 =>
        intro v3 v4 σ15 hf
        rw [f_X7_findCover_h15] at hf
        refine r_iload B (pc := 15) dX7_findCover_15 rfl ?_
        refine r_bipush B (pc := 17) dX7_findCover_17 kb_36 ?_
        refine r_icmp_ge B (pc := 19) (tgt := 61) dX7_findCover_19 (by decide) hf (fun _ hf => ?_) (fun _ hf => ?_)
        · refine r_iconst B (pc := 61) dX7_findCover_61 kc_0 ?_
          refine r_istore B hnL (pc := 62) dX7_findCover_62 (by decide) ?_
          refine r_lc (loc' := [some (.ref (ad 0)), some (.int x1), some (.int x2), some (.int v3), some (.int 0), none, none, none]) rfl ?_
          have k64 : ∀ (n64 : Nat) (v3 : Int32) (v4 : Int32) (σ64 : St), f_X7_findCover_h64 x1 x2 n64 v3 v4 σ64 = some (r, τ) → MW X (wM ad K σ64) 64 [some (.ref (ad 0)), none, none, some (.int v3), some (.int v4), none, none, none] [] := by
            intro n64
            induction n64 with
            | zero => intro v3 v4 σ64 hf; exact nn_z hf
            | succ n64 ih64 =>
              intro v3 v4 σ64 hf
              rw [f_X7_findCover_h64] at hf
              refine r_iload B (pc := 64) dX7_findCover_64 rfl ?_
              refine r_bipush B (pc := 66) dX7_findCover_66 kb_36 ?_
              refine r_icmp_ge B (pc := 68) (tgt := 111) dX7_findCover_68 (by decide) hf (fun _ hf => ?_) (fun _ hf => ?_)
              · refine r_iconst B (pc := 111) dX7_findCover_111 kc_0 ?_
                refine r_istore B hnL (pc := 112) dX7_findCover_112 (by decide) ?_
                refine r_lc (loc' := [some (.ref (ad 0)), none, none, some (.int v3), some (.int 0), none, none, none]) rfl ?_
                have k114 : ∀ (n114 : Nat) (v3 : Int32) (v4 : Int32) (σ114 : St), f_X7_findCover_h114 x1 x2 n114 v3 v4 σ114 = some (r, τ) → MW X (wM ad K σ114) 114 [some (.ref (ad 0)), none, none, some (.int v3), some (.int v4), none, none, none] [] := by
                  intro n114
                  induction n114 with
                  | zero => intro v3 v4 σ114 hf; exact nn_z hf
                  | succ n114 ih114 =>
                    intro v3 v4 σ114 hf
                    rw [f_X7_findCover_h114] at hf
                    refine r_iload B (pc := 114) dX7_findCover_114 rfl ?_
                    refine r_sipush B (pc := 116) dX7_findCover_116 ks_1296 ?_
                    refine r_icmp_ge B (pc := 119) (tgt := 199) dX7_findCover_119 (by decide) hf (fun _ hf => ?_) (fun _ hf => ?_)
                    · refine r_iconst B (pc := 199) dX7_findCover_199 kc_0 ?_
                      refine r_istore B hnL (pc := 200) dX7_findCover_200 (by decide) ?_
                      refine r_lc (loc' := [some (.ref (ad 0)), none, none, some (.int v3), some (.int 0), none, none, none]) rfl ?_
                      have k202 : ∀ (n202 : Nat) (v3 : Int32) (v4 : Int32) (σ202 : St), f_X7_findCover_h202 x1 x2 n202 v3 v4 σ202 = some (r, τ) → MW X (wM ad K σ202) 202 [some (.ref (ad 0)), none, none, some (.int v3), some (.int v4), none, none, none] [] := by
                        intro n202
                        induction n202 with
                        | zero => intro v3 v4 σ202 hf; exact nn_z hf
                        | succ n202 ih202 =>
                          intro v3 v4 σ202 hf
                          rw [f_X7_findCover_h202] at hf
                          refine r_iload B (pc := 202) dX7_findCover_202 rfl ?_
                          refine r_ldcw B (pc := 204) kp_RX7_277 dX7_findCover_204 ?_
                          refine r_icmp_ge B (pc := 207) (tgt := 336) dX7_findCover_207 (by decide) hf (fun _ hf => ?_) (fun _ hf => ?_)
                          · refine r_bipush B (pc := 336) dX7_findCover_336 kb_m4 ?_
                            exact e_pz (F := (wM ad K)) hf (nar_i _) (RET 338 _ dX7_findCover_338)
                          · refine r_iload B (pc := 210) dX7_findCover_210 rfl ?_
                            refine r_bipush B (pc := 212) dX7_findCover_212 kb_36 ?_
                            refine r_idiv B (pc := 214) dX7_findCover_214 (by decide) ?_
                            refine r_bipush B (pc := 215) dX7_findCover_215 kb_36 ?_
                            refine r_idiv B (pc := 217) dX7_findCover_217 (by decide) ?_
                            refine r_nm hf (fun y3 hf => ?_)
                            refine r_istore B hnL (pc := 218) dX7_findCover_218 (by decide) ?_
                            refine r_lc (loc' := [some (.ref (ad 0)), none, none, some (.int v3), some (.int v4), some (.int y3), none, none]) rfl ?_
                            refine r_iload B (pc := 220) dX7_findCover_220 rfl ?_
                            refine r_bipush B (pc := 222) dX7_findCover_222 kb_36 ?_
                            refine r_idiv B (pc := 224) dX7_findCover_224 (by decide) ?_
                            refine r_bipush B (pc := 225) dX7_findCover_225 kb_36 ?_
                            refine r_irem B (pc := 227) dX7_findCover_227 (by decide) ?_
                            refine r_nm hf (fun y4 hf => ?_)
                            refine r_istore B hnL (pc := 228) dX7_findCover_228 (by decide) ?_
                            refine r_lc (loc' := [some (.ref (ad 0)), none, none, some (.int v3), some (.int v4), some (.int y3), some (.int y4), none]) rfl ?_
                            refine r_iload B (pc := 230) dX7_findCover_230 rfl ?_
                            refine r_bipush B (pc := 232) dX7_findCover_232 kb_36 ?_
                            refine r_irem B (pc := 234) dX7_findCover_234 (by decide) ?_
                            refine r_nm hf (fun y5 hf => ?_)
                            refine r_istore B hnL (pc := 235) dX7_findCover_235 (by decide) ?_
                            refine r_lc (loc' := [some (.ref (ad 0)), none, none, some (.int v3), some (.int v4), some (.int y3), some (.int y4), some (.int y5)]) rfl ?_
                            refine r_aload_n B (pc := 237) dX7_findCover_237 rfl rfl ?_
                            refine r_iload B (pc := 238) dX7_findCover_238 rfl ?_
                            refine r_iload B (pc := 240) dX7_findCover_240 rfl ?_
                            obtain ⟨r7, hc6, hf⟩ := bdr_e hf
                            refine r_cVI B (c_X7_areApart X.l X.D K ad σ202 y3 y4 hc6) F_X7_areApart lk_RX7_274 (q0 := 0) (ci := 7) rfl rfl (Nat.le_of_ble_eq_true rfl) (Nat.le_of_ble_eq_true rfl) (Nat.le_of_ble_eq_true rfl) (pc := 242) dX7_findCover_242 rfl ?_
                            refine r_if_eq B (pc := 245) (tgt := 330) dX7_findCover_245 (by decide) hf (fun _ hf => ?_) (fun _ hf => ?_)
                            · refine r_iincS B hnL (pc := 330) dX7_findCover_330 rfl kc_1 (by decide) hf (fun y8 hf => ?_)
                              refine r_lc (loc' := [some (.ref (ad 0)), none, none, some (.int v3), some (.int y8), some (.int y3), some (.int y4), some (.int y5)]) rfl ?_
                              refine r_goto B (pc := 333) (tgt := 202) dX7_findCover_333 (by decide) ?_
                              exact r_mask [true, false, false, true, true, false, false, false] rfl (ih202 v3 y8 σ202 hf)
                            · refine r_aload_n B (pc := 248) dX7_findCover_248 rfl rfl ?_
                              refine r_iload B (pc := 249) dX7_findCover_249 rfl ?_
                              refine r_iload B (pc := 251) dX7_findCover_251 rfl ?_
                              obtain ⟨r10, hc9, hf⟩ := bdr_e hf
                              refine r_cVI B (c_X7_areApart X.l X.D K ad σ202 y3 y5 hc9) F_X7_areApart lk_RX7_274 (q0 := 0) (ci := 7) rfl rfl (Nat.le_of_ble_eq_true rfl) (Nat.le_of_ble_eq_true rfl) (Nat.le_of_ble_eq_true rfl) (pc := 253) dX7_findCover_253 rfl ?_
                              refine r_if_eq B (pc := 256) (tgt := 330) dX7_findCover_256 (by decide) hf (fun _ hf => ?_) (fun _ hf => ?_)
                              · refine r_iincS B hnL (pc := 330) dX7_findCover_330 rfl kc_1 (by decide) hf (fun y11 hf => ?_)
                                refine r_lc (loc' := [some (.ref (ad 0)), none, none, some (.int v3), some (.int y11), some (.int y3), some (.int y4), some (.int y5)]) rfl ?_
                                refine r_goto B (pc := 333) (tgt := 202) dX7_findCover_333 (by decide) ?_
                                exact r_mask [true, false, false, true, true, false, false, false] rfl (ih202 v3 y11 σ202 hf)
                              · refine r_aload_n B (pc := 259) dX7_findCover_259 rfl rfl ?_
                                refine r_iload B (pc := 260) dX7_findCover_260 rfl ?_
                                refine r_iload B (pc := 262) dX7_findCover_262 rfl ?_
                                obtain ⟨r13, hc12, hf⟩ := bdr_e hf
                                refine r_cVI B (c_X7_areApart X.l X.D K ad σ202 y4 y5 hc12) F_X7_areApart lk_RX7_274 (q0 := 0) (ci := 7) rfl rfl (Nat.le_of_ble_eq_true rfl) (Nat.le_of_ble_eq_true rfl) (Nat.le_of_ble_eq_true rfl) (pc := 264) dX7_findCover_264 rfl ?_
                                refine r_if_eq B (pc := 267) (tgt := 330) dX7_findCover_267 (by decide) hf (fun _ hf => ?_) (fun _ hf => ?_)
                                · refine r_iincS B hnL (pc := 330) dX7_findCover_330 rfl kc_1 (by decide) hf (fun y14 hf => ?_)
                                  refine r_lc (loc' := [some (.ref (ad 0)), none, none, some (.int v3), some (.int y14), some (.int y3), some (.int y4), some (.int y5)]) rfl ?_
                                  refine r_goto B (pc := 333) (tgt := 202) dX7_findCover_333 (by decide) ?_
                                  exact r_mask [true, false, false, true, true, false, false, false] rfl (ih202 v3 y14 σ202 hf)
                                · refine r_iload_n B (pc := 270) dX7_findCover_270 rfl rfl ?_
                                  refine r_aload_n B (pc := 271) dX7_findCover_271 rfl rfl ?_
                                  refine gM_RX7_50_0 B (pc := 272) dX7_findCover_272 ?_
                                  refine r_iload B (pc := 275) dX7_findCover_275 rfl ?_
                                  refine aldM_13 B (pc := 277) dX7_findCover_277 hf (fun _ hf => ?_)
                                  refine r_iconst B (pc := 278) dX7_findCover_278 kc_m1 ?_
                                  refine r_ixor B (pc := 279) dX7_findCover_279 ?_
                                  refine r_iand B (pc := 280) dX7_findCover_280 ?_
                                  refine r_aload_n B (pc := 281) dX7_findCover_281 rfl rfl ?_
                                  refine gM_RX7_50_0 B (pc := 282) dX7_findCover_282 ?_
                                  refine r_iload B (pc := 285) dX7_findCover_285 rfl ?_
                                  refine aldM_13 B (pc := 287) dX7_findCover_287 hf (fun _ hf => ?_)
                                  refine r_iconst B (pc := 288) dX7_findCover_288 kc_m1 ?_
                                  refine r_ixor B (pc := 289) dX7_findCover_289 ?_
                                  refine r_iand B (pc := 290) dX7_findCover_290 ?_
                                  refine r_aload_n B (pc := 291) dX7_findCover_291 rfl rfl ?_
                                  refine gM_RX7_50_0 B (pc := 292) dX7_findCover_292 ?_
                                  refine r_iload B (pc := 295) dX7_findCover_295 rfl ?_
                                  refine aldM_13 B (pc := 297) dX7_findCover_297 hf (fun _ hf => ?_)
                                  refine r_iconst B (pc := 298) dX7_findCover_298 kc_m1 ?_
                                  refine r_ixor B (pc := 299) dX7_findCover_299 ?_
                                  refine r_iand B (pc := 300) dX7_findCover_300 ?_
                                  refine r_if_ne B (pc := 301) (tgt := 330) dX7_findCover_301 (by decide) hf (fun _ hf => ?_) (fun _ hf => ?_)
                                  · refine r_iincS B hnL (pc := 330) dX7_findCover_330 rfl kc_1 (by decide) hf (fun y15 hf => ?_)
                                    refine r_lc (loc' := [some (.ref (ad 0)), none, none, some (.int v3), some (.int y15), some (.int y3), some (.int y4), some (.int y5)]) rfl ?_
                                    refine r_goto B (pc := 333) (tgt := 202) dX7_findCover_333 (by decide) ?_
                                    exact r_mask [true, false, false, true, true, false, false, false] rfl (ih202 v3 y15 σ202 hf)
                                  · refine r_aload_n B (pc := 304) dX7_findCover_304 rfl rfl ?_
                                    refine gM_RX7_53_0 B (pc := 305) dX7_findCover_305 ?_
                                    refine r_iconst B (pc := 308) dX7_findCover_308 kc_0 ?_
                                    refine r_iload B (pc := 309) dX7_findCover_309 rfl ?_
                                    refine astM_14 B (pc := 311) dX7_findCover_311 hf (fun s16 _ hf => ?_)
                                    refine r_aload_n B (pc := 312) dX7_findCover_312 rfl rfl ?_
                                    refine gM_RX7_53_0 B (pc := 313) dX7_findCover_313 ?_
                                    refine r_iconst B (pc := 316) dX7_findCover_316 kc_1 ?_
                                    refine r_iload B (pc := 317) dX7_findCover_317 rfl ?_
                                    refine astM_14 B (pc := 319) dX7_findCover_319 hf (fun s17 _ hf => ?_)
                                    refine r_aload_n B (pc := 320) dX7_findCover_320 rfl rfl ?_
                                    refine gM_RX7_53_0 B (pc := 321) dX7_findCover_321 ?_
                                    refine r_iconst B (pc := 324) dX7_findCover_324 kc_2 ?_
                                    refine r_iload B (pc := 325) dX7_findCover_325 rfl ?_
                                    refine astM_14 B (pc := 327) dX7_findCover_327 hf (fun s18 _ hf => ?_)
                                    refine r_iconst B (pc := 328) dX7_findCover_328 kc_3 ?_
                                    exact e_pz (F := (wM ad K)) hf (nar_i _) (RET 329 _ dX7_findCover_329)
                      exact r_mask [true, false, false, true, true, false, false, false] rfl (k202 FU v3 0 σ114 hf)
                    · refine r_aload_n B (pc := 122) dX7_findCover_122 rfl rfl ?_
                      refine r_iload B (pc := 123) dX7_findCover_123 rfl ?_
                      refine r_bipush B (pc := 125) dX7_findCover_125 kb_36 ?_
                      refine r_idiv B (pc := 127) dX7_findCover_127 (by decide) ?_
                      refine r_iload B (pc := 128) dX7_findCover_128 rfl ?_
                      refine r_bipush B (pc := 130) dX7_findCover_130 kb_36 ?_
                      refine r_irem B (pc := 132) dX7_findCover_132 (by decide) ?_
                      obtain ⟨r20, hc19, hf⟩ := bdr_e hf
                      refine r_cVI B (c_X7_areApart X.l X.D K ad σ114 (v4 / 36) (irm v4 36) hc19) F_X7_areApart lk_RX7_274 (q0 := 0) (ci := 7) rfl rfl (Nat.le_of_ble_eq_true rfl) (Nat.le_of_ble_eq_true rfl) (Nat.le_of_ble_eq_true rfl) (pc := 133) dX7_findCover_133 rfl ?_
                      refine r_if_eq B (pc := 136) (tgt := 193) dX7_findCover_136 (by decide) hf (fun _ hf => ?_) (fun _ hf => ?_)
                      · refine r_iincS B hnL (pc := 193) dX7_findCover_193 rfl kc_1 (by decide) hf (fun y21 hf => ?_)
                        refine r_lc (loc' := [some (.ref (ad 0)), none, none, some (.int v3), some (.int y21), none, none, none]) rfl ?_
                        refine r_goto B (pc := 196) (tgt := 114) dX7_findCover_196 (by decide) ?_
                        exact r_mask [true, false, false, true, true, false, false, false] rfl (ih114 v3 y21 σ114 hf)
                      · refine r_iload_n B (pc := 139) dX7_findCover_139 rfl rfl ?_
                        refine r_aload_n B (pc := 140) dX7_findCover_140 rfl rfl ?_
                        refine gM_RX7_50_0 B (pc := 141) dX7_findCover_141 ?_
                        refine r_iload B (pc := 144) dX7_findCover_144 rfl ?_
                        refine r_bipush B (pc := 146) dX7_findCover_146 kb_36 ?_
                        refine r_idiv B (pc := 148) dX7_findCover_148 (by decide) ?_
                        refine aldM_13 B (pc := 149) dX7_findCover_149 hf (fun _ hf => ?_)
                        refine r_iconst B (pc := 150) dX7_findCover_150 kc_m1 ?_
                        refine r_ixor B (pc := 151) dX7_findCover_151 ?_
                        refine r_iand B (pc := 152) dX7_findCover_152 ?_
                        refine r_aload_n B (pc := 153) dX7_findCover_153 rfl rfl ?_
                        refine gM_RX7_50_0 B (pc := 154) dX7_findCover_154 ?_
                        refine r_iload B (pc := 157) dX7_findCover_157 rfl ?_
                        refine r_bipush B (pc := 159) dX7_findCover_159 kb_36 ?_
                        refine r_irem B (pc := 161) dX7_findCover_161 (by decide) ?_
                        refine aldM_13 B (pc := 162) dX7_findCover_162 hf (fun _ hf => ?_)
                        refine r_iconst B (pc := 163) dX7_findCover_163 kc_m1 ?_
                        refine r_ixor B (pc := 164) dX7_findCover_164 ?_
                        refine r_iand B (pc := 165) dX7_findCover_165 ?_
                        refine r_if_ne B (pc := 166) (tgt := 193) dX7_findCover_166 (by decide) hf (fun _ hf => ?_) (fun _ hf => ?_)
                        · refine r_iincS B hnL (pc := 193) dX7_findCover_193 rfl kc_1 (by decide) hf (fun y22 hf => ?_)
                          refine r_lc (loc' := [some (.ref (ad 0)), none, none, some (.int v3), some (.int y22), none, none, none]) rfl ?_
                          refine r_goto B (pc := 196) (tgt := 114) dX7_findCover_196 (by decide) ?_
                          exact r_mask [true, false, false, true, true, false, false, false] rfl (ih114 v3 y22 σ114 hf)
                        · refine r_aload_n B (pc := 169) dX7_findCover_169 rfl rfl ?_
                          refine gM_RX7_53_0 B (pc := 170) dX7_findCover_170 ?_
                          refine r_iconst B (pc := 173) dX7_findCover_173 kc_0 ?_
                          refine r_iload B (pc := 174) dX7_findCover_174 rfl ?_
                          refine r_bipush B (pc := 176) dX7_findCover_176 kb_36 ?_
                          refine r_idiv B (pc := 178) dX7_findCover_178 (by decide) ?_
                          refine astM_14 B (pc := 179) dX7_findCover_179 hf (fun s23 _ hf => ?_)
                          refine r_aload_n B (pc := 180) dX7_findCover_180 rfl rfl ?_
                          refine gM_RX7_53_0 B (pc := 181) dX7_findCover_181 ?_
                          refine r_iconst B (pc := 184) dX7_findCover_184 kc_1 ?_
                          refine r_iload B (pc := 185) dX7_findCover_185 rfl ?_
                          refine r_bipush B (pc := 187) dX7_findCover_187 kb_36 ?_
                          refine r_irem B (pc := 189) dX7_findCover_189 (by decide) ?_
                          refine astM_14 B (pc := 190) dX7_findCover_190 hf (fun s24 _ hf => ?_)
                          refine r_iconst B (pc := 191) dX7_findCover_191 kc_2 ?_
                          exact e_pz (F := (wM ad K)) hf (nar_i _) (RET 192 _ dX7_findCover_192)
                exact r_mask [true, false, false, true, true, false, false, false] rfl (k114 FU v3 0 σ64 hf)
              · refine r_aload_n B (pc := 71) dX7_findCover_71 rfl rfl ?_
                refine gM_RX7_50_0 B (pc := 72) dX7_findCover_72 ?_
                refine r_iload B (pc := 75) dX7_findCover_75 rfl ?_
                refine aldM_13 B (pc := 77) dX7_findCover_77 hf (fun _ hf => ?_)
                refine r_if_lt B (pc := 78) (tgt := 105) dX7_findCover_78 (by decide) hf (fun _ hf => ?_) (fun _ hf => ?_)
                · refine r_iincS B hnL (pc := 105) dX7_findCover_105 rfl kc_1 (by decide) hf (fun y25 hf => ?_)
                  refine r_lc (loc' := [some (.ref (ad 0)), none, none, some (.int v3), some (.int y25), none, none, none]) rfl ?_
                  refine r_goto B (pc := 108) (tgt := 64) dX7_findCover_108 (by decide) ?_
                  exact r_mask [true, false, false, true, true, false, false, false] rfl (ih64 v3 y25 σ64 hf)
                · refine r_iload_n B (pc := 81) dX7_findCover_81 rfl rfl ?_
                  refine r_aload_n B (pc := 82) dX7_findCover_82 rfl rfl ?_
                  refine gM_RX7_50_0 B (pc := 83) dX7_findCover_83 ?_
                  refine r_iload B (pc := 86) dX7_findCover_86 rfl ?_
                  refine aldM_13 B (pc := 88) dX7_findCover_88 hf (fun _ hf => ?_)
                  refine r_iconst B (pc := 89) dX7_findCover_89 kc_m1 ?_
                  refine r_ixor B (pc := 90) dX7_findCover_90 ?_
                  refine r_iand B (pc := 91) dX7_findCover_91 ?_
                  refine r_if_ne B (pc := 92) (tgt := 105) dX7_findCover_92 (by decide) hf (fun _ hf => ?_) (fun _ hf => ?_)
                  · refine r_iincS B hnL (pc := 105) dX7_findCover_105 rfl kc_1 (by decide) hf (fun y26 hf => ?_)
                    refine r_lc (loc' := [some (.ref (ad 0)), none, none, some (.int v3), some (.int y26), none, none, none]) rfl ?_
                    refine r_goto B (pc := 108) (tgt := 64) dX7_findCover_108 (by decide) ?_
                    exact r_mask [true, false, false, true, true, false, false, false] rfl (ih64 v3 y26 σ64 hf)
                  · refine r_aload_n B (pc := 95) dX7_findCover_95 rfl rfl ?_
                    refine gM_RX7_53_0 B (pc := 96) dX7_findCover_96 ?_
                    refine r_iconst B (pc := 99) dX7_findCover_99 kc_0 ?_
                    refine r_iload B (pc := 100) dX7_findCover_100 rfl ?_
                    refine astM_14 B (pc := 102) dX7_findCover_102 hf (fun s27 _ hf => ?_)
                    refine r_iconst B (pc := 103) dX7_findCover_103 kc_1 ?_
                    exact e_pz (F := (wM ad K)) hf (nar_i _) (RET 104 _ dX7_findCover_104)
          exact r_mask [true, false, false, true, true, false, false, false] rfl (k64 FU v3 0 σ15 hf)
        · refine r_aload_n B (pc := 22) dX7_findCover_22 rfl rfl ?_
          refine gM_RX7_50_0 B (pc := 23) dX7_findCover_23 ?_
          refine r_iload B (pc := 26) dX7_findCover_26 rfl ?_
          refine r_aload_n B (pc := 28) dX7_findCover_28 rfl rfl ?_
          refine r_iload_n B (pc := 29) dX7_findCover_29 rfl rfl ?_
          refine r_iload B (pc := 30) dX7_findCover_30 rfl ?_
          refine r_iload_n B (pc := 32) dX7_findCover_32 rfl rfl ?_
          obtain ⟨r29, hc28, hf⟩ := bdr_e hf
          refine r_cVI B (c_X7_wrongedBy X.l X.D K ad σ15 x1 v4 x2 hc28) F_X7_wrongedBy lk_RX7_238 (q0 := 0) (ci := 7) rfl rfl (Nat.le_of_ble_eq_true rfl) (Nat.le_of_ble_eq_true rfl) (Nat.le_of_ble_eq_true rfl) (pc := 33) dX7_findCover_33 rfl ?_
          refine r_if_ne B (pc := 36) (tgt := 53) dX7_findCover_36 (by decide) hf (fun _ hf => ?_) (fun _ hf => ?_)
          · refine r_iconst B (pc := 53) dX7_findCover_53 kc_m1 ?_
            refine astM_13 B (pc := 54) dX7_findCover_54 hf (fun s30 _ hf => ?_)
            refine r_iincS B hnL (pc := 55) dX7_findCover_55 rfl kc_1 (by decide) hf (fun y31 hf => ?_)
            refine r_lc (loc' := [some (.ref (ad 0)), some (.int x1), some (.int x2), some (.int v3), some (.int y31), none, none, none]) rfl ?_
            refine r_goto B (pc := 58) (tgt := 15) dX7_findCover_58 (by decide) ?_
            exact r_mask [true, true, true, true, true, false, false, false] rfl (ih15 v3 y31 s30 hf)
          · refine r_aload_n B (pc := 39) dX7_findCover_39 rfl rfl ?_
            refine r_iload_n B (pc := 40) dX7_findCover_40 rfl rfl ?_
            refine r_iload B (pc := 41) dX7_findCover_41 rfl ?_
            refine r_aload_n B (pc := 43) dX7_findCover_43 rfl rfl ?_
            refine gM_RX7_130_0 B (pc := 44) dX7_findCover_44 ?_
            obtain ⟨r33, hc32, hf⟩ := bdr_e hf
            refine r_cVI B (c_X7_hearers X.l X.D K ad σ15 x1 v4 (σ15.1 0 11) hc32) F_X7_hearers lk_RX7_247 (q0 := 0) (ci := 7) rfl rfl (Nat.le_of_ble_eq_true rfl) (Nat.le_of_ble_eq_true rfl) (Nat.le_of_ble_eq_true rfl) (pc := 47) dX7_findCover_47 rfl ?_
            refine r_goto B (pc := 50) (tgt := 54) dX7_findCover_50 (by decide) ?_
            refine astM_13 B (pc := 54) dX7_findCover_54 hf (fun s34 _ hf => ?_)
            refine r_iincS B hnL (pc := 55) dX7_findCover_55 rfl kc_1 (by decide) hf (fun y35 hf => ?_)
            refine r_lc (loc' := [some (.ref (ad 0)), some (.int x1), some (.int x2), some (.int v3), some (.int y35), none, none, none]) rfl ?_
            refine r_goto B (pc := 58) (tgt := 15) dX7_findCover_58 (by decide) ?_
            exact r_mask [true, true, true, true, true, false, false, false] rfl (ih15 v3 y35 s34 hf)
    exact r_mask [true, true, true, true, true, false, false, false] rfl (k15 FU r2 0 σ hf)
  · refine r_iconst B (pc := 10) dX7_findCover_10 kc_0 ?_
    exact e_pz (F := (wM ad K)) hf (nar_i _) (RET 11 _ dX7_findCover_11)
