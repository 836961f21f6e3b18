set_option maxHeartbeats 4000000 in
set_option maxRecDepth 20000 in
theorem c_X3_owedBy (l : Launch) (D : va_G) (K : Kt) (ad : Nat → Nat) (nw : Nat) (σ : St) (x1 : Int32) {r : Int32} (hf : f_X3_owedBy σ x1 = some r) : CtI l yX3_owedBy cX3_owedBy 4 (some .int) 2 44 D K [.ref (ad 1), .int x1] (wC ad K nw σ) r (wC ad K nw σ) := by
  refine met_i pl_RX3 (Nat.le_of_ble_eq_true rfl) (fun X hnL B RET => ?_)
  suffices h : MW X (wC ad K nw σ) 0 [some (.ref (ad 1)), some (.int x1), none, none] [] from h
  unfold f_X3_owedBy at hf
  refine r_iconst B (pc := 0) dX3_owedBy_0 kc_0 ?_
  refine r_istore_n B hnL (pc := 1) dX3_owedBy_1 rfl (by decide) ?_
  refine r_lc (loc' := [some (.ref (ad 1)), some (.int x1), some (.int 0), none]) rfl ?_
  refine r_iconst B (pc := 2) dX3_owedBy_2 kc_0 ?_
  refine r_istore_n B hnL (pc := 3) dX3_owedBy_3 rfl (by decide) ?_
  refine r_lc (loc' := [some (.ref (ad 1)), some (.int x1), some (.int 0), some (.int 0)]) rfl ?_
  have k4 : ∀ (n4 : Nat) (v2 : Int32) (v3 : Int32), f_X3_owedBy_h4 σ x1 n4 v2 v3 = some r → MW X (wC ad K nw σ) 4 [some (.ref (ad 1)), some (.int x1), some (.int v2), some (.int v3)] [] := by
    intro n4
    induction n4 with
    | zero => intro v2 v3 hf; exact nn_z hf
    | succ n4 ih4 =>
      intro v2 v3 hf
      rw [f_X3_owedBy_h4] at hf
      refine r_iload_n B (pc := 4) dX3_owedBy_4 rfl rfl ?_
      refine r_aload_n B (pc := 5) dX3_owedBy_5 rfl rfl ?_
      refine gC_RX3_12_1 B (pc := 6) dX3_owedBy_6 ?_
      refine gC_RX3_73_2 B (pc := 9) dX3_owedBy_9 ?_
      refine r_icmp_ge B (pc := 12) (tgt := 36) dX3_owedBy_12 (by decide) hf (fun _ hf => ?_) (fun _ hf => ?_)
      · refine r_iload_n B (pc := 36) dX3_owedBy_36 rfl rfl ?_
        exact e_rz hf (nar_i _) (RET 37 _ dX3_owedBy_37)
      · refine r_aload_n B (pc := 15) dX3_owedBy_15 rfl rfl ?_
        refine r_iload_n B (pc := 16) dX3_owedBy_16 rfl rfl ?_
        refine r_iload_n B (pc := 17) dX3_owedBy_17 rfl rfl ?_
        obtain ⟨r2, hc1, hf⟩ := bdr_e hf
        refine r_cVI B (c_X3_isOwed X.l X.D K ad nw σ v3 x1 hc1) F_X3_isOwed lk_RX3_120 (q0 := 1) (ci := 3) rfl rfl (Nat.le_of_ble_eq_true rfl) (Nat.le_of_ble_eq_true rfl) (Nat.le_of_ble_eq_true rfl) (pc := 18) dX3_owedBy_18 rfl ?_
        refine r_if_eq B (pc := 21) (tgt := 30) dX3_owedBy_21 (by decide) hf (fun _ hf => ?_) (fun _ hf => ?_)
        · refine r_iincS B hnL (pc := 30) dX3_owedBy_30 rfl kc_1 (by decide) hf (fun y3 hf => ?_)
          refine r_lc (loc' := [some (.ref (ad 1)), some (.int x1), some (.int v2), some (.int y3)]) rfl ?_
          refine r_goto B (pc := 33) (tgt := 4) dX3_owedBy_33 (by decide) ?_
          exact r_mask [true, true, true, true] rfl (ih4 v2 y3 hf)
        · refine r_iload_n B (pc := 24) dX3_owedBy_24 rfl rfl ?_
          refine r_iconst B (pc := 25) dX3_owedBy_25 kc_1 ?_
          refine r_iload_n B (pc := 26) dX3_owedBy_26 rfl rfl ?_
          refine r_ishl B (pc := 27) dX3_owedBy_27 ?_
          refine r_ior B (pc := 28) dX3_owedBy_28 ?_
          refine r_nm hf (fun y4 hf => ?_)
          refine r_istore_n B hnL (pc := 29) dX3_owedBy_29 rfl (by decide) ?_
          refine r_lc (loc' := [some (.ref (ad 1)), some (.int x1), some (.int y4), some (.int v3)]) rfl ?_
          refine r_iincS B hnL (pc := 30) dX3_owedBy_30 rfl kc_1 (by decide) hf (fun y5 hf => ?_)
          refine r_lc (loc' := [some (.ref (ad 1)), some (.int x1), some (.int y4), some (.int y5)]) rfl ?_
          refine r_goto B (pc := 33) (tgt := 4) dX3_owedBy_33 (by decide) ?_
          exact r_mask [true, true, true, true] rfl (ih4 y4 y5 hf)
  exact r_mask [true, true, true, true] rfl (k4 FU 0 0 hf)
set_option maxHeartbeats 4000000 in
set_option maxRecDepth 20000 in
theorem c_X3_heardOf (l : Launch) (D : va_G) (K : Kt) (ad : Nat → Nat) (nw : Nat) (σ : St) (x1 : Int32) {r : Int32} (hf : f_X3_heardOf σ x1 = some r) : CtI l yX3_heardOf cX3_heardOf 4 (some .int) 1 21 D K [.ref (ad 1), .int x1] (wC ad K nw σ) r (wC ad K nw σ) := by
  refine met_i pl_RX3 (Nat.le_of_ble_eq_true rfl) (fun X hnL B RET => ?_)
  suffices h : MW X (wC ad K nw σ) 0 [some (.ref (ad 1)), some (.int x1), none, none] [] from h
  unfold f_X3_heardOf at hf
  refine r_iconst B (pc := 0) dX3_heardOf_0 kc_0 ?_
  refine r_istore_n B hnL (pc := 1) dX3_heardOf_1 rfl (by decide) ?_
  refine r_lc (loc' := [some (.ref (ad 1)), some (.int x1), some (.int 0), none]) rfl ?_
  refine r_iconst B (pc := 2) dX3_heardOf_2 kc_0 ?_
  refine r_istore_n B hnL (pc := 3) dX3_heardOf_3 rfl (by decide) ?_
  refine r_lc (loc' := [some (.ref (ad 1)), some (.int x1), some (.int 0), some (.int 0)]) rfl ?_
  have k4 : ∀ (n4 : Nat) (v2 : Int32) (v3 : Int32), f_X3_heardOf_h4 σ x1 n4 v2 v3 = some r → MW X (wC ad K nw σ) 4 [some (.ref (ad 1)), some (.int x1), some (.int v2), some (.int v3)] [] := by
    intro n4
    induction n4 with
    | zero => intro v2 v3 hf; exact nn_z hf
    | succ n4 ih4 =>
      intro v2 v3 hf
      rw [f_X3_heardOf_h4] at hf
      refine r_iload_n B (pc := 4) dX3_heardOf_4 rfl rfl ?_
      refine r_aload_n B (pc := 5) dX3_heardOf_5 rfl rfl ?_
      refine gC_RX3_12_1 B (pc := 6) dX3_heardOf_6 ?_
      refine gC_RX3_73_2 B (pc := 9) dX3_heardOf_9 ?_
      refine r_icmp_ge B (pc := 12) (tgt := 43) dX3_heardOf_12 (by decide) hf (fun _ hf => ?_) (fun _ hf => ?_)
      · refine r_iload_n B (pc := 43) dX3_heardOf_43 rfl rfl ?_
        exact e_rz hf (nar_i _) (RET 44 _ dX3_heardOf_44)
      · refine r_aload_n B (pc := 15) dX3_heardOf_15 rfl rfl ?_
        refine gC_RX3_12_1 B (pc := 16) dX3_heardOf_16 ?_
        refine gC_RX3_126_2 B (pc := 19) dX3_heardOf_19 ?_
        refine r_iload_n B (pc := 22) dX3_heardOf_22 rfl rfl ?_
        refine aldC_6 B (pc := 23) dX3_heardOf_23 hf (fun _ hf => ?_)
        refine r_iload_n B (pc := 24) dX3_heardOf_24 rfl rfl ?_
        refine r_cNI B (c_X6_has X.l X.D K _ (σ.1 6 (ix v3)) x1) F_X6_has nk_RX3_108 (Nat.le_of_ble_eq_true rfl) (Nat.le_of_ble_eq_true rfl) (Nat.le_of_ble_eq_true rfl) (pc := 25) dX3_heardOf_25 rfl ?_
        refine r_if_eq B (pc := 28) (tgt := 37) dX3_heardOf_28 (by decide) hf (fun _ hf => ?_) (fun _ hf => ?_)
        · refine r_iincS B hnL (pc := 37) dX3_heardOf_37 rfl kc_1 (by decide) hf (fun y1 hf => ?_)
          refine r_lc (loc' := [some (.ref (ad 1)), some (.int x1), some (.int v2), some (.int y1)]) rfl ?_
          refine r_goto B (pc := 40) (tgt := 4) dX3_heardOf_40 (by decide) ?_
          exact r_mask [true, true, true, true] rfl (ih4 v2 y1 hf)
        · refine r_iload_n B (pc := 31) dX3_heardOf_31 rfl rfl ?_
          refine r_iconst B (pc := 32) dX3_heardOf_32 kc_1 ?_
          refine r_iload_n B (pc := 33) dX3_heardOf_33 rfl rfl ?_
          refine r_ishl B (pc := 34) dX3_heardOf_34 ?_
          refine r_ior B (pc := 35) dX3_heardOf_35 ?_
          refine r_nm hf (fun y2 hf => ?_)
          refine r_istore_n B hnL (pc := 36) dX3_heardOf_36 rfl (by decide) ?_
          refine r_lc (loc' := [some (.ref (ad 1)), some (.int x1), some (.int y2), some (.int v3)]) rfl ?_
          refine r_iincS B hnL (pc := 37) dX3_heardOf_37 rfl kc_1 (by decide) hf (fun y3 hf => ?_)
          refine r_lc (loc' := [some (.ref (ad 1)), some (.int x1), some (.int y2), some (.int y3)]) rfl ?_
          refine r_goto B (pc := 40) (tgt := 4) dX3_heardOf_40 (by decide) ?_
          exact r_mask [true, true, true, true] rfl (ih4 y2 y3 hf)
  exact r_mask [true, true, true, true] rfl (k4 FU 0 0 hf)
set_option maxHeartbeats 4000000 in
set_option maxRecDepth 20000 in
theorem c_X6_of (l : Launch) (D : va_G) (K : Kt) (ad : Nat → Nat) (nw : Nat) (σ : St) (x1 : Int32) (x2 : Int32) {r : Int32} (hf : f_X6_of σ x1 x2 = some r) : CtI l yX6_of cX6_of 3 (some .int) 3 67 D K [.ref (ad 0), .int x1, .int x2] (wC ad K nw σ) r (wC ad K nw σ) := by
  refine met_i pl_RX6 (Nat.le_of_ble_eq_true rfl) (fun X hnL B RET => ?_)
  suffices h : MW X (wC ad K nw σ) 0 [some (.ref (ad 0)), some (.int x1), some (.int x2)] [] from h
  unfold f_X6_of at hf
  refine r_aload_n B (pc := 0) dX6_of_0 rfl rfl ?_
  refine r_iload_n B (pc := 1) dX6_of_1 rfl rfl ?_
  refine r_i2l B (pc := 2) dX6_of_2 ?_
  refine r_cVI B (c_X6_isNews X.l X.D K ad nw σ (x1.toInt64)) F_X6_isNews lk_RX6_107 (q0 := 0) (ci := 6) rfl rfl (Nat.le_of_ble_eq_true rfl) (Nat.le_of_ble_eq_true rfl) (Nat.le_of_ble_eq_true rfl) (pc := 3) dX6_of_3 rfl ?_
  refine r_if_ne B (pc := 6) (tgt := 11) dX6_of_6 (by decide) hf (fun _ hf => ?_) (fun _ hf => ?_)
  · refine r_iload_n B (pc := 11) dX6_of_11 rfl rfl ?_
    by_cases q12_0 : x2 = 0
    · have hf := it_t hf q12_0
      refine r_tsw B (pc := 12) (off := 40) (tgt := 52) dX6_of_12 (by rw [q12_0]; decide) (by rw [q12_0]; decide) (by rw [q12_0]; decide) (by decide) ?_
      refine r_aload_n B (pc := 52) dX6_of_52 rfl rfl ?_
      refine gC_RX6_10_0 B (pc := 53) dX6_of_53 ?_
      refine gC_RX6_96_1 B (pc := 56) dX6_of_56 ?_
      refine gC_RX6_153_9 B (pc := 59) dX6_of_59 ?_
      refine r_iload_n B (pc := 62) dX6_of_62 rfl rfl ?_
      refine aldC_10 B (pc := 63) dX6_of_63 hf (fun _ hf => ?_)
      exact e_rz hf (nar_i _) (RET 64 _ dX6_of_64)
    have hf := it_f hf q12_0
    by_cases q12_1 : x2 = 1
    · have hf := it_t hf q12_1
      refine r_tsw B (pc := 12) (off := 53) (tgt := 65) dX6_of_12 (by rw [q12_1]; decide) (by rw [q12_1]; decide) (by rw [q12_1]; decide) (by decide) ?_
      refine r_aload_n B (pc := 65) dX6_of_65 rfl rfl ?_
      refine gC_RX6_10_0 B (pc := 66) dX6_of_66 ?_
      refine gC_RX6_96_1 B (pc := 69) dX6_of_69 ?_
      refine gC_RX6_154_9 B (pc := 72) dX6_of_72 ?_
      refine r_iload_n B (pc := 75) dX6_of_75 rfl rfl ?_
      refine aldC_11 B (pc := 76) dX6_of_76 hf (fun _ hf => ?_)
      exact e_rz hf (nar_i _) (RET 77 _ dX6_of_77)
    have hf := it_f hf q12_1
    by_cases q12_2 : x2 = 2
    · have hf := it_t hf q12_2
      refine r_tsw B (pc := 12) (off := 66) (tgt := 78) dX6_of_12 (by rw [q12_2]; decide) (by rw [q12_2]; decide) (by rw [q12_2]; decide) (by decide) ?_
      refine r_aload_n B (pc := 78) dX6_of_78 rfl rfl ?_
      refine gC_RX6_10_0 B (pc := 79) dX6_of_79 ?_
      refine gC_RX6_96_1 B (pc := 82) dX6_of_82 ?_
      refine gC_RX6_110_9 B (pc := 85) dX6_of_85 ?_
      refine r_iload_n B (pc := 88) dX6_of_88 rfl rfl ?_
      refine aldC_12 B (pc := 89) dX6_of_89 hf (fun _ hf => ?_)
      exact e_rz hf (nar_i _) (RET 90 _ dX6_of_90)
    have hf := it_f hf q12_2
    by_cases q12_3 : x2 = 3
    · have hf := it_t hf q12_3
      refine r_tsw B (pc := 12) (off := 79) (tgt := 91) dX6_of_12 (by rw [q12_3]; decide) (by rw [q12_3]; decide) (by rw [q12_3]; decide) (by decide) ?_
      refine r_aload_n B (pc := 91) dX6_of_91 rfl rfl ?_
      refine gC_RX6_10_0 B (pc := 92) dX6_of_92 ?_
      refine gC_RX6_96_1 B (pc := 95) dX6_of_95 ?_
      refine gC_RX6_157_9 B (pc := 98) dX6_of_98 ?_
      refine r_iload_n B (pc := 101) dX6_of_101 rfl rfl ?_
      refine aldC_13 B (pc := 102) dX6_of_102 hf (fun _ hf => ?_)
      exact e_rz hf (nar_i _) (RET 103 _ dX6_of_103)
    have hf := it_f hf q12_3
    by_cases q12_4 : x2 = 4
    · have hf := it_t hf q12_4
      refine r_tsw B (pc := 12) (off := 92) (tgt := 104) dX6_of_12 (by rw [q12_4]; decide) (by rw [q12_4]; decide) (by rw [q12_4]; decide) (by decide) ?_
      refine r_aload_n B (pc := 104) dX6_of_104 rfl rfl ?_
      refine gC_RX6_10_0 B (pc := 105) dX6_of_105 ?_
      refine r_iload_n B (pc := 108) dX6_of_108 rfl rfl ?_
      obtain ⟨r2, hc1, hf⟩ := bdr_e hf
      refine r_cVI B (c_X3_owedBy X.l X.D K ad nw σ x1 hc1) F_X3_owedBy lk_RX6_160 (q0 := 1) (ci := 3) rfl rfl (Nat.le_of_ble_eq_true rfl) (Nat.le_of_ble_eq_true rfl) (Nat.le_of_ble_eq_true rfl) (pc := 109) dX6_of_109 rfl ?_
      exact e_rz hf (nar_i _) (RET 112 _ dX6_of_112)
    have hf := it_f hf q12_4
    by_cases q12_5 : x2 = 5
    · have hf := it_t hf q12_5
      refine r_tsw B (pc := 12) (off := 101) (tgt := 113) dX6_of_12 (by rw [q12_5]; decide) (by rw [q12_5]; decide) (by rw [q12_5]; decide) (by decide) ?_
      refine r_aload_n B (pc := 113) dX6_of_113 rfl rfl ?_
      refine gC_RX6_10_0 B (pc := 114) dX6_of_114 ?_
      refine r_iload_n B (pc := 117) dX6_of_117 rfl rfl ?_
      obtain ⟨r4, hc3, hf⟩ := bdr_e hf
      refine r_cVI B (c_X3_heardOf X.l X.D K ad nw σ x1 hc3) F_X3_heardOf lk_RX6_163 (q0 := 1) (ci := 3) rfl rfl (Nat.le_of_ble_eq_true rfl) (Nat.le_of_ble_eq_true rfl) (Nat.le_of_ble_eq_true rfl) (pc := 118) dX6_of_118 rfl ?_
      exact e_rz hf (nar_i _) (RET 121 _ dX6_of_121)
    have hf := it_f hf q12_5
    refine r_tswd B (pc := 12) (tgt := 122) dX6_of_12 (sw_out 6 0 (fun k hk => match k, hk with | 0, _ => fun e => q12_0 (Int32.toInt_inj.mp (e.trans (by decide))) | 1, _ => fun e => q12_1 (Int32.toInt_inj.mp (e.trans (by decide))) | 2, _ => fun e => q12_2 (Int32.toInt_inj.mp (e.trans (by decide))) | 3, _ => fun e => q12_3 (Int32.toInt_inj.mp (e.trans (by decide))) | 4, _ => fun e => q12_4 (Int32.toInt_inj.mp (e.trans (by decide))) | 5, _ => fun e => q12_5 (Int32.toInt_inj.mp (e.trans (by decide))))) (by decide) ?_
    refine r_iconst B (pc := 122) dX6_of_122 kc_m1 ?_
    exact e_rz hf (nar_i _) (RET 123 _ dX6_of_123)
  · refine r_iconst B (pc := 9) dX6_of_9 kc_m1 ?_
    exact e_rz hf (nar_i _) (RET 10 _ dX6_of_10)
set_option maxHeartbeats 4000000 in
set_option maxRecDepth 20000 in
theorem c_X5_add (l : Launch) (D : va_G) (K : Kt) (ad : Nat → Nat) (nw : Nat) (σ : St) (x1 : Int32) {τ : St} (hf : f_X5_add σ x1 = some τ) : CtV l yX5_add cX5_add 2 none 0 0 D K [.ref (ad 37), .int x1] (wC ad K nw σ) (wC ad K nw τ) := by
  refine met_v pl_RX5 (Nat.le_of_ble_eq_true rfl) (fun X hnL B RET => ?_)
  suffices h : MW X (wC ad K nw σ) 0 [some (.ref (ad 37)), some (.int x1)] [] from h
  unfold f_X5_add at hf
  refine r_aload_n B (pc := 0) dX5_add_0 rfl rfl ?_
  refine gC_RX5_9_37 B (pc := 1) dX5_add_1 ?_
  refine r_sipush B (pc := 4) dX5_add_4 ks_160 ?_
  refine r_icmp_lt B (pc := 7) (tgt := 11) dX5_add_7 (by decide) hf (fun _ hf => ?_) (fun _ hf => ?_)
  · refine r_aload_n B (pc := 11) dX5_add_11 rfl rfl ?_
    refine gC_RX5_18_37 B (pc := 12) dX5_add_12 ?_
    refine r_aload_n B (pc := 15) dX5_add_15 rfl rfl ?_
    refine gC_RX5_9_37 B (pc := 16) dX5_add_16 ?_
    refine r_iload_n B (pc := 19) dX5_add_19 rfl rfl ?_
    refine r_i2b B (pc := 20) dX5_add_20 ?_
    refine astC_38 B (pc := 21) dX5_add_21 hf (fun s1 _ hf => ?_)
    refine r_aload_n B (pc := 22) dX5_add_22 rfl rfl ?_
    refine r_dup B (pc := 23) dX5_add_23 rfl ?_
    refine gC_RX5_9_37 B (pc := 24) dX5_add_24 ?_
    refine r_iconst B (pc := 27) dX5_add_27 kc_1 ?_
    refine r_iadd B (pc := 28) dX5_add_28 ?_
    refine pC_RX5_9_37 B (pc := 29) dX5_add_29 hf (fun s2 hf => ?_)
    exact e_s (F := (wC ad K nw)) hf (RET 32 _ dX5_add_32)
  · exact e_s (F := (wC ad K nw)) hf (RET 10 _ dX5_add_10)
set_option maxHeartbeats 4000000 in
set_option maxRecDepth 20000 in
theorem c_X6_type (l : Launch) (D : va_G) (K : Kt) (ad : Nat → Nat) (nw : Nat) (σ : St) (x1 : Int32) {r : Int32} {τ : St} (hf : f_X6_type σ x1 = some (r, τ)) : CtI l yX6_type cX6_type 2 (some .int) 1 21 D K [.ref (ad 0), .int x1] (wC ad K nw σ) r (wC ad K nw τ) := by
  refine met_i pl_RX6 (Nat.le_of_ble_eq_true rfl) (fun X hnL B RET => ?_)
  suffices h : MW X (wC ad K nw σ) 0 [some (.ref (ad 0)), some (.int x1)] [] from h
  unfold f_X6_type at hf
  refine r_iload_n B (pc := 0) dX6_type_0 rfl rfl ?_
  refine r_bipush B (pc := 1) dX6_type_1 kb_32 ?_
  refine r_icmp_lt B (pc := 3) (tgt := 12) dX6_type_3 (by decide) hf (fun _ hf => ?_) (fun _ hf => ?_)
  · refine r_iconst B (pc := 12) dX6_type_12 kc_m1 ?_
    exact e_pz (F := (wC ad K nw)) hf (nar_i _) (RET 13 _ dX6_type_13)
  · refine r_iload_n B (pc := 6) dX6_type_6 rfl rfl ?_
    refine r_bipush B (pc := 7) dX6_type_7 kb_126 ?_
    refine r_icmp_le B (pc := 9) (tgt := 14) dX6_type_9 (by decide) hf (fun _ hf => ?_) (fun _ hf => ?_)
    · refine r_aload_n B (pc := 14) dX6_type_14 rfl rfl ?_
      refine gC_RX6_26_0 B (pc := 15) dX6_type_15 ?_
      refine gC_RX6_166_37 B (pc := 18) dX6_type_18 ?_
      refine r_sipush B (pc := 21) dX6_type_21 ks_160 ?_
      refine r_icmp_lt B (pc := 24) (tgt := 30) dX6_type_24 (by decide) hf (fun _ hf => ?_) (fun _ hf => ?_)
      · refine r_aload_n B (pc := 30) dX6_type_30 rfl rfl ?_
        refine gC_RX6_26_0 B (pc := 31) dX6_type_31 ?_
        refine r_iload_n B (pc := 34) dX6_type_34 rfl rfl ?_
        obtain ⟨s2, hc1, hf⟩ := bdr_e hf
        refine r_cVV B (c_X5_add X.l X.D K ad nw σ x1 hc1) F_X5_add lk_RX6_167 (q0 := 37) (ci := 5) rfl rfl (Nat.le_of_ble_eq_true rfl) (Nat.le_of_ble_eq_true rfl) (Nat.le_of_ble_eq_true rfl) (pc := 35) dX6_type_35 rfl ?_
        refine r_aload_n B (pc := 38) dX6_type_38 rfl rfl ?_
        refine gC_RX6_26_0 B (pc := 39) dX6_type_39 ?_
        refine gC_RX6_166_37 B (pc := 42) dX6_type_42 ?_
        exact e_pz (F := (wC ad K nw)) hf (nar_i _) (RET 45 _ dX6_type_45)
      · refine r_bipush B (pc := 27) dX6_type_27 kb_m3 ?_
        exact e_pz (F := (wC ad K nw)) hf (nar_i _) (RET 29 _ dX6_type_29)
    · refine r_iconst B (pc := 12) dX6_type_12 kc_m1 ?_
      exact e_pz (F := (wC ad K nw)) hf (nar_i _) (RET 13 _ dX6_type_13)
set_option maxHeartbeats 4000000 in
set_option maxRecDepth 20000 in
theorem c_X5_nextLetter (l : Launch) (D : va_G) (K : Kt) (ad : Nat → Nat) (nw : Nat) (σ : St) {r : Int32} {τ : St} (hf : f_X5_nextLetter σ = some (r, τ)) : CtI l yX5_nextLetter cX5_nextLetter 1 (some .int) 0 0 D K [.ref (ad 37)] (wC ad K nw σ) r (wC ad K nw τ) := by
  refine met_i pl_RX5 (Nat.le_of_ble_eq_true rfl) (fun X hnL B RET => ?_)
  suffices h : MW X (wC ad K nw σ) 0 [some (.ref (ad 37))] [] from h
  unfold f_X5_nextLetter at hf
  have k0 : ∀ (n0 : Nat) (σ0 : St), f_X5_nextLetter_h0 n0 σ0 = some (r, τ) → MW X (wC ad K nw σ0) 0 [some (.ref (ad 37))] [] := by
    intro n0
    induction n0 with
    | zero => intro σ0 hf; exact nn_z hf
    | succ n0 ih0 =>
      intro σ0 hf
      rw [f_X5_nextLetter_h0] at hf
      refine r_aload_n B (pc := 0) dX5_nextLetter_0 rfl rfl ?_
      refine gC_RX5_15_37 B (pc := 1) dX5_nextLetter_1 ?_
      refine r_aload_n B (pc := 4) dX5_nextLetter_4 rfl rfl ?_
      refine gC_RX5_9_37 B (pc := 5) dX5_nextLetter_5 ?_
      refine r_icmp_ge B (pc := 8) (tgt := 48) dX5_nextLetter_8 (by decide) hf (fun _ hf => ?_) (fun _ hf => ?_)
      · refine r_iconst B (pc := 48) dX5_nextLetter_48 kc_m1 ?_
        exact e_pz (F := (wC ad K nw)) hf (nar_i _) (RET 49 _ dX5_nextLetter_49)
      · refine r_aload_n B (pc := 11) dX5_nextLetter_11 rfl rfl ?_
        refine gC_RX5_18_37 B (pc := 12) dX5_nextLetter_12 ?_
        refine r_aload_n B (pc := 15) dX5_nextLetter_15 rfl rfl ?_
        refine gC_RX5_15_37 B (pc := 16) dX5_nextLetter_16 ?_
        refine aldC_38 B (pc := 19) dX5_nextLetter_19 hf (fun _ hf => ?_)
        refine r_bipush B (pc := 20) dX5_nextLetter_20 kb_32 ?_
        refine r_icmp_eq B (pc := 22) (tgt := 35) dX5_nextLetter_22 (by decide) hf (fun _ hf => ?_) (fun _ hf => ?_)
        · refine r_aload_n B (pc := 35) dX5_nextLetter_35 rfl rfl ?_
          refine r_dup B (pc := 36) dX5_nextLetter_36 rfl ?_
          refine gC_RX5_15_37 B (pc := 37) dX5_nextLetter_37 ?_
          refine r_iconst B (pc := 40) dX5_nextLetter_40 kc_1 ?_
          refine r_iadd B (pc := 41) dX5_nextLetter_41 ?_
          refine pC_RX5_15_37 B (pc := 42) dX5_nextLetter_42 hf (fun s1 hf => ?_)
          refine r_goto B (pc := 45) (tgt := 0) dX5_nextLetter_45 (by decide) ?_
          exact r_mask [true] rfl (ih0 s1 hf)
        · refine r_aload_n B (pc := 25) dX5_nextLetter_25 rfl rfl ?_
          refine gC_RX5_18_37 B (pc := 26) dX5_nextLetter_26 ?_
          refine r_aload_n B (pc := 29) dX5_nextLetter_29 rfl rfl ?_
          refine gC_RX5_15_37 B (pc := 30) dX5_nextLetter_30 ?_
          refine aldC_38 B (pc := 33) dX5_nextLetter_33 hf (fun _ hf => ?_)
          exact e_pz (F := (wC ad K nw)) hf (nar_i _) (RET 34 _ dX5_nextLetter_34)
  exact r_mask [true] rfl (k0 FU σ hf)
set_option maxHeartbeats 4000000 in
set_option maxRecDepth 20000 in
theorem c_X5_kindOf (l : Launch) (D : va_G) (K : Kt) (w : va_W) (x0 : Int32) : CtI l yX5_kindOf cX5_kindOf 1 (some .int) 0 0 D K [.int x0] w (f_X5_kindOf x0) w := by
  refine met_i pl_RX5 (Nat.le_of_ble_eq_true rfl) (fun X hnL B RET => ?_)
  generalize hf : f_X5_kindOf x0 = r at RET
  suffices h : MW X w 0 [some (.int x0)] [] from h
  unfold f_X5_kindOf at hf
  refine r_iload_n B (pc := 0) dX5_kindOf_0 rfl rfl ?_
  by_cases q1_100 : x0 = 100
  · have hf := it_t hf q1_100
    refine r_tsw B (pc := 1) (off := 69) (tgt := 70) dX5_kindOf_1 (by rw [q1_100]; decide) (by rw [q1_100]; decide) (by rw [q1_100]; decide) (by decide) ?_
    refine r_iconst B (pc := 70) dX5_kindOf_70 kc_1 ?_
    exact e_tz hf (nar_i _) (RET 71 _ dX5_kindOf_71)
  have hf := it_f hf q1_100
  by_cases q1_101 : x0 = 101
  · have hf := it_t hf q1_101
    refine r_tsw B (pc := 1) (off := 73) (tgt := 74) dX5_kindOf_1 (by rw [q1_101]; decide) (by rw [q1_101]; decide) (by rw [q1_101]; decide) (by decide) ?_
    refine r_iconst B (pc := 74) dX5_kindOf_74 kc_3 ?_
    exact e_tz hf (nar_i _) (RET 75 _ dX5_kindOf_75)
  have hf := it_f hf q1_101
  by_cases q1_102 : x0 = 102
  · have hf := it_t hf q1_102
    refine r_tsw B (pc := 1) (off := 75) (tgt := 76) dX5_kindOf_1 (by rw [q1_102]; decide) (by rw [q1_102]; decide) (by rw [q1_102]; decide) (by decide) ?_
    refine r_iconst B (pc := 76) dX5_kindOf_76 kc_4 ?_
    exact e_tz hf (nar_i _) (RET 77 _ dX5_kindOf_77)
  have hf := it_f hf q1_102
  by_cases q1_103 : x0 = 103
  · have hf := it_t hf q1_103
    refine r_tsw B (pc := 1) (off := 79) (tgt := 80) dX5_kindOf_1 (by rw [q1_103]; decide) (by rw [q1_103]; decide) (by rw [q1_103]; decide) (by decide) ?_
    refine r_iconst B (pc := 80) dX5_kindOf_80 kc_m1 ?_
    exact e_tz hf (nar_i _) (RET 81 _ dX5_kindOf_81)
  have hf := it_f hf q1_103
  by_cases q1_104 : x0 = 104
  · have hf := it_t hf q1_104
    refine r_tsw B (pc := 1) (off := 79) (tgt := 80) dX5_kindOf_1 (by rw [q1_104]; decide) (by rw [q1_104]; decide) (by rw [q1_104]; decide) (by decide) ?_
    refine r_iconst B (pc := 80) dX5_kindOf_80 kc_m1 ?_
    exact e_tz hf (nar_i _) (RET 81 _ dX5_kindOf_81)
  have hf := it_f hf q1_104
  by_cases q1_105 : x0 = 105
  · have hf := it_t hf q1_105
    refine r_tsw B (pc := 1) (off := 71) (tgt := 72) dX5_kindOf_1 (by rw [q1_105]; decide) (by rw [q1_105]; decide) (by rw [q1_105]; decide) (by decide) ?_
    refine r_iconst B (pc := 72) dX5_kindOf_72 kc_2 ?_
    exact e_tz hf (nar_i _) (RET 73 _ dX5_kindOf_73)
  have hf := it_f hf q1_105
  by_cases q1_106 : x0 = 106
  · have hf := it_t hf q1_106
    refine r_tsw B (pc := 1) (off := 79) (tgt := 80) dX5_kindOf_1 (by rw [q1_106]; decide) (by rw [q1_106]; decide) (by rw [q1_106]; decide) (by decide) ?_
    refine r_iconst B (pc := 80) dX5_kindOf_80 kc_m1 ?_
    exact e_tz hf (nar_i _) (RET 81 _ dX5_kindOf_81)
  have hf := it_f hf q1_106
  by_cases q1_107 : x0 = 107
  · have hf := it_t hf q1_107
    refine r_tsw B (pc := 1) (off := 79) (tgt := 80) dX5_kindOf_1 (by rw [q1_107]; decide) (by rw [q1_107]; decide) (by rw [q1_107]; decide) (by decide) ?_
    refine r_iconst B (pc := 80) dX5_kindOf_80 kc_m1 ?_
    exact e_tz hf (nar_i _) (RET 81 _ dX5_kindOf_81)
  have hf := it_f hf q1_107
  by_cases q1_108 : x0 = 108
  · have hf := it_t hf q1_108
    refine r_tsw B (pc := 1) (off := 79) (tgt := 80) dX5_kindOf_1 (by rw [q1_108]; decide) (by rw [q1_108]; decide) (by rw [q1_108]; decide) (by decide) ?_
    refine r_iconst B (pc := 80) dX5_kindOf_80 kc_m1 ?_
    exact e_tz hf (nar_i _) (RET 81 _ dX5_kindOf_81)
  have hf := it_f hf q1_108
  by_cases q1_109 : x0 = 109
  · have hf := it_t hf q1_109
    refine r_tsw B (pc := 1) (off := 79) (tgt := 80) dX5_kindOf_1 (by rw [q1_109]; decide) (by rw [q1_109]; decide) (by rw [q1_109]; decide) (by decide) ?_
    refine r_iconst B (pc := 80) dX5_kindOf_80 kc_m1 ?_
    exact e_tz hf (nar_i _) (RET 81 _ dX5_kindOf_81)
  have hf := it_f hf q1_109
  by_cases q1_110 : x0 = 110
  · have hf := it_t hf q1_110
    refine r_tsw B (pc := 1) (off := 77) (tgt := 78) dX5_kindOf_1 (by rw [q1_110]; decide) (by rw [q1_110]; decide) (by rw [q1_110]; decide) (by decide) ?_
    refine r_iconst B (pc := 78) dX5_kindOf_78 kc_5 ?_
    exact e_tz hf (nar_i _) (RET 79 _ dX5_kindOf_79)
  have hf := it_f hf q1_110
  by_cases q1_111 : x0 = 111
  · have hf := it_t hf q1_111
    refine r_tsw B (pc := 1) (off := 79) (tgt := 80) dX5_kindOf_1 (by rw [q1_111]; decide) (by rw [q1_111]; decide) (by rw [q1_111]; decide) (by decide) ?_
    refine r_iconst B (pc := 80) dX5_kindOf_80 kc_m1 ?_
    exact e_tz hf (nar_i _) (RET 81 _ dX5_kindOf_81)
  have hf := it_f hf q1_111
  by_cases q1_112 : x0 = 112
  · have hf := it_t hf q1_112
    refine r_tsw B (pc := 1) (off := 67) (tgt := 68) dX5_kindOf_1 (by rw [q1_112]; decide) (by rw [q1_112]; decide) (by rw [q1_112]; decide) (by decide) ?_
    refine r_iconst B (pc := 68) dX5_kindOf_68 kc_0 ?_
    exact e_tz hf (nar_i _) (RET 69 _ dX5_kindOf_69)
  have hf := it_f hf q1_112
  refine r_tswd B (pc := 1) (tgt := 80) dX5_kindOf_1 (sw_out 13 100 (fun k hk => match k, hk with | 0, _ => fun e => q1_100 (Int32.toInt_inj.mp (e.trans (by decide))) | 1, _ => fun e => q1_101 (Int32.toInt_inj.mp (e.trans (by decide))) | 2, _ => fun e => q1_102 (Int32.toInt_inj.mp (e.trans (by decide))) | 3, _ => fun e => q1_103 (Int32.toInt_inj.mp (e.trans (by decide))) | 4, _ => fun e => q1_104 (Int32.toInt_inj.mp (e.trans (by decide))) | 5, _ => fun e => q1_105 (Int32.toInt_inj.mp (e.trans (by decide))) | 6, _ => fun e => q1_106 (Int32.toInt_inj.mp (e.trans (by decide))) | 7, _ => fun e => q1_107 (Int32.toInt_inj.mp (e.trans (by decide))) | 8, _ => fun e => q1_108 (Int32.toInt_inj.mp (e.trans (by decide))) | 9, _ => fun e => q1_109 (Int32.toInt_inj.mp (e.trans (by decide))) | 10, _ => fun e => q1_110 (Int32.toInt_inj.mp (e.trans (by decide))) | 11, _ => fun e => q1_111 (Int32.toInt_inj.mp (e.trans (by decide))) | 12, _ => fun e => q1_112 (Int32.toInt_inj.mp (e.trans (by decide))))) (by decide) ?_
  refine r_iconst B (pc := 80) dX5_kindOf_80 kc_m1 ?_
  exact e_tz hf (nar_i _) (RET 81 _ dX5_kindOf_81)
set_option maxHeartbeats 4000000 in
set_option maxRecDepth 20000 in
theorem c_X5_takeFigure (l : Launch) (D : va_G) (K : Kt) (ad : Nat → Nat) (nw : Nat) (σ : St) (x1 : Int32) {r : Int32} {τ : St} (hf : f_X5_takeFigure σ x1 = some (r, τ)) : CtI l yX5_takeFigure cX5_takeFigure 3 (some .int) 1 20 D K [.ref (ad 37), .int x1] (wC ad K nw σ) r (wC ad K nw τ) := by
  refine met_i pl_RX5 (Nat.le_of_ble_eq_true rfl) (fun X hnL B RET => ?_)
  suffices h : MW X (wC ad K nw σ) 0 [some (.ref (ad 37)), some (.int x1), none] [] from h
  unfold f_X5_takeFigure at hf
  refine r_aload_n B (pc := 0) dX5_takeFigure_0 rfl rfl ?_
  obtain ⟨r2, s3, hc1, hf⟩ := bdp_e hf
  refine r_cVI B (c_X5_nextLetter X.l X.D K ad nw σ hc1) F_X5_nextLetter lk_RX5_29 (q0 := 37) (ci := 5) rfl rfl (Nat.le_of_ble_eq_true rfl) (Nat.le_of_ble_eq_true rfl) (Nat.le_of_ble_eq_true rfl) (pc := 1) dX5_takeFigure_1 rfl ?_
  refine r_bipush B (pc := 4) dX5_takeFigure_4 kb_48 ?_
  refine r_isub B (pc := 6) dX5_takeFigure_6 ?_
  refine r_nm hf (fun y4 hf => ?_)
  refine r_istore_n B hnL (pc := 7) dX5_takeFigure_7 rfl (by decide) ?_
  refine r_lc (loc' := [some (.ref (ad 37)), some (.int x1), some (.int y4)]) rfl ?_
  refine r_iload_n B (pc := 8) dX5_takeFigure_8 rfl rfl ?_
  refine r_if_lt B (pc := 9) (tgt := 17) dX5_takeFigure_9 (by decide) hf (fun _ hf => ?_) (fun _ hf => ?_)
  · refine r_iconst B (pc := 17) dX5_takeFigure_17 kc_m1 ?_
    exact e_pz (F := (wC ad K nw)) hf (nar_i _) (RET 18 _ dX5_takeFigure_18)
  · refine r_iload_n B (pc := 12) dX5_takeFigure_12 rfl rfl ?_
    refine r_iload_n B (pc := 13) dX5_takeFigure_13 rfl rfl ?_
    refine r_icmp_lt B (pc := 14) (tgt := 19) dX5_takeFigure_14 (by decide) hf (fun _ hf => ?_) (fun _ hf => ?_)
    · refine r_aload_n B (pc := 19) dX5_takeFigure_19 rfl rfl ?_
      refine r_dup B (pc := 20) dX5_takeFigure_20 rfl ?_
      refine gC_RX5_15_37 B (pc := 21) dX5_takeFigure_21 ?_
      refine r_iconst B (pc := 24) dX5_takeFigure_24 kc_1 ?_
      refine r_iadd B (pc := 25) dX5_takeFigure_25 ?_
      refine pC_RX5_15_37 B (pc := 26) dX5_takeFigure_26 hf (fun s5 hf => ?_)
      refine r_iload_n B (pc := 29) dX5_takeFigure_29 rfl rfl ?_
      exact e_pz (F := (wC ad K nw)) hf (nar_i _) (RET 30 _ dX5_takeFigure_30)
    · refine r_iconst B (pc := 17) dX5_takeFigure_17 kc_m1 ?_
      exact e_pz (F := (wC ad K nw)) hf (nar_i _) (RET 18 _ dX5_takeFigure_18)
set_option maxHeartbeats 4000000 in
set_option maxRecDepth 20000 in
theorem c_X5_takes (l : Launch) (D : va_G) (K : Kt) (ad : Nat → Nat) (nw : Nat) (σ : St) (x1 : Int32) {r : Int32} {τ : St} (hf : f_X5_takes σ x1 = some (r, τ)) : CtI l yX5_takes cX5_takes 2 (some .boolean) 1 20 D K [.ref (ad 37), .int x1] (wC ad K nw σ) r (wC ad K nw τ) := by
  refine met_i pl_RX5 (Nat.le_of_ble_eq_true rfl) (fun X hnL B RET => ?_)
  suffices h : MW X (wC ad K nw σ) 0 [some (.ref (ad 37)), some (.int x1)] [] from h
  unfold f_X5_takes at hf
  refine r_aload_n B (pc := 0) dX5_takes_0 rfl rfl ?_
  obtain ⟨r2, s3, hc1, hf⟩ := bdp_e hf
  refine r_cVI B (c_X5_nextLetter X.l X.D K ad nw σ hc1) F_X5_nextLetter lk_RX5_29 (q0 := 37) (ci := 5) rfl rfl (Nat.le_of_ble_eq_true rfl) (Nat.le_of_ble_eq_true rfl) (Nat.le_of_ble_eq_true rfl) (pc := 1) dX5_takes_1 rfl ?_
  refine r_iload_n B (pc := 4) dX5_takes_4 rfl rfl ?_
  refine r_icmp_eq B (pc := 5) (tgt := 10) dX5_takes_5 (by decide) hf (fun _ hf => ?_) (fun _ hf => ?_)
  · refine r_aload_n B (pc := 10) dX5_takes_10 rfl rfl ?_
    refine r_dup B (pc := 11) dX5_takes_11 rfl ?_
    refine gC_RX5_15_37 B (pc := 12) dX5_takes_12 ?_
    refine r_iconst B (pc := 15) dX5_takes_15 kc_1 ?_
    refine r_iadd B (pc := 16) dX5_takes_16 ?_
    refine pC_RX5_15_37 B (pc := 17) dX5_takes_17 hf (fun s4 hf => ?_)
    refine r_iconst B (pc := 20) dX5_takes_20 kc_1 ?_
    exact e_pz (F := (wC ad K nw)) hf rfl (RET 21 _ dX5_takes_21)
  · refine r_iconst B (pc := 8) dX5_takes_8 kc_0 ?_
    exact e_pz (F := (wC ad K nw)) hf rfl (RET 9 _ dX5_takes_9)
set_option maxHeartbeats 4000000 in
set_option maxRecDepth 20000 in
theorem c_X5_takeNumber (l : Launch) (D : va_G) (K : Kt) (ad : Nat → Nat) (nw : Nat) (σ : St) (x1 : Int32) {r : Int32} {τ : St} (hf : f_X5_takeNumber σ x1 = some (r, τ)) : CtI l yX5_takeNumber cX5_takeNumber 4 (some .int) 1 21 D K [.ref (ad 37), .int x1] (wC ad K nw σ) r (wC ad K nw τ) := by
  refine met_i pl_RX5 (Nat.le_of_ble_eq_true rfl) (fun X hnL B RET => ?_)
  suffices h : MW X (wC ad K nw σ) 0 [some (.ref (ad 37)), some (.int x1), none, none] [] from h
  unfold f_X5_takeNumber at hf
  refine r_aload_n B (pc := 0) dX5_takeNumber_0 rfl rfl ?_
  obtain ⟨r2, s3, hc1, hf⟩ := bdp_e hf
  refine r_cVI B (c_X5_nextLetter X.l X.D K ad nw σ hc1) F_X5_nextLetter lk_RX5_29 (q0 := 37) (ci := 5) rfl rfl (Nat.le_of_ble_eq_true rfl) (Nat.le_of_ble_eq_true rfl) (Nat.le_of_ble_eq_true rfl) (pc := 1) dX5_takeNumber_1 rfl ?_
  refine r_pop B (pc := 4) dX5_takeNumber_4 rfl ?_
  refine r_aload_n B (pc := 5) dX5_takeNumber_5 rfl rfl ?_
  refine gC_RX5_15_37 B (pc := 6) dX5_takeNumber_6 ?_
  refine r_nm hf (fun y4 hf => ?_)
  refine r_istore_n B hnL (pc := 9) dX5_takeNumber_9 rfl (by decide) ?_
  refine r_lc (loc' := [some (.ref (ad 37)), some (.int x1), some (.int y4), none]) rfl ?_
  refine r_iconst B (pc := 10) dX5_takeNumber_10 kc_0 ?_
  refine r_istore_n B hnL (pc := 11) dX5_takeNumber_11 rfl (by decide) ?_
  refine r_lc (loc' := [some (.ref (ad 37)), some (.int x1), some (.int y4), some (.int 0)]) rfl ?_
  have k12 : ∀ (n12 : Nat) (v2 : Int32) (v3 : Int32) (σ12 : St), f_X5_takeNumber_h12 x1 n12 v2 v3 σ12 = some (r, τ) → MW X (wC ad K nw σ12) 12 [some (.ref (ad 37)), some (.int x1), some (.int v2), some (.int v3)] [] := by
    intro n12
    induction n12 with
    | zero => intro v2 v3 σ12 hf; exact nn_z hf
    | succ n12 ih12 =>
      intro v2 v3 σ12 hf
      rw [f_X5_takeNumber_h12] at hf
      refine r_aload_n B (pc := 12) dX5_takeNumber_12 rfl rfl ?_
      refine gC_RX5_15_37 B (pc := 13) dX5_takeNumber_13 ?_
      refine r_aload_n B (pc := 16) dX5_takeNumber_16 rfl rfl ?_
      refine gC_RX5_9_37 B (pc := 17) dX5_takeNumber_17 ?_
      have k88 : ∀ (v2 : Int32) (v3 : Int32) (σ88 : St), f_X5_takeNumber_b88 x1 v2 v3 σ88 = some (r, τ) → MW X (wC ad K nw σ88) 88 [some (.ref (ad 37)), some (.int x1), some (.int v2), some (.int v3)] [] := by
        intro v2 v3 σ88 hf
        unfold f_X5_takeNumber_b88 at hf
        refine r_aload_n B (pc := 88) dX5_takeNumber_88 rfl rfl ?_
        refine gC_RX5_15_37 B (pc := 89) dX5_takeNumber_89 ?_
        refine r_iload_n B (pc := 92) dX5_takeNumber_92 rfl rfl ?_
        have k103 : ∀ (v2 : Int32) (σ103 : St), f_X5_takeNumber_b103 x1 v2 σ103 = some (r, τ) → MW X (wC ad K nw σ103) 103 [some (.ref (ad 37)), none, some (.int v2), none] [] := by
          intro v2 σ103 hf
          unfold f_X5_takeNumber_b103 at hf
          refine r_aload_n B (pc := 103) dX5_takeNumber_103 rfl rfl ?_
          refine r_iload_n B (pc := 104) dX5_takeNumber_104 rfl rfl ?_
          refine pC_RX5_15_37 B (pc := 105) dX5_takeNumber_105 hf (fun s7 hf => ?_)
          refine r_iconst B (pc := 108) dX5_takeNumber_108 kc_m1 ?_
          exact e_pz (F := (wC ad K nw)) hf (nar_i _) (RET 109 _ dX5_takeNumber_109)
        refine r_icmp_le B (pc := 93) (tgt := 103) dX5_takeNumber_93 (by decide) hf (fun _ hf => ?_) (fun _ hf => ?_)
        · exact r_mask [true, false, true, false] rfl (k103 v2 σ88 hf)
        · refine r_iload_n B (pc := 96) dX5_takeNumber_96 rfl rfl ?_
          refine r_iload_n B (pc := 97) dX5_takeNumber_97 rfl rfl ?_
          refine r_icmp_gt B (pc := 98) (tgt := 103) dX5_takeNumber_98 (by decide) hf (fun _ hf => ?_) (fun _ hf => ?_)
          · exact r_mask [true, false, true, false] rfl (k103 v2 σ88 hf)
          · refine r_iload_n B (pc := 101) dX5_takeNumber_101 rfl rfl ?_
            exact e_pz (F := (wC ad K nw)) hf (nar_i _) (RET 102 _ dX5_takeNumber_102)
      refine r_icmp_ge B (pc := 20) (tgt := 88) dX5_takeNumber_20 (by decide) hf (fun _ hf => ?_) (fun _ hf => ?_)
      · exact r_mask [true, true, true, true] rfl (k88 v2 v3 σ12 hf)
      · refine r_aload_n B (pc := 23) dX5_takeNumber_23 rfl rfl ?_
        refine gC_RX5_18_37 B (pc := 24) dX5_takeNumber_24 ?_
        refine r_aload_n B (pc := 27) dX5_takeNumber_27 rfl rfl ?_
        refine gC_RX5_15_37 B (pc := 28) dX5_takeNumber_28 ?_
        refine aldC_38 B (pc := 31) dX5_takeNumber_31 hf (fun _ hf => ?_)
        refine r_bipush B (pc := 32) dX5_takeNumber_32 kb_48 ?_
        refine r_icmp_lt B (pc := 34) (tgt := 88) dX5_takeNumber_34 (by decide) hf (fun _ hf => ?_) (fun _ hf => ?_)
        · exact r_mask [true, true, true, true] rfl (k88 v2 v3 σ12 hf)
        · refine r_aload_n B (pc := 37) dX5_takeNumber_37 rfl rfl ?_
          refine gC_RX5_18_37 B (pc := 38) dX5_takeNumber_38 ?_
          refine r_aload_n B (pc := 41) dX5_takeNumber_41 rfl rfl ?_
          refine gC_RX5_15_37 B (pc := 42) dX5_takeNumber_42 ?_
          refine aldC_38 B (pc := 45) dX5_takeNumber_45 hf (fun _ hf => ?_)
          refine r_bipush B (pc := 46) dX5_takeNumber_46 kb_57 ?_
          refine r_icmp_gt B (pc := 48) (tgt := 88) dX5_takeNumber_48 (by decide) hf (fun _ hf => ?_) (fun _ hf => ?_)
          · exact r_mask [true, true, true, true] rfl (k88 v2 v3 σ12 hf)
          · refine r_iload_n B (pc := 51) dX5_takeNumber_51 rfl rfl ?_
            refine r_bipush B (pc := 52) dX5_takeNumber_52 kb_10 ?_
            refine r_imul B (pc := 54) dX5_takeNumber_54 ?_
            refine r_aload_n B (pc := 55) dX5_takeNumber_55 rfl rfl ?_
            refine gC_RX5_18_37 B (pc := 56) dX5_takeNumber_56 ?_
            refine r_aload_n B (pc := 59) dX5_takeNumber_59 rfl rfl ?_
            refine gC_RX5_15_37 B (pc := 60) dX5_takeNumber_60 ?_
            refine aldC_38 B (pc := 63) dX5_takeNumber_63 hf (fun _ hf => ?_)
            refine r_iadd B (pc := 64) dX5_takeNumber_64 ?_
            refine r_bipush B (pc := 65) dX5_takeNumber_65 kb_48 ?_
            refine r_isub B (pc := 67) dX5_takeNumber_67 ?_
            refine r_sipush B (pc := 68) dX5_takeNumber_68 ks_1000 ?_
            refine r_mmin B lk_RX5_83 F_Math_min (Nat.le_of_ble_eq_true rfl) (Nat.le_of_ble_eq_true rfl) (pc := 71) dX5_takeNumber_71 ?_
            refine r_nm hf (fun y5 hf => ?_)
            refine r_istore_n B hnL (pc := 74) dX5_takeNumber_74 rfl (by decide) ?_
            refine r_lc (loc' := [some (.ref (ad 37)), some (.int x1), some (.int v2), some (.int y5)]) rfl ?_
            refine r_aload_n B (pc := 75) dX5_takeNumber_75 rfl rfl ?_
            refine r_dup B (pc := 76) dX5_takeNumber_76 rfl ?_
            refine gC_RX5_15_37 B (pc := 77) dX5_takeNumber_77 ?_
            refine r_iconst B (pc := 80) dX5_takeNumber_80 kc_1 ?_
            refine r_iadd B (pc := 81) dX5_takeNumber_81 ?_
            refine pC_RX5_15_37 B (pc := 82) dX5_takeNumber_82 hf (fun s6 hf => ?_)
            refine r_goto B (pc := 85) (tgt := 12) dX5_takeNumber_85 (by decide) ?_
            exact r_mask [true, true, true, true] rfl (ih12 v2 y5 s6 hf)
  exact r_mask [true, true, true, true] rfl (k12 FU y4 0 s3 hf)
set_option maxHeartbeats 4000000 in
set_option maxRecDepth 20000 in
theorem c_X1_add_39 (l : Launch) (D : va_G) (K : Kt) (ad : Nat → Nat) (nw : Nat) (σ : St) (x1 : Int32) (x2 : Int32) (x3 : Int32) {τ : St} (hf : f_X1_add_39 σ x1 x2 x3 = some τ) : CtV l yX1_add cX1_add 4 none 0 0 D K [.ref (ad 39), .int x1, .int x2, .int x3] (wC ad K nw σ) (wC ad K nw τ) := by
  refine met_v pl_RX1 (Nat.le_of_ble_eq_true rfl) (fun X hnL B RET => ?_)
  suffices h : MW X (wC ad K nw σ) 0 [some (.ref (ad 39)), some (.int x1), some (.int x2), some (.int x3)] [] from h
  unfold f_X1_add_39 at hf
  refine r_aload_n B (pc := 0) dX1_add_0 rfl rfl ?_
  refine gC_RX1_9_39 B (pc := 1) dX1_add_1 ?_
  refine r_bipush B (pc := 4) dX1_add_4 kb_10 ?_
  refine r_icmp_lt B (pc := 6) (tgt := 10) dX1_add_6 (by decide) hf (fun _ hf => ?_) (fun _ hf => ?_)
  · refine r_aload_n B (pc := 10) dX1_add_10 rfl rfl ?_
    refine gC_RX1_15_39 B (pc := 11) dX1_add_11 ?_
    refine r_aload_n B (pc := 14) dX1_add_14 rfl rfl ?_
    refine gC_RX1_9_39 B (pc := 15) dX1_add_15 ?_
    refine r_iload_n B (pc := 18) dX1_add_18 rfl rfl ?_
    refine astC_40 B (pc := 19) dX1_add_19 hf (fun s1 _ hf => ?_)
    refine r_aload_n B (pc := 20) dX1_add_20 rfl rfl ?_
    refine gC_RX1_19_39 B (pc := 21) dX1_add_21 ?_
    refine r_aload_n B (pc := 24) dX1_add_24 rfl rfl ?_
    refine gC_RX1_9_39 B (pc := 25) dX1_add_25 ?_
    refine r_iload_n B (pc := 28) dX1_add_28 rfl rfl ?_
    refine astC_41 B (pc := 29) dX1_add_29 hf (fun s2 _ hf => ?_)
    refine r_aload_n B (pc := 30) dX1_add_30 rfl rfl ?_
    refine gC_RX1_22_39 B (pc := 31) dX1_add_31 ?_
    refine r_aload_n B (pc := 34) dX1_add_34 rfl rfl ?_
    refine gC_RX1_9_39 B (pc := 35) dX1_add_35 ?_
    refine r_iload_n B (pc := 38) dX1_add_38 rfl rfl ?_
    refine astC_42 B (pc := 39) dX1_add_39 hf (fun s3 _ hf => ?_)
    refine r_aload_n B (pc := 40) dX1_add_40 rfl rfl ?_
    refine gC_RX1_25_39 B (pc := 41) dX1_add_41 ?_
    refine r_aload_n B (pc := 44) dX1_add_44 rfl rfl ?_
    refine gC_RX1_9_39 B (pc := 45) dX1_add_45 ?_
    refine r_iconst B (pc := 48) dX1_add_48 kc_0 ?_
    refine astC_43 B (pc := 49) dX1_add_49 hf (fun s4 _ hf => ?_)
    refine r_aload_n B (pc := 50) dX1_add_50 rfl rfl ?_
    refine gC_RX1_28_39 B (pc := 51) dX1_add_51 ?_
    refine r_aload_n B (pc := 54) dX1_add_54 rfl rfl ?_
    refine gC_RX1_9_39 B (pc := 55) dX1_add_55 ?_
    refine r_iconst B (pc := 58) dX1_add_58 kc_0 ?_
    refine astC_44 B (pc := 59) dX1_add_59 hf (fun s5 _ hf => ?_)
    refine r_aload_n B (pc := 60) dX1_add_60 rfl rfl ?_
    refine r_dup B (pc := 61) dX1_add_61 rfl ?_
    refine gC_RX1_9_39 B (pc := 62) dX1_add_62 ?_
    refine r_iconst B (pc := 65) dX1_add_65 kc_1 ?_
    refine r_iadd B (pc := 66) dX1_add_66 ?_
    refine pC_RX1_9_39 B (pc := 67) dX1_add_67 hf (fun s6 hf => ?_)
    exact e_s (F := (wC ad K nw)) hf (RET 70 _ dX1_add_70)
  · exact e_s (F := (wC ad K nw)) hf (RET 9 _ dX1_add_9)
set_option maxHeartbeats 4000000 in
set_option maxRecDepth 20000 in
theorem c_X5_takeGrave_39 (l : Launch) (D : va_G) (K : Kt) (ad : Nat → Nat) (nw : Nat) (σ : St) {r : Int32} {τ : St} (hf : f_X5_takeGrave_39 σ = some (r, τ)) : CtI l yX5_takeGrave cX5_takeGrave 6 (some .boolean) 2 44 D K [.ref (ad 37), .ref (ad 39)] (wC ad K nw σ) r (wC ad K nw τ) := by
  refine met_i pl_RX5 (Nat.le_of_ble_eq_true rfl) (fun X hnL B RET => ?_)
  suffices h : MW X (wC ad K nw σ) 0 [some (.ref (ad 37)), some (.ref (ad 39)), none, none, none, none] [] from h
  unfold f_X5_takeGrave_39 at hf
  refine r_aload_n B (pc := 0) dX5_takeGrave_0 rfl rfl ?_
  obtain ⟨r2, s3, hc1, hf⟩ := bdp_e hf
  refine r_cVI B (c_X5_nextLetter X.l X.D K ad nw σ hc1) F_X5_nextLetter lk_RX5_29 (q0 := 37) (ci := 5) rfl rfl (Nat.le_of_ble_eq_true rfl) (Nat.le_of_ble_eq_true rfl) (Nat.le_of_ble_eq_true rfl) (pc := 1) dX5_takeGrave_1 rfl ?_
  refine r_cSI B (c_X5_kindOf X.l X.D K _ r2) F_X5_kindOf lk_RX5_37 (Nat.le_of_ble_eq_true rfl) (Nat.le_of_ble_eq_true rfl) (Nat.le_of_ble_eq_true rfl) (pc := 4) dX5_takeGrave_4 rfl ?_
  refine r_nm hf (fun y4 hf => ?_)
  refine r_istore_n B hnL (pc := 7) dX5_takeGrave_7 rfl (by decide) ?_
  refine r_lc (loc' := [some (.ref (ad 37)), some (.ref (ad 39)), some (.int y4), none, none, none]) rfl ?_
  refine r_iload_n B (pc := 8) dX5_takeGrave_8 rfl rfl ?_
  refine r_if_ge B (pc := 9) (tgt := 14) dX5_takeGrave_9 (by decide) hf (fun _ hf => ?_) (fun _ hf => ?_)
  · refine r_aload_n B (pc := 14) dX5_takeGrave_14 rfl rfl ?_
    refine r_dup B (pc := 15) dX5_takeGrave_15 rfl ?_
    refine gC_RX5_15_37 B (pc := 16) dX5_takeGrave_16 ?_
    refine r_iconst B (pc := 19) dX5_takeGrave_19 kc_1 ?_
    refine r_iadd B (pc := 20) dX5_takeGrave_20 ?_
    refine pC_RX5_15_37 B (pc := 21) dX5_takeGrave_21 hf (fun s5 hf => ?_)
    refine r_aload_n B (pc := 24) dX5_takeGrave_24 rfl rfl ?_
    refine r_bipush B (pc := 25) dX5_takeGrave_25 kb_6 ?_
    obtain ⟨r7, s8, hc6, hf⟩ := bdp_e hf
    refine r_cVI B (c_X5_takeFigure X.l X.D K ad nw s5 6 hc6) F_X5_takeFigure lk_RX5_41 (q0 := 37) (ci := 5) rfl rfl (Nat.le_of_ble_eq_true rfl) (Nat.le_of_ble_eq_true rfl) (Nat.le_of_ble_eq_true rfl) (pc := 27) dX5_takeGrave_27 rfl ?_
    refine r_istore_n B hnL (pc := 30) dX5_takeGrave_30 rfl (by decide) ?_
    refine r_lc (loc' := [some (.ref (ad 37)), some (.ref (ad 39)), some (.int y4), some (.int r7), none, none]) rfl ?_
    refine r_iload_n B (pc := 31) dX5_takeGrave_31 rfl rfl ?_
    refine r_if_ge B (pc := 32) (tgt := 37) dX5_takeGrave_32 (by decide) hf (fun _ hf => ?_) (fun _ hf => ?_)
    · refine r_aload_n B (pc := 37) dX5_takeGrave_37 rfl rfl ?_
      refine r_bipush B (pc := 38) dX5_takeGrave_38 kb_6 ?_
      obtain ⟨r10, s11, hc9, hf⟩ := bdp_e hf
      refine r_cVI B (c_X5_takeFigure X.l X.D K ad nw s8 6 hc9) F_X5_takeFigure lk_RX5_41 (q0 := 37) (ci := 5) rfl rfl (Nat.le_of_ble_eq_true rfl) (Nat.le_of_ble_eq_true rfl) (Nat.le_of_ble_eq_true rfl) (pc := 40) dX5_takeGrave_40 rfl ?_
      refine r_istore B hnL (pc := 43) dX5_takeGrave_43 (by decide) ?_
      refine r_lc (loc' := [some (.ref (ad 37)), some (.ref (ad 39)), some (.int y4), some (.int r7), some (.int r10), none]) rfl ?_
      refine r_iload B (pc := 45) dX5_takeGrave_45 rfl ?_
      refine r_if_lt B (pc := 47) (tgt := 59) dX5_takeGrave_47 (by decide) hf (fun _ hf => ?_) (fun _ hf => ?_)
      · refine r_iconst B (pc := 59) dX5_takeGrave_59 kc_0 ?_
        exact e_pz (F := (wC ad K nw)) hf rfl (RET 60 _ dX5_takeGrave_60)
      · refine r_aload_n B (pc := 50) dX5_takeGrave_50 rfl rfl ?_
        refine r_bipush B (pc := 51) dX5_takeGrave_51 kb_64 ?_
        obtain ⟨r13, s14, hc12, hf⟩ := bdp_e hf
        refine r_cVI B (c_X5_takes X.l X.D K ad nw s11 64 hc12) F_X5_takes lk_RX5_33 (q0 := 37) (ci := 5) rfl rfl (Nat.le_of_ble_eq_true rfl) (Nat.le_of_ble_eq_true rfl) (Nat.le_of_ble_eq_true rfl) (pc := 53) dX5_takeGrave_53 rfl ?_
        refine r_if_ne B (pc := 56) (tgt := 61) dX5_takeGrave_56 (by decide) hf (fun _ hf => ?_) (fun _ hf => ?_)
        · refine r_aload_n B (pc := 61) dX5_takeGrave_61 rfl rfl ?_
          refine r_bipush B (pc := 62) dX5_takeGrave_62 kb_89 ?_
          obtain ⟨r16, s17, hc15, hf⟩ := bdp_e hf
          refine r_cVI B (c_X5_takeNumber X.l X.D K ad nw s14 89 hc15) F_X5_takeNumber lk_RX5_44 (q0 := 37) (ci := 5) rfl rfl (Nat.le_of_ble_eq_true rfl) (Nat.le_of_ble_eq_true rfl) (Nat.le_of_ble_eq_true rfl) (pc := 64) dX5_takeGrave_64 rfl ?_
          refine r_istore B hnL (pc := 67) dX5_takeGrave_67 (by decide) ?_
          refine r_lc (loc' := [some (.ref (ad 37)), some (.ref (ad 39)), some (.int y4), some (.int r7), some (.int r10), some (.int r16)]) rfl ?_
          refine r_iload B (pc := 69) dX5_takeGrave_69 rfl ?_
          refine r_if_ge B (pc := 71) (tgt := 76) dX5_takeGrave_71 (by decide) hf (fun _ hf => ?_) (fun _ hf => ?_)
          · refine r_aload_n B (pc := 76) dX5_takeGrave_76 rfl rfl ?_
            refine r_iload_n B (pc := 77) dX5_takeGrave_77 rfl rfl ?_
            refine r_bipush B (pc := 78) dX5_takeGrave_78 kb_6 ?_
            refine r_iload_n B (pc := 80) dX5_takeGrave_80 rfl rfl ?_
            refine r_imul B (pc := 81) dX5_takeGrave_81 ?_
            refine r_iload B (pc := 82) dX5_takeGrave_82 rfl ?_
            refine r_iadd B (pc := 84) dX5_takeGrave_84 ?_
            refine r_iload B (pc := 85) dX5_takeGrave_85 rfl ?_
            obtain ⟨s19, hc18, hf⟩ := bdr_e hf
            refine r_cVV B (c_X1_add_39 X.l X.D K ad nw s17 y4 ((6 * r7) + r10) r16 hc18) F_X1_add lk_RX5_47 (q0 := 39) (ci := 1) rfl rfl (Nat.le_of_ble_eq_true rfl) (Nat.le_of_ble_eq_true rfl) (Nat.le_of_ble_eq_true rfl) (pc := 87) dX5_takeGrave_87 rfl ?_
            refine r_iconst B (pc := 90) dX5_takeGrave_90 kc_1 ?_
            exact e_pz (F := (wC ad K nw)) hf rfl (RET 91 _ dX5_takeGrave_91)
          · refine r_iconst B (pc := 74) dX5_takeGrave_74 kc_0 ?_
            exact e_pz (F := (wC ad K nw)) hf rfl (RET 75 _ dX5_takeGrave_75)
        · refine r_iconst B (pc := 59) dX5_takeGrave_59 kc_0 ?_
          exact e_pz (F := (wC ad K nw)) hf rfl (RET 60 _ dX5_takeGrave_60)
    · refine r_iconst B (pc := 35) dX5_takeGrave_35 kc_0 ?_
      exact e_pz (F := (wC ad K nw)) hf rfl (RET 36 _ dX5_takeGrave_36)
  · refine r_iconst B (pc := 12) dX5_takeGrave_12 kc_0 ?_
    exact e_pz (F := (wC ad K nw)) hf rfl (RET 13 _ dX5_takeGrave_13)
set_option maxHeartbeats 4000000 in
set_option maxRecDepth 20000 in
theorem c_X5_takeYard_39 (l : Launch) (D : va_G) (K : Kt) (ad : Nat → Nat) (nw : Nat) (σ : St) {r : Int32} {τ : St} (hf : f_X5_takeYard_39 σ = some (r, τ)) : CtI l yX5_takeYard cX5_takeYard 3 (some .boolean) 3 69 D K [.ref (ad 37), .ref (ad 39)] (wC ad K nw σ) r (wC ad K nw τ) := by
  refine met_i pl_RX5 (Nat.le_of_ble_eq_true rfl) (fun X hnL B RET => ?_)
  suffices h : MW X (wC ad K nw σ) 0 [some (.ref (ad 37)), some (.ref (ad 39)), none] [] from h
  unfold f_X5_takeYard_39 at hf
  refine r_aload_n B (pc := 0) dX5_takeYard_0 rfl rfl ?_
  refine r_iconst B (pc := 1) dX5_takeYard_1 kc_0 ?_
  refine pC_RX5_15_37 B (pc := 2) dX5_takeYard_2 hf (fun s1 hf => ?_)
  refine r_aload_n B (pc := 5) dX5_takeYard_5 rfl rfl ?_
  refine r_iconst B (pc := 6) dX5_takeYard_6 kc_0 ?_
  refine pC_RX5_22_39 B (pc := 7) dX5_takeYard_7 hf (fun s2 hf => ?_)
  refine r_iconst B (pc := 10) dX5_takeYard_10 kc_0 ?_
  refine r_istore_n B hnL (pc := 11) dX5_takeYard_11 rfl (by decide) ?_
  refine r_lc (loc' := [some (.ref (ad 37)), some (.ref (ad 39)), some (.int 0)]) rfl ?_
  have k12 : ∀ (n12 : Nat) (v2 : Int32) (σ12 : St), f_X5_takeYard_39_h12 n12 v2 σ12 = some (r, τ) → MW X (wC ad K nw σ12) 12 [some (.ref (ad 37)), some (.ref (ad 39)), some (.int v2)] [] := by
    intro n12
    induction n12 with
    | zero => intro v2 σ12 hf; exact nn_z hf
    | succ n12 ih12 =>
      intro v2 σ12 hf
      rw [f_X5_takeYard_39_h12] at hf
      refine r_iload_n B (pc := 12) dX5_takeYard_12 rfl rfl ?_
      refine r_bipush B (pc := 13) dX5_takeYard_13 kb_10 ?_
      refine r_icmp_ge B (pc := 15) (tgt := 61) dX5_takeYard_15 (by decide) hf (fun _ hf => ?_) (fun _ hf => ?_)
      · refine r_iconst B (pc := 61) dX5_takeYard_61 kc_0 ?_
        exact e_pz (F := (wC ad K nw)) hf rfl (RET 62 _ dX5_takeYard_62)
      · refine r_aload_n B (pc := 18) dX5_takeYard_18 rfl rfl ?_
        refine r_aload_n B (pc := 19) dX5_takeYard_19 rfl rfl ?_
        obtain ⟨r4, s5, hc3, hf⟩ := bdp_e hf
        refine r_cVI B (c_X5_takeGrave_39 X.l X.D K ad nw σ12 hc3) F_X5_takeGrave lk_RX5_25 (q0 := 37) (ci := 5) rfl rfl (Nat.le_of_ble_eq_true rfl) (Nat.le_of_ble_eq_true rfl) (Nat.le_of_ble_eq_true rfl) (pc := 20) dX5_takeYard_20 rfl ?_
        refine r_if_ne B (pc := 23) (tgt := 28) dX5_takeYard_23 (by decide) hf (fun _ hf => ?_) (fun _ hf => ?_)
        · refine r_aload_n B (pc := 28) dX5_takeYard_28 rfl rfl ?_
          obtain ⟨r7, s8, hc6, hf⟩ := bdp_e hf
          refine r_cVI B (c_X5_nextLetter X.l X.D K ad nw s5 hc6) F_X5_nextLetter lk_RX5_29 (q0 := 37) (ci := 5) rfl rfl (Nat.le_of_ble_eq_true rfl) (Nat.le_of_ble_eq_true rfl) (Nat.le_of_ble_eq_true rfl) (pc := 29) dX5_takeYard_29 rfl ?_
          refine r_iconst B (pc := 32) dX5_takeYard_32 kc_m1 ?_
          refine r_icmp_ne B (pc := 33) (tgt := 38) dX5_takeYard_33 (by decide) hf (fun _ hf => ?_) (fun _ hf => ?_)
          · refine r_iload_n B (pc := 38) dX5_takeYard_38 rfl rfl ?_
            refine r_bipush B (pc := 39) dX5_takeYard_39 kb_9 ?_
            refine r_icmp_eq B (pc := 41) (tgt := 53) dX5_takeYard_41 (by decide) hf (fun _ hf => ?_) (fun _ hf => ?_)
            · refine r_iconst B (pc := 53) dX5_takeYard_53 kc_0 ?_
              exact e_pz (F := (wC ad K nw)) hf rfl (RET 54 _ dX5_takeYard_54)
            · refine r_aload_n B (pc := 44) dX5_takeYard_44 rfl rfl ?_
              refine r_bipush B (pc := 45) dX5_takeYard_45 kb_44 ?_
              obtain ⟨r10, s11, hc9, hf⟩ := bdp_e hf
              refine r_cVI B (c_X5_takes X.l X.D K ad nw s8 44 hc9) F_X5_takes lk_RX5_33 (q0 := 37) (ci := 5) rfl rfl (Nat.le_of_ble_eq_true rfl) (Nat.le_of_ble_eq_true rfl) (Nat.le_of_ble_eq_true rfl) (pc := 47) dX5_takeYard_47 rfl ?_
              refine r_if_ne B (pc := 50) (tgt := 55) dX5_takeYard_50 (by decide) hf (fun _ hf => ?_) (fun _ hf => ?_)
              · refine r_iincS B hnL (pc := 55) dX5_takeYard_55 rfl kc_1 (by decide) hf (fun y12 hf => ?_)
                refine r_lc (loc' := [some (.ref (ad 37)), some (.ref (ad 39)), some (.int y12)]) rfl ?_
                refine r_goto B (pc := 58) (tgt := 12) dX5_takeYard_58 (by decide) ?_
                exact r_mask [true, true, true] rfl (ih12 y12 s11 hf)
              · refine r_iconst B (pc := 53) dX5_takeYard_53 kc_0 ?_
                exact e_pz (F := (wC ad K nw)) hf rfl (RET 54 _ dX5_takeYard_54)
          · refine r_iconst B (pc := 36) dX5_takeYard_36 kc_1 ?_
            exact e_pz (F := (wC ad K nw)) hf rfl (RET 37 _ dX5_takeYard_37)
        · refine r_iconst B (pc := 26) dX5_takeYard_26 kc_0 ?_
          exact e_pz (F := (wC ad K nw)) hf rfl (RET 27 _ dX5_takeYard_27)
  exact r_mask [true, true, true] rfl (k12 FU 0 s2 hf)
set_option maxHeartbeats 4000000 in
set_option maxRecDepth 20000 in
theorem c_X1_become_39 (l : Launch) (D : va_G) (K : Kt) (ad : Nat → Nat) (nw : Nat) (σ : St) {τ : St} (hf : f_X1_become_39 σ = some τ) : CtV l yX1_become cX1_become 2 none 1 26 D K [.ref (ad 2), .ref (ad 39)] (wC ad K nw σ) (wC ad K nw τ) := by
  refine met_v pl_RX1 (Nat.le_of_ble_eq_true rfl) (fun X hnL B RET => ?_)
  suffices h : MW X (wC ad K nw σ) 0 [some (.ref (ad 2)), some (.ref (ad 39))] [] from h
  unfold f_X1_become_39 at hf
  refine r_aload_n B (pc := 0) dX1_become_0 rfl rfl ?_
  refine r_aload_n B (pc := 1) dX1_become_1 rfl rfl ?_
  refine gC_RX1_9_39 B (pc := 2) dX1_become_2 ?_
  refine pC_RX1_9_2 B (pc := 5) dX1_become_5 hf (fun s1 hf => ?_)
  refine r_aload_n B (pc := 8) dX1_become_8 rfl rfl ?_
  refine gC_RX1_15_39 B (pc := 9) dX1_become_9 ?_
  refine r_iconst B (pc := 12) dX1_become_12 kc_0 ?_
  refine r_aload_n B (pc := 13) dX1_become_13 rfl rfl ?_
  refine gC_RX1_15_2 B (pc := 14) dX1_become_14 ?_
  refine r_iconst B (pc := 17) dX1_become_17 kc_0 ?_
  refine r_bipush B (pc := 18) dX1_become_18 kb_10 ?_
  refine cpyC_RX1_40_40_3 B (Nat.le_of_ble_eq_true rfl) (Nat.le_of_ble_eq_true rfl) (pc := 20) dX1_become_20 hf (fun s2 hf => ?_)
  refine r_aload_n B (pc := 23) dX1_become_23 rfl rfl ?_
  refine gC_RX1_19_39 B (pc := 24) dX1_become_24 ?_
  refine r_iconst B (pc := 27) dX1_become_27 kc_0 ?_
  refine r_aload_n B (pc := 28) dX1_become_28 rfl rfl ?_
  refine gC_RX1_19_2 B (pc := 29) dX1_become_29 ?_
  refine r_iconst B (pc := 32) dX1_become_32 kc_0 ?_
  refine r_bipush B (pc := 33) dX1_become_33 kb_10 ?_
  refine cpyC_RX1_40_41_4 B (Nat.le_of_ble_eq_true rfl) (Nat.le_of_ble_eq_true rfl) (pc := 35) dX1_become_35 hf (fun s3 hf => ?_)
  refine r_aload_n B (pc := 38) dX1_become_38 rfl rfl ?_
  refine gC_RX1_22_39 B (pc := 39) dX1_become_39 ?_
  refine r_iconst B (pc := 42) dX1_become_42 kc_0 ?_
  refine r_aload_n B (pc := 43) dX1_become_43 rfl rfl ?_
  refine gC_RX1_22_2 B (pc := 44) dX1_become_44 ?_
  refine r_iconst B (pc := 47) dX1_become_47 kc_0 ?_
  refine r_bipush B (pc := 48) dX1_become_48 kb_10 ?_
  refine cpyC_RX1_40_42_5 B (Nat.le_of_ble_eq_true rfl) (Nat.le_of_ble_eq_true rfl) (pc := 50) dX1_become_50 hf (fun s4 hf => ?_)
  refine r_aload_n B (pc := 53) dX1_become_53 rfl rfl ?_
  refine gC_RX1_25_39 B (pc := 54) dX1_become_54 ?_
  refine r_iconst B (pc := 57) dX1_become_57 kc_0 ?_
  refine r_aload_n B (pc := 58) dX1_become_58 rfl rfl ?_
  refine gC_RX1_25_2 B (pc := 59) dX1_become_59 ?_
  refine r_iconst B (pc := 62) dX1_become_62 kc_0 ?_
  refine r_bipush B (pc := 63) dX1_become_63 kb_10 ?_
  refine cpyC_RX1_40_43_6 B (Nat.le_of_ble_eq_true rfl) (Nat.le_of_ble_eq_true rfl) (pc := 65) dX1_become_65 hf (fun s5 hf => ?_)
  refine r_aload_n B (pc := 68) dX1_become_68 rfl rfl ?_
  refine gC_RX1_28_39 B (pc := 69) dX1_become_69 ?_
  refine r_iconst B (pc := 72) dX1_become_72 kc_0 ?_
  refine r_aload_n B (pc := 73) dX1_become_73 rfl rfl ?_
  refine gC_RX1_28_2 B (pc := 74) dX1_become_74 ?_
  refine r_iconst B (pc := 77) dX1_become_77 kc_0 ?_
  refine r_bipush B (pc := 78) dX1_become_78 kb_10 ?_
  refine cpyC_RX1_40_44_7 B (Nat.le_of_ble_eq_true rfl) (Nat.le_of_ble_eq_true rfl) (pc := 80) dX1_become_80 hf (fun s6 hf => ?_)
  refine r_aload_n B (pc := 83) dX1_become_83 rfl rfl ?_
  refine gC_RX1_31_39 B (pc := 84) dX1_become_84 ?_
  refine r_iconst B (pc := 87) dX1_become_87 kc_0 ?_
  refine r_aload_n B (pc := 88) dX1_become_88 rfl rfl ?_
  refine gC_RX1_31_2 B (pc := 89) dX1_become_89 ?_
  refine r_iconst B (pc := 92) dX1_become_92 kc_0 ?_
  refine r_bipush B (pc := 93) dX1_become_93 kb_120 ?_
  refine cpyC_RX1_40_45_8 B (Nat.le_of_ble_eq_true rfl) (Nat.le_of_ble_eq_true rfl) (pc := 95) dX1_become_95 hf (fun s7 hf => ?_)
  exact e_s (F := (wC ad K nw)) hf (RET 98 _ dX1_become_98)
set_option maxHeartbeats 4000000 in
set_option maxRecDepth 20000 in
theorem c_X5_faultHere (l : Launch) (D : va_G) (K : Kt) (ad : Nat → Nat) (nw : Nat) (σ : St) : CtI l yX5_faultHere cX5_faultHere 1 (some .int) 0 0 D K [.ref (ad 37)] (wC ad K nw σ) (f_X5_faultHere σ) (wC ad K nw σ) := by
  refine met_i pl_RX5 (Nat.le_of_ble_eq_true rfl) (fun X hnL B RET => ?_)
  generalize hf : f_X5_faultHere σ = r at RET
  suffices h : MW X (wC ad K nw σ) 0 [some (.ref (ad 37))] [] from h
  unfold f_X5_faultHere at hf
  refine r_bipush B (pc := 0) dX5_faultHere_0 kb_m20 ?_
  refine r_aload_n B (pc := 2) dX5_faultHere_2 rfl rfl ?_
  refine gC_RX5_15_37 B (pc := 3) dX5_faultHere_3 ?_
  refine r_isub B (pc := 6) dX5_faultHere_6 ?_
  exact e_tz hf (nar_i _) (RET 7 _ dX5_faultHere_7)
set_option maxHeartbeats 4000000 in
set_option maxRecDepth 20000 in
theorem c_X6_yard (l : Launch) (D : va_G) (K : Kt) (ad : Nat → Nat) (nw : Nat) (σ : St) {r : Int32} {τ : St} (hf : f_X6_yard σ = some (r, τ)) : CtI l yX6_yard cX6_yard 2 (some .int) 4 91 D K [.ref (ad 0)] (wC ad K nw σ) r (wC ad K nw τ) := by
  refine met_i pl_RX6 (Nat.le_of_ble_eq_true rfl) (fun X hnL B RET => ?_)
  suffices h : MW X (wC ad K nw σ) 0 [some (.ref (ad 0)), none] [] from h
  unfold f_X6_yard at hf
  refine r_aload_n B (pc := 0) dX6_yard_0 rfl rfl ?_
  refine gC_RX6_26_0 B (pc := 1) dX6_yard_1 ?_
  refine r_aload_n B (pc := 4) dX6_yard_4 rfl rfl ?_
  refine gC_RX6_33_0 B (pc := 5) dX6_yard_5 ?_
  obtain ⟨r2, s3, hc1, hf⟩ := bdp_e hf
  refine r_cVI B (c_X5_takeYard_39 X.l X.D K ad nw σ hc1) F_X5_takeYard lk_RX6_170 (q0 := 37) (ci := 5) rfl rfl (Nat.le_of_ble_eq_true rfl) (Nat.le_of_ble_eq_true rfl) (Nat.le_of_ble_eq_true rfl) (pc := 8) dX6_yard_8 rfl ?_
  refine r_istore_n B hnL (pc := 11) dX6_yard_11 rfl (by decide) ?_
  refine r_lc (loc' := [some (.ref (ad 0)), some (.int r2)]) rfl ?_
  refine r_aload_n B (pc := 12) dX6_yard_12 rfl rfl ?_
  refine gC_RX6_26_0 B (pc := 13) dX6_yard_13 ?_
  refine r_iconst B (pc := 16) dX6_yard_16 kc_0 ?_
  refine pC_RX6_166_37 B (pc := 17) dX6_yard_17 hf (fun s4 hf => ?_)
  refine r_iload_n B (pc := 20) dX6_yard_20 rfl rfl ?_
  refine r_if_ne B (pc := 21) (tgt := 32) dX6_yard_21 (by decide) hf (fun _ hf => ?_) (fun _ hf => ?_)
  · refine r_aload_n B (pc := 32) dX6_yard_32 rfl rfl ?_
    refine gC_RX6_10_0 B (pc := 33) dX6_yard_33 ?_
    refine gC_RX6_72_1 B (pc := 36) dX6_yard_36 ?_
    refine r_aload_n B (pc := 39) dX6_yard_39 rfl rfl ?_
    refine gC_RX6_33_0 B (pc := 40) dX6_yard_40 ?_
    obtain ⟨s6, hc5, hf⟩ := bdr_e hf
    refine r_cVV B (c_X1_become_39 X.l X.D K ad nw s4 hc5) F_X1_become lk_RX6_178 (q0 := 2) (ci := 1) rfl rfl (Nat.le_of_ble_eq_true rfl) (Nat.le_of_ble_eq_true rfl) (Nat.le_of_ble_eq_true rfl) (pc := 43) dX6_yard_43 rfl ?_
    refine r_aload_n B (pc := 46) dX6_yard_46 rfl rfl ?_
    refine gC_RX6_10_0 B (pc := 47) dX6_yard_47 ?_
    refine r_iconst B (pc := 50) dX6_yard_50 kc_0 ?_
    refine pC_RX6_83_1 B (pc := 51) dX6_yard_51 hf (fun s7 hf => ?_)
    refine r_aload_n B (pc := 54) dX6_yard_54 rfl rfl ?_
    refine gC_RX6_10_0 B (pc := 55) dX6_yard_55 ?_
    refine gC_RX6_72_1 B (pc := 58) dX6_yard_58 ?_
    refine gC_RX6_75_2 B (pc := 61) dX6_yard_61 ?_
    exact e_pz (F := (wC ad K nw)) hf (nar_i _) (RET 64 _ dX6_yard_64)
  · refine r_aload_n B (pc := 24) dX6_yard_24 rfl rfl ?_
    refine gC_RX6_26_0 B (pc := 25) dX6_yard_25 ?_
    refine r_cVI B (c_X5_faultHere X.l X.D K ad nw s4) F_X5_faultHere lk_RX6_174 (q0 := 37) (ci := 5) rfl rfl (Nat.le_of_ble_eq_true rfl) (Nat.le_of_ble_eq_true rfl) (Nat.le_of_ble_eq_true rfl) (pc := 28) dX6_yard_28 rfl ?_
    exact e_pz (F := (wC ad K nw)) hf (nar_i _) (RET 31 _ dX6_yard_31)
set_option maxHeartbeats 4000000 in
set_option maxRecDepth 20000 in
theorem c_X2_clear_46 (l : Launch) (D : va_G) (K : Kt) (ad : Nat → Nat) (nw : Nat) (σ : St) {τ : St} (hf : f_X2_clear_46 σ = some τ) : CtV l yX2_clear cX2_clear 1 none 0 0 D K [.ref (ad 46)] (wC ad K nw σ) (wC ad K nw τ) := by
  refine met_v pl_RX2 (Nat.le_of_ble_eq_true rfl) (fun X hnL B RET => ?_)
  suffices h : MW X (wC ad K nw σ) 0 [some (.ref (ad 46))] [] from h
  unfold f_X2_clear_46 at hf
  refine r_aload_n B (pc := 0) dX2_clear_0 rfl rfl ?_
  refine r_iconst B (pc := 1) dX2_clear_1 kc_0 ?_
  refine pC_RX2_9_46 B (pc := 2) dX2_clear_2 hf (fun s1 hf => ?_)
  refine r_aload_n B (pc := 5) dX2_clear_5 rfl rfl ?_
  refine r_iconst B (pc := 6) dX2_clear_6 kc_0 ?_
  refine pC_RX2_15_46 B (pc := 7) dX2_clear_7 hf (fun s2 hf => ?_)
  exact e_s (F := (wC ad K nw)) hf (RET 10 _ dX2_clear_10)
set_option maxHeartbeats 4000000 in
set_option maxRecDepth 20000 in
theorem c_X5_takeAhead_46 (l : Launch) (D : va_G) (K : Kt) (ad : Nat → Nat) (nw : Nat) (σ : St) (x2 : Int32) {r : Int32} {τ : St} (hf : f_X5_takeAhead_46 σ x2 = some (r, τ)) : CtI l yX5_takeAhead cX5_takeAhead 6 (some .int) 1 21 D K [.ref (ad 37), .ref (ad 46), .int x2] (wC ad K nw σ) r (wC ad K nw τ) := by
  refine met_i pl_RX5 (Nat.le_of_ble_eq_true rfl) (fun X hnL B RET => ?_)
  suffices h : MW X (wC ad K nw σ) 0 [some (.ref (ad 37)), some (.ref (ad 46)), some (.int x2), none, none, none] [] from h
  unfold f_X5_takeAhead_46 at hf
  refine r_iconst B (pc := 0) dX5_takeAhead_0 kc_0 ?_
  refine r_istore_n B hnL (pc := 1) dX5_takeAhead_1 rfl (by decide) ?_
  refine r_lc (loc' := [some (.ref (ad 37)), some (.ref (ad 46)), some (.int x2), some (.int 0), none, none]) rfl ?_
  refine r_iconst B (pc := 2) dX5_takeAhead_2 kc_0 ?_
  refine r_istore B hnL (pc := 3) dX5_takeAhead_3 (by decide) ?_
  refine r_lc (loc' := [some (.ref (ad 37)), some (.ref (ad 46)), some (.int x2), some (.int 0), some (.int 0), none]) rfl ?_
  have k5 : ∀ (n5 : Nat) (v3 : Int32) (v4 : Int32) (σ5 : St), f_X5_takeAhead_46_h5 x2 n5 v3 v4 σ5 = some (r, τ) → MW X (wC ad K nw σ5) 5 [some (.ref (ad 37)), some (.ref (ad 46)), some (.int x2), some (.int v3), some (.int v4), none] [] := by
    intro n5
    induction n5 with
    | zero => intro v3 v4 σ5 hf; exact nn_z hf
    | succ n5 ih5 =>
      intro v3 v4 σ5 hf
      rw [f_X5_takeAhead_46_h5] at hf
      refine r_iload B (pc := 5) dX5_takeAhead_5 rfl ?_
      refine r_bipush B (pc := 7) dX5_takeAhead_7 kb_12 ?_
      have k81 : ∀ (v3 : Int32) (σ81 : St), f_X5_takeAhead_46_b81 x2 v3 σ81 = some (r, τ) → MW X (wC ad K nw σ81) 81 [none, none, none, some (.int v3), none, none] [] := by
        intro v3 σ81 hf
        unfold f_X5_takeAhead_46_b81 at hf
        refine r_iload_n B (pc := 81) dX5_takeAhead_81 rfl rfl ?_
        refine r_if_ne B (pc := 82) (tgt := 89) dX5_takeAhead_82 (by decide) hf (fun _ hf => ?_) (fun _ hf => ?_)
        · refine r_iload_n B (pc := 89) dX5_takeAhead_89 rfl rfl ?_
          exact e_pz (F := (wC ad K nw)) hf (nar_i _) (RET 90 _ dX5_takeAhead_90)
        · refine r_iconst B (pc := 85) dX5_takeAhead_85 kc_m1 ?_
          refine r_goto B (pc := 86) (tgt := 90) dX5_takeAhead_86 (by decide) ?_
          exact e_pz (F := (wC ad K nw)) hf (nar_i _) (RET 90 _ dX5_takeAhead_90)
      refine r_icmp_ge B (pc := 9) (tgt := 81) dX5_takeAhead_9 (by decide) hf (fun _ hf => ?_) (fun _ hf => ?_)
      · exact r_mask [false, false, false, true, false, false] rfl (k81 v3 σ5 hf)
      · refine r_aload_n B (pc := 12) dX5_takeAhead_12 rfl rfl ?_
        obtain ⟨r2, s3, hc1, hf⟩ := bdp_e hf
        refine r_cVI B (c_X5_nextLetter X.l X.D K ad nw σ5 hc1) F_X5_nextLetter lk_RX5_29 (q0 := 37) (ci := 5) rfl rfl (Nat.le_of_ble_eq_true rfl) (Nat.le_of_ble_eq_true rfl) (Nat.le_of_ble_eq_true rfl) (pc := 13) dX5_takeAhead_13 rfl ?_
        refine r_bipush B (pc := 16) dX5_takeAhead_16 kb_97 ?_
        refine r_isub B (pc := 18) dX5_takeAhead_18 ?_
        refine r_nm hf (fun y4 hf => ?_)
        refine r_istore B hnL (pc := 19) dX5_takeAhead_19 (by decide) ?_
        refine r_lc (loc' := [some (.ref (ad 37)), some (.ref (ad 46)), some (.int x2), some (.int v3), some (.int v4), some (.int y4)]) rfl ?_
        refine r_iload B (pc := 21) dX5_takeAhead_21 rfl ?_
        refine r_if_lt B (pc := 23) (tgt := 81) dX5_takeAhead_23 (by decide) hf (fun _ hf => ?_) (fun _ hf => ?_)
        · exact r_mask [false, false, false, true, false, false] rfl (k81 v3 s3 hf)
        · refine r_iload B (pc := 26) dX5_takeAhead_26 rfl ?_
          refine r_aload_n B (pc := 28) dX5_takeAhead_28 rfl rfl ?_
          refine gC_RX5_70_46 B (pc := 29) dX5_takeAhead_29 ?_
          refine r_icmp_ge B (pc := 32) (tgt := 81) dX5_takeAhead_32 (by decide) hf (fun _ hf => ?_) (fun _ hf => ?_)
          · exact r_mask [false, false, false, true, false, false] rfl (k81 v3 s3 hf)
          · refine r_iload_n B (pc := 35) dX5_takeAhead_35 rfl rfl ?_
            refine r_iload B (pc := 36) dX5_takeAhead_36 rfl ?_
            refine r_cNI B (c_X6_has X.l X.D K _ v3 y4) F_X6_has nk_RX5_71 (Nat.le_of_ble_eq_true rfl) (Nat.le_of_ble_eq_true rfl) (Nat.le_of_ble_eq_true rfl) (pc := 38) dX5_takeAhead_38 rfl ?_
            refine r_if_ne B (pc := 41) (tgt := 81) dX5_takeAhead_41 (by decide) hf (fun _ hf => ?_) (fun _ hf => ?_)
            · exact r_mask [false, false, false, true, false, false] rfl (k81 v3 s3 hf)
            · refine r_aload_n B (pc := 44) dX5_takeAhead_44 rfl rfl ?_
              refine gC_RX5_75_46 B (pc := 45) dX5_takeAhead_45 ?_
              refine r_iload B (pc := 48) dX5_takeAhead_48 rfl ?_
              refine aldC_47 B (pc := 50) dX5_takeAhead_50 hf (fun _ hf => ?_)
              refine r_iload_n B (pc := 51) dX5_takeAhead_51 rfl rfl ?_
              refine r_icmp_le B (pc := 52) (tgt := 58) dX5_takeAhead_52 (by decide) hf (fun _ hf => ?_) (fun _ hf => ?_)
              · refine r_iload_n B (pc := 58) dX5_takeAhead_58 rfl rfl ?_
                refine r_iconst B (pc := 59) dX5_takeAhead_59 kc_1 ?_
                refine r_iload B (pc := 60) dX5_takeAhead_60 rfl ?_
                refine r_ishl B (pc := 62) dX5_takeAhead_62 ?_
                refine r_ior B (pc := 63) dX5_takeAhead_63 ?_
                refine r_nm hf (fun y5 hf => ?_)
                refine r_istore_n B hnL (pc := 64) dX5_takeAhead_64 rfl (by decide) ?_
                refine r_lc (loc' := [some (.ref (ad 37)), some (.ref (ad 46)), some (.int x2), some (.int y5), some (.int v4), some (.int y4)]) rfl ?_
                refine r_aload_n B (pc := 65) dX5_takeAhead_65 rfl rfl ?_
                refine r_dup B (pc := 66) dX5_takeAhead_66 rfl ?_
                refine gC_RX5_15_37 B (pc := 67) dX5_takeAhead_67 ?_
                refine r_iconst B (pc := 70) dX5_takeAhead_70 kc_1 ?_
                refine r_iadd B (pc := 71) dX5_takeAhead_71 ?_
                refine pC_RX5_15_37 B (pc := 72) dX5_takeAhead_72 hf (fun s6 hf => ?_)
                refine r_iincS B hnL (pc := 75) dX5_takeAhead_75 rfl kc_1 (by decide) hf (fun y7 hf => ?_)
                refine r_lc (loc' := [some (.ref (ad 37)), some (.ref (ad 46)), some (.int x2), some (.int y5), some (.int y7), some (.int y4)]) rfl ?_
                refine r_goto B (pc := 78) (tgt := 5) dX5_takeAhead_78 (by decide) ?_
                exact r_mask [true, true, true, true, true, false] rfl (ih5 y5 y7 s6 hf)
              · refine r_goto B (pc := 55) (tgt := 81) dX5_takeAhead_55 (by decide) ?_
                exact r_mask [false, false, false, true, false, false] rfl (k81 v3 s3 hf)
  exact r_mask [true, true, true, true, true, false] rfl (k5 FU 0 0 σ hf)
set_option maxHeartbeats 4000000 in
set_option maxRecDepth 20000 in
theorem c_X5_takeBarred (l : Launch) (D : va_G) (K : Kt) (ad : Nat → Nat) (nw : Nat) (σ : St) {r : Int32} {τ : St} (hf : f_X5_takeBarred σ = some (r, τ)) : CtI l yX5_takeBarred cX5_takeBarred 4 (some .int) 1 21 D K [.ref (ad 37)] (wC ad K nw σ) r (wC ad K nw τ) := by
  refine met_i pl_RX5 (Nat.le_of_ble_eq_true rfl) (fun X hnL B RET => ?_)
  suffices h : MW X (wC ad K nw σ) 0 [some (.ref (ad 37)), none, none, none] [] from h
  unfold f_X5_takeBarred at hf
  refine r_iconst B (pc := 0) dX5_takeBarred_0 kc_0 ?_
  refine r_istore_n B hnL (pc := 1) dX5_takeBarred_1 rfl (by decide) ?_
  refine r_lc (loc' := [some (.ref (ad 37)), some (.int 0), none, none]) rfl ?_
  refine r_iconst B (pc := 2) dX5_takeBarred_2 kc_0 ?_
  refine r_istore_n B hnL (pc := 3) dX5_takeBarred_3 rfl (by decide) ?_
  refine r_lc (loc' := [some (.ref (ad 37)), some (.int 0), some (.int 0), none]) rfl ?_
  have k4 : ∀ (n4 : Nat) (v1 : Int32) (v2 : Int32) (σ4 : St), f_X5_takeBarred_h4 n4 v1 v2 σ4 = some (r, τ) → MW X (wC ad K nw σ4) 4 [some (.ref (ad 37)), some (.int v1), some (.int v2), none] [] := by
    intro n4
    induction n4 with
    | zero => intro v1 v2 σ4 hf; exact nn_z hf
    | succ n4 ih4 =>
      intro v1 v2 σ4 hf
      rw [f_X5_takeBarred_h4] at hf
      refine r_iload_n B (pc := 4) dX5_takeBarred_4 rfl rfl ?_
      refine r_bipush B (pc := 5) dX5_takeBarred_5 kb_10 ?_
      have k61 : ∀ (v1 : Int32) (σ61 : St), f_X5_takeBarred_b61 v1 σ61 = some (r, τ) → MW X (wC ad K nw σ61) 61 [none, some (.int v1), none, none] [] := by
        intro v1 σ61 hf
        unfold f_X5_takeBarred_b61 at hf
        refine r_iload_n B (pc := 61) dX5_takeBarred_61 rfl rfl ?_
        refine r_if_ne B (pc := 62) (tgt := 69) dX5_takeBarred_62 (by decide) hf (fun _ hf => ?_) (fun _ hf => ?_)
        · refine r_iload_n B (pc := 69) dX5_takeBarred_69 rfl rfl ?_
          exact e_pz (F := (wC ad K nw)) hf (nar_i _) (RET 70 _ dX5_takeBarred_70)
        · refine r_iconst B (pc := 65) dX5_takeBarred_65 kc_m1 ?_
          refine r_goto B (pc := 66) (tgt := 70) dX5_takeBarred_66 (by decide) ?_
          exact e_pz (F := (wC ad K nw)) hf (nar_i _) (RET 70 _ dX5_takeBarred_70)
      refine r_icmp_ge B (pc := 7) (tgt := 61) dX5_takeBarred_7 (by decide) hf (fun _ hf => ?_) (fun _ hf => ?_)
      · exact r_mask [false, true, false, false] rfl (k61 v1 σ4 hf)
      · refine r_aload_n B (pc := 10) dX5_takeBarred_10 rfl rfl ?_
        obtain ⟨r2, s3, hc1, hf⟩ := bdp_e hf
        refine r_cVI B (c_X5_nextLetter X.l X.D K ad nw σ4 hc1) F_X5_nextLetter lk_RX5_29 (q0 := 37) (ci := 5) rfl rfl (Nat.le_of_ble_eq_true rfl) (Nat.le_of_ble_eq_true rfl) (Nat.le_of_ble_eq_true rfl) (pc := 11) dX5_takeBarred_11 rfl ?_
        refine r_bipush B (pc := 14) dX5_takeBarred_14 kb_48 ?_
        refine r_isub B (pc := 16) dX5_takeBarred_16 ?_
        refine r_nm hf (fun y4 hf => ?_)
        refine r_istore_n B hnL (pc := 17) dX5_takeBarred_17 rfl (by decide) ?_
        refine r_lc (loc' := [some (.ref (ad 37)), some (.int v1), some (.int v2), some (.int y4)]) rfl ?_
        refine r_iload_n B (pc := 18) dX5_takeBarred_18 rfl rfl ?_
        refine r_if_lt B (pc := 19) (tgt := 61) dX5_takeBarred_19 (by decide) hf (fun _ hf => ?_) (fun _ hf => ?_)
        · exact r_mask [false, true, false, false] rfl (k61 v1 s3 hf)
        · refine r_iload_n B (pc := 22) dX5_takeBarred_22 rfl rfl ?_
          refine r_bipush B (pc := 23) dX5_takeBarred_23 kb_10 ?_
          refine r_icmp_ge B (pc := 25) (tgt := 61) dX5_takeBarred_25 (by decide) hf (fun _ hf => ?_) (fun _ hf => ?_)
          · exact r_mask [false, true, false, false] rfl (k61 v1 s3 hf)
          · refine r_iload_n B (pc := 28) dX5_takeBarred_28 rfl rfl ?_
            refine r_iload_n B (pc := 29) dX5_takeBarred_29 rfl rfl ?_
            refine r_cNI B (c_X6_has X.l X.D K _ v1 y4) F_X6_has nk_RX5_71 (Nat.le_of_ble_eq_true rfl) (Nat.le_of_ble_eq_true rfl) (Nat.le_of_ble_eq_true rfl) (pc := 30) dX5_takeBarred_30 rfl ?_
            refine r_if_eq B (pc := 33) (tgt := 39) dX5_takeBarred_33 (by decide) hf (fun _ hf => ?_) (fun _ hf => ?_)
            · refine r_iload_n B (pc := 39) dX5_takeBarred_39 rfl rfl ?_
              refine r_iconst B (pc := 40) dX5_takeBarred_40 kc_1 ?_
              refine r_iload_n B (pc := 41) dX5_takeBarred_41 rfl rfl ?_
              refine r_ishl B (pc := 42) dX5_takeBarred_42 ?_
              refine r_ior B (pc := 43) dX5_takeBarred_43 ?_
              refine r_nm hf (fun y5 hf => ?_)
              refine r_istore_n B hnL (pc := 44) dX5_takeBarred_44 rfl (by decide) ?_
              refine r_lc (loc' := [some (.ref (ad 37)), some (.int y5), some (.int v2), some (.int y4)]) rfl ?_
              refine r_aload_n B (pc := 45) dX5_takeBarred_45 rfl rfl ?_
              refine r_dup B (pc := 46) dX5_takeBarred_46 rfl ?_
              refine gC_RX5_15_37 B (pc := 47) dX5_takeBarred_47 ?_
              refine r_iconst B (pc := 50) dX5_takeBarred_50 kc_1 ?_
              refine r_iadd B (pc := 51) dX5_takeBarred_51 ?_
              refine pC_RX5_15_37 B (pc := 52) dX5_takeBarred_52 hf (fun s6 hf => ?_)
              refine r_iincS B hnL (pc := 55) dX5_takeBarred_55 rfl kc_1 (by decide) hf (fun y7 hf => ?_)
              refine r_lc (loc' := [some (.ref (ad 37)), some (.int y5), some (.int y7), some (.int y4)]) rfl ?_
              refine r_goto B (pc := 58) (tgt := 4) dX5_takeBarred_58 (by decide) ?_
              exact r_mask [true, true, true, false] rfl (ih4 y5 y7 s6 hf)
            · refine r_goto B (pc := 36) (tgt := 61) dX5_takeBarred_36 (by decide) ?_
              exact r_mask [false, true, false, false] rfl (k61 v1 s3 hf)
  exact r_mask [true, true, true, false] rfl (k4 FU 0 0 σ hf)
