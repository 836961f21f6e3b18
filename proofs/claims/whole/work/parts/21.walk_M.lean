set_option maxHeartbeats 4000000 in
set_option maxRecDepth 20000 in
theorem c_X7_owedTo (l : Launch) (D : va_G) (K : Kt) (ad : Nat → Nat) (σ : St) (x1 : Int32) {r : Int32} (hf : f_X7_owedTo σ x1 = some r) : CtI l yX7_owedTo cX7_owedTo 4 (some .int) 2 52 D K [.ref (ad 0), .int x1] (wM ad K σ) r (wM ad K σ) := by
  refine met_i pl_RX7 (Nat.le_of_ble_eq_true rfl) (fun X hnL B RET => ?_)
  suffices h : MW X (wM ad K σ) 0 [some (.ref (ad 0)), some (.int x1), none, none] [] from h
  unfold f_X7_owedTo at hf
  refine r_iconst B (pc := 0) dX7_owedTo_0 kc_0 ?_
  refine r_istore_n B hnL (pc := 1) dX7_owedTo_1 rfl (by decide) ?_
  refine r_lc (loc' := [some (.ref (ad 0)), some (.int x1), some (.int 0), none]) rfl ?_
  refine r_iconst B (pc := 2) dX7_owedTo_2 kc_0 ?_
  refine r_istore_n B hnL (pc := 3) dX7_owedTo_3 rfl (by decide) ?_
  refine r_lc (loc' := [some (.ref (ad 0)), some (.int x1), some (.int 0), some (.int 0)]) rfl ?_
  have k4 : ∀ (n4 : Nat) (v2 : Int32) (v3 : Int32), f_X7_owedTo_h4 σ x1 n4 v2 v3 = some r → MW X (wM ad K σ) 4 [some (.ref (ad 0)), some (.int x1), some (.int v2), some (.int v3)] [] := by
    intro n4
    induction n4 with
    | zero => intro v2 v3 hf; exact nn_z hf
    | succ n4 ih4 =>
      intro v2 v3 hf
      rw [f_X7_owedTo_h4] at hf
      refine r_iload_n B (pc := 4) dX7_owedTo_4 rfl rfl ?_
      refine r_aload_n B (pc := 5) dX7_owedTo_5 rfl rfl ?_
      refine gM_RX7_85_0 B (pc := 6) dX7_owedTo_6 ?_
      refine r_icmp_ge B (pc := 9) (tgt := 37) dX7_owedTo_9 (by decide) hf (fun _ hf => ?_) (fun _ hf => ?_)
      · refine r_iload_n B (pc := 37) dX7_owedTo_37 rfl rfl ?_
        exact e_rz hf (nar_i _) (RET 38 _ dX7_owedTo_38)
      · refine r_iload_n B (pc := 12) dX7_owedTo_12 rfl rfl ?_
        refine r_aload_n B (pc := 13) dX7_owedTo_13 rfl rfl ?_
        refine r_iload_n B (pc := 14) dX7_owedTo_14 rfl rfl ?_
        refine r_iload_n B (pc := 15) dX7_owedTo_15 rfl rfl ?_
        obtain ⟨r2, hc1, hf⟩ := bdr_e hf
        refine r_cVI B (c_X7_isOwed X.l X.D K ad σ x1 v3 hc1) F_X7_isOwed lk_RX7_157 (q0 := 0) (ci := 7) rfl rfl (Nat.le_of_ble_eq_true rfl) (Nat.le_of_ble_eq_true rfl) (Nat.le_of_ble_eq_true rfl) (pc := 16) dX7_owedTo_16 rfl ?_
        have k29 : ∀ (v3 : Int32) (t0 : Int32) (t1 : Int32), f_X7_owedTo_b29 (f_X7_owedTo_h4 σ x1 n4) σ x1 v3 t0 t1 = some r → MW X (wM ad K σ) 29 [some (.ref (ad 0)), some (.int x1), none, some (.int v3)] [.int t0, .int t1] := by
          intro v3 t0 t1 hf
          unfold f_X7_owedTo_b29 at hf
          refine r_ior B (pc := 29) dX7_owedTo_29 ?_
          refine r_nm hf (fun y3 hf => ?_)
          refine r_istore_n B hnL (pc := 30) dX7_owedTo_30 rfl (by decide) ?_
          refine r_lc (loc' := [some (.ref (ad 0)), some (.int x1), some (.int y3), some (.int v3)]) rfl ?_
          refine r_iincS B hnL (pc := 31) dX7_owedTo_31 rfl kc_1 (by decide) hf (fun y4 hf => ?_)
          refine r_lc (loc' := [some (.ref (ad 0)), some (.int x1), some (.int y3), some (.int y4)]) rfl ?_
          refine r_goto B (pc := 34) (tgt := 4) dX7_owedTo_34 (by decide) ?_
          exact r_mask [true, true, true, true] rfl (ih4 y3 y4 hf)
        refine r_if_eq B (pc := 19) (tgt := 28) dX7_owedTo_19 (by decide) hf (fun _ hf => ?_) (fun _ hf => ?_)
        · refine r_iconst B (pc := 28) dX7_owedTo_28 kc_0 ?_
          exact r_mask [true, true, false, true] rfl (k29 v3 0 v2 hf)
        · refine r_iconst B (pc := 22) dX7_owedTo_22 kc_1 ?_
          refine r_iload_n B (pc := 23) dX7_owedTo_23 rfl rfl ?_
          refine r_ishl B (pc := 24) dX7_owedTo_24 ?_
          refine r_goto B (pc := 25) (tgt := 29) dX7_owedTo_25 (by decide) ?_
          exact r_mask [true, true, false, true] rfl (k29 v3 (isl 1 v3) v2 hf)
  exact r_mask [true, true, true, true] rfl (k4 FU 0 0 hf)
set_option maxHeartbeats 4000000 in
set_option maxRecDepth 20000 in
theorem c_X7_arrears (l : Launch) (D : va_G) (K : Kt) (ad : Nat → Nat) (σ : St) (x1 : Int32) {r : Int32} (hf : f_X7_arrears σ x1 = some r) : CtI l yX7_arrears cX7_arrears 2 (some .int) 3 75 D K [.ref (ad 0), .int x1] (wM ad K σ) r (wM ad K σ) := by
  refine met_i pl_RX7 (Nat.le_of_ble_eq_true rfl) (fun X hnL B RET => ?_)
  suffices h : MW X (wM ad K σ) 0 [some (.ref (ad 0)), some (.int x1)] [] from h
  unfold f_X7_arrears at hf
  refine r_aload_n B (pc := 0) dX7_arrears_0 rfl rfl ?_
  refine r_iload_n B (pc := 1) dX7_arrears_1 rfl rfl ?_
  obtain ⟨r2, hc1, hf⟩ := bdr_e hf
  refine r_cVI B (c_X7_owedTo X.l X.D K ad σ x1 hc1) F_X7_owedTo lk_RX7_160 (q0 := 0) (ci := 7) rfl rfl (Nat.le_of_ble_eq_true rfl) (Nat.le_of_ble_eq_true rfl) (Nat.le_of_ble_eq_true rfl) (pc := 2) dX7_arrears_2 rfl ?_
  refine r_aload_n B (pc := 5) dX7_arrears_5 rfl rfl ?_
  refine gM_RX7_38_0 B (pc := 6) dX7_arrears_6 ?_
  refine r_iconst B (pc := 9) dX7_arrears_9 kc_0 ?_
  refine r_iload_n B (pc := 10) dX7_arrears_10 rfl rfl ?_
  refine r_iadd B (pc := 11) dX7_arrears_11 ?_
  refine aldM_9 B (pc := 12) dX7_arrears_12 hf (fun _ hf => ?_)
  refine r_iconst B (pc := 13) dX7_arrears_13 kc_m1 ?_
  refine r_ixor B (pc := 14) dX7_arrears_14 ?_
  refine r_iand B (pc := 15) dX7_arrears_15 ?_
  exact e_rz hf (nar_i _) (RET 16 _ dX7_arrears_16)
set_option maxHeartbeats 4000000 in
set_option maxRecDepth 20000 in
theorem c_X7_isLate (l : Launch) (D : va_G) (K : Kt) (ad : Nat → Nat) (σ : St) (x1 : Int32) {r : Int32} (hf : f_X7_isLate σ x1 = some r) : CtI l yX7_isLate cX7_isLate 4 (some .boolean) 4 96 D K [.ref (ad 0), .int x1] (wM ad K σ) r (wM ad K σ) := by
  refine met_i pl_RX7 (Nat.le_of_ble_eq_true rfl) (fun X hnL B RET => ?_)
  suffices h : MW X (wM ad K σ) 0 [some (.ref (ad 0)), some (.int x1), none, none] [] from h
  unfold f_X7_isLate at hf
  refine r_iconst B (pc := 0) dX7_isLate_0 kc_0 ?_
  refine r_istore_n B hnL (pc := 1) dX7_isLate_1 rfl (by decide) ?_
  refine r_lc (loc' := [some (.ref (ad 0)), some (.int x1), some (.int 0), none]) rfl ?_
  refine r_iconst B (pc := 2) dX7_isLate_2 kc_0 ?_
  refine r_istore_n B hnL (pc := 3) dX7_isLate_3 rfl (by decide) ?_
  refine r_lc (loc' := [some (.ref (ad 0)), some (.int x1), some (.int 0), some (.int 0)]) rfl ?_
  have k4 : ∀ (n4 : Nat) (v2 : Int32) (v3 : Int32), f_X7_isLate_h4 σ x1 n4 v2 v3 = some r → MW X (wM ad K σ) 4 [some (.ref (ad 0)), some (.int x1), some (.int v2), some (.int v3)] [] := by
    intro n4
    induction n4 with
    | zero => intro v2 v3 hf; exact nn_z hf
    | succ n4 ih4 =>
      intro v2 v3 hf
      rw [f_X7_isLate_h4] at hf
      refine r_iload_n B (pc := 4) dX7_isLate_4 rfl rfl ?_
      refine r_aload_n B (pc := 5) dX7_isLate_5 rfl rfl ?_
      refine gM_RX7_85_0 B (pc := 6) dX7_isLate_6 ?_
      refine r_icmp_ge B (pc := 9) (tgt := 56) dX7_isLate_9 (by decide) hf (fun _ hf => ?_) (fun _ hf => ?_)
      · refine r_iload_n B (pc := 56) dX7_isLate_56 rfl rfl ?_
        have hn := (it_n hf).1
        have hf := (it_n hf).2
        exact e_rz hf (nar_b hn) (RET 57 _ dX7_isLate_57)
      · refine r_iload_n B (pc := 12) dX7_isLate_12 rfl rfl ?_
        have k44 : ∀ (v3 : Int32), f_X7_isLate_b44 (f_X7_isLate_h4 σ x1 n4) σ x1 v3 = some r → MW X (wM ad K σ) 44 [some (.ref (ad 0)), some (.int x1), none, some (.int v3)] [] := by
          intro v3 hf
          unfold f_X7_isLate_b44 at hf
          refine r_iconst B (pc := 44) dX7_isLate_44 kc_1 ?_
          refine r_goto B (pc := 45) (tgt := 49) dX7_isLate_45 (by decide) ?_
          refine r_istore_n B hnL (pc := 49) dX7_isLate_49 rfl (by decide) ?_
          refine r_lc (loc' := [some (.ref (ad 0)), some (.int x1), some (.int 1), some (.int v3)]) rfl ?_
          refine r_iincS B hnL (pc := 50) dX7_isLate_50 rfl kc_1 (by decide) hf (fun y4 hf => ?_)
          refine r_lc (loc' := [some (.ref (ad 0)), some (.int x1), some (.int 1), some (.int y4)]) rfl ?_
          refine r_goto B (pc := 53) (tgt := 4) dX7_isLate_53 (by decide) ?_
          exact r_mask [true, true, true, true] rfl (ih4 1 y4 hf)
        refine r_if_ne B (pc := 13) (tgt := 44) dX7_isLate_13 (by decide) hf (fun _ hf => ?_) (fun _ hf => ?_)
        · exact r_mask [true, true, false, true] rfl (k44 v3 hf)
        · refine r_aload_n B (pc := 16) dX7_isLate_16 rfl rfl ?_
          refine r_iload_n B (pc := 17) dX7_isLate_17 rfl rfl ?_
          obtain ⟨r2, hc1, hf⟩ := bdr_e hf
          refine r_cVI B (c_X7_arrears X.l X.D K ad σ x1 hc1) F_X7_arrears lk_RX7_163 (q0 := 0) (ci := 7) rfl rfl (Nat.le_of_ble_eq_true rfl) (Nat.le_of_ble_eq_true rfl) (Nat.le_of_ble_eq_true rfl) (pc := 18) dX7_isLate_18 rfl ?_
          refine r_iload_n B (pc := 21) dX7_isLate_21 rfl rfl ?_
          refine r_cSI B (c_X7_has X.l X.D K _ r2 v3) F_X7_has lk_RX7_153 (Nat.le_of_ble_eq_true rfl) (Nat.le_of_ble_eq_true rfl) (Nat.le_of_ble_eq_true rfl) (pc := 22) dX7_isLate_22 rfl ?_
          have k48 : ∀ (v3 : Int32), f_X7_isLate_b48 (f_X7_isLate_h4 σ x1 n4) σ x1 v3 = some r → MW X (wM ad K σ) 48 [some (.ref (ad 0)), some (.int x1), none, some (.int v3)] [] := by
            intro v3 hf
            unfold f_X7_isLate_b48 at hf
            refine r_iconst B (pc := 48) dX7_isLate_48 kc_0 ?_
            refine r_istore_n B hnL (pc := 49) dX7_isLate_49 rfl (by decide) ?_
            refine r_lc (loc' := [some (.ref (ad 0)), some (.int x1), some (.int 0), some (.int v3)]) rfl ?_
            refine r_iincS B hnL (pc := 50) dX7_isLate_50 rfl kc_1 (by decide) hf (fun y3 hf => ?_)
            refine r_lc (loc' := [some (.ref (ad 0)), some (.int x1), some (.int 0), some (.int y3)]) rfl ?_
            refine r_goto B (pc := 53) (tgt := 4) dX7_isLate_53 (by decide) ?_
            exact r_mask [true, true, true, true] rfl (ih4 0 y3 hf)
          refine r_if_eq B (pc := 25) (tgt := 48) dX7_isLate_25 (by decide) hf (fun _ hf => ?_) (fun _ hf => ?_)
          · exact r_mask [true, true, false, true] rfl (k48 v3 hf)
          · refine r_aload_n B (pc := 28) dX7_isLate_28 rfl rfl ?_
            refine gM_RX7_19_0 B (pc := 29) dX7_isLate_29 ?_
            refine r_iload_n B (pc := 32) dX7_isLate_32 rfl rfl ?_
            refine aldM_4 B (pc := 33) dX7_isLate_33 hf (fun _ hf => ?_)
            refine r_bipush B (pc := 34) dX7_isLate_34 kb_9 ?_
            refine r_iadd B (pc := 36) dX7_isLate_36 ?_
            refine r_aload_n B (pc := 37) dX7_isLate_37 rfl rfl ?_
            refine gM_RX7_133_0 B (pc := 38) dX7_isLate_38 ?_
            refine r_icmp_gt B (pc := 41) (tgt := 48) dX7_isLate_41 (by decide) hf (fun _ hf => ?_) (fun _ hf => ?_)
            · exact r_mask [true, true, false, true] rfl (k48 v3 hf)
            · exact r_mask [true, true, false, true] rfl (k44 v3 hf)
  exact r_mask [true, true, true, true] rfl (k4 FU 0 0 hf)
set_option maxHeartbeats 4000000 in
set_option maxRecDepth 20000 in
theorem c_X7_told (l : Launch) (D : va_G) (K : Kt) (ad : Nat → Nat) (σ : St) (x1 : Int32) (x2 : Int32) {r : Int32} (hf : f_X7_told σ x1 x2 = some r) : CtI l yX7_told cX7_told 3 (some .int) 5 119 D K [.ref (ad 0), .int x1, .int x2] (wM ad K σ) r (wM ad K σ) := by
  refine met_i pl_RX7 (Nat.le_of_ble_eq_true rfl) (fun X hnL B RET => ?_)
  suffices h : MW X (wM ad K σ) 0 [some (.ref (ad 0)), some (.int x1), some (.int x2)] [] from h
  unfold f_X7_told at hf
  refine r_aload_n B (pc := 0) dX7_told_0 rfl rfl ?_
  refine r_iload_n B (pc := 1) dX7_told_1 rfl rfl ?_
  refine r_cVI B (c_X7_isGrave X.l X.D K ad σ x1) F_X7_isGrave lk_RX7_166 (q0 := 0) (ci := 7) rfl rfl (Nat.le_of_ble_eq_true rfl) (Nat.le_of_ble_eq_true rfl) (Nat.le_of_ble_eq_true rfl) (pc := 2) dX7_told_2 rfl ?_
  refine r_if_ne B (pc := 5) (tgt := 10) dX7_told_5 (by decide) hf (fun _ hf => ?_) (fun _ hf => ?_)
  · refine r_iload_n B (pc := 10) dX7_told_10 rfl rfl ?_
    by_cases q11_0 : x2 = 0
    · have hf := it_t hf q11_0
      refine r_tsw B (pc := 11) (off := 45) (tgt := 56) dX7_told_11 (by rw [q11_0]; decide) (by rw [q11_0]; decide) (by rw [q11_0]; decide) (by decide) ?_
      refine r_aload_n B (pc := 56) dX7_told_56 rfl rfl ?_
      refine gM_RX7_7_0 B (pc := 57) dX7_told_57 ?_
      refine r_iload_n B (pc := 60) dX7_told_60 rfl rfl ?_
      refine aldM_1 B (pc := 61) dX7_told_61 hf (fun _ hf => ?_)
      exact e_rz hf (nar_i _) (RET 62 _ dX7_told_62)
    have hf := it_f hf q11_0
    by_cases q11_1 : x2 = 1
    · have hf := it_t hf q11_1
      refine r_tsw B (pc := 11) (off := 52) (tgt := 63) dX7_told_11 (by rw [q11_1]; decide) (by rw [q11_1]; decide) (by rw [q11_1]; decide) (by decide) ?_
      refine r_aload_n B (pc := 63) dX7_told_63 rfl rfl ?_
      refine gM_RX7_13_0 B (pc := 64) dX7_told_64 ?_
      refine r_iload_n B (pc := 67) dX7_told_67 rfl rfl ?_
      refine aldM_2 B (pc := 68) dX7_told_68 hf (fun _ hf => ?_)
      exact e_rz hf (nar_i _) (RET 69 _ dX7_told_69)
    have hf := it_f hf q11_1
    by_cases q11_2 : x2 = 2
    · have hf := it_t hf q11_2
      refine r_tsw B (pc := 11) (off := 59) (tgt := 70) dX7_told_11 (by rw [q11_2]; decide) (by rw [q11_2]; decide) (by rw [q11_2]; decide) (by decide) ?_
      refine r_aload_n B (pc := 70) dX7_told_70 rfl rfl ?_
      refine gM_RX7_16_0 B (pc := 71) dX7_told_71 ?_
      refine r_iload_n B (pc := 74) dX7_told_74 rfl rfl ?_
      refine aldM_3 B (pc := 75) dX7_told_75 hf (fun _ hf => ?_)
      exact e_rz hf (nar_i _) (RET 76 _ dX7_told_76)
    have hf := it_f hf q11_2
    by_cases q11_3 : x2 = 3
    · have hf := it_t hf q11_3
      refine r_tsw B (pc := 11) (off := 66) (tgt := 77) dX7_told_11 (by rw [q11_3]; decide) (by rw [q11_3]; decide) (by rw [q11_3]; decide) (by decide) ?_
      refine r_aload_n B (pc := 77) dX7_told_77 rfl rfl ?_
      refine gM_RX7_38_0 B (pc := 78) dX7_told_78 ?_
      refine r_iconst B (pc := 81) dX7_told_81 kc_0 ?_
      refine r_iload_n B (pc := 82) dX7_told_82 rfl rfl ?_
      refine r_iadd B (pc := 83) dX7_told_83 ?_
      refine aldM_9 B (pc := 84) dX7_told_84 hf (fun _ hf => ?_)
      exact e_rz hf (nar_i _) (RET 85 _ dX7_told_85)
    have hf := it_f hf q11_3
    by_cases q11_4 : x2 = 4
    · have hf := it_t hf q11_4
      refine r_tsw B (pc := 11) (off := 75) (tgt := 86) dX7_told_11 (by rw [q11_4]; decide) (by rw [q11_4]; decide) (by rw [q11_4]; decide) (by decide) ?_
      refine r_aload_n B (pc := 86) dX7_told_86 rfl rfl ?_
      refine r_iload_n B (pc := 87) dX7_told_87 rfl rfl ?_
      obtain ⟨r2, hc1, hf⟩ := bdr_e hf
      refine r_cVI B (c_X7_owedTo X.l X.D K ad σ x1 hc1) F_X7_owedTo lk_RX7_160 (q0 := 0) (ci := 7) rfl rfl (Nat.le_of_ble_eq_true rfl) (Nat.le_of_ble_eq_true rfl) (Nat.le_of_ble_eq_true rfl) (pc := 88) dX7_told_88 rfl ?_
      exact e_rz hf (nar_i _) (RET 91 _ dX7_told_91)
    have hf := it_f hf q11_4
    by_cases q11_5 : x2 = 5
    · have hf := it_t hf q11_5
      refine r_tsw B (pc := 11) (off := 81) (tgt := 92) dX7_told_11 (by rw [q11_5]; decide) (by rw [q11_5]; decide) (by rw [q11_5]; decide) (by decide) ?_
      refine r_aload_n B (pc := 92) dX7_told_92 rfl rfl ?_
      refine r_iload_n B (pc := 93) dX7_told_93 rfl rfl ?_
      obtain ⟨r4, hc3, hf⟩ := bdr_e hf
      refine r_cVI B (c_X7_arrears X.l X.D K ad σ x1 hc3) F_X7_arrears lk_RX7_163 (q0 := 0) (ci := 7) rfl rfl (Nat.le_of_ble_eq_true rfl) (Nat.le_of_ble_eq_true rfl) (Nat.le_of_ble_eq_true rfl) (pc := 94) dX7_told_94 rfl ?_
      exact e_rz hf (nar_i _) (RET 97 _ dX7_told_97)
    have hf := it_f hf q11_5
    by_cases q11_6 : x2 = 6
    · have hf := it_t hf q11_6
      refine r_tsw B (pc := 11) (off := 87) (tgt := 98) dX7_told_11 (by rw [q11_6]; decide) (by rw [q11_6]; decide) (by rw [q11_6]; decide) (by decide) ?_
      refine r_aload_n B (pc := 98) dX7_told_98 rfl rfl ?_
      refine gM_RX7_38_0 B (pc := 99) dX7_told_99 ?_
      refine r_bipush B (pc := 102) dX7_told_102 kb_10 ?_
      refine r_iload_n B (pc := 104) dX7_told_104 rfl rfl ?_
      refine r_iadd B (pc := 105) dX7_told_105 ?_
      refine aldM_9 B (pc := 106) dX7_told_106 hf (fun _ hf => ?_)
      exact e_rz hf (nar_i _) (RET 107 _ dX7_told_107)
    have hf := it_f hf q11_6
    by_cases q11_7 : x2 = 7
    · have hf := it_t hf q11_7
      refine r_tsw B (pc := 11) (off := 97) (tgt := 108) dX7_told_11 (by rw [q11_7]; decide) (by rw [q11_7]; decide) (by rw [q11_7]; decide) (by decide) ?_
      refine r_aload_n B (pc := 108) dX7_told_108 rfl rfl ?_
      refine r_iload_n B (pc := 109) dX7_told_109 rfl rfl ?_
      obtain ⟨r6, hc5, hf⟩ := bdr_e hf
      refine r_cVI B (c_X7_isLate X.l X.D K ad σ x1 hc5) F_X7_isLate lk_RX7_170 (q0 := 0) (ci := 7) rfl rfl (Nat.le_of_ble_eq_true rfl) (Nat.le_of_ble_eq_true rfl) (Nat.le_of_ble_eq_true rfl) (pc := 110) dX7_told_110 rfl ?_
      refine r_if_eq B (pc := 113) (tgt := 120) dX7_told_113 (by decide) hf (fun _ hf => ?_) (fun _ hf => ?_)
      · refine r_iconst B (pc := 120) dX7_told_120 kc_0 ?_
        exact e_rz hf (nar_i _) (RET 121 _ dX7_told_121)
      · refine r_iconst B (pc := 116) dX7_told_116 kc_1 ?_
        refine r_goto B (pc := 117) (tgt := 121) dX7_told_117 (by decide) ?_
        exact e_rz hf (nar_i _) (RET 121 _ dX7_told_121)
    have hf := it_f hf q11_7
    refine r_tswd B (pc := 11) (tgt := 122) dX7_told_11 (sw_out 8 0 (fun k hk => match k, hk with | 0, _ => fun e => q11_0 (Int32.toInt_inj.mp (e.trans (by decide))) | 1, _ => fun e => q11_1 (Int32.toInt_inj.mp (e.trans (by decide))) | 2, _ => fun e => q11_2 (Int32.toInt_inj.mp (e.trans (by decide))) | 3, _ => fun e => q11_3 (Int32.toInt_inj.mp (e.trans (by decide))) | 4, _ => fun e => q11_4 (Int32.toInt_inj.mp (e.trans (by decide))) | 5, _ => fun e => q11_5 (Int32.toInt_inj.mp (e.trans (by decide))) | 6, _ => fun e => q11_6 (Int32.toInt_inj.mp (e.trans (by decide))) | 7, _ => fun e => q11_7 (Int32.toInt_inj.mp (e.trans (by decide))))) (by decide) ?_
    refine r_iconst B (pc := 122) dX7_told_122 kc_m1 ?_
    exact e_rz hf (nar_i _) (RET 123 _ dX7_told_123)
  · refine r_iconst B (pc := 8) dX7_told_8 kc_m1 ?_
    exact e_rz hf (nar_i _) (RET 9 _ dX7_told_9)
set_option maxHeartbeats 4000000 in
set_option maxRecDepth 20000 in
theorem c_X7_of (l : Launch) (D : va_G) (K : Kt) (ad : Nat → Nat) (σ : St) (x1 : Int32) (x2 : Int32) {r : Int32} (hf : f_X7_of σ x1 x2 = some r) : CtI l yX7_of cX7_of 6 (some .int) 2 52 D K [.ref (ad 0), .int x1, .int x2] (wM ad K σ) r (wM ad K σ) := by
  refine met_i pl_RX7 (Nat.le_of_ble_eq_true rfl) (fun X hnL B RET => ?_)
  suffices h : MW X (wM ad K σ) 0 [some (.ref (ad 0)), some (.int x1), some (.int x2), none, none, none] [] from h
  unfold f_X7_of at hf
  refine r_aload_n B (pc := 0) dX7_of_0 rfl rfl ?_
  refine r_iload_n B (pc := 1) dX7_of_1 rfl rfl ?_
  refine r_i2l B (pc := 2) dX7_of_2 ?_
  refine r_cVI B (c_X7_isNews X.l X.D K ad σ (x1.toInt64)) F_X7_isNews lk_RX7_123 (q0 := 0) (ci := 7) rfl rfl (Nat.le_of_ble_eq_true rfl) (Nat.le_of_ble_eq_true rfl) (Nat.le_of_ble_eq_true rfl) (pc := 3) dX7_of_3 rfl ?_
  refine r_if_eq B (pc := 6) (tgt := 21) dX7_of_6 (by decide) hf (fun _ hf => ?_) (fun _ hf => ?_)
  · refine r_iconst B (pc := 21) dX7_of_21 kc_m1 ?_
    exact e_rz hf (nar_i _) (RET 22 _ dX7_of_22)
  · refine r_iload_n B (pc := 9) dX7_of_9 rfl rfl ?_
    refine r_i2l B (pc := 10) dX7_of_10 ?_
    refine r_lconst B (pc := 11) dX7_of_11 kl_0 ?_
    refine r_ldc2 B (pc := 12) kp_RX7_93 dX7_of_12 ?_
    refine r_cSI B (c_X7_in X.l X.D K _ (x2.toInt64) 0 5) F_X7_in lk_RX7_81 (Nat.le_of_ble_eq_true rfl) (Nat.le_of_ble_eq_true rfl) (Nat.le_of_ble_eq_true rfl) (pc := 15) dX7_of_15 rfl ?_
    refine r_if_ne B (pc := 18) (tgt := 23) dX7_of_18 (by decide) hf (fun _ hf => ?_) (fun _ hf => ?_)
    · refine r_iload_n B (pc := 23) dX7_of_23 rfl rfl ?_
      refine r_iconst B (pc := 24) dX7_of_24 kc_4 ?_
      refine r_icmp_ge B (pc := 25) (tgt := 78) dX7_of_25 (by decide) hf (fun _ hf => ?_) (fun _ hf => ?_)
      · refine r_iconst B (pc := 78) dX7_of_78 kc_0 ?_
        refine r_istore_n B hnL (pc := 79) dX7_of_79 rfl (by decide) ?_
        refine r_lc (loc' := [some (.ref (ad 0)), some (.int x1), some (.int x2), some (.int 0), none, none]) rfl ?_
        refine r_iconst B (pc := 80) dX7_of_80 kc_0 ?_
        refine r_istore B hnL (pc := 81) dX7_of_81 (by decide) ?_
        refine r_lc (loc' := [some (.ref (ad 0)), some (.int x1), some (.int x2), some (.int 0), some (.int 0), none]) rfl ?_
        have k83 : ∀ (n83 : Nat) (v3 : Int32) (v4 : Int32), f_X7_of_h83 σ x1 x2 n83 v3 v4 = some r → MW X (wM ad K σ) 83 [some (.ref (ad 0)), some (.int x1), some (.int x2), some (.int v3), some (.int v4), none] [] := by
          intro n83
          induction n83 with
          | zero => intro v3 v4 hf; exact nn_z hf
          | succ n83 ih83 =>
            intro v3 v4 hf
            rw [f_X7_of_h83] at hf
            refine r_iload B (pc := 83) dX7_of_83 rfl ?_
            refine r_aload_n B (pc := 85) dX7_of_85 rfl rfl ?_
            refine gM_RX7_78_0 B (pc := 86) dX7_of_86 ?_
            refine r_icmp_ge B (pc := 89) (tgt := 144) dX7_of_89 (by decide) hf (fun _ hf => ?_) (fun _ hf => ?_)
            · refine r_iload_n B (pc := 144) dX7_of_144 rfl rfl ?_
              exact e_rz hf (nar_i _) (RET 145 _ dX7_of_145)
            · refine r_iload_n B (pc := 92) dX7_of_92 rfl rfl ?_
              refine r_iconst B (pc := 93) dX7_of_93 kc_4 ?_
              have k120 : ∀ (v3 : Int32) (v4 : Int32) (t0 : Int32), f_X7_of_b120 (f_X7_of_h83 σ x1 x2 n83) σ x1 x2 v3 v4 t0 = some r → MW X (wM ad K σ) 120 [some (.ref (ad 0)), some (.int x1), some (.int x2), some (.int v3), some (.int v4), none] [.int t0] := by
                intro v3 v4 t0 hf
                unfold f_X7_of_b120 at hf
                refine r_istore B hnL (pc := 120) dX7_of_120 (by decide) ?_
                refine r_lc (loc' := [some (.ref (ad 0)), some (.int x1), some (.int x2), some (.int v3), some (.int v4), some (.int t0)]) rfl ?_
                refine r_iload_n B (pc := 122) dX7_of_122 rfl rfl ?_
                refine r_iload B (pc := 123) dX7_of_123 rfl ?_
                have k136 : ∀ (v4 : Int32) (t0 : Int32) (t1 : Int32), f_X7_of_b136 (f_X7_of_h83 σ x1 x2 n83) σ x1 x2 v4 t0 t1 = some r → MW X (wM ad K σ) 136 [some (.ref (ad 0)), some (.int x1), some (.int x2), none, some (.int v4), none] [.int t0, .int t1] := by
                  intro v4 t0 t1 hf
                  unfold f_X7_of_b136 at hf
                  refine r_ior B (pc := 136) dX7_of_136 ?_
                  refine r_nm hf (fun y3 hf => ?_)
                  refine r_istore_n B hnL (pc := 137) dX7_of_137 rfl (by decide) ?_
                  refine r_lc (loc' := [some (.ref (ad 0)), some (.int x1), some (.int x2), some (.int y3), some (.int v4), none]) rfl ?_
                  refine r_iincS B hnL (pc := 138) dX7_of_138 rfl kc_1 (by decide) hf (fun y4 hf => ?_)
                  refine r_lc (loc' := [some (.ref (ad 0)), some (.int x1), some (.int x2), some (.int y3), some (.int y4), none]) rfl ?_
                  refine r_goto B (pc := 141) (tgt := 83) dX7_of_141 (by decide) ?_
                  exact r_mask [true, true, true, true, true, false] rfl (ih83 y3 y4 hf)
                refine r_if_eq B (pc := 125) (tgt := 135) dX7_of_125 (by decide) hf (fun _ hf => ?_) (fun _ hf => ?_)
                · refine r_iconst B (pc := 135) dX7_of_135 kc_0 ?_
                  exact r_mask [true, true, true, false, true, false] rfl (k136 v4 0 v3 hf)
                · refine r_iconst B (pc := 128) dX7_of_128 kc_1 ?_
                  refine r_iload B (pc := 129) dX7_of_129 rfl ?_
                  refine r_ishl B (pc := 131) dX7_of_131 ?_
                  refine r_goto B (pc := 132) (tgt := 136) dX7_of_132 (by decide) ?_
                  exact r_mask [true, true, true, false, true, false] rfl (k136 v4 (isl 1 v4) v3 hf)
              refine r_icmp_ne B (pc := 94) (tgt := 107) dX7_of_94 (by decide) hf (fun _ hf => ?_) (fun _ hf => ?_)
              · refine r_aload_n B (pc := 107) dX7_of_107 rfl rfl ?_
                refine gM_RX7_38_0 B (pc := 108) dX7_of_108 ?_
                refine r_iconst B (pc := 111) dX7_of_111 kc_0 ?_
                refine r_iload B (pc := 112) dX7_of_112 rfl ?_
                refine r_iadd B (pc := 114) dX7_of_114 ?_
                refine aldM_9 B (pc := 115) dX7_of_115 hf (fun _ hf => ?_)
                refine r_iload_n B (pc := 116) dX7_of_116 rfl rfl ?_
                refine r_cSI B (c_X7_has X.l X.D K _ (σ.1 9 (ix (0 + v4))) x1) F_X7_has lk_RX7_153 (Nat.le_of_ble_eq_true rfl) (Nat.le_of_ble_eq_true rfl) (Nat.le_of_ble_eq_true rfl) (pc := 117) dX7_of_117 rfl ?_
                exact r_mask [true, true, true, true, true, false] rfl (k120 v3 v4 (f_X7_has (σ.1 9 (ix (0 + v4))) x1) hf)
              · refine r_aload_n B (pc := 97) dX7_of_97 rfl rfl ?_
                refine r_iload B (pc := 98) dX7_of_98 rfl ?_
                refine r_iload_n B (pc := 100) dX7_of_100 rfl rfl ?_
                obtain ⟨r2, hc1, hf⟩ := bdr_e hf
                refine r_cVI B (c_X7_isOwed X.l X.D K ad σ v4 x1 hc1) F_X7_isOwed lk_RX7_157 (q0 := 0) (ci := 7) rfl rfl (Nat.le_of_ble_eq_true rfl) (Nat.le_of_ble_eq_true rfl) (Nat.le_of_ble_eq_true rfl) (pc := 101) dX7_of_101 rfl ?_
                refine r_goto B (pc := 104) (tgt := 120) dX7_of_104 (by decide) ?_
                exact r_mask [true, true, true, true, true, false] rfl (k120 v3 v4 r2 hf)
        exact r_mask [true, true, true, true, true, false] rfl (k83 FU 0 0 hf)
      · refine r_iload_n B (pc := 28) dX7_of_28 rfl rfl ?_
        refine r_if_ne B (pc := 29) (tgt := 41) dX7_of_29 (by decide) hf (fun _ hf => ?_) (fun _ hf => ?_)
        · refine r_iload_n B (pc := 41) dX7_of_41 rfl rfl ?_
          refine r_iconst B (pc := 42) dX7_of_42 kc_1 ?_
          refine r_icmp_ne B (pc := 43) (tgt := 55) dX7_of_43 (by decide) hf (fun _ hf => ?_) (fun _ hf => ?_)
          · refine r_iload_n B (pc := 55) dX7_of_55 rfl rfl ?_
            refine r_iconst B (pc := 56) dX7_of_56 kc_2 ?_
            refine r_icmp_ne B (pc := 57) (tgt := 69) dX7_of_57 (by decide) hf (fun _ hf => ?_) (fun _ hf => ?_)
            · refine r_aload_n B (pc := 69) dX7_of_69 rfl rfl ?_
              refine gM_RX7_110_0 B (pc := 70) dX7_of_70 ?_
              refine r_iload_n B (pc := 73) dX7_of_73 rfl rfl ?_
              refine r_ishr B (pc := 74) dX7_of_74 ?_
              refine r_iconst B (pc := 75) dX7_of_75 kc_1 ?_
              refine r_iand B (pc := 76) dX7_of_76 ?_
              exact e_rz hf (nar_i _) (RET 77 _ dX7_of_77)
            · refine r_aload_n B (pc := 60) dX7_of_60 rfl rfl ?_
              refine gM_RX7_25_0 B (pc := 61) dX7_of_61 ?_
              refine r_iload_n B (pc := 64) dX7_of_64 rfl rfl ?_
              refine aldM_6 B (pc := 65) dX7_of_65 hf (fun _ hf => ?_)
              refine r_goto B (pc := 66) (tgt := 77) dX7_of_66 (by decide) ?_
              exact e_rz hf (nar_i _) (RET 77 _ dX7_of_77)
          · refine r_aload_n B (pc := 46) dX7_of_46 rfl rfl ?_
            refine gM_RX7_22_0 B (pc := 47) dX7_of_47 ?_
            refine r_iload_n B (pc := 50) dX7_of_50 rfl rfl ?_
            refine aldM_5 B (pc := 51) dX7_of_51 hf (fun _ hf => ?_)
            refine r_goto B (pc := 52) (tgt := 77) dX7_of_52 (by decide) ?_
            exact e_rz hf (nar_i _) (RET 77 _ dX7_of_77)
        · refine r_aload_n B (pc := 32) dX7_of_32 rfl rfl ?_
          refine gM_RX7_19_0 B (pc := 33) dX7_of_33 ?_
          refine r_iload_n B (pc := 36) dX7_of_36 rfl rfl ?_
          refine aldM_4 B (pc := 37) dX7_of_37 hf (fun _ hf => ?_)
          refine r_goto B (pc := 38) (tgt := 77) dX7_of_38 (by decide) ?_
          exact e_rz hf (nar_i _) (RET 77 _ dX7_of_77)
    · refine r_iconst B (pc := 21) dX7_of_21 kc_m1 ?_
      exact e_rz hf (nar_i _) (RET 22 _ dX7_of_22)
set_option maxHeartbeats 4000000 in
set_option maxRecDepth 20000 in
theorem c_X7_type (l : Launch) (D : va_G) (K : Kt) (ad : Nat → Nat) (σ : St) (x1 : Int32) {r : Int32} {τ : St} (hf : f_X7_type σ x1 = some (r, τ)) : CtI l yX7_type cX7_type 2 (some .int) 1 25 D K [.ref (ad 0), .int x1] (wM ad K σ) r (wM ad K τ) := by
  refine met_i pl_RX7 (Nat.le_of_ble_eq_true rfl) (fun X hnL B RET => ?_)
  suffices h : MW X (wM ad K σ) 0 [some (.ref (ad 0)), some (.int x1)] [] from h
  unfold f_X7_type at hf
  refine r_iload_n B (pc := 0) dX7_type_0 rfl rfl ?_
  refine r_i2l B (pc := 1) dX7_type_1 ?_
  refine r_ldc2 B (pc := 2) kp_RX7_173 dX7_type_2 ?_
  refine r_ldc2 B (pc := 5) kp_RX7_175 dX7_type_5 ?_
  refine r_cSI B (c_X7_in X.l X.D K _ (x1.toInt64) 32 126) F_X7_in lk_RX7_81 (Nat.le_of_ble_eq_true rfl) (Nat.le_of_ble_eq_true rfl) (Nat.le_of_ble_eq_true rfl) (pc := 8) dX7_type_8 rfl ?_
  refine r_if_ne B (pc := 11) (tgt := 16) dX7_type_11 (by decide) hf (fun _ hf => ?_) (fun _ hf => ?_)
  · refine r_aload_n B (pc := 16) dX7_type_16 rfl rfl ?_
    refine gM_RX7_177_0 B (pc := 17) dX7_type_17 ?_
    refine r_sipush B (pc := 20) dX7_type_20 ks_160 ?_
    refine r_icmp_ne B (pc := 23) (tgt := 29) dX7_type_23 (by decide) hf (fun _ hf => ?_) (fun _ hf => ?_)
    · refine r_aload_n B (pc := 29) dX7_type_29 rfl rfl ?_
      refine gM_RX7_44_0 B (pc := 30) dX7_type_30 ?_
      refine r_aload_n B (pc := 33) dX7_type_33 rfl rfl ?_
      refine gM_RX7_177_0 B (pc := 34) dX7_type_34 ?_
      refine r_iload_n B (pc := 37) dX7_type_37 rfl rfl ?_
      refine astM_11 B (pc := 38) dX7_type_38 hf (fun s1 _ hf => ?_)
      refine r_aload_n B (pc := 39) dX7_type_39 rfl rfl ?_
      refine r_dup B (pc := 40) dX7_type_40 rfl ?_
      refine gM_RX7_177_0 B (pc := 41) dX7_type_41 ?_
      refine r_iconst B (pc := 44) dX7_type_44 kc_1 ?_
      refine r_iadd B (pc := 45) dX7_type_45 ?_
      refine pM_RX7_177_0 B (pc := 46) dX7_type_46 hf (fun s2 hf => ?_)
      refine r_aload_n B (pc := 49) dX7_type_49 rfl rfl ?_
      refine gM_RX7_177_0 B (pc := 50) dX7_type_50 ?_
      exact e_pz (F := (wM ad K)) hf (nar_i _) (RET 53 _ dX7_type_53)
    · refine r_bipush B (pc := 26) dX7_type_26 kb_m3 ?_
      exact e_pz (F := (wM ad K)) hf (nar_i _) (RET 28 _ dX7_type_28)
  · refine r_iconst B (pc := 14) dX7_type_14 kc_m1 ?_
    exact e_pz (F := (wM ad K)) hf (nar_i _) (RET 15 _ dX7_type_15)
set_option maxHeartbeats 4000000 in
set_option maxRecDepth 20000 in
theorem c_X7_nextLetter (l : Launch) (D : va_G) (K : Kt) (ad : Nat → Nat) (σ : St) {r : Int32} {τ : St} (hf : f_X7_nextLetter σ = some (r, τ)) : CtI l yX7_nextLetter cX7_nextLetter 1 (some .int) 0 0 D K [.ref (ad 0)] (wM ad K σ) r (wM ad K τ) := by
  refine met_i pl_RX7 (Nat.le_of_ble_eq_true rfl) (fun X hnL B RET => ?_)
  suffices h : MW X (wM ad K σ) 0 [some (.ref (ad 0))] [] from h
  unfold f_X7_nextLetter at hf
  have k0 : ∀ (n0 : Nat) (σ0 : St), f_X7_nextLetter_h0 n0 σ0 = some (r, τ) → MW X (wM ad K σ0) 0 [some (.ref (ad 0))] [] := by
    intro n0
    induction n0 with
    | zero => intro σ0 hf; exact nn_z hf
    | succ n0 ih0 =>
      intro σ0 hf
      rw [f_X7_nextLetter_h0] at hf
      refine r_aload_n B (pc := 0) dX7_nextLetter_0 rfl rfl ?_
      refine gM_RX7_180_0 B (pc := 1) dX7_nextLetter_1 ?_
      refine r_aload_n B (pc := 4) dX7_nextLetter_4 rfl rfl ?_
      refine gM_RX7_177_0 B (pc := 5) dX7_nextLetter_5 ?_
      have k38 : ∀ (σ38 : St), f_X7_nextLetter_b38 σ38 = some (r, τ) → MW X (wM ad K σ38) 38 [some (.ref (ad 0))] [] := by
        intro σ38 hf
        unfold f_X7_nextLetter_b38 at hf
        refine r_aload_n B (pc := 38) dX7_nextLetter_38 rfl rfl ?_
        refine gM_RX7_180_0 B (pc := 39) dX7_nextLetter_39 ?_
        refine r_aload_n B (pc := 42) dX7_nextLetter_42 rfl rfl ?_
        refine gM_RX7_177_0 B (pc := 43) dX7_nextLetter_43 ?_
        refine r_icmp_ge B (pc := 46) (tgt := 61) dX7_nextLetter_46 (by decide) hf (fun _ hf => ?_) (fun _ hf => ?_)
        · refine r_iconst B (pc := 61) dX7_nextLetter_61 kc_m1 ?_
          exact e_pz (F := (wM ad K)) hf (nar_i _) (RET 62 _ dX7_nextLetter_62)
        · refine r_aload_n B (pc := 49) dX7_nextLetter_49 rfl rfl ?_
          refine gM_RX7_44_0 B (pc := 50) dX7_nextLetter_50 ?_
          refine r_aload_n B (pc := 53) dX7_nextLetter_53 rfl rfl ?_
          refine gM_RX7_180_0 B (pc := 54) dX7_nextLetter_54 ?_
          refine aldM_11 B (pc := 57) dX7_nextLetter_57 hf (fun _ hf => ?_)
          refine r_goto B (pc := 58) (tgt := 62) dX7_nextLetter_58 (by decide) ?_
          exact e_pz (F := (wM ad K)) hf (nar_i _) (RET 62 _ dX7_nextLetter_62)
      refine r_icmp_ge B (pc := 8) (tgt := 38) dX7_nextLetter_8 (by decide) hf (fun _ hf => ?_) (fun _ hf => ?_)
      · exact r_mask [true] rfl (k38 σ0 hf)
      · refine r_aload_n B (pc := 11) dX7_nextLetter_11 rfl rfl ?_
        refine gM_RX7_44_0 B (pc := 12) dX7_nextLetter_12 ?_
        refine r_aload_n B (pc := 15) dX7_nextLetter_15 rfl rfl ?_
        refine gM_RX7_180_0 B (pc := 16) dX7_nextLetter_16 ?_
        refine aldM_11 B (pc := 19) dX7_nextLetter_19 hf (fun _ hf => ?_)
        refine r_bipush B (pc := 20) dX7_nextLetter_20 kb_32 ?_
        refine r_icmp_ne B (pc := 22) (tgt := 38) dX7_nextLetter_22 (by decide) hf (fun _ hf => ?_) (fun _ hf => ?_)
        · exact r_mask [true] rfl (k38 σ0 hf)
        · refine r_aload_n B (pc := 25) dX7_nextLetter_25 rfl rfl ?_
          refine r_dup B (pc := 26) dX7_nextLetter_26 rfl ?_
          refine gM_RX7_180_0 B (pc := 27) dX7_nextLetter_27 ?_
          refine r_iconst B (pc := 30) dX7_nextLetter_30 kc_1 ?_
          refine r_iadd B (pc := 31) dX7_nextLetter_31 ?_
          refine pM_RX7_180_0 B (pc := 32) dX7_nextLetter_32 hf (fun s1 hf => ?_)
          refine r_goto B (pc := 35) (tgt := 0) dX7_nextLetter_35 (by decide) ?_
          exact r_mask [true] rfl (ih0 s1 hf)
  exact r_mask [true] rfl (k0 FU σ hf)
set_option maxHeartbeats 4000000 in
set_option maxRecDepth 20000 in
theorem c_X7_takes (l : Launch) (D : va_G) (K : Kt) (ad : Nat → Nat) (σ : St) (x1 : Int32) {r : Int32} {τ : St} (hf : f_X7_takes σ x1 = some (r, τ)) : CtI l yX7_takes cX7_takes 3 (some .boolean) 1 20 D K [.ref (ad 0), .int x1] (wM ad K σ) r (wM ad K τ) := by
  refine met_i pl_RX7 (Nat.le_of_ble_eq_true rfl) (fun X hnL B RET => ?_)
  suffices h : MW X (wM ad K σ) 0 [some (.ref (ad 0)), some (.int x1), none] [] from h
  unfold f_X7_takes at hf
  refine r_aload_n B (pc := 0) dX7_takes_0 rfl rfl ?_
  obtain ⟨r2, s3, hc1, hf⟩ := bdp_e hf
  refine r_cVI B (c_X7_nextLetter X.l X.D K ad σ hc1) F_X7_nextLetter lk_RX7_183 (q0 := 0) (ci := 7) rfl rfl (Nat.le_of_ble_eq_true rfl) (Nat.le_of_ble_eq_true rfl) (Nat.le_of_ble_eq_true rfl) (pc := 1) dX7_takes_1 rfl ?_
  refine r_iload_n B (pc := 4) dX7_takes_4 rfl rfl ?_
  have k13 : ∀ (t0 : Int32) (σ13 : St), f_X7_takes_b13 x1 t0 σ13 = some (r, τ) → MW X (wM ad K σ13) 13 [some (.ref (ad 0)), none, none] [.int t0] := by
    intro t0 σ13 hf
    unfold f_X7_takes_b13 at hf
    refine r_istore_n B hnL (pc := 13) dX7_takes_13 rfl (by decide) ?_
    refine r_lc (loc' := [some (.ref (ad 0)), none, some (.int t0)]) rfl ?_
    refine r_aload_n B (pc := 14) dX7_takes_14 rfl rfl ?_
    refine r_dup B (pc := 15) dX7_takes_15 rfl ?_
    refine gM_RX7_180_0 B (pc := 16) dX7_takes_16 ?_
    refine r_iload_n B (pc := 19) dX7_takes_19 rfl rfl ?_
    refine r_if_eq B (pc := 20) (tgt := 27) dX7_takes_20 (by decide) hf (fun _ hf => ?_) (fun _ hf => ?_)
    · refine r_iconst B (pc := 27) dX7_takes_27 kc_0 ?_
      refine r_iadd B (pc := 28) dX7_takes_28 ?_
      refine pM_RX7_180_0 B (pc := 29) dX7_takes_29 hf (fun s4 hf => ?_)
      refine r_iload_n B (pc := 32) dX7_takes_32 rfl rfl ?_
      have hn := (it_n hf).1
      have hf := (it_n hf).2
      exact e_pz (F := (wM ad K)) hf (nar_b hn) (RET 33 _ dX7_takes_33)
    · refine r_iconst B (pc := 23) dX7_takes_23 kc_1 ?_
      refine r_goto B (pc := 24) (tgt := 28) dX7_takes_24 (by decide) ?_
      refine r_iadd B (pc := 28) dX7_takes_28 ?_
      refine pM_RX7_180_0 B (pc := 29) dX7_takes_29 hf (fun s5 hf => ?_)
      refine r_iload_n B (pc := 32) dX7_takes_32 rfl rfl ?_
      have hn := (it_n hf).1
      have hf := (it_n hf).2
      exact e_pz (F := (wM ad K)) hf (nar_b hn) (RET 33 _ dX7_takes_33)
  refine r_icmp_ne B (pc := 5) (tgt := 12) dX7_takes_5 (by decide) hf (fun _ hf => ?_) (fun _ hf => ?_)
  · refine r_iconst B (pc := 12) dX7_takes_12 kc_0 ?_
    exact r_mask [true, false, false] rfl (k13 0 s3 hf)
  · refine r_iconst B (pc := 8) dX7_takes_8 kc_1 ?_
    refine r_goto B (pc := 9) (tgt := 13) dX7_takes_9 (by decide) ?_
    exact r_mask [true, false, false] rfl (k13 1 s3 hf)
set_option maxHeartbeats 4000000 in
set_option maxRecDepth 20000 in
theorem c_X7_readFigure (l : Launch) (D : va_G) (K : Kt) (ad : Nat → Nat) (σ : St) (x1 : Int32) {r : Int32} {τ : St} (hf : f_X7_readFigure σ x1 = some (r, τ)) : CtI l yX7_readFigure cX7_readFigure 3 (some .int) 1 25 D K [.ref (ad 0), .int x1] (wM ad K σ) r (wM ad K τ) := by
  refine met_i pl_RX7 (Nat.le_of_ble_eq_true rfl) (fun X hnL B RET => ?_)
  suffices h : MW X (wM ad K σ) 0 [some (.ref (ad 0)), some (.int x1), none] [] from h
  unfold f_X7_readFigure at hf
  refine r_aload_n B (pc := 0) dX7_readFigure_0 rfl rfl ?_
  obtain ⟨r2, s3, hc1, hf⟩ := bdp_e hf
  refine r_cVI B (c_X7_nextLetter X.l X.D K ad σ hc1) F_X7_nextLetter lk_RX7_183 (q0 := 0) (ci := 7) rfl rfl (Nat.le_of_ble_eq_true rfl) (Nat.le_of_ble_eq_true rfl) (Nat.le_of_ble_eq_true rfl) (pc := 1) dX7_readFigure_1 rfl ?_
  refine r_bipush B (pc := 4) dX7_readFigure_4 kb_48 ?_
  refine r_isub B (pc := 6) dX7_readFigure_6 ?_
  refine r_nm hf (fun y4 hf => ?_)
  refine r_istore_n B hnL (pc := 7) dX7_readFigure_7 rfl (by decide) ?_
  refine r_lc (loc' := [some (.ref (ad 0)), some (.int x1), some (.int y4)]) rfl ?_
  refine r_iload_n B (pc := 8) dX7_readFigure_8 rfl rfl ?_
  refine r_i2l B (pc := 9) dX7_readFigure_9 ?_
  refine r_lconst B (pc := 10) dX7_readFigure_10 kl_0 ?_
  refine r_iload_n B (pc := 11) dX7_readFigure_11 rfl rfl ?_
  refine r_i2l B (pc := 12) dX7_readFigure_12 ?_
  refine r_cSI B (c_X7_in X.l X.D K _ (y4.toInt64) 0 (x1.toInt64)) F_X7_in lk_RX7_81 (Nat.le_of_ble_eq_true rfl) (Nat.le_of_ble_eq_true rfl) (Nat.le_of_ble_eq_true rfl) (pc := 13) dX7_readFigure_13 rfl ?_
  refine r_if_ne B (pc := 16) (tgt := 21) dX7_readFigure_16 (by decide) hf (fun _ hf => ?_) (fun _ hf => ?_)
  · refine r_aload_n B (pc := 21) dX7_readFigure_21 rfl rfl ?_
    refine r_dup B (pc := 22) dX7_readFigure_22 rfl ?_
    refine gM_RX7_180_0 B (pc := 23) dX7_readFigure_23 ?_
    refine r_iconst B (pc := 26) dX7_readFigure_26 kc_1 ?_
    refine r_iadd B (pc := 27) dX7_readFigure_27 ?_
    refine pM_RX7_180_0 B (pc := 28) dX7_readFigure_28 hf (fun s5 hf => ?_)
    refine r_iload_n B (pc := 31) dX7_readFigure_31 rfl rfl ?_
    exact e_pz (F := (wM ad K)) hf (nar_i _) (RET 32 _ dX7_readFigure_32)
  · refine r_iconst B (pc := 19) dX7_readFigure_19 kc_m1 ?_
    exact e_pz (F := (wM ad K)) hf (nar_i _) (RET 20 _ dX7_readFigure_20)
set_option maxHeartbeats 4000000 in
set_option maxRecDepth 20000 in
theorem c_X7_readNumber (l : Launch) (D : va_G) (K : Kt) (ad : Nat → Nat) (σ : St) (x1 : Int32) {r : Int32} {τ : St} (hf : f_X7_readNumber σ x1 = some (r, τ)) : CtI l yX7_readNumber cX7_readNumber 4 (some .int) 1 25 D K [.ref (ad 0), .int x1] (wM ad K σ) r (wM ad K τ) := by
  refine met_i pl_RX7 (Nat.le_of_ble_eq_true rfl) (fun X hnL B RET => ?_)
  suffices h : MW X (wM ad K σ) 0 [some (.ref (ad 0)), some (.int x1), none, none] [] from h
  unfold f_X7_readNumber at hf
  refine r_aload_n B (pc := 0) dX7_readNumber_0 rfl rfl ?_
  obtain ⟨r2, s3, hc1, hf⟩ := bdp_e hf
  refine r_cVI B (c_X7_nextLetter X.l X.D K ad σ hc1) F_X7_nextLetter lk_RX7_183 (q0 := 0) (ci := 7) rfl rfl (Nat.le_of_ble_eq_true rfl) (Nat.le_of_ble_eq_true rfl) (Nat.le_of_ble_eq_true rfl) (pc := 1) dX7_readNumber_1 rfl ?_
  refine r_pop B (pc := 4) dX7_readNumber_4 rfl ?_
  refine r_aload_n B (pc := 5) dX7_readNumber_5 rfl rfl ?_
  refine gM_RX7_180_0 B (pc := 6) dX7_readNumber_6 ?_
  refine r_nm hf (fun y4 hf => ?_)
  refine r_istore_n B hnL (pc := 9) dX7_readNumber_9 rfl (by decide) ?_
  refine r_lc (loc' := [some (.ref (ad 0)), some (.int x1), some (.int y4), none]) rfl ?_
  refine r_iconst B (pc := 10) dX7_readNumber_10 kc_0 ?_
  refine r_istore_n B hnL (pc := 11) dX7_readNumber_11 rfl (by decide) ?_
  refine r_lc (loc' := [some (.ref (ad 0)), some (.int x1), some (.int y4), some (.int 0)]) rfl ?_
  have k12 : ∀ (n12 : Nat) (v2 : Int32) (v3 : Int32) (σ12 : St), f_X7_readNumber_h12 x1 n12 v2 v3 σ12 = some (r, τ) → MW X (wM ad K σ12) 12 [some (.ref (ad 0)), some (.int x1), some (.int v2), some (.int v3)] [] := by
    intro n12
    induction n12 with
    | zero => intro v2 v3 σ12 hf; exact nn_z hf
    | succ n12 ih12 =>
      intro v2 v3 σ12 hf
      rw [f_X7_readNumber_h12] at hf
      refine r_aload_n B (pc := 12) dX7_readNumber_12 rfl rfl ?_
      refine gM_RX7_180_0 B (pc := 13) dX7_readNumber_13 ?_
      refine r_aload_n B (pc := 16) dX7_readNumber_16 rfl rfl ?_
      refine gM_RX7_177_0 B (pc := 17) dX7_readNumber_17 ?_
      have k87 : ∀ (v2 : Int32) (v3 : Int32) (σ87 : St), f_X7_readNumber_b87 x1 v2 v3 σ87 = some (r, τ) → MW X (wM ad K σ87) 87 [some (.ref (ad 0)), some (.int x1), some (.int v2), some (.int v3)] [] := by
        intro v2 v3 σ87 hf
        unfold f_X7_readNumber_b87 at hf
        refine r_aload_n B (pc := 87) dX7_readNumber_87 rfl rfl ?_
        refine gM_RX7_180_0 B (pc := 88) dX7_readNumber_88 ?_
        refine r_iload_n B (pc := 91) dX7_readNumber_91 rfl rfl ?_
        have k100 : ∀ (v2 : Int32) (σ100 : St), f_X7_readNumber_b100 x1 v2 σ100 = some (r, τ) → MW X (wM ad K σ100) 100 [some (.ref (ad 0)), none, some (.int v2), none] [] := by
          intro v2 σ100 hf
          unfold f_X7_readNumber_b100 at hf
          refine r_aload_n B (pc := 100) dX7_readNumber_100 rfl rfl ?_
          refine r_iload_n B (pc := 101) dX7_readNumber_101 rfl rfl ?_
          refine pM_RX7_180_0 B (pc := 102) dX7_readNumber_102 hf (fun s6 hf => ?_)
          refine r_iconst B (pc := 105) dX7_readNumber_105 kc_m1 ?_
          exact e_pz (F := (wM ad K)) hf (nar_i _) (RET 106 _ dX7_readNumber_106)
        refine r_icmp_eq B (pc := 92) (tgt := 100) dX7_readNumber_92 (by decide) hf (fun _ hf => ?_) (fun _ hf => ?_)
        · exact r_mask [true, false, true, false] rfl (k100 v2 σ87 hf)
        · refine r_iload_n B (pc := 95) dX7_readNumber_95 rfl rfl ?_
          refine r_iload_n B (pc := 96) dX7_readNumber_96 rfl rfl ?_
          refine r_icmp_le B (pc := 97) (tgt := 107) dX7_readNumber_97 (by decide) hf (fun _ hf => ?_) (fun _ hf => ?_)
          · refine r_iload_n B (pc := 107) dX7_readNumber_107 rfl rfl ?_
            exact e_pz (F := (wM ad K)) hf (nar_i _) (RET 108 _ dX7_readNumber_108)
          · exact r_mask [true, false, true, false] rfl (k100 v2 σ87 hf)
      refine r_icmp_ge B (pc := 20) (tgt := 87) dX7_readNumber_20 (by decide) hf (fun _ hf => ?_) (fun _ hf => ?_)
      · exact r_mask [true, true, true, true] rfl (k87 v2 v3 σ12 hf)
      · refine r_aload_n B (pc := 23) dX7_readNumber_23 rfl rfl ?_
        refine gM_RX7_44_0 B (pc := 24) dX7_readNumber_24 ?_
        refine r_aload_n B (pc := 27) dX7_readNumber_27 rfl rfl ?_
        refine gM_RX7_180_0 B (pc := 28) dX7_readNumber_28 ?_
        refine aldM_11 B (pc := 31) dX7_readNumber_31 hf (fun _ hf => ?_)
        refine r_i2l B (pc := 32) dX7_readNumber_32 ?_
        refine r_ldc2 B (pc := 33) kp_RX7_187 dX7_readNumber_33 ?_
        refine r_ldc2 B (pc := 36) kp_RX7_189 dX7_readNumber_36 ?_
        refine r_cSI B (c_X7_in X.l X.D K _ ((σ12.1 11 (ix (σ12.1 0 20))).toInt64) 48 57) F_X7_in lk_RX7_81 (Nat.le_of_ble_eq_true rfl) (Nat.le_of_ble_eq_true rfl) (Nat.le_of_ble_eq_true rfl) (pc := 39) dX7_readNumber_39 rfl ?_
        refine r_if_eq B (pc := 42) (tgt := 87) dX7_readNumber_42 (by decide) hf (fun _ hf => ?_) (fun _ hf => ?_)
        · exact r_mask [true, true, true, true] rfl (k87 v2 v3 σ12 hf)
        · refine r_iload_n B (pc := 45) dX7_readNumber_45 rfl rfl ?_
          refine r_sipush B (pc := 46) dX7_readNumber_46 ks_9999 ?_
          have k73 : ∀ (v2 : Int32) (t0 : Int32) (σ73 : St), f_X7_readNumber_b73 (f_X7_readNumber_h12 x1 n12) x1 v2 t0 σ73 = some (r, τ) → MW X (wM ad K σ73) 73 [some (.ref (ad 0)), some (.int x1), some (.int v2), none] [.int t0] := by
            intro v2 t0 σ73 hf
            unfold f_X7_readNumber_b73 at hf
            refine r_istore_n B hnL (pc := 73) dX7_readNumber_73 rfl (by decide) ?_
            refine r_lc (loc' := [some (.ref (ad 0)), some (.int x1), some (.int v2), some (.int t0)]) rfl ?_
            refine r_aload_n B (pc := 74) dX7_readNumber_74 rfl rfl ?_
            refine r_dup B (pc := 75) dX7_readNumber_75 rfl ?_
            refine gM_RX7_180_0 B (pc := 76) dX7_readNumber_76 ?_
            refine r_iconst B (pc := 79) dX7_readNumber_79 kc_1 ?_
            refine r_iadd B (pc := 80) dX7_readNumber_80 ?_
            refine pM_RX7_180_0 B (pc := 81) dX7_readNumber_81 hf (fun s5 hf => ?_)
            refine r_goto B (pc := 84) (tgt := 12) dX7_readNumber_84 (by decide) ?_
            exact r_mask [true, true, true, true] rfl (ih12 v2 t0 s5 hf)
          refine r_icmp_le B (pc := 49) (tgt := 56) dX7_readNumber_49 (by decide) hf (fun _ hf => ?_) (fun _ hf => ?_)
          · refine r_bipush B (pc := 56) dX7_readNumber_56 kb_10 ?_
            refine r_iload_n B (pc := 58) dX7_readNumber_58 rfl rfl ?_
            refine r_imul B (pc := 59) dX7_readNumber_59 ?_
            refine r_aload_n B (pc := 60) dX7_readNumber_60 rfl rfl ?_
            refine gM_RX7_44_0 B (pc := 61) dX7_readNumber_61 ?_
            refine r_aload_n B (pc := 64) dX7_readNumber_64 rfl rfl ?_
            refine gM_RX7_180_0 B (pc := 65) dX7_readNumber_65 ?_
            refine aldM_11 B (pc := 68) dX7_readNumber_68 hf (fun _ hf => ?_)
            refine r_iadd B (pc := 69) dX7_readNumber_69 ?_
            refine r_bipush B (pc := 70) dX7_readNumber_70 kb_48 ?_
            refine r_isub B (pc := 72) dX7_readNumber_72 ?_
            exact r_mask [true, true, true, false] rfl (k73 v2 (((10 * v3) + (σ12.1 11 (ix (σ12.1 0 20)))) - 48) σ12 hf)
          · refine r_iload_n B (pc := 52) dX7_readNumber_52 rfl rfl ?_
            refine r_goto B (pc := 53) (tgt := 73) dX7_readNumber_53 (by decide) ?_
            exact r_mask [true, true, true, false] rfl (k73 v2 v3 σ12 hf)
  exact r_mask [true, true, true, true] rfl (k12 FU y4 0 s3 hf)
set_option maxHeartbeats 4000000 in
set_option maxRecDepth 20000 in
theorem c_X7_end (l : Launch) (D : va_G) (K : Kt) (ad : Nat → Nat) (σ : St) (x1 : Int32) {r : Int32} {τ : St} (hf : f_X7_end σ x1 = some (r, τ)) : CtI l yX7_end cX7_end 2 (some .int) 1 20 D K [.ref (ad 0), .int x1] (wM ad K σ) r (wM ad K τ) := by
  refine met_i pl_RX7 (Nat.le_of_ble_eq_true rfl) (fun X hnL B RET => ?_)
  suffices h : MW X (wM ad K σ) 0 [some (.ref (ad 0)), some (.int x1)] [] from h
  unfold f_X7_end at hf
  refine r_iload_n B (pc := 0) dX7_end_0 rfl rfl ?_
  have k9 : ∀ (σ9 : St), f_X7_end_b9 x1 σ9 = some (r, τ) → MW X (wM ad K σ9) 9 [some (.ref (ad 0)), some (.int x1)] [] := by
    intro σ9 hf
    unfold f_X7_end_b9 at hf
    refine r_aload_n B (pc := 9) dX7_end_9 rfl rfl ?_
    refine r_iconst B (pc := 10) dX7_end_10 kc_0 ?_
    refine pM_RX7_177_0 B (pc := 11) dX7_end_11 hf (fun s4 hf => ?_)
    refine r_iload_n B (pc := 14) dX7_end_14 rfl rfl ?_
    refine r_if_eq B (pc := 15) (tgt := 22) dX7_end_15 (by decide) hf (fun _ hf => ?_) (fun _ hf => ?_)
    · refine r_bipush B (pc := 22) dX7_end_22 kb_m20 ?_
      refine r_aload_n B (pc := 24) dX7_end_24 rfl rfl ?_
      refine gM_RX7_180_0 B (pc := 25) dX7_end_25 ?_
      refine r_isub B (pc := 28) dX7_end_28 ?_
      exact e_pz (F := (wM ad K)) hf (nar_i _) (RET 29 _ dX7_end_29)
    · refine r_iconst B (pc := 18) dX7_end_18 kc_0 ?_
      refine r_goto B (pc := 19) (tgt := 29) dX7_end_19 (by decide) ?_
      exact e_pz (F := (wM ad K)) hf (nar_i _) (RET 29 _ dX7_end_29)
  refine r_if_ne B (pc := 1) (tgt := 9) dX7_end_1 (by decide) hf (fun _ hf => ?_) (fun _ hf => ?_)
  · exact r_mask [true, true] rfl (k9 σ hf)
  · refine r_aload_n B (pc := 4) dX7_end_4 rfl rfl ?_
    obtain ⟨r2, s3, hc1, hf⟩ := bdp_e hf
    refine r_cVI B (c_X7_nextLetter X.l X.D K ad σ hc1) F_X7_nextLetter lk_RX7_183 (q0 := 0) (ci := 7) rfl rfl (Nat.le_of_ble_eq_true rfl) (Nat.le_of_ble_eq_true rfl) (Nat.le_of_ble_eq_true rfl) (pc := 5) dX7_end_5 rfl ?_
    refine r_pop B (pc := 8) dX7_end_8 rfl ?_
    exact r_mask [true, true] rfl (k9 s3 hf)
set_option maxHeartbeats 4000000 in
set_option maxRecDepth 20000 in
theorem c_X7_kindOf (l : Launch) (D : va_G) (K : Kt) (w : va_W) (x0 : Int32) : CtI l yX7_kindOf cX7_kindOf 1 (some .int) 0 0 D K [.int x0] w (f_X7_kindOf x0) w := by
  refine met_i pl_RX7 (Nat.le_of_ble_eq_true rfl) (fun X hnL B RET => ?_)
  generalize hf : f_X7_kindOf x0 = r at RET
  suffices h : MW X w 0 [some (.int x0)] [] from h
  unfold f_X7_kindOf at hf
  refine r_iload_n B (pc := 0) dX7_kindOf_0 rfl rfl ?_
  refine r_bipush B (pc := 1) dX7_kindOf_1 kb_112 ?_
  refine r_icmp_ne B (pc := 3) (tgt := 10) dX7_kindOf_3 (by decide) hf (fun _ hf => ?_) (fun _ hf => ?_)
  · refine r_iload_n B (pc := 10) dX7_kindOf_10 rfl rfl ?_
    refine r_bipush B (pc := 11) dX7_kindOf_11 kb_100 ?_
    refine r_icmp_ne B (pc := 13) (tgt := 20) dX7_kindOf_13 (by decide) hf (fun _ hf => ?_) (fun _ hf => ?_)
    · refine r_iload_n B (pc := 20) dX7_kindOf_20 rfl rfl ?_
      refine r_bipush B (pc := 21) dX7_kindOf_21 kb_105 ?_
      refine r_icmp_ne B (pc := 23) (tgt := 30) dX7_kindOf_23 (by decide) hf (fun _ hf => ?_) (fun _ hf => ?_)
      · refine r_iload_n B (pc := 30) dX7_kindOf_30 rfl rfl ?_
        refine r_bipush B (pc := 31) dX7_kindOf_31 kb_101 ?_
        refine r_icmp_ne B (pc := 33) (tgt := 40) dX7_kindOf_33 (by decide) hf (fun _ hf => ?_) (fun _ hf => ?_)
        · refine r_iload_n B (pc := 40) dX7_kindOf_40 rfl rfl ?_
          refine r_bipush B (pc := 41) dX7_kindOf_41 kb_102 ?_
          refine r_icmp_ne B (pc := 43) (tgt := 50) dX7_kindOf_43 (by decide) hf (fun _ hf => ?_) (fun _ hf => ?_)
          · refine r_iload_n B (pc := 50) dX7_kindOf_50 rfl rfl ?_
            refine r_bipush B (pc := 51) dX7_kindOf_51 kb_110 ?_
            refine r_icmp_ne B (pc := 53) (tgt := 60) dX7_kindOf_53 (by decide) hf (fun _ hf => ?_) (fun _ hf => ?_)
            · refine r_iconst B (pc := 60) dX7_kindOf_60 kc_m1 ?_
              exact e_tz hf (nar_i _) (RET 61 _ dX7_kindOf_61)
            · refine r_iconst B (pc := 56) dX7_kindOf_56 kc_5 ?_
              refine r_goto B (pc := 57) (tgt := 61) dX7_kindOf_57 (by decide) ?_
              exact e_tz hf (nar_i _) (RET 61 _ dX7_kindOf_61)
          · refine r_iconst B (pc := 46) dX7_kindOf_46 kc_4 ?_
            refine r_goto B (pc := 47) (tgt := 61) dX7_kindOf_47 (by decide) ?_
            exact e_tz hf (nar_i _) (RET 61 _ dX7_kindOf_61)
        · refine r_iconst B (pc := 36) dX7_kindOf_36 kc_3 ?_
          refine r_goto B (pc := 37) (tgt := 61) dX7_kindOf_37 (by decide) ?_
          exact e_tz hf (nar_i _) (RET 61 _ dX7_kindOf_61)
      · refine r_iconst B (pc := 26) dX7_kindOf_26 kc_2 ?_
        refine r_goto B (pc := 27) (tgt := 61) dX7_kindOf_27 (by decide) ?_
        exact e_tz hf (nar_i _) (RET 61 _ dX7_kindOf_61)
    · refine r_iconst B (pc := 16) dX7_kindOf_16 kc_1 ?_
      refine r_goto B (pc := 17) (tgt := 61) dX7_kindOf_17 (by decide) ?_
      exact e_tz hf (nar_i _) (RET 61 _ dX7_kindOf_61)
  · refine r_iconst B (pc := 6) dX7_kindOf_6 kc_0 ?_
    refine r_goto B (pc := 7) (tgt := 61) dX7_kindOf_7 (by decide) ?_
    exact e_tz hf (nar_i _) (RET 61 _ dX7_kindOf_61)
set_option maxHeartbeats 4000000 in
set_option maxRecDepth 20000 in
theorem c_X7_readGrave (l : Launch) (D : va_G) (K : Kt) (ad : Nat → Nat) (σ : St) (x1 : Int32) {r : Int32} {τ : St} (hf : f_X7_readGrave σ x1 = some (r, τ)) : CtI l yX7_readGrave cX7_readGrave 4 (some .boolean) 2 48 D K [.ref (ad 0), .int x1] (wM ad K σ) r (wM ad K τ) := by
  refine met_i pl_RX7 (Nat.le_of_ble_eq_true rfl) (fun X hnL B RET => ?_)
  suffices h : MW X (wM ad K σ) 0 [some (.ref (ad 0)), some (.int x1), none, none] [] from h
  unfold f_X7_readGrave at hf
  refine r_aload_n B (pc := 0) dX7_readGrave_0 rfl rfl ?_
  refine gM_RX7_47_0 B (pc := 1) dX7_readGrave_1 ?_
  refine r_iload_n B (pc := 4) dX7_readGrave_4 rfl rfl ?_
  refine r_aload_n B (pc := 5) dX7_readGrave_5 rfl rfl ?_
  obtain ⟨r2, s3, hc1, hf⟩ := bdp_e hf
  refine r_cVI B (c_X7_nextLetter X.l X.D K ad σ hc1) F_X7_nextLetter lk_RX7_183 (q0 := 0) (ci := 7) rfl rfl (Nat.le_of_ble_eq_true rfl) (Nat.le_of_ble_eq_true rfl) (Nat.le_of_ble_eq_true rfl) (pc := 6) dX7_readGrave_6 rfl ?_
  refine r_cSI B (c_X7_kindOf X.l X.D K _ r2) F_X7_kindOf lk_RX7_191 (Nat.le_of_ble_eq_true rfl) (Nat.le_of_ble_eq_true rfl) (Nat.le_of_ble_eq_true rfl) (pc := 9) dX7_readGrave_9 rfl ?_
  refine astM_12 B (pc := 12) dX7_readGrave_12 hf (fun s4 _ hf => ?_)
  refine r_aload_n B (pc := 13) dX7_readGrave_13 rfl rfl ?_
  refine gM_RX7_47_0 B (pc := 14) dX7_readGrave_14 ?_
  refine r_iload_n B (pc := 17) dX7_readGrave_17 rfl rfl ?_
  refine aldM_12 B (pc := 18) dX7_readGrave_18 hf (fun _ hf => ?_)
  refine r_if_ge B (pc := 19) (tgt := 24) dX7_readGrave_19 (by decide) hf (fun _ hf => ?_) (fun _ hf => ?_)
  · refine r_aload_n B (pc := 24) dX7_readGrave_24 rfl rfl ?_
    refine r_dup B (pc := 25) dX7_readGrave_25 rfl ?_
    refine gM_RX7_180_0 B (pc := 26) dX7_readGrave_26 ?_
    refine r_iconst B (pc := 29) dX7_readGrave_29 kc_1 ?_
    refine r_iadd B (pc := 30) dX7_readGrave_30 ?_
    refine pM_RX7_180_0 B (pc := 31) dX7_readGrave_31 hf (fun s5 hf => ?_)
    refine r_aload_n B (pc := 34) dX7_readGrave_34 rfl rfl ?_
    refine r_iconst B (pc := 35) dX7_readGrave_35 kc_5 ?_
    obtain ⟨r7, s8, hc6, hf⟩ := bdp_e hf
    refine r_cVI B (c_X7_readFigure X.l X.D K ad s5 5 hc6) F_X7_readFigure lk_RX7_194 (q0 := 0) (ci := 7) rfl rfl (Nat.le_of_ble_eq_true rfl) (Nat.le_of_ble_eq_true rfl) (Nat.le_of_ble_eq_true rfl) (pc := 36) dX7_readGrave_36 rfl ?_
    refine r_istore_n B hnL (pc := 39) dX7_readGrave_39 rfl (by decide) ?_
    refine r_lc (loc' := [some (.ref (ad 0)), some (.int x1), some (.int r7), none]) rfl ?_
    refine r_iload_n B (pc := 40) dX7_readGrave_40 rfl rfl ?_
    refine r_if_ge B (pc := 41) (tgt := 46) dX7_readGrave_41 (by decide) hf (fun _ hf => ?_) (fun _ hf => ?_)
    · refine r_aload_n B (pc := 46) dX7_readGrave_46 rfl rfl ?_
      refine r_iconst B (pc := 47) dX7_readGrave_47 kc_5 ?_
      obtain ⟨r10, s11, hc9, hf⟩ := bdp_e hf
      refine r_cVI B (c_X7_readFigure X.l X.D K ad s8 5 hc9) F_X7_readFigure lk_RX7_194 (q0 := 0) (ci := 7) rfl rfl (Nat.le_of_ble_eq_true rfl) (Nat.le_of_ble_eq_true rfl) (Nat.le_of_ble_eq_true rfl) (pc := 48) dX7_readGrave_48 rfl ?_
      refine r_istore_n B hnL (pc := 51) dX7_readGrave_51 rfl (by decide) ?_
      refine r_lc (loc' := [some (.ref (ad 0)), some (.int x1), some (.int r7), some (.int r10)]) rfl ?_
      refine r_iload_n B (pc := 52) dX7_readGrave_52 rfl rfl ?_
      refine r_if_lt B (pc := 53) (tgt := 65) dX7_readGrave_53 (by decide) hf (fun _ hf => ?_) (fun _ hf => ?_)
      · refine r_iconst B (pc := 65) dX7_readGrave_65 kc_0 ?_
        exact e_pz (F := (wM ad K)) hf rfl (RET 66 _ dX7_readGrave_66)
      · refine r_aload_n B (pc := 56) dX7_readGrave_56 rfl rfl ?_
        refine r_bipush B (pc := 57) dX7_readGrave_57 kb_64 ?_
        obtain ⟨r13, s14, hc12, hf⟩ := bdp_e hf
        refine r_cVI B (c_X7_takes X.l X.D K ad s11 64 hc12) F_X7_takes lk_RX7_197 (q0 := 0) (ci := 7) rfl rfl (Nat.le_of_ble_eq_true rfl) (Nat.le_of_ble_eq_true rfl) (Nat.le_of_ble_eq_true rfl) (pc := 59) dX7_readGrave_59 rfl ?_
        refine r_if_ne B (pc := 62) (tgt := 67) dX7_readGrave_62 (by decide) hf (fun _ hf => ?_) (fun _ hf => ?_)
        · refine r_aload_n B (pc := 67) dX7_readGrave_67 rfl rfl ?_
          refine gM_RX7_47_0 B (pc := 68) dX7_readGrave_68 ?_
          refine r_iload_n B (pc := 71) dX7_readGrave_71 rfl rfl ?_
          refine r_iconst B (pc := 72) dX7_readGrave_72 kc_1 ?_
          refine r_iadd B (pc := 73) dX7_readGrave_73 ?_
          refine r_bipush B (pc := 74) dX7_readGrave_74 kb_6 ?_
          refine r_iload_n B (pc := 76) dX7_readGrave_76 rfl rfl ?_
          refine r_imul B (pc := 77) dX7_readGrave_77 ?_
          refine r_iload_n B (pc := 78) dX7_readGrave_78 rfl rfl ?_
          refine r_iadd B (pc := 79) dX7_readGrave_79 ?_
          refine astM_12 B (pc := 80) dX7_readGrave_80 hf (fun s15 _ hf => ?_)
          refine r_aload_n B (pc := 81) dX7_readGrave_81 rfl rfl ?_
          refine gM_RX7_47_0 B (pc := 82) dX7_readGrave_82 ?_
          refine r_iload_n B (pc := 85) dX7_readGrave_85 rfl rfl ?_
          refine r_iconst B (pc := 86) dX7_readGrave_86 kc_2 ?_
          refine r_iadd B (pc := 87) dX7_readGrave_87 ?_
          refine r_aload_n B (pc := 88) dX7_readGrave_88 rfl rfl ?_
          refine r_bipush B (pc := 89) dX7_readGrave_89 kb_89 ?_
          obtain ⟨r17, s18, hc16, hf⟩ := bdp_e hf
          refine r_cVI B (c_X7_readNumber X.l X.D K ad s15 89 hc16) F_X7_readNumber lk_RX7_200 (q0 := 0) (ci := 7) rfl rfl (Nat.le_of_ble_eq_true rfl) (Nat.le_of_ble_eq_true rfl) (Nat.le_of_ble_eq_true rfl) (pc := 91) dX7_readGrave_91 rfl ?_
          refine astM_12 B (pc := 94) dX7_readGrave_94 hf (fun s19 _ hf => ?_)
          refine r_aload_n B (pc := 95) dX7_readGrave_95 rfl rfl ?_
          refine gM_RX7_47_0 B (pc := 96) dX7_readGrave_96 ?_
          refine r_iload_n B (pc := 99) dX7_readGrave_99 rfl rfl ?_
          refine r_iconst B (pc := 100) dX7_readGrave_100 kc_2 ?_
          refine r_iadd B (pc := 101) dX7_readGrave_101 ?_
          refine aldM_12 B (pc := 102) dX7_readGrave_102 hf (fun _ hf => ?_)
          refine r_if_lt B (pc := 103) (tgt := 110) dX7_readGrave_103 (by decide) hf (fun _ hf => ?_) (fun _ hf => ?_)
          · refine r_iconst B (pc := 110) dX7_readGrave_110 kc_0 ?_
            exact e_pz (F := (wM ad K)) hf rfl (RET 111 _ dX7_readGrave_111)
          · refine r_iconst B (pc := 106) dX7_readGrave_106 kc_1 ?_
            refine r_goto B (pc := 107) (tgt := 111) dX7_readGrave_107 (by decide) ?_
            exact e_pz (F := (wM ad K)) hf rfl (RET 111 _ dX7_readGrave_111)
        · refine r_iconst B (pc := 65) dX7_readGrave_65 kc_0 ?_
          exact e_pz (F := (wM ad K)) hf rfl (RET 66 _ dX7_readGrave_66)
    · refine r_iconst B (pc := 44) dX7_readGrave_44 kc_0 ?_
      exact e_pz (F := (wM ad K)) hf rfl (RET 45 _ dX7_readGrave_45)
  · refine r_iconst B (pc := 22) dX7_readGrave_22 kc_0 ?_
    exact e_pz (F := (wM ad K)) hf rfl (RET 23 _ dX7_readGrave_23)
set_option maxHeartbeats 4000000 in
set_option maxRecDepth 20000 in
theorem c_X7_readAhead (l : Launch) (D : va_G) (K : Kt) (ad : Nat → Nat) (σ : St) (x1 : Int32) (x2 : Int32) {r : Int32} {τ : St} (hf : f_X7_readAhead σ x1 x2 = some (r, τ)) : CtI l yX7_readAhead cX7_readAhead 5 (some .int) 1 25 D K [.ref (ad 0), .int x1, .int x2] (wM ad K σ) r (wM ad K τ) := by
  refine met_i pl_RX7 (Nat.le_of_ble_eq_true rfl) (fun X hnL B RET => ?_)
  suffices h : MW X (wM ad K σ) 0 [some (.ref (ad 0)), some (.int x1), some (.int x2), none, none] [] from h
  unfold f_X7_readAhead at hf
  refine r_iconst B (pc := 0) dX7_readAhead_0 kc_0 ?_
  refine r_istore_n B hnL (pc := 1) dX7_readAhead_1 rfl (by decide) ?_
  refine r_lc (loc' := [some (.ref (ad 0)), some (.int x1), some (.int x2), some (.int 0), none]) rfl ?_
  have k2 : ∀ (n2 : Nat) (v3 : Int32) (σ2 : St), f_X7_readAhead_h2 x1 x2 n2 v3 σ2 = some (r, τ) → MW X (wM ad K σ2) 2 [some (.ref (ad 0)), some (.int x1), some (.int x2), some (.int v3), none] [] := by
    intro n2
    induction n2 with
    | zero => intro v3 σ2 hf; exact nn_z hf
    | succ n2 ih2 =>
      intro v3 σ2 hf
      rw [f_X7_readAhead_h2] at hf
      refine r_iload_n B (pc := 2) dX7_readAhead_2 rfl rfl ?_
      have k23 : ∀ (v3 : Int32) (σ23 : St), f_X7_readAhead_b23 (f_X7_readAhead_h2 x1 x2 n2) x1 x2 v3 σ23 = some (r, τ) → MW X (wM ad K σ23) 23 [some (.ref (ad 0)), some (.int x1), some (.int x2), some (.int v3), none] [] := by
        intro v3 σ23 hf
        unfold f_X7_readAhead_b23 at hf
        refine r_aload_n B (pc := 23) dX7_readAhead_23 rfl rfl ?_
        obtain ⟨r5, s6, hc4, hf⟩ := bdp_e hf
        refine r_cVI B (c_X7_nextLetter X.l X.D K ad σ23 hc4) F_X7_nextLetter lk_RX7_183 (q0 := 0) (ci := 7) rfl rfl (Nat.le_of_ble_eq_true rfl) (Nat.le_of_ble_eq_true rfl) (Nat.le_of_ble_eq_true rfl) (pc := 24) dX7_readAhead_24 rfl ?_
        refine r_bipush B (pc := 27) dX7_readAhead_27 kb_97 ?_
        refine r_isub B (pc := 29) dX7_readAhead_29 ?_
        refine r_nm hf (fun y7 hf => ?_)
        refine r_istore B hnL (pc := 30) dX7_readAhead_30 (by decide) ?_
        refine r_lc (loc' := [some (.ref (ad 0)), some (.int x1), some (.int x2), some (.int v3), some (.int y7)]) rfl ?_
        refine r_iload B (pc := 32) dX7_readAhead_32 rfl ?_
        refine r_i2l B (pc := 34) dX7_readAhead_34 ?_
        refine r_lconst B (pc := 35) dX7_readAhead_35 kl_0 ?_
        refine r_iload_n B (pc := 36) dX7_readAhead_36 rfl rfl ?_
        refine r_iconst B (pc := 37) dX7_readAhead_37 kc_1 ?_
        refine r_isub B (pc := 38) dX7_readAhead_38 ?_
        refine r_i2l B (pc := 39) dX7_readAhead_39 ?_
        refine r_cSI B (c_X7_in X.l X.D K _ (y7.toInt64) 0 ((x1 - 1).toInt64)) F_X7_in lk_RX7_81 (Nat.le_of_ble_eq_true rfl) (Nat.le_of_ble_eq_true rfl) (Nat.le_of_ble_eq_true rfl) (pc := 40) dX7_readAhead_40 rfl ?_
        refine r_if_eq B (pc := 43) (tgt := 68) dX7_readAhead_43 (by decide) hf (fun _ hf => ?_) (fun _ hf => ?_)
        · refine r_iconst B (pc := 68) dX7_readAhead_68 kc_m1 ?_
          exact e_pz (F := (wM ad K)) hf (nar_i _) (RET 69 _ dX7_readAhead_69)
        · refine r_aload_n B (pc := 46) dX7_readAhead_46 rfl rfl ?_
          refine gM_RX7_47_0 B (pc := 47) dX7_readAhead_47 ?_
          refine r_iconst B (pc := 50) dX7_readAhead_50 kc_4 ?_
          refine r_iload B (pc := 51) dX7_readAhead_51 rfl ?_
          refine r_imul B (pc := 53) dX7_readAhead_53 ?_
          refine aldM_12 B (pc := 54) dX7_readAhead_54 hf (fun _ hf => ?_)
          refine r_iload_n B (pc := 55) dX7_readAhead_55 rfl rfl ?_
          refine r_icmp_gt B (pc := 56) (tgt := 68) dX7_readAhead_56 (by decide) hf (fun _ hf => ?_) (fun _ hf => ?_)
          · refine r_iconst B (pc := 68) dX7_readAhead_68 kc_m1 ?_
            exact e_pz (F := (wM ad K)) hf (nar_i _) (RET 69 _ dX7_readAhead_69)
          · refine r_iload_n B (pc := 59) dX7_readAhead_59 rfl rfl ?_
            refine r_iload B (pc := 60) dX7_readAhead_60 rfl ?_
            refine r_cSI B (c_X7_has X.l X.D K _ v3 y7) F_X7_has lk_RX7_153 (Nat.le_of_ble_eq_true rfl) (Nat.le_of_ble_eq_true rfl) (Nat.le_of_ble_eq_true rfl) (pc := 62) dX7_readAhead_62 rfl ?_
            refine r_if_eq B (pc := 65) (tgt := 70) dX7_readAhead_65 (by decide) hf (fun _ hf => ?_) (fun _ hf => ?_)
            · refine r_iload_n B (pc := 70) dX7_readAhead_70 rfl rfl ?_
              refine r_iconst B (pc := 71) dX7_readAhead_71 kc_1 ?_
              refine r_iload B (pc := 72) dX7_readAhead_72 rfl ?_
              refine r_ishl B (pc := 74) dX7_readAhead_74 ?_
              refine r_ior B (pc := 75) dX7_readAhead_75 ?_
              refine r_nm hf (fun y8 hf => ?_)
              refine r_istore_n B hnL (pc := 76) dX7_readAhead_76 rfl (by decide) ?_
              refine r_lc (loc' := [some (.ref (ad 0)), some (.int x1), some (.int x2), some (.int y8), some (.int y7)]) rfl ?_
              refine r_aload_n B (pc := 77) dX7_readAhead_77 rfl rfl ?_
              refine r_dup B (pc := 78) dX7_readAhead_78 rfl ?_
              refine gM_RX7_180_0 B (pc := 79) dX7_readAhead_79 ?_
              refine r_iconst B (pc := 82) dX7_readAhead_82 kc_1 ?_
              refine r_iadd B (pc := 83) dX7_readAhead_83 ?_
              refine pM_RX7_180_0 B (pc := 84) dX7_readAhead_84 hf (fun s9 hf => ?_)
              refine r_goto B (pc := 87) (tgt := 2) dX7_readAhead_87 (by decide) ?_
              exact r_mask [true, true, true, true, false] rfl (ih2 y8 s9 hf)
            · refine r_iconst B (pc := 68) dX7_readAhead_68 kc_m1 ?_
              exact e_pz (F := (wM ad K)) hf (nar_i _) (RET 69 _ dX7_readAhead_69)
      refine r_if_eq B (pc := 3) (tgt := 23) dX7_readAhead_3 (by decide) hf (fun _ hf => ?_) (fun _ hf => ?_)
      · exact r_mask [true, true, true, true, false] rfl (k23 v3 σ2 hf)
      · refine r_aload_n B (pc := 6) dX7_readAhead_6 rfl rfl ?_
        obtain ⟨r2, s3, hc1, hf⟩ := bdp_e hf
        refine r_cVI B (c_X7_nextLetter X.l X.D K ad σ2 hc1) F_X7_nextLetter lk_RX7_183 (q0 := 0) (ci := 7) rfl rfl (Nat.le_of_ble_eq_true rfl) (Nat.le_of_ble_eq_true rfl) (Nat.le_of_ble_eq_true rfl) (pc := 7) dX7_readAhead_7 rfl ?_
        refine r_i2l B (pc := 10) dX7_readAhead_10 ?_
        refine r_ldc2 B (pc := 11) kp_RX7_203 dX7_readAhead_11 ?_
        refine r_ldc2 B (pc := 14) kp_RX7_205 dX7_readAhead_14 ?_
        refine r_cSI B (c_X7_in X.l X.D K _ (r2.toInt64) 97 122) F_X7_in lk_RX7_81 (Nat.le_of_ble_eq_true rfl) (Nat.le_of_ble_eq_true rfl) (Nat.le_of_ble_eq_true rfl) (pc := 17) dX7_readAhead_17 rfl ?_
        refine r_if_eq B (pc := 20) (tgt := 90) dX7_readAhead_20 (by decide) hf (fun _ hf => ?_) (fun _ hf => ?_)
        · refine r_iload_n B (pc := 90) dX7_readAhead_90 rfl rfl ?_
          exact e_pz (F := (wM ad K)) hf (nar_i _) (RET 91 _ dX7_readAhead_91)
        · exact r_mask [true, true, true, true, false] rfl (k23 v3 s3 hf)
  exact r_mask [true, true, true, true, false] rfl (k2 FU 0 σ hf)
set_option maxHeartbeats 4000000 in
set_option maxRecDepth 20000 in
theorem c_X7_readBarred (l : Launch) (D : va_G) (K : Kt) (ad : Nat → Nat) (σ : St) {r : Int32} {τ : St} (hf : f_X7_readBarred σ = some (r, τ)) : CtI l yX7_readBarred cX7_readBarred 3 (some .int) 1 25 D K [.ref (ad 0)] (wM ad K σ) r (wM ad K τ) := by
  refine met_i pl_RX7 (Nat.le_of_ble_eq_true rfl) (fun X hnL B RET => ?_)
  suffices h : MW X (wM ad K σ) 0 [some (.ref (ad 0)), none, none] [] from h
  unfold f_X7_readBarred at hf
  refine r_iconst B (pc := 0) dX7_readBarred_0 kc_0 ?_
  refine r_istore_n B hnL (pc := 1) dX7_readBarred_1 rfl (by decide) ?_
  refine r_lc (loc' := [some (.ref (ad 0)), some (.int 0), none]) rfl ?_
  have k2 : ∀ (n2 : Nat) (v1 : Int32) (σ2 : St), f_X7_readBarred_h2 n2 v1 σ2 = some (r, τ) → MW X (wM ad K σ2) 2 [some (.ref (ad 0)), some (.int v1), none] [] := by
    intro n2
    induction n2 with
    | zero => intro v1 σ2 hf; exact nn_z hf
    | succ n2 ih2 =>
      intro v1 σ2 hf
      rw [f_X7_readBarred_h2] at hf
      refine r_iload_n B (pc := 2) dX7_readBarred_2 rfl rfl ?_
      have k23 : ∀ (v1 : Int32) (σ23 : St), f_X7_readBarred_b23 (f_X7_readBarred_h2 n2) v1 σ23 = some (r, τ) → MW X (wM ad K σ23) 23 [some (.ref (ad 0)), some (.int v1), none] [] := by
        intro v1 σ23 hf
        unfold f_X7_readBarred_b23 at hf
        refine r_aload_n B (pc := 23) dX7_readBarred_23 rfl rfl ?_
        obtain ⟨r5, s6, hc4, hf⟩ := bdp_e hf
        refine r_cVI B (c_X7_nextLetter X.l X.D K ad σ23 hc4) F_X7_nextLetter lk_RX7_183 (q0 := 0) (ci := 7) rfl rfl (Nat.le_of_ble_eq_true rfl) (Nat.le_of_ble_eq_true rfl) (Nat.le_of_ble_eq_true rfl) (pc := 24) dX7_readBarred_24 rfl ?_
        refine r_bipush B (pc := 27) dX7_readBarred_27 kb_48 ?_
        refine r_isub B (pc := 29) dX7_readBarred_29 ?_
        refine r_nm hf (fun y7 hf => ?_)
        refine r_istore_n B hnL (pc := 30) dX7_readBarred_30 rfl (by decide) ?_
        refine r_lc (loc' := [some (.ref (ad 0)), some (.int v1), some (.int y7)]) rfl ?_
        refine r_iload_n B (pc := 31) dX7_readBarred_31 rfl rfl ?_
        refine r_i2l B (pc := 32) dX7_readBarred_32 ?_
        refine r_lconst B (pc := 33) dX7_readBarred_33 kl_0 ?_
        refine r_ldc2 B (pc := 34) kp_RX7_108 dX7_readBarred_34 ?_
        refine r_cSI B (c_X7_in X.l X.D K _ (y7.toInt64) 0 9) F_X7_in lk_RX7_81 (Nat.le_of_ble_eq_true rfl) (Nat.le_of_ble_eq_true rfl) (Nat.le_of_ble_eq_true rfl) (pc := 37) dX7_readBarred_37 rfl ?_
        refine r_if_eq B (pc := 40) (tgt := 51) dX7_readBarred_40 (by decide) hf (fun _ hf => ?_) (fun _ hf => ?_)
        · refine r_iconst B (pc := 51) dX7_readBarred_51 kc_m1 ?_
          exact e_pz (F := (wM ad K)) hf (nar_i _) (RET 52 _ dX7_readBarred_52)
        · refine r_iload_n B (pc := 43) dX7_readBarred_43 rfl rfl ?_
          refine r_iload_n B (pc := 44) dX7_readBarred_44 rfl rfl ?_
          refine r_cSI B (c_X7_has X.l X.D K _ v1 y7) F_X7_has lk_RX7_153 (Nat.le_of_ble_eq_true rfl) (Nat.le_of_ble_eq_true rfl) (Nat.le_of_ble_eq_true rfl) (pc := 45) dX7_readBarred_45 rfl ?_
          refine r_if_eq B (pc := 48) (tgt := 53) dX7_readBarred_48 (by decide) hf (fun _ hf => ?_) (fun _ hf => ?_)
          · refine r_iload_n B (pc := 53) dX7_readBarred_53 rfl rfl ?_
            refine r_iconst B (pc := 54) dX7_readBarred_54 kc_1 ?_
            refine r_iload_n B (pc := 55) dX7_readBarred_55 rfl rfl ?_
            refine r_ishl B (pc := 56) dX7_readBarred_56 ?_
            refine r_ior B (pc := 57) dX7_readBarred_57 ?_
            refine r_nm hf (fun y8 hf => ?_)
            refine r_istore_n B hnL (pc := 58) dX7_readBarred_58 rfl (by decide) ?_
            refine r_lc (loc' := [some (.ref (ad 0)), some (.int y8), some (.int y7)]) rfl ?_
            refine r_aload_n B (pc := 59) dX7_readBarred_59 rfl rfl ?_
            refine r_dup B (pc := 60) dX7_readBarred_60 rfl ?_
            refine gM_RX7_180_0 B (pc := 61) dX7_readBarred_61 ?_
            refine r_iconst B (pc := 64) dX7_readBarred_64 kc_1 ?_
            refine r_iadd B (pc := 65) dX7_readBarred_65 ?_
            refine pM_RX7_180_0 B (pc := 66) dX7_readBarred_66 hf (fun s9 hf => ?_)
            refine r_goto B (pc := 69) (tgt := 2) dX7_readBarred_69 (by decide) ?_
            exact r_mask [true, true, false] rfl (ih2 y8 s9 hf)
          · refine r_iconst B (pc := 51) dX7_readBarred_51 kc_m1 ?_
            exact e_pz (F := (wM ad K)) hf (nar_i _) (RET 52 _ dX7_readBarred_52)
      refine r_if_eq B (pc := 3) (tgt := 23) dX7_readBarred_3 (by decide) hf (fun _ hf => ?_) (fun _ hf => ?_)
      · exact r_mask [true, true, false] rfl (k23 v1 σ2 hf)
      · refine r_aload_n B (pc := 6) dX7_readBarred_6 rfl rfl ?_
        obtain ⟨r2, s3, hc1, hf⟩ := bdp_e hf
        refine r_cVI B (c_X7_nextLetter X.l X.D K ad σ2 hc1) F_X7_nextLetter lk_RX7_183 (q0 := 0) (ci := 7) rfl rfl (Nat.le_of_ble_eq_true rfl) (Nat.le_of_ble_eq_true rfl) (Nat.le_of_ble_eq_true rfl) (pc := 7) dX7_readBarred_7 rfl ?_
        refine r_i2l B (pc := 10) dX7_readBarred_10 ?_
        refine r_ldc2 B (pc := 11) kp_RX7_187 dX7_readBarred_11 ?_
        refine r_ldc2 B (pc := 14) kp_RX7_189 dX7_readBarred_14 ?_
        refine r_cSI B (c_X7_in X.l X.D K _ (r2.toInt64) 48 57) F_X7_in lk_RX7_81 (Nat.le_of_ble_eq_true rfl) (Nat.le_of_ble_eq_true rfl) (Nat.le_of_ble_eq_true rfl) (pc := 17) dX7_readBarred_17 rfl ?_
        refine r_if_eq B (pc := 20) (tgt := 72) dX7_readBarred_20 (by decide) hf (fun _ hf => ?_) (fun _ hf => ?_)
        · refine r_iload_n B (pc := 72) dX7_readBarred_72 rfl rfl ?_
          exact e_pz (F := (wM ad K)) hf (nar_i _) (RET 73 _ dX7_readBarred_73)
        · exact r_mask [true, true, false] rfl (k23 v1 s3 hf)
  exact r_mask [true, true, false] rfl (k2 FU 0 σ hf)
