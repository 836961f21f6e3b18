set_option maxHeartbeats 4000000 in
set_option maxRecDepth 20000 in
theorem c_X2_add_46 (l : Launch) (D : va_G) (K : Kt) (ad : Nat → Nat) (nw : Nat) (σ : St) (x1 : Int32) (x2 : Int32) (x3 : Int32) (x4 : Int32) {τ : St} (hf : f_X2_add_46 σ x1 x2 x3 x4 = some τ) : CtV l yX2_add cX2_add 5 none 0 0 D K [.ref (ad 46), .int x1, .int x2, .int x3, .int x4] (wC ad K nw σ) (wC ad K nw τ) := by
  refine met_v pl_RX2 (Nat.le_of_ble_eq_true rfl) (fun X hnL B RET => ?_)
  suffices h : MW X (wC ad K nw σ) 0 [some (.ref (ad 46)), some (.int x1), some (.int x2), some (.int x3), some (.int x4)] [] from h
  unfold f_X2_add_46 at hf
  refine r_aload_n B (pc := 0) dX2_add_0 rfl rfl ?_
  refine gC_RX2_9_46 B (pc := 1) dX2_add_1 ?_
  refine r_bipush B (pc := 4) dX2_add_4 kb_12 ?_
  refine r_icmp_lt B (pc := 6) (tgt := 10) dX2_add_6 (by decide) hf (fun _ hf => ?_) (fun _ hf => ?_)
  · refine r_aload_n B (pc := 10) dX2_add_10 rfl rfl ?_
    refine gC_RX2_18_46 B (pc := 11) dX2_add_11 ?_
    refine r_aload_n B (pc := 14) dX2_add_14 rfl rfl ?_
    refine gC_RX2_9_46 B (pc := 15) dX2_add_15 ?_
    refine r_iload_n B (pc := 18) dX2_add_18 rfl rfl ?_
    refine astC_47 B (pc := 19) dX2_add_19 hf (fun s1 _ hf => ?_)
    refine r_aload_n B (pc := 20) dX2_add_20 rfl rfl ?_
    refine gC_RX2_22_46 B (pc := 21) dX2_add_21 ?_
    refine r_aload_n B (pc := 24) dX2_add_24 rfl rfl ?_
    refine gC_RX2_9_46 B (pc := 25) dX2_add_25 ?_
    refine r_iload_n B (pc := 28) dX2_add_28 rfl rfl ?_
    refine astC_48 B (pc := 29) dX2_add_29 hf (fun s2 _ hf => ?_)
    refine r_aload_n B (pc := 30) dX2_add_30 rfl rfl ?_
    refine gC_RX2_25_46 B (pc := 31) dX2_add_31 ?_
    refine r_aload_n B (pc := 34) dX2_add_34 rfl rfl ?_
    refine gC_RX2_9_46 B (pc := 35) dX2_add_35 ?_
    refine r_iload_n B (pc := 38) dX2_add_38 rfl rfl ?_
    refine astC_49 B (pc := 39) dX2_add_39 hf (fun s3 _ hf => ?_)
    refine r_aload_n B (pc := 40) dX2_add_40 rfl rfl ?_
    refine gC_RX2_28_46 B (pc := 41) dX2_add_41 ?_
    refine r_aload_n B (pc := 44) dX2_add_44 rfl rfl ?_
    refine gC_RX2_9_46 B (pc := 45) dX2_add_45 ?_
    refine r_iload B (pc := 48) dX2_add_48 rfl ?_
    refine astC_50 B (pc := 50) dX2_add_50 hf (fun s4 _ hf => ?_)
    refine r_aload_n B (pc := 51) dX2_add_51 rfl rfl ?_
    refine r_dup B (pc := 52) dX2_add_52 rfl ?_
    refine gC_RX2_9_46 B (pc := 53) dX2_add_53 ?_
    refine r_iconst B (pc := 56) dX2_add_56 kc_1 ?_
    refine r_iadd B (pc := 57) dX2_add_57 ?_
    refine pC_RX2_9_46 B (pc := 58) dX2_add_58 hf (fun s5 hf => ?_)
    refine r_aload_n B (pc := 61) dX2_add_61 rfl rfl ?_
    refine r_iconst B (pc := 62) dX2_add_62 kc_0 ?_
    refine pC_RX2_15_46 B (pc := 63) dX2_add_63 hf (fun s6 hf => ?_)
    exact e_s (F := (wC ad K nw)) hf (RET 66 _ dX2_add_66)
  · exact e_s (F := (wC ad K nw)) hf (RET 9 _ dX2_add_9)
set_option maxHeartbeats 4000000 in
set_option maxRecDepth 20000 in
theorem c_X5_takeNews_46 (l : Launch) (D : va_G) (K : Kt) (ad : Nat → Nat) (nw : Nat) (σ : St) {r : Int32} {τ : St} (hf : f_X5_takeNews_46 σ = some (r, τ)) : CtI l yX5_takeNews cX5_takeNews 6 (some .boolean) 2 46 D K [.ref (ad 37), .ref (ad 46)] (wC ad K nw σ) r (wC ad K nw τ) := by
  refine met_i pl_RX5 (Nat.le_of_ble_eq_true rfl) (fun X hnL B RET => ?_)
  suffices h : MW X (wC ad K nw σ) 0 [some (.ref (ad 37)), some (.ref (ad 46)), none, none, none, none] [] from h
  unfold f_X5_takeNews_46 at hf
  refine r_aload_n B (pc := 0) dX5_takeNews_0 rfl rfl ?_
  refine r_bipush B (pc := 1) dX5_takeNews_1 kb_99 ?_
  obtain ⟨r2, s3, hc1, hf⟩ := bdp_e hf
  refine r_cVI B (c_X5_takeNumber X.l X.D K ad nw σ 99 hc1) F_X5_takeNumber lk_RX5_44 (q0 := 37) (ci := 5) rfl rfl (Nat.le_of_ble_eq_true rfl) (Nat.le_of_ble_eq_true rfl) (Nat.le_of_ble_eq_true rfl) (pc := 3) dX5_takeNews_3 rfl ?_
  refine r_istore_n B hnL (pc := 6) dX5_takeNews_6 rfl (by decide) ?_
  refine r_lc (loc' := [some (.ref (ad 37)), some (.ref (ad 46)), some (.int r2), none, none, none]) rfl ?_
  refine r_iload_n B (pc := 7) dX5_takeNews_7 rfl rfl ?_
  refine r_if_ge B (pc := 8) (tgt := 13) dX5_takeNews_8 (by decide) hf (fun _ hf => ?_) (fun _ hf => ?_)
  · refine r_aload_n B (pc := 13) dX5_takeNews_13 rfl rfl ?_
    refine r_bipush B (pc := 14) dX5_takeNews_14 kb_115 ?_
    obtain ⟨r5, s6, hc4, hf⟩ := bdp_e hf
    refine r_cVI B (c_X5_takes X.l X.D K ad nw s3 115 hc4) F_X5_takes lk_RX5_33 (q0 := 37) (ci := 5) rfl rfl (Nat.le_of_ble_eq_true rfl) (Nat.le_of_ble_eq_true rfl) (Nat.le_of_ble_eq_true rfl) (pc := 16) dX5_takeNews_16 rfl ?_
    have k27 : ∀ (v2 : Int32) (t0 : Int32) (σ27 : St), f_X5_takeNews_46_b27 v2 t0 σ27 = some (r, τ) → MW X (wC ad K nw σ27) 27 [some (.ref (ad 37)), some (.ref (ad 46)), some (.int v2), none, none, none] [.int t0] := by
      intro v2 t0 σ27 hf
      unfold f_X5_takeNews_46_b27 at hf
      refine r_istore_n B hnL (pc := 27) dX5_takeNews_27 rfl (by decide) ?_
      refine r_lc (loc' := [some (.ref (ad 37)), some (.ref (ad 46)), some (.int v2), some (.int t0), none, none]) rfl ?_
      refine r_aload_n B (pc := 28) dX5_takeNews_28 rfl rfl ?_
      refine r_bipush B (pc := 29) dX5_takeNews_29 kb_60 ?_
      obtain ⟨r8, s9, hc7, hf⟩ := bdp_e hf
      refine r_cVI B (c_X5_takes X.l X.D K ad nw σ27 60 hc7) F_X5_takes lk_RX5_33 (q0 := 37) (ci := 5) rfl rfl (Nat.le_of_ble_eq_true rfl) (Nat.le_of_ble_eq_true rfl) (Nat.le_of_ble_eq_true rfl) (pc := 31) dX5_takeNews_31 rfl ?_
      have k47 : ∀ (v2 : Int32) (v3 : Int32) (t0 : Int32) (σ47 : St), f_X5_takeNews_46_b47 v2 v3 t0 σ47 = some (r, τ) → MW X (wC ad K nw σ47) 47 [some (.ref (ad 37)), some (.ref (ad 46)), some (.int v2), some (.int v3), none, none] [.int t0] := by
        intro v2 v3 t0 σ47 hf
        unfold f_X5_takeNews_46_b47 at hf
        refine r_istore B hnL (pc := 47) dX5_takeNews_47 (by decide) ?_
        refine r_lc (loc' := [some (.ref (ad 37)), some (.ref (ad 46)), some (.int v2), some (.int v3), some (.int t0), none]) rfl ?_
        refine r_iload B (pc := 49) dX5_takeNews_49 rfl ?_
        refine r_if_ge B (pc := 51) (tgt := 56) dX5_takeNews_51 (by decide) hf (fun _ hf => ?_) (fun _ hf => ?_)
        · refine r_aload_n B (pc := 56) dX5_takeNews_56 rfl rfl ?_
          refine r_bipush B (pc := 57) dX5_takeNews_57 kb_33 ?_
          obtain ⟨r14, s15, hc13, hf⟩ := bdp_e hf
          refine r_cVI B (c_X5_takes X.l X.D K ad nw σ47 33 hc13) F_X5_takes lk_RX5_33 (q0 := 37) (ci := 5) rfl rfl (Nat.le_of_ble_eq_true rfl) (Nat.le_of_ble_eq_true rfl) (Nat.le_of_ble_eq_true rfl) (pc := 59) dX5_takeNews_59 rfl ?_
          have k73 : ∀ (v2 : Int32) (v3 : Int32) (v4 : Int32) (t0 : Int32) (σ73 : St), f_X5_takeNews_46_b73 v2 v3 v4 t0 σ73 = some (r, τ) → MW X (wC ad K nw σ73) 73 [none, some (.ref (ad 46)), some (.int v2), some (.int v3), some (.int v4), none] [.int t0] := by
            intro v2 v3 v4 t0 σ73 hf
            unfold f_X5_takeNews_46_b73 at hf
            refine r_istore B hnL (pc := 73) dX5_takeNews_73 (by decide) ?_
            refine r_lc (loc' := [none, some (.ref (ad 46)), some (.int v2), some (.int v3), some (.int v4), some (.int t0)]) rfl ?_
            refine r_iload B (pc := 75) dX5_takeNews_75 rfl ?_
            refine r_if_ge B (pc := 77) (tgt := 82) dX5_takeNews_77 (by decide) hf (fun _ hf => ?_) (fun _ hf => ?_)
            · refine r_aload_n B (pc := 82) dX5_takeNews_82 rfl rfl ?_
              refine r_iload_n B (pc := 83) dX5_takeNews_83 rfl rfl ?_
              refine r_iload B (pc := 84) dX5_takeNews_84 rfl ?_
              refine r_iload B (pc := 86) dX5_takeNews_86 rfl ?_
              refine r_iload_n B (pc := 88) dX5_takeNews_88 rfl rfl ?_
              obtain ⟨s20, hc19, hf⟩ := bdr_e hf
              refine r_cVV B (c_X2_add_46 X.l X.D K ad nw σ73 v2 v4 t0 v3 hc19) F_X2_add lk_RX5_67 (q0 := 46) (ci := 2) rfl rfl (Nat.le_of_ble_eq_true rfl) (Nat.le_of_ble_eq_true rfl) (Nat.le_of_ble_eq_true rfl) (pc := 89) dX5_takeNews_89 rfl ?_
              refine r_iconst B (pc := 92) dX5_takeNews_92 kc_1 ?_
              exact e_pz (F := (wC ad K nw)) hf rfl (RET 93 _ dX5_takeNews_93)
            · refine r_iconst B (pc := 80) dX5_takeNews_80 kc_0 ?_
              exact e_pz (F := (wC ad K nw)) hf rfl (RET 81 _ dX5_takeNews_81)
          refine r_if_eq B (pc := 62) (tgt := 72) dX5_takeNews_62 (by decide) hf (fun _ hf => ?_) (fun _ hf => ?_)
          · refine r_iconst B (pc := 72) dX5_takeNews_72 kc_0 ?_
            exact r_mask [false, true, true, true, true, false] rfl (k73 v2 v3 t0 0 s15 hf)
          · refine r_aload_n B (pc := 65) dX5_takeNews_65 rfl rfl ?_
            obtain ⟨r17, s18, hc16, hf⟩ := bdp_e hf
            refine r_cVI B (c_X5_takeBarred X.l X.D K ad nw s15 hc16) F_X5_takeBarred lk_RX5_64 (q0 := 37) (ci := 5) rfl rfl (Nat.le_of_ble_eq_true rfl) (Nat.le_of_ble_eq_true rfl) (Nat.le_of_ble_eq_true rfl) (pc := 66) dX5_takeNews_66 rfl ?_
            refine r_goto B (pc := 69) (tgt := 73) dX5_takeNews_69 (by decide) ?_
            exact r_mask [false, true, true, true, true, false] rfl (k73 v2 v3 t0 r17 s18 hf)
        · refine r_iconst B (pc := 54) dX5_takeNews_54 kc_0 ?_
          exact e_pz (F := (wC ad K nw)) hf rfl (RET 55 _ dX5_takeNews_55)
      refine r_if_eq B (pc := 34) (tgt := 46) dX5_takeNews_34 (by decide) hf (fun _ hf => ?_) (fun _ hf => ?_)
      · refine r_iconst B (pc := 46) dX5_takeNews_46 kc_0 ?_
        exact r_mask [true, true, true, true, false, false] rfl (k47 v2 t0 0 s9 hf)
      · refine r_aload_n B (pc := 37) dX5_takeNews_37 rfl rfl ?_
        refine r_aload_n B (pc := 38) dX5_takeNews_38 rfl rfl ?_
        refine r_iload_n B (pc := 39) dX5_takeNews_39 rfl rfl ?_
        obtain ⟨r11, s12, hc10, hf⟩ := bdp_e hf
        refine r_cVI B (c_X5_takeAhead_46 X.l X.D K ad nw s9 v2 hc10) F_X5_takeAhead lk_RX5_60 (q0 := 37) (ci := 5) rfl rfl (Nat.le_of_ble_eq_true rfl) (Nat.le_of_ble_eq_true rfl) (Nat.le_of_ble_eq_true rfl) (pc := 40) dX5_takeNews_40 rfl ?_
        refine r_goto B (pc := 43) (tgt := 47) dX5_takeNews_43 (by decide) ?_
        exact r_mask [true, true, true, true, false, false] rfl (k47 v2 t0 r11 s12 hf)
    refine r_if_eq B (pc := 19) (tgt := 26) dX5_takeNews_19 (by decide) hf (fun _ hf => ?_) (fun _ hf => ?_)
    · refine r_iconst B (pc := 26) dX5_takeNews_26 kc_0 ?_
      exact r_mask [true, true, true, false, false, false] rfl (k27 r2 0 s6 hf)
    · refine r_iconst B (pc := 22) dX5_takeNews_22 kc_1 ?_
      refine r_goto B (pc := 23) (tgt := 27) dX5_takeNews_23 (by decide) ?_
      exact r_mask [true, true, true, false, false, false] rfl (k27 r2 1 s6 hf)
  · refine r_iconst B (pc := 11) dX5_takeNews_11 kc_0 ?_
    exact e_pz (F := (wC ad K nw)) hf rfl (RET 12 _ dX5_takeNews_12)
set_option maxHeartbeats 4000000 in
set_option maxRecDepth 20000 in
theorem c_X5_takePaper_46 (l : Launch) (D : va_G) (K : Kt) (ad : Nat → Nat) (nw : Nat) (σ : St) {r : Int32} {τ : St} (hf : f_X5_takePaper_46 σ = some (r, τ)) : CtI l yX5_takePaper cX5_takePaper 3 (some .boolean) 3 71 D K [.ref (ad 37), .ref (ad 46)] (wC ad K nw σ) r (wC ad K nw τ) := by
  refine met_i pl_RX5 (Nat.le_of_ble_eq_true rfl) (fun X hnL B RET => ?_)
  suffices h : MW X (wC ad K nw σ) 0 [some (.ref (ad 37)), some (.ref (ad 46)), none] [] from h
  unfold f_X5_takePaper_46 at hf
  refine r_aload_n B (pc := 0) dX5_takePaper_0 rfl rfl ?_
  refine r_iconst B (pc := 1) dX5_takePaper_1 kc_0 ?_
  refine pC_RX5_15_37 B (pc := 2) dX5_takePaper_2 hf (fun s1 hf => ?_)
  refine r_aload_n B (pc := 5) dX5_takePaper_5 rfl rfl ?_
  obtain ⟨s3, hc2, hf⟩ := bdr_e hf
  refine r_cVV B (c_X2_clear_46 X.l X.D K ad nw s1 hc2) F_X2_clear lk_RX5_51 (q0 := 46) (ci := 2) rfl rfl (Nat.le_of_ble_eq_true rfl) (Nat.le_of_ble_eq_true rfl) (Nat.le_of_ble_eq_true rfl) (pc := 6) dX5_takePaper_6 rfl ?_
  refine r_iconst B (pc := 9) dX5_takePaper_9 kc_0 ?_
  refine r_istore_n B hnL (pc := 10) dX5_takePaper_10 rfl (by decide) ?_
  refine r_lc (loc' := [some (.ref (ad 37)), some (.ref (ad 46)), some (.int 0)]) rfl ?_
  have k11 : ∀ (n11 : Nat) (v2 : Int32) (σ11 : St), f_X5_takePaper_46_h11 n11 v2 σ11 = some (r, τ) → MW X (wC ad K nw σ11) 11 [some (.ref (ad 37)), some (.ref (ad 46)), some (.int v2)] [] := by
    intro n11
    induction n11 with
    | zero => intro v2 σ11 hf; exact nn_z hf
    | succ n11 ih11 =>
      intro v2 σ11 hf
      rw [f_X5_takePaper_46_h11] at hf
      refine r_iload_n B (pc := 11) dX5_takePaper_11 rfl rfl ?_
      refine r_bipush B (pc := 12) dX5_takePaper_12 kb_12 ?_
      refine r_icmp_ge B (pc := 14) (tgt := 60) dX5_takePaper_14 (by decide) hf (fun _ hf => ?_) (fun _ hf => ?_)
      · refine r_iconst B (pc := 60) dX5_takePaper_60 kc_0 ?_
        exact e_pz (F := (wC ad K nw)) hf rfl (RET 61 _ dX5_takePaper_61)
      · refine r_aload_n B (pc := 17) dX5_takePaper_17 rfl rfl ?_
        refine r_aload_n B (pc := 18) dX5_takePaper_18 rfl rfl ?_
        obtain ⟨r5, s6, hc4, hf⟩ := bdp_e hf
        refine r_cVI B (c_X5_takeNews_46 X.l X.D K ad nw σ11 hc4) F_X5_takeNews lk_RX5_56 (q0 := 37) (ci := 5) rfl rfl (Nat.le_of_ble_eq_true rfl) (Nat.le_of_ble_eq_true rfl) (Nat.le_of_ble_eq_true rfl) (pc := 19) dX5_takePaper_19 rfl ?_
        refine r_if_ne B (pc := 22) (tgt := 27) dX5_takePaper_22 (by decide) hf (fun _ hf => ?_) (fun _ hf => ?_)
        · refine r_aload_n B (pc := 27) dX5_takePaper_27 rfl rfl ?_
          obtain ⟨r8, s9, hc7, hf⟩ := bdp_e hf
          refine r_cVI B (c_X5_nextLetter X.l X.D K ad nw s6 hc7) F_X5_nextLetter lk_RX5_29 (q0 := 37) (ci := 5) rfl rfl (Nat.le_of_ble_eq_true rfl) (Nat.le_of_ble_eq_true rfl) (Nat.le_of_ble_eq_true rfl) (pc := 28) dX5_takePaper_28 rfl ?_
          refine r_iconst B (pc := 31) dX5_takePaper_31 kc_m1 ?_
          refine r_icmp_ne B (pc := 32) (tgt := 37) dX5_takePaper_32 (by decide) hf (fun _ hf => ?_) (fun _ hf => ?_)
          · refine r_iload_n B (pc := 37) dX5_takePaper_37 rfl rfl ?_
            refine r_bipush B (pc := 38) dX5_takePaper_38 kb_11 ?_
            refine r_icmp_eq B (pc := 40) (tgt := 52) dX5_takePaper_40 (by decide) hf (fun _ hf => ?_) (fun _ hf => ?_)
            · refine r_iconst B (pc := 52) dX5_takePaper_52 kc_0 ?_
              exact e_pz (F := (wC ad K nw)) hf rfl (RET 53 _ dX5_takePaper_53)
            · refine r_aload_n B (pc := 43) dX5_takePaper_43 rfl rfl ?_
              refine r_bipush B (pc := 44) dX5_takePaper_44 kb_44 ?_
              obtain ⟨r11, s12, hc10, hf⟩ := bdp_e hf
              refine r_cVI B (c_X5_takes X.l X.D K ad nw s9 44 hc10) F_X5_takes lk_RX5_33 (q0 := 37) (ci := 5) rfl rfl (Nat.le_of_ble_eq_true rfl) (Nat.le_of_ble_eq_true rfl) (Nat.le_of_ble_eq_true rfl) (pc := 46) dX5_takePaper_46 rfl ?_
              refine r_if_ne B (pc := 49) (tgt := 54) dX5_takePaper_49 (by decide) hf (fun _ hf => ?_) (fun _ hf => ?_)
              · refine r_iincS B hnL (pc := 54) dX5_takePaper_54 rfl kc_1 (by decide) hf (fun y13 hf => ?_)
                refine r_lc (loc' := [some (.ref (ad 37)), some (.ref (ad 46)), some (.int y13)]) rfl ?_
                refine r_goto B (pc := 57) (tgt := 11) dX5_takePaper_57 (by decide) ?_
                exact r_mask [true, true, true] rfl (ih11 y13 s12 hf)
              · refine r_iconst B (pc := 52) dX5_takePaper_52 kc_0 ?_
                exact e_pz (F := (wC ad K nw)) hf rfl (RET 53 _ dX5_takePaper_53)
          · refine r_iconst B (pc := 35) dX5_takePaper_35 kc_1 ?_
            exact e_pz (F := (wC ad K nw)) hf rfl (RET 36 _ dX5_takePaper_36)
        · refine r_iconst B (pc := 25) dX5_takePaper_25 kc_0 ?_
          exact e_pz (F := (wC ad K nw)) hf rfl (RET 26 _ dX5_takePaper_26)
  exact r_mask [true, true, true] rfl (k11 FU 0 s3 hf)
set_option maxHeartbeats 4000000 in
set_option maxRecDepth 20000 in
theorem c_X2_become_46 (l : Launch) (D : va_G) (K : Kt) (ad : Nat → Nat) (nw : Nat) (σ : St) {τ : St} (hf : f_X2_become_46 σ = some τ) : CtV l yX2_become cX2_become 2 none 1 26 D K [.ref (ad 9), .ref (ad 46)] (wC ad K nw σ) (wC ad K nw τ) := by
  refine met_v pl_RX2 (Nat.le_of_ble_eq_true rfl) (fun X hnL B RET => ?_)
  suffices h : MW X (wC ad K nw σ) 0 [some (.ref (ad 9)), some (.ref (ad 46))] [] from h
  unfold f_X2_become_46 at hf
  refine r_aload_n B (pc := 0) dX2_become_0 rfl rfl ?_
  refine r_aload_n B (pc := 1) dX2_become_1 rfl rfl ?_
  refine gC_RX2_9_46 B (pc := 2) dX2_become_2 ?_
  refine pC_RX2_9_9 B (pc := 5) dX2_become_5 hf (fun s1 hf => ?_)
  refine r_aload_n B (pc := 8) dX2_become_8 rfl rfl ?_
  refine r_aload_n B (pc := 9) dX2_become_9 rfl rfl ?_
  refine gC_RX2_15_46 B (pc := 10) dX2_become_10 ?_
  refine pC_RX2_15_9 B (pc := 13) dX2_become_13 hf (fun s2 hf => ?_)
  refine r_aload_n B (pc := 16) dX2_become_16 rfl rfl ?_
  refine gC_RX2_18_46 B (pc := 17) dX2_become_17 ?_
  refine r_iconst B (pc := 20) dX2_become_20 kc_0 ?_
  refine r_aload_n B (pc := 21) dX2_become_21 rfl rfl ?_
  refine gC_RX2_18_9 B (pc := 22) dX2_become_22 ?_
  refine r_iconst B (pc := 25) dX2_become_25 kc_0 ?_
  refine r_bipush B (pc := 26) dX2_become_26 kb_12 ?_
  refine cpyC_RX2_48_47_10 B (Nat.le_of_ble_eq_true rfl) (Nat.le_of_ble_eq_true rfl) (pc := 28) dX2_become_28 hf (fun s3 hf => ?_)
  refine r_aload_n B (pc := 31) dX2_become_31 rfl rfl ?_
  refine gC_RX2_22_46 B (pc := 32) dX2_become_32 ?_
  refine r_iconst B (pc := 35) dX2_become_35 kc_0 ?_
  refine r_aload_n B (pc := 36) dX2_become_36 rfl rfl ?_
  refine gC_RX2_22_9 B (pc := 37) dX2_become_37 ?_
  refine r_iconst B (pc := 40) dX2_become_40 kc_0 ?_
  refine r_bipush B (pc := 41) dX2_become_41 kb_12 ?_
  refine cpyC_RX2_48_48_11 B (Nat.le_of_ble_eq_true rfl) (Nat.le_of_ble_eq_true rfl) (pc := 43) dX2_become_43 hf (fun s4 hf => ?_)
  refine r_aload_n B (pc := 46) dX2_become_46 rfl rfl ?_
  refine gC_RX2_25_46 B (pc := 47) dX2_become_47 ?_
  refine r_iconst B (pc := 50) dX2_become_50 kc_0 ?_
  refine r_aload_n B (pc := 51) dX2_become_51 rfl rfl ?_
  refine gC_RX2_25_9 B (pc := 52) dX2_become_52 ?_
  refine r_iconst B (pc := 55) dX2_become_55 kc_0 ?_
  refine r_bipush B (pc := 56) dX2_become_56 kb_12 ?_
  refine cpyC_RX2_48_49_12 B (Nat.le_of_ble_eq_true rfl) (Nat.le_of_ble_eq_true rfl) (pc := 58) dX2_become_58 hf (fun s5 hf => ?_)
  refine r_aload_n B (pc := 61) dX2_become_61 rfl rfl ?_
  refine gC_RX2_28_46 B (pc := 62) dX2_become_62 ?_
  refine r_iconst B (pc := 65) dX2_become_65 kc_0 ?_
  refine r_aload_n B (pc := 66) dX2_become_66 rfl rfl ?_
  refine gC_RX2_28_9 B (pc := 67) dX2_become_67 ?_
  refine r_iconst B (pc := 70) dX2_become_70 kc_0 ?_
  refine r_bipush B (pc := 71) dX2_become_71 kb_12 ?_
  refine cpyC_RX2_48_50_13 B (Nat.le_of_ble_eq_true rfl) (Nat.le_of_ble_eq_true rfl) (pc := 73) dX2_become_73 hf (fun s6 hf => ?_)
  exact e_s (F := (wC ad K nw)) hf (RET 76 _ dX2_become_76)
set_option maxHeartbeats 4000000 in
set_option maxRecDepth 20000 in
theorem c_J7_fill_53178_6 (l : Launch) (D : va_G) (K : Kt) (ad : Nat → Nat) (nw : Nat) (σ : St) (x1 : Int32) {τ : St} (hf : f_J7_fill_53178_6 σ x1 = some τ) : CtV l yJ7_fill_53178 cJ7_fill_53178 4 none 0 0 D K [.ref (ad 6), .int x1] (wC ad K nw σ) (wC ad K nw τ) := by
  refine met_v pl_RJ7 (Nat.le_of_ble_eq_true rfl) (fun X hnL B RET => ?_)
  suffices h : MW X (wC ad K nw σ) 0 [some (.ref (ad 6)), some (.int x1), none, none] [] from h
  unfold f_J7_fill_53178_6 at hf
  refine r_iconst B (pc := 0) dJ7_fill_53178_0 kc_0 ?_
  refine r_istore_n B hnL (pc := 1) dJ7_fill_53178_1 rfl (by decide) ?_
  refine r_lc (loc' := [some (.ref (ad 6)), some (.int x1), some (.int 0), none]) rfl ?_
  refine r_aload_n B (pc := 2) dJ7_fill_53178_2 rfl rfl ?_
  refine lenC_6 B (pc := 3) dJ7_fill_53178_3 ?_
  refine r_istore_n B hnL (pc := 4) dJ7_fill_53178_4 rfl (by decide) ?_
  refine r_lc (loc' := [some (.ref (ad 6)), some (.int x1), some (.int 0), some (.int 10)]) rfl ?_
  have k5 : ∀ (n5 : Nat) (v2 : Int32) (v3 : Int32) (σ5 : St), f_J7_fill_53178_6_h5 x1 n5 v2 v3 σ5 = some τ → MW X (wC ad K nw σ5) 5 [some (.ref (ad 6)), some (.int x1), some (.int v2), some (.int v3)] [] := by
    intro n5
    induction n5 with
    | zero => intro v2 v3 σ5 hf; exact nn_z hf
    | succ n5 ih5 =>
      intro v2 v3 σ5 hf
      rw [f_J7_fill_53178_6_h5] at hf
      refine r_iload_n B (pc := 5) dJ7_fill_53178_5 rfl rfl ?_
      refine r_iload_n B (pc := 6) dJ7_fill_53178_6 rfl rfl ?_
      refine r_icmp_ge B (pc := 7) (tgt := 20) dJ7_fill_53178_7 (by decide) hf (fun _ hf => ?_) (fun _ hf => ?_)
      · exact e_s (F := (wC ad K nw)) hf (RET 20 _ dJ7_fill_53178_20)
      · refine r_aload_n B (pc := 10) dJ7_fill_53178_10 rfl rfl ?_
        refine r_iload_n B (pc := 11) dJ7_fill_53178_11 rfl rfl ?_
        refine r_iload_n B (pc := 12) dJ7_fill_53178_12 rfl rfl ?_
        refine astC_6 B (pc := 13) dJ7_fill_53178_13 hf (fun s1 _ hf => ?_)
        refine r_iincS B hnL (pc := 14) dJ7_fill_53178_14 rfl kc_1 (by decide) hf (fun y2 hf => ?_)
        refine r_lc (loc' := [some (.ref (ad 6)), some (.int x1), some (.int y2), some (.int v3)]) rfl ?_
        refine r_goto B (pc := 17) (tgt := 5) dJ7_fill_53178_17 (by decide) ?_
        exact r_mask [true, true, true, true] rfl (ih5 y2 v3 s1 hf)
  exact r_mask [true, true, true, true] rfl (k5 FU 0 10 σ hf)
set_option maxHeartbeats 4000000 in
set_option maxRecDepth 20000 in
theorem c_J7_fill_53178_7 (l : Launch) (D : va_G) (K : Kt) (ad : Nat → Nat) (nw : Nat) (σ : St) (x1 : Int32) {τ : St} (hf : f_J7_fill_53178_7 σ x1 = some τ) : CtV l yJ7_fill_53178 cJ7_fill_53178 4 none 0 0 D K [.ref (ad 7), .int x1] (wC ad K nw σ) (wC ad K nw τ) := by
  refine met_v pl_RJ7 (Nat.le_of_ble_eq_true rfl) (fun X hnL B RET => ?_)
  suffices h : MW X (wC ad K nw σ) 0 [some (.ref (ad 7)), some (.int x1), none, none] [] from h
  unfold f_J7_fill_53178_7 at hf
  refine r_iconst B (pc := 0) dJ7_fill_53178_0 kc_0 ?_
  refine r_istore_n B hnL (pc := 1) dJ7_fill_53178_1 rfl (by decide) ?_
  refine r_lc (loc' := [some (.ref (ad 7)), some (.int x1), some (.int 0), none]) rfl ?_
  refine r_aload_n B (pc := 2) dJ7_fill_53178_2 rfl rfl ?_
  refine lenC_7 B (pc := 3) dJ7_fill_53178_3 ?_
  refine r_istore_n B hnL (pc := 4) dJ7_fill_53178_4 rfl (by decide) ?_
  refine r_lc (loc' := [some (.ref (ad 7)), some (.int x1), some (.int 0), some (.int 10)]) rfl ?_
  have k5 : ∀ (n5 : Nat) (v2 : Int32) (v3 : Int32) (σ5 : St), f_J7_fill_53178_7_h5 x1 n5 v2 v3 σ5 = some τ → MW X (wC ad K nw σ5) 5 [some (.ref (ad 7)), some (.int x1), some (.int v2), some (.int v3)] [] := by
    intro n5
    induction n5 with
    | zero => intro v2 v3 σ5 hf; exact nn_z hf
    | succ n5 ih5 =>
      intro v2 v3 σ5 hf
      rw [f_J7_fill_53178_7_h5] at hf
      refine r_iload_n B (pc := 5) dJ7_fill_53178_5 rfl rfl ?_
      refine r_iload_n B (pc := 6) dJ7_fill_53178_6 rfl rfl ?_
      refine r_icmp_ge B (pc := 7) (tgt := 20) dJ7_fill_53178_7 (by decide) hf (fun _ hf => ?_) (fun _ hf => ?_)
      · exact e_s (F := (wC ad K nw)) hf (RET 20 _ dJ7_fill_53178_20)
      · refine r_aload_n B (pc := 10) dJ7_fill_53178_10 rfl rfl ?_
        refine r_iload_n B (pc := 11) dJ7_fill_53178_11 rfl rfl ?_
        refine r_iload_n B (pc := 12) dJ7_fill_53178_12 rfl rfl ?_
        refine astC_7 B (pc := 13) dJ7_fill_53178_13 hf (fun s1 _ hf => ?_)
        refine r_iincS B hnL (pc := 14) dJ7_fill_53178_14 rfl kc_1 (by decide) hf (fun y2 hf => ?_)
        refine r_lc (loc' := [some (.ref (ad 7)), some (.int x1), some (.int y2), some (.int v3)]) rfl ?_
        refine r_goto B (pc := 17) (tgt := 5) dJ7_fill_53178_17 (by decide) ?_
        exact r_mask [true, true, true, true] rfl (ih5 y2 v3 s1 hf)
  exact r_mask [true, true, true, true] rfl (k5 FU 0 10 σ hf)
set_option maxHeartbeats 4000000 in
set_option maxRecDepth 20000 in
theorem c_X1_forget (l : Launch) (D : va_G) (K : Kt) (ad : Nat → Nat) (nw : Nat) (σ : St) {τ : St} (hf : f_X1_forget σ = some τ) : CtV l yX1_forget cX1_forget 1 none 1 23 D K [.ref (ad 2)] (wC ad K nw σ) (wC ad K nw τ) := by
  refine met_v pl_RX1 (Nat.le_of_ble_eq_true rfl) (fun X hnL B RET => ?_)
  suffices h : MW X (wC ad K nw σ) 0 [some (.ref (ad 2))] [] from h
  unfold f_X1_forget at hf
  refine r_aload_n B (pc := 0) dX1_forget_0 rfl rfl ?_
  refine gC_RX1_25_2 B (pc := 1) dX1_forget_1 ?_
  refine r_iconst B (pc := 4) dX1_forget_4 kc_0 ?_
  obtain ⟨s2, hc1, hf⟩ := bdr_e hf
  refine r_cSV B (c_J7_fill_53178_6 X.l X.D K ad nw σ 0 hc1) F_J7_fill_53178 lk_RX1_34 (Nat.le_of_ble_eq_true rfl) (Nat.le_of_ble_eq_true rfl) (Nat.le_of_ble_eq_true rfl) (pc := 5) dX1_forget_5 rfl ?_
  refine r_aload_n B (pc := 8) dX1_forget_8 rfl rfl ?_
  refine gC_RX1_28_2 B (pc := 9) dX1_forget_9 ?_
  refine r_iconst B (pc := 12) dX1_forget_12 kc_0 ?_
  obtain ⟨s4, hc3, hf⟩ := bdr_e hf
  refine r_cSV B (c_J7_fill_53178_7 X.l X.D K ad nw s2 0 hc3) F_J7_fill_53178 lk_RX1_34 (Nat.le_of_ble_eq_true rfl) (Nat.le_of_ble_eq_true rfl) (Nat.le_of_ble_eq_true rfl) (pc := 13) dX1_forget_13 rfl ?_
  exact e_s (F := (wC ad K nw)) hf (RET 16 _ dX1_forget_16)
set_option maxHeartbeats 4000000 in
set_option maxRecDepth 20000 in
theorem c_X6_paper (l : Launch) (D : va_G) (K : Kt) (ad : Nat → Nat) (nw : Nat) (σ : St) {r : Int32} {τ : St} (hf : f_X6_paper σ = some (r, τ)) : CtI l yX6_paper cX6_paper 2 (some .int) 4 93 D K [.ref (ad 0)] (wC ad K nw σ) r (wC ad K nw τ) := by
  refine met_i pl_RX6 (Nat.le_of_ble_eq_true rfl) (fun X hnL B RET => ?_)
  suffices h : MW X (wC ad K nw σ) 0 [some (.ref (ad 0)), none] [] from h
  unfold f_X6_paper at hf
  refine r_aload_n B (pc := 0) dX6_paper_0 rfl rfl ?_
  refine gC_RX6_26_0 B (pc := 1) dX6_paper_1 ?_
  refine r_aload_n B (pc := 4) dX6_paper_4 rfl rfl ?_
  refine gC_RX6_40_0 B (pc := 5) dX6_paper_5 ?_
  obtain ⟨r2, s3, hc1, hf⟩ := bdp_e hf
  refine r_cVI B (c_X5_takePaper_46 X.l X.D K ad nw σ hc1) F_X5_takePaper lk_RX6_182 (q0 := 37) (ci := 5) rfl rfl (Nat.le_of_ble_eq_true rfl) (Nat.le_of_ble_eq_true rfl) (Nat.le_of_ble_eq_true rfl) (pc := 8) dX6_paper_8 rfl ?_
  refine r_istore_n B hnL (pc := 11) dX6_paper_11 rfl (by decide) ?_
  refine r_lc (loc' := [some (.ref (ad 0)), some (.int r2)]) rfl ?_
  refine r_aload_n B (pc := 12) dX6_paper_12 rfl rfl ?_
  refine gC_RX6_26_0 B (pc := 13) dX6_paper_13 ?_
  refine r_iconst B (pc := 16) dX6_paper_16 kc_0 ?_
  refine pC_RX6_166_37 B (pc := 17) dX6_paper_17 hf (fun s4 hf => ?_)
  refine r_iload_n B (pc := 20) dX6_paper_20 rfl rfl ?_
  refine r_if_ne B (pc := 21) (tgt := 32) dX6_paper_21 (by decide) hf (fun _ hf => ?_) (fun _ hf => ?_)
  · refine r_aload_n B (pc := 32) dX6_paper_32 rfl rfl ?_
    refine gC_RX6_10_0 B (pc := 33) dX6_paper_33 ?_
    refine gC_RX6_96_1 B (pc := 36) dX6_paper_36 ?_
    refine r_aload_n B (pc := 39) dX6_paper_39 rfl rfl ?_
    refine gC_RX6_40_0 B (pc := 40) dX6_paper_40 ?_
    obtain ⟨s6, hc5, hf⟩ := bdr_e hf
    refine r_cVV B (c_X2_become_46 X.l X.D K ad nw s4 hc5) F_X2_become lk_RX6_186 (q0 := 9) (ci := 2) rfl rfl (Nat.le_of_ble_eq_true rfl) (Nat.le_of_ble_eq_true rfl) (Nat.le_of_ble_eq_true rfl) (pc := 43) dX6_paper_43 rfl ?_
    refine r_aload_n B (pc := 46) dX6_paper_46 rfl rfl ?_
    refine gC_RX6_10_0 B (pc := 47) dX6_paper_47 ?_
    refine gC_RX6_72_1 B (pc := 50) dX6_paper_50 ?_
    obtain ⟨s8, hc7, hf⟩ := bdr_e hf
    refine r_cVV B (c_X1_forget X.l X.D K ad nw s6 hc7) F_X1_forget lk_RX6_189 (q0 := 2) (ci := 1) rfl rfl (Nat.le_of_ble_eq_true rfl) (Nat.le_of_ble_eq_true rfl) (Nat.le_of_ble_eq_true rfl) (pc := 53) dX6_paper_53 rfl ?_
    refine r_aload_n B (pc := 56) dX6_paper_56 rfl rfl ?_
    refine gC_RX6_10_0 B (pc := 57) dX6_paper_57 ?_
    refine r_iconst B (pc := 60) dX6_paper_60 kc_0 ?_
    refine pC_RX6_83_1 B (pc := 61) dX6_paper_61 hf (fun s9 hf => ?_)
    refine r_aload_n B (pc := 64) dX6_paper_64 rfl rfl ?_
    refine gC_RX6_10_0 B (pc := 65) dX6_paper_65 ?_
    refine gC_RX6_96_1 B (pc := 68) dX6_paper_68 ?_
    refine gC_RX6_103_9 B (pc := 71) dX6_paper_71 ?_
    exact e_pz (F := (wC ad K nw)) hf (nar_i _) (RET 74 _ dX6_paper_74)
  · refine r_aload_n B (pc := 24) dX6_paper_24 rfl rfl ?_
    refine gC_RX6_26_0 B (pc := 25) dX6_paper_25 ?_
    refine r_cVI B (c_X5_faultHere X.l X.D K ad nw s4) F_X5_faultHere lk_RX6_174 (q0 := 37) (ci := 5) rfl rfl (Nat.le_of_ble_eq_true rfl) (Nat.le_of_ble_eq_true rfl) (Nat.le_of_ble_eq_true rfl) (pc := 28) dX6_paper_28 rfl ?_
    exact e_pz (F := (wC ad K nw)) hf (nar_i _) (RET 31 _ dX6_paper_31)
set_option maxHeartbeats 4000000 in
set_option maxRecDepth 20000 in
theorem c_X5_takeReading (l : Launch) (D : va_G) (K : Kt) (ad : Nat → Nat) (nw : Nat) (σ : St) (x1 : Int32) (x2 : Int32) {r : Int32} {τ : St} (hf : f_X5_takeReading σ x1 x2 = some (r, τ)) : CtI l yX5_takeReading cX5_takeReading 7 (some .int) 2 42 D K [.ref (ad 37), .int x1, .int x2] (wC ad K nw σ) r (wC ad K nw τ) := by
  refine met_i pl_RX5 (Nat.le_of_ble_eq_true rfl) (fun X hnL B RET => ?_)
  suffices h : MW X (wC ad K nw σ) 0 [some (.ref (ad 37)), some (.int x1), some (.int x2), none, none, none, none] [] from h
  unfold f_X5_takeReading at hf
  refine r_aload_n B (pc := 0) dX5_takeReading_0 rfl rfl ?_
  refine r_iload_n B (pc := 1) dX5_takeReading_1 rfl rfl ?_
  obtain ⟨r2, s3, hc1, hf⟩ := bdp_e hf
  refine r_cVI B (c_X5_takeFigure X.l X.D K ad nw σ x1 hc1) F_X5_takeFigure lk_RX5_41 (q0 := 37) (ci := 5) rfl rfl (Nat.le_of_ble_eq_true rfl) (Nat.le_of_ble_eq_true rfl) (Nat.le_of_ble_eq_true rfl) (pc := 2) dX5_takeReading_2 rfl ?_
  refine r_istore_n B hnL (pc := 5) dX5_takeReading_5 rfl (by decide) ?_
  refine r_lc (loc' := [some (.ref (ad 37)), some (.int x1), some (.int x2), some (.int r2), none, none, none]) rfl ?_
  refine r_iload_n B (pc := 6) dX5_takeReading_6 rfl rfl ?_
  refine r_if_ge B (pc := 7) (tgt := 12) dX5_takeReading_7 (by decide) hf (fun _ hf => ?_) (fun _ hf => ?_)
  · refine r_aload_n B (pc := 12) dX5_takeReading_12 rfl rfl ?_
    refine r_bipush B (pc := 13) dX5_takeReading_13 kb_6 ?_
    obtain ⟨r5, s6, hc4, hf⟩ := bdp_e hf
    refine r_cVI B (c_X5_takeFigure X.l X.D K ad nw s3 6 hc4) F_X5_takeFigure lk_RX5_41 (q0 := 37) (ci := 5) rfl rfl (Nat.le_of_ble_eq_true rfl) (Nat.le_of_ble_eq_true rfl) (Nat.le_of_ble_eq_true rfl) (pc := 15) dX5_takeReading_15 rfl ?_
    refine r_istore B hnL (pc := 18) dX5_takeReading_18 (by decide) ?_
    refine r_lc (loc' := [some (.ref (ad 37)), some (.int x1), some (.int x2), some (.int r2), some (.int r5), none, none]) rfl ?_
    refine r_iload B (pc := 20) dX5_takeReading_20 rfl ?_
    refine r_if_ge B (pc := 22) (tgt := 27) dX5_takeReading_22 (by decide) hf (fun _ hf => ?_) (fun _ hf => ?_)
    · refine r_aload_n B (pc := 27) dX5_takeReading_27 rfl rfl ?_
      refine r_bipush B (pc := 28) dX5_takeReading_28 kb_6 ?_
      obtain ⟨r8, s9, hc7, hf⟩ := bdp_e hf
      refine r_cVI B (c_X5_takeFigure X.l X.D K ad nw s6 6 hc7) F_X5_takeFigure lk_RX5_41 (q0 := 37) (ci := 5) rfl rfl (Nat.le_of_ble_eq_true rfl) (Nat.le_of_ble_eq_true rfl) (Nat.le_of_ble_eq_true rfl) (pc := 30) dX5_takeReading_30 rfl ?_
      refine r_istore B hnL (pc := 33) dX5_takeReading_33 (by decide) ?_
      refine r_lc (loc' := [some (.ref (ad 37)), some (.int x1), some (.int x2), some (.int r2), some (.int r5), some (.int r8), none]) rfl ?_
      refine r_iload B (pc := 35) dX5_takeReading_35 rfl ?_
      refine r_if_ge B (pc := 37) (tgt := 42) dX5_takeReading_37 (by decide) hf (fun _ hf => ?_) (fun _ hf => ?_)
      · refine r_aload_n B (pc := 42) dX5_takeReading_42 rfl rfl ?_
        obtain ⟨r11, s12, hc10, hf⟩ := bdp_e hf
        refine r_cVI B (c_X5_nextLetter X.l X.D K ad nw s9 hc10) F_X5_nextLetter lk_RX5_29 (q0 := 37) (ci := 5) rfl rfl (Nat.le_of_ble_eq_true rfl) (Nat.le_of_ble_eq_true rfl) (Nat.le_of_ble_eq_true rfl) (pc := 43) dX5_takeReading_43 rfl ?_
        refine r_bipush B (pc := 46) dX5_takeReading_46 kb_97 ?_
        refine r_isub B (pc := 48) dX5_takeReading_48 ?_
        refine r_nm hf (fun y13 hf => ?_)
        refine r_istore B hnL (pc := 49) dX5_takeReading_49 (by decide) ?_
        refine r_lc (loc' := [some (.ref (ad 37)), some (.int x1), some (.int x2), some (.int r2), some (.int r5), some (.int r8), some (.int y13)]) rfl ?_
        refine r_iload B (pc := 51) dX5_takeReading_51 rfl ?_
        refine r_if_lt B (pc := 53) (tgt := 62) dX5_takeReading_53 (by decide) hf (fun _ hf => ?_) (fun _ hf => ?_)
        · refine r_iconst B (pc := 62) dX5_takeReading_62 kc_m1 ?_
          exact e_pz (F := (wC ad K nw)) hf (nar_i _) (RET 63 _ dX5_takeReading_63)
        · refine r_iload B (pc := 56) dX5_takeReading_56 rfl ?_
          refine r_iload_n B (pc := 58) dX5_takeReading_58 rfl rfl ?_
          refine r_icmp_lt B (pc := 59) (tgt := 64) dX5_takeReading_59 (by decide) hf (fun _ hf => ?_) (fun _ hf => ?_)
          · refine r_aload_n B (pc := 64) dX5_takeReading_64 rfl rfl ?_
            refine r_dup B (pc := 65) dX5_takeReading_65 rfl ?_
            refine gC_RX5_15_37 B (pc := 66) dX5_takeReading_66 ?_
            refine r_iconst B (pc := 69) dX5_takeReading_69 kc_1 ?_
            refine r_iadd B (pc := 70) dX5_takeReading_70 ?_
            refine pC_RX5_15_37 B (pc := 71) dX5_takeReading_71 hf (fun s14 hf => ?_)
            refine r_iload_n B (pc := 74) dX5_takeReading_74 rfl rfl ?_
            refine r_bipush B (pc := 75) dX5_takeReading_75 kb_36 ?_
            refine r_imul B (pc := 77) dX5_takeReading_77 ?_
            refine r_bipush B (pc := 78) dX5_takeReading_78 kb_6 ?_
            refine r_iload B (pc := 80) dX5_takeReading_80 rfl ?_
            refine r_imul B (pc := 82) dX5_takeReading_82 ?_
            refine r_iadd B (pc := 83) dX5_takeReading_83 ?_
            refine r_iload B (pc := 84) dX5_takeReading_84 rfl ?_
            refine r_iadd B (pc := 86) dX5_takeReading_86 ?_
            refine r_bipush B (pc := 87) dX5_takeReading_87 kb_12 ?_
            refine r_imul B (pc := 89) dX5_takeReading_89 ?_
            refine r_iload B (pc := 90) dX5_takeReading_90 rfl ?_
            refine r_iadd B (pc := 92) dX5_takeReading_92 ?_
            exact e_pz (F := (wC ad K nw)) hf (nar_i _) (RET 93 _ dX5_takeReading_93)
          · refine r_iconst B (pc := 62) dX5_takeReading_62 kc_m1 ?_
            exact e_pz (F := (wC ad K nw)) hf (nar_i _) (RET 63 _ dX5_takeReading_63)
      · refine r_iconst B (pc := 40) dX5_takeReading_40 kc_m1 ?_
        exact e_pz (F := (wC ad K nw)) hf (nar_i _) (RET 41 _ dX5_takeReading_41)
    · refine r_iconst B (pc := 25) dX5_takeReading_25 kc_m1 ?_
      exact e_pz (F := (wC ad K nw)) hf (nar_i _) (RET 26 _ dX5_takeReading_26)
  · refine r_iconst B (pc := 10) dX5_takeReading_10 kc_m1 ?_
    exact e_pz (F := (wC ad K nw)) hf (nar_i _) (RET 11 _ dX5_takeReading_11)
set_option maxHeartbeats 4000000 in
set_option maxRecDepth 20000 in
theorem c_X5_takeDay_51 (l : Launch) (D : va_G) (K : Kt) (ad : Nat → Nat) (nw : Nat) (σ : St) (x2 : Int32) (x3 : Int32) {r : Int32} {τ : St} (hf : f_X5_takeDay_51 σ x2 x3 = some (r, τ)) : CtI l yX5_takeDay cX5_takeDay 5 (some .int) 3 68 D K [.ref (ad 37), .ref (ad 51), .int x2, .int x3] (wC ad K nw σ) r (wC ad K nw τ) := by
  refine met_i pl_RX5 (Nat.le_of_ble_eq_true rfl) (fun X hnL B RET => ?_)
  suffices h : MW X (wC ad K nw σ) 0 [some (.ref (ad 37)), some (.ref (ad 51)), some (.int x2), some (.int x3), none] [] from h
  unfold f_X5_takeDay_51 at hf
  refine r_aload_n B (pc := 0) dX5_takeDay_0 rfl rfl ?_
  refine r_iconst B (pc := 1) dX5_takeDay_1 kc_0 ?_
  refine pC_RX5_15_37 B (pc := 2) dX5_takeDay_2 hf (fun s1 hf => ?_)
  refine r_iconst B (pc := 5) dX5_takeDay_5 kc_0 ?_
  refine r_istore B hnL (pc := 6) dX5_takeDay_6 (by decide) ?_
  refine r_lc (loc' := [some (.ref (ad 37)), some (.ref (ad 51)), some (.int x2), some (.int x3), some (.int 0)]) rfl ?_
  have k8 : ∀ (n8 : Nat) (v4 : Int32) (σ8 : St), f_X5_takeDay_51_h8 x2 x3 n8 v4 σ8 = some (r, τ) → MW X (wC ad K nw σ8) 8 [some (.ref (ad 37)), some (.ref (ad 51)), some (.int x2), some (.int x3), some (.int v4)] [] := by
    intro n8
    induction n8 with
    | zero => intro v4 σ8 hf; exact nn_z hf
    | succ n8 ih8 =>
      intro v4 σ8 hf
      rw [f_X5_takeDay_51_h8] at hf
      refine r_iload B (pc := 8) dX5_takeDay_8 rfl ?_
      refine r_aload_n B (pc := 10) dX5_takeDay_10 rfl rfl ?_
      refine lenC_51 B (pc := 11) dX5_takeDay_11 ?_
      refine r_icmp_ge B (pc := 12) (tgt := 64) dX5_takeDay_12 (by decide) hf (fun _ hf => ?_) (fun _ hf => ?_)
      · refine r_iconst B (pc := 64) dX5_takeDay_64 kc_m1 ?_
        exact e_pz (F := (wC ad K nw)) hf (nar_i _) (RET 65 _ dX5_takeDay_65)
      · refine r_aload_n B (pc := 15) dX5_takeDay_15 rfl rfl ?_
        refine r_iload B (pc := 16) dX5_takeDay_16 rfl ?_
        refine r_aload_n B (pc := 18) dX5_takeDay_18 rfl rfl ?_
        refine r_iload_n B (pc := 19) dX5_takeDay_19 rfl rfl ?_
        refine r_iload_n B (pc := 20) dX5_takeDay_20 rfl rfl ?_
        obtain ⟨r3, s4, hc2, hf⟩ := bdp_e hf
        refine r_cVI B (c_X5_takeReading X.l X.D K ad nw σ8 x2 x3 hc2) F_X5_takeReading lk_RX5_79 (q0 := 37) (ci := 5) rfl rfl (Nat.le_of_ble_eq_true rfl) (Nat.le_of_ble_eq_true rfl) (Nat.le_of_ble_eq_true rfl) (pc := 21) dX5_takeDay_21 rfl ?_
        refine astC_51 B (pc := 24) dX5_takeDay_24 hf (fun s5 _ hf => ?_)
        refine r_aload_n B (pc := 25) dX5_takeDay_25 rfl rfl ?_
        refine r_iload B (pc := 26) dX5_takeDay_26 rfl ?_
        refine aldC_51 B (pc := 28) dX5_takeDay_28 hf (fun _ hf => ?_)
        refine r_if_ge B (pc := 29) (tgt := 34) dX5_takeDay_29 (by decide) hf (fun _ hf => ?_) (fun _ hf => ?_)
        · refine r_aload_n B (pc := 34) dX5_takeDay_34 rfl rfl ?_
          obtain ⟨r7, s8, hc6, hf⟩ := bdp_e hf
          refine r_cVI B (c_X5_nextLetter X.l X.D K ad nw s5 hc6) F_X5_nextLetter lk_RX5_29 (q0 := 37) (ci := 5) rfl rfl (Nat.le_of_ble_eq_true rfl) (Nat.le_of_ble_eq_true rfl) (Nat.le_of_ble_eq_true rfl) (pc := 35) dX5_takeDay_35 rfl ?_
          refine r_iconst B (pc := 38) dX5_takeDay_38 kc_m1 ?_
          refine r_icmp_ne B (pc := 39) (tgt := 47) dX5_takeDay_39 (by decide) hf (fun _ hf => ?_) (fun _ hf => ?_)
          · refine r_aload_n B (pc := 47) dX5_takeDay_47 rfl rfl ?_
            refine r_bipush B (pc := 48) dX5_takeDay_48 kb_59 ?_
            obtain ⟨r10, s11, hc9, hf⟩ := bdp_e hf
            refine r_cVI B (c_X5_takes X.l X.D K ad nw s8 59 hc9) F_X5_takes lk_RX5_33 (q0 := 37) (ci := 5) rfl rfl (Nat.le_of_ble_eq_true rfl) (Nat.le_of_ble_eq_true rfl) (Nat.le_of_ble_eq_true rfl) (pc := 50) dX5_takeDay_50 rfl ?_
            refine r_if_ne B (pc := 53) (tgt := 58) dX5_takeDay_53 (by decide) hf (fun _ hf => ?_) (fun _ hf => ?_)
            · refine r_iincS B hnL (pc := 58) dX5_takeDay_58 rfl kc_1 (by decide) hf (fun y12 hf => ?_)
              refine r_lc (loc' := [some (.ref (ad 37)), some (.ref (ad 51)), some (.int x2), some (.int x3), some (.int y12)]) rfl ?_
              refine r_goto B (pc := 61) (tgt := 8) dX5_takeDay_61 (by decide) ?_
              exact r_mask [true, true, true, true, true] rfl (ih8 y12 s11 hf)
            · refine r_iconst B (pc := 56) dX5_takeDay_56 kc_m1 ?_
              exact e_pz (F := (wC ad K nw)) hf (nar_i _) (RET 57 _ dX5_takeDay_57)
          · refine r_iload B (pc := 42) dX5_takeDay_42 rfl ?_
            refine r_iconst B (pc := 44) dX5_takeDay_44 kc_1 ?_
            refine r_iadd B (pc := 45) dX5_takeDay_45 ?_
            exact e_pz (F := (wC ad K nw)) hf (nar_i _) (RET 46 _ dX5_takeDay_46)
        · refine r_iconst B (pc := 32) dX5_takeDay_32 kc_m1 ?_
          exact e_pz (F := (wC ad K nw)) hf (nar_i _) (RET 33 _ dX5_takeDay_33)
  exact r_mask [true, true, true, true, true] rfl (k8 FU 0 s1 hf)
set_option maxHeartbeats 4000000 in
set_option maxRecDepth 20000 in
theorem c_X5_readerIn (l : Launch) (D : va_G) (K : Kt) (w : va_W) (x0 : Int32) : CtI l yX5_readerIn cX5_readerIn 1 (some .int) 0 0 D K [.int x0] w (f_X5_readerIn x0) w := by
  refine met_i pl_RX5 (Nat.le_of_ble_eq_true rfl) (fun X hnL B RET => ?_)
  generalize hf : f_X5_readerIn x0 = r at RET
  suffices h : MW X w 0 [some (.int x0)] [] from h
  unfold f_X5_readerIn at hf
  refine r_iload_n B (pc := 0) dX5_readerIn_0 rfl rfl ?_
  refine r_bipush B (pc := 1) dX5_readerIn_1 kb_12 ?_
  refine r_idiv B (pc := 3) dX5_readerIn_3 (by decide) ?_
  refine r_bipush B (pc := 4) dX5_readerIn_4 kb_36 ?_
  refine r_idiv B (pc := 6) dX5_readerIn_6 (by decide) ?_
  exact e_tz hf (nar_i _) (RET 7 _ dX5_readerIn_7)
set_option maxHeartbeats 4000000 in
set_option maxRecDepth 20000 in
theorem c_X5_placeIn (l : Launch) (D : va_G) (K : Kt) (w : va_W) (x0 : Int32) : CtI l yX5_placeIn cX5_placeIn 1 (some .int) 0 0 D K [.int x0] w (f_X5_placeIn x0) w := by
  refine met_i pl_RX5 (Nat.le_of_ble_eq_true rfl) (fun X hnL B RET => ?_)
  generalize hf : f_X5_placeIn x0 = r at RET
  suffices h : MW X w 0 [some (.int x0)] [] from h
  unfold f_X5_placeIn at hf
  refine r_iload_n B (pc := 0) dX5_placeIn_0 rfl rfl ?_
  refine r_bipush B (pc := 1) dX5_placeIn_1 kb_12 ?_
  refine r_idiv B (pc := 3) dX5_placeIn_3 (by decide) ?_
  refine r_bipush B (pc := 4) dX5_placeIn_4 kb_36 ?_
  refine r_irem B (pc := 6) dX5_placeIn_6 (by decide) ?_
  exact e_tz hf (nar_i _) (RET 7 _ dX5_placeIn_7)
set_option maxHeartbeats 4000000 in
set_option maxRecDepth 20000 in
theorem c_X5_newsIn (l : Launch) (D : va_G) (K : Kt) (w : va_W) (x0 : Int32) : CtI l yX5_newsIn cX5_newsIn 1 (some .int) 0 0 D K [.int x0] w (f_X5_newsIn x0) w := by
  refine met_i pl_RX5 (Nat.le_of_ble_eq_true rfl) (fun X hnL B RET => ?_)
  generalize hf : f_X5_newsIn x0 = r at RET
  suffices h : MW X w 0 [some (.int x0)] [] from h
  unfold f_X5_newsIn at hf
  refine r_iload_n B (pc := 0) dX5_newsIn_0 rfl rfl ?_
  refine r_bipush B (pc := 1) dX5_newsIn_1 kb_12 ?_
  refine r_irem B (pc := 3) dX5_newsIn_3 (by decide) ?_
  exact e_tz hf (nar_i _) (RET 4 _ dX5_newsIn_4)
set_option maxHeartbeats 4000000 in
set_option maxRecDepth 20000 in
theorem c_X3_alongWind (l : Launch) (D : va_G) (K : Kt) (w : va_W) (x0 : Int32) (x1 : Int32) (x2 : Int32) : CtI l yX3_alongWind cX3_alongWind 3 (some .int) 0 0 D K [.int x0, .int x1, .int x2] w (f_X3_alongWind x0 x1 x2) w := by
  refine met_i pl_RX3 (Nat.le_of_ble_eq_true rfl) (fun X hnL B RET => ?_)
  generalize hf : f_X3_alongWind x0 x1 x2 = r at RET
  suffices h : MW X w 0 [some (.int x0), some (.int x1), some (.int x2)] [] from h
  unfold f_X3_alongWind at hf
  refine r_iload_n B (pc := 0) dX3_alongWind_0 rfl rfl ?_
  by_cases q1_1 : x0 = 1
  · have hf := it_t hf q1_1
    refine r_tsw B (pc := 1) (off := 31) (tgt := 32) dX3_alongWind_1 (by rw [q1_1]; decide) (by rw [q1_1]; decide) (by rw [q1_1]; decide) (by decide) ?_
    refine r_iload_n B (pc := 32) dX3_alongWind_32 rfl rfl ?_
    refine r_ineg B (pc := 33) dX3_alongWind_33 ?_
    exact e_tz hf (nar_i _) (RET 34 _ dX3_alongWind_34)
  have hf := it_f hf q1_1
  by_cases q1_2 : x0 = 2
  · have hf := it_t hf q1_2
    refine r_tsw B (pc := 1) (off := 34) (tgt := 35) dX3_alongWind_1 (by rw [q1_2]; decide) (by rw [q1_2]; decide) (by rw [q1_2]; decide) (by decide) ?_
    refine r_iload_n B (pc := 35) dX3_alongWind_35 rfl rfl ?_
    exact e_tz hf (nar_i _) (RET 36 _ dX3_alongWind_36)
  have hf := it_f hf q1_2
  by_cases q1_3 : x0 = 3
  · have hf := it_t hf q1_3
    refine r_tsw B (pc := 1) (off := 36) (tgt := 37) dX3_alongWind_1 (by rw [q1_3]; decide) (by rw [q1_3]; decide) (by rw [q1_3]; decide) (by decide) ?_
    refine r_iload_n B (pc := 37) dX3_alongWind_37 rfl rfl ?_
    exact e_tz hf (nar_i _) (RET 38 _ dX3_alongWind_38)
  have hf := it_f hf q1_3
  by_cases q1_4 : x0 = 4
  · have hf := it_t hf q1_4
    refine r_tsw B (pc := 1) (off := 38) (tgt := 39) dX3_alongWind_1 (by rw [q1_4]; decide) (by rw [q1_4]; decide) (by rw [q1_4]; decide) (by decide) ?_
    refine r_iload_n B (pc := 39) dX3_alongWind_39 rfl rfl ?_
    refine r_ineg B (pc := 40) dX3_alongWind_40 ?_
    exact e_tz hf (nar_i _) (RET 41 _ dX3_alongWind_41)
  have hf := it_f hf q1_4
  refine r_tswd B (pc := 1) (tgt := 42) dX3_alongWind_1 (sw_out 4 1 (fun k hk => match k, hk with | 0, _ => fun e => q1_1 (Int32.toInt_inj.mp (e.trans (by decide))) | 1, _ => fun e => q1_2 (Int32.toInt_inj.mp (e.trans (by decide))) | 2, _ => fun e => q1_3 (Int32.toInt_inj.mp (e.trans (by decide))) | 3, _ => fun e => q1_4 (Int32.toInt_inj.mp (e.trans (by decide))))) (by decide) ?_
  refine r_iconst B (pc := 42) dX3_alongWind_42 kc_0 ?_
  exact e_tz hf (nar_i _) (RET 43 _ dX3_alongWind_43)
set_option maxHeartbeats 4000000 in
set_option maxRecDepth 20000 in
theorem c_J6_compare_7cf53 (l : Launch) (D : va_G) (K : Kt) (w : va_W) (x0 : Int32) (x1 : Int32) : CtI l yJ6_compare_7cf53 cJ6_compare_7cf53 2 (some .int) 0 0 D K [.int x0, .int x1] w (f_J6_compare_7cf53 x0 x1) w := by
  refine met_i pl_RJ6 (Nat.le_of_ble_eq_true rfl) (fun X hnL B RET => ?_)
  generalize hf : f_J6_compare_7cf53 x0 x1 = r at RET
  suffices h : MW X w 0 [some (.int x0), some (.int x1)] [] from h
  unfold f_J6_compare_7cf53 at hf
  refine r_iload_n B (pc := 0) dJ6_compare_7cf53_0 rfl rfl ?_
  refine r_iload_n B (pc := 1) dJ6_compare_7cf53_1 rfl rfl ?_
  refine r_icmp_ge B (pc := 2) (tgt := 9) dJ6_compare_7cf53_2 (by decide) hf (fun _ hf => ?_) (fun _ hf => ?_)
  · refine r_iload_n B (pc := 9) dJ6_compare_7cf53_9 rfl rfl ?_
    refine r_iload_n B (pc := 10) dJ6_compare_7cf53_10 rfl rfl ?_
    refine r_icmp_ne B (pc := 11) (tgt := 18) dJ6_compare_7cf53_11 (by decide) hf (fun _ hf => ?_) (fun _ hf => ?_)
    · refine r_iconst B (pc := 18) dJ6_compare_7cf53_18 kc_1 ?_
      exact e_tz hf (nar_i _) (RET 19 _ dJ6_compare_7cf53_19)
    · refine r_iconst B (pc := 14) dJ6_compare_7cf53_14 kc_0 ?_
      refine r_goto B (pc := 15) (tgt := 19) dJ6_compare_7cf53_15 (by decide) ?_
      exact e_tz hf (nar_i _) (RET 19 _ dJ6_compare_7cf53_19)
  · refine r_iconst B (pc := 5) dJ6_compare_7cf53_5 kc_m1 ?_
    refine r_goto B (pc := 6) (tgt := 19) dJ6_compare_7cf53_6 (by decide) ?_
    exact e_tz hf (nar_i _) (RET 19 _ dJ6_compare_7cf53_19)
set_option maxHeartbeats 4000000 in
set_option maxRecDepth 20000 in
theorem c_X3_farFrom (l : Launch) (D : va_G) (K : Kt) (w : va_W) (x0 : Int32) (x1 : Int32) (x2 : Int32) : CtI l yX3_farFrom cX3_farFrom 5 (some .int) 1 22 D K [.int x0, .int x1, .int x2] w (f_X3_farFrom x0 x1 x2) w := by
  refine met_i pl_RX3 (Nat.le_of_ble_eq_true rfl) (fun X hnL B RET => ?_)
  generalize hf : f_X3_farFrom x0 x1 x2 = r at RET
  suffices h : MW X w 0 [some (.int x0), some (.int x1), some (.int x2), none, none] [] from h
  unfold f_X3_farFrom at hf
  refine r_iload_n B (pc := 0) dX3_farFrom_0 rfl rfl ?_
  refine r_bipush B (pc := 1) dX3_farFrom_1 kb_6 ?_
  refine r_idiv B (pc := 3) dX3_farFrom_3 (by decide) ?_
  refine r_iload_n B (pc := 4) dX3_farFrom_4 rfl rfl ?_
  refine r_bipush B (pc := 5) dX3_farFrom_5 kb_6 ?_
  refine r_idiv B (pc := 7) dX3_farFrom_7 (by decide) ?_
  refine r_isub B (pc := 8) dX3_farFrom_8 ?_
  refine r_nm hf (fun y1 hf => ?_)
  refine r_istore_n B hnL (pc := 9) dX3_farFrom_9 rfl (by decide) ?_
  refine r_lc (loc' := [some (.int x0), some (.int x1), some (.int x2), some (.int y1), none]) rfl ?_
  refine r_iload_n B (pc := 10) dX3_farFrom_10 rfl rfl ?_
  refine r_bipush B (pc := 11) dX3_farFrom_11 kb_6 ?_
  refine r_irem B (pc := 13) dX3_farFrom_13 (by decide) ?_
  refine r_iload_n B (pc := 14) dX3_farFrom_14 rfl rfl ?_
  refine r_bipush B (pc := 15) dX3_farFrom_15 kb_6 ?_
  refine r_irem B (pc := 17) dX3_farFrom_17 (by decide) ?_
  refine r_isub B (pc := 18) dX3_farFrom_18 ?_
  refine r_nm hf (fun y2 hf => ?_)
  refine r_istore B hnL (pc := 19) dX3_farFrom_19 (by decide) ?_
  refine r_lc (loc' := [some (.int x0), some (.int x1), some (.int x2), some (.int y1), some (.int y2)]) rfl ?_
  refine r_iload_n B (pc := 21) dX3_farFrom_21 rfl rfl ?_
  refine r_mabs B lk_RX3_90 F_Math_abs (Nat.le_of_ble_eq_true rfl) (Nat.le_of_ble_eq_true rfl) (pc := 22) dX3_farFrom_22 ?_
  refine r_iload B (pc := 25) dX3_farFrom_25 rfl ?_
  refine r_mabs B lk_RX3_90 F_Math_abs (Nat.le_of_ble_eq_true rfl) (Nat.le_of_ble_eq_true rfl) (pc := 27) dX3_farFrom_27 ?_
  refine r_iadd B (pc := 30) dX3_farFrom_30 ?_
  refine r_iload_n B (pc := 31) dX3_farFrom_31 rfl rfl ?_
  refine r_iload_n B (pc := 32) dX3_farFrom_32 rfl rfl ?_
  refine r_iload B (pc := 33) dX3_farFrom_33 rfl ?_
  refine r_cSI B (c_X3_alongWind X.l X.D K _ x2 y1 y2) F_X3_alongWind lk_RX3_96 (Nat.le_of_ble_eq_true rfl) (Nat.le_of_ble_eq_true rfl) (Nat.le_of_ble_eq_true rfl) (pc := 35) dX3_farFrom_35 rfl ?_
  refine r_iconst B (pc := 38) dX3_farFrom_38 kc_0 ?_
  refine r_cSI B (c_J6_compare_7cf53 X.l X.D K _ (f_X3_alongWind x2 y1 y2) 0) F_J6_compare_7cf53 lk_RX3_99 (Nat.le_of_ble_eq_true rfl) (Nat.le_of_ble_eq_true rfl) (Nat.le_of_ble_eq_true rfl) (pc := 39) dX3_farFrom_39 rfl ?_
  refine r_isub B (pc := 42) dX3_farFrom_42 ?_
  exact e_tz hf (nar_i _) (RET 43 _ dX3_farFrom_43)
set_option maxHeartbeats 4000000 in
set_option maxRecDepth 20000 in
theorem c_X3_kindHears (l : Launch) (D : va_G) (K : Kt) (w : va_W) (x0 : Int32) (x1 : Int32) (x2 : Int32) (x3 : Int32) : CtI l yX3_kindHears cX3_kindHears 4 (some .boolean) 0 0 D K [.int x0, .int x1, .int x2, .int x3] w (f_X3_kindHears x0 x1 x2 x3) w := by
  refine met_i pl_RX3 (Nat.le_of_ble_eq_true rfl) (fun X hnL B RET => ?_)
  generalize hf : f_X3_kindHears x0 x1 x2 x3 = r at RET
  suffices h : MW X w 0 [some (.int x0), some (.int x1), some (.int x2), some (.int x3)] [] from h
  unfold f_X3_kindHears at hf
  refine r_iload_n B (pc := 0) dX3_kindHears_0 rfl rfl ?_
  have k65 : f_X3_kindHears_b65 x0 x1 x2 x3 = r → MW X w 65 [none, some (.int x1), some (.int x2), none] [] := by
    intro hf
    unfold f_X3_kindHears_b65 at hf
    refine r_iload_n B (pc := 65) dX3_kindHears_65 rfl rfl ?_
    refine r_iload_n B (pc := 66) dX3_kindHears_66 rfl rfl ?_
    refine r_icmp_gt B (pc := 67) (tgt := 74) dX3_kindHears_67 (by decide) hf (fun _ hf => ?_) (fun _ hf => ?_)
    · refine r_iconst B (pc := 74) dX3_kindHears_74 kc_0 ?_
      exact e_tz hf rfl (RET 75 _ dX3_kindHears_75)
    · refine r_iconst B (pc := 70) dX3_kindHears_70 kc_1 ?_
      refine r_goto B (pc := 71) (tgt := 75) dX3_kindHears_71 (by decide) ?_
      exact e_tz hf rfl (RET 75 _ dX3_kindHears_75)
  by_cases q1_1 : x0 = 1
  · have hf := it_t hf q1_1
    refine r_tsw B (pc := 1) (off := 31) (tgt := 32) dX3_kindHears_1 (by rw [q1_1]; decide) (by rw [q1_1]; decide) (by rw [q1_1]; decide) (by decide) ?_
    refine r_iload_n B (pc := 32) dX3_kindHears_32 rfl rfl ?_
    refine r_iload_n B (pc := 33) dX3_kindHears_33 rfl rfl ?_
    refine r_iconst B (pc := 34) dX3_kindHears_34 kc_1 ?_
    refine r_isub B (pc := 35) dX3_kindHears_35 ?_
    refine r_icmp_gt B (pc := 36) (tgt := 43) dX3_kindHears_36 (by decide) hf (fun _ hf => ?_) (fun _ hf => ?_)
    · refine r_iconst B (pc := 43) dX3_kindHears_43 kc_0 ?_
      exact e_tz hf rfl (RET 44 _ dX3_kindHears_44)
    · refine r_iconst B (pc := 39) dX3_kindHears_39 kc_1 ?_
      refine r_goto B (pc := 40) (tgt := 44) dX3_kindHears_40 (by decide) ?_
      exact e_tz hf rfl (RET 44 _ dX3_kindHears_44)
  have hf := it_f hf q1_1
  by_cases q1_2 : x0 = 2
  · have hf := it_t hf q1_2
    refine r_tsw B (pc := 1) (off := 64) (tgt := 65) dX3_kindHears_1 (by rw [q1_2]; decide) (by rw [q1_2]; decide) (by rw [q1_2]; decide) (by decide) ?_
    exact r_mask [false, true, true, false] rfl (k65 hf)
  have hf := it_f hf q1_2
  by_cases q1_3 : x0 = 3
  · have hf := it_t hf q1_3
    refine r_tsw B (pc := 1) (off := 44) (tgt := 45) dX3_kindHears_1 (by rw [q1_3]; decide) (by rw [q1_3]; decide) (by rw [q1_3]; decide) (by decide) ?_
    refine r_iconst B (pc := 45) dX3_kindHears_45 kc_0 ?_
    exact e_tz hf rfl (RET 46 _ dX3_kindHears_46)
  have hf := it_f hf q1_3
  by_cases q1_4 : x0 = 4
  · have hf := it_t hf q1_4
    refine r_tsw B (pc := 1) (off := 46) (tgt := 47) dX3_kindHears_1 (by rw [q1_4]; decide) (by rw [q1_4]; decide) (by rw [q1_4]; decide) (by decide) ?_
    refine r_iload_n B (pc := 47) dX3_kindHears_47 rfl rfl ?_
    refine r_iconst B (pc := 48) dX3_kindHears_48 kc_3 ?_
    refine r_icmp_eq B (pc := 49) (tgt := 63) dX3_kindHears_49 (by decide) hf (fun _ hf => ?_) (fun _ hf => ?_)
    · refine r_iconst B (pc := 63) dX3_kindHears_63 kc_0 ?_
      exact e_tz hf rfl (RET 64 _ dX3_kindHears_64)
    · refine r_iload_n B (pc := 52) dX3_kindHears_52 rfl rfl ?_
      refine r_iload_n B (pc := 53) dX3_kindHears_53 rfl rfl ?_
      refine r_iconst B (pc := 54) dX3_kindHears_54 kc_1 ?_
      refine r_isub B (pc := 55) dX3_kindHears_55 ?_
      refine r_icmp_gt B (pc := 56) (tgt := 63) dX3_kindHears_56 (by decide) hf (fun _ hf => ?_) (fun _ hf => ?_)
      · refine r_iconst B (pc := 63) dX3_kindHears_63 kc_0 ?_
        exact e_tz hf rfl (RET 64 _ dX3_kindHears_64)
      · refine r_iconst B (pc := 59) dX3_kindHears_59 kc_1 ?_
        refine r_goto B (pc := 60) (tgt := 64) dX3_kindHears_60 (by decide) ?_
        exact e_tz hf rfl (RET 64 _ dX3_kindHears_64)
  have hf := it_f hf q1_4
  refine r_tswd B (pc := 1) (tgt := 65) dX3_kindHears_1 (sw_out 4 1 (fun k hk => match k, hk with | 0, _ => fun e => q1_1 (Int32.toInt_inj.mp (e.trans (by decide))) | 1, _ => fun e => q1_2 (Int32.toInt_inj.mp (e.trans (by decide))) | 2, _ => fun e => q1_3 (Int32.toInt_inj.mp (e.trans (by decide))) | 3, _ => fun e => q1_4 (Int32.toInt_inj.mp (e.trans (by decide))))) (by decide) ?_
  exact r_mask [false, true, true, false] rfl (k65 hf)
set_option maxHeartbeats 4000000 in
set_option maxRecDepth 20000 in
theorem c_X3_hearers (l : Launch) (D : va_G) (K : Kt) (ad : Nat → Nat) (nw : Nat) (σ : St) (x1 : Int32) (x2 : Int32) (x3 : Int32) {r : Int32} (hf : f_X3_hearers σ x1 x2 x3 = some r) : CtI l yX3_hearers cX3_hearers 7 (some .int) 2 46 D K [.ref (ad 1), .int x1, .int x2, .int x3] (wC ad K nw σ) r (wC ad K nw σ) := by
  refine met_i pl_RX3 (Nat.le_of_ble_eq_true rfl) (fun X hnL B RET => ?_)
  suffices h : MW X (wC ad K nw σ) 0 [some (.ref (ad 1)), some (.int x1), some (.int x2), some (.int x3), none, none, none] [] from h
  unfold f_X3_hearers at hf
  refine r_iconst B (pc := 0) dX3_hearers_0 kc_0 ?_
  refine r_istore B hnL (pc := 1) dX3_hearers_1 (by decide) ?_
  refine r_lc (loc' := [some (.ref (ad 1)), some (.int x1), some (.int x2), some (.int x3), some (.int 0), none, none]) rfl ?_
  refine r_iconst B (pc := 3) dX3_hearers_3 kc_0 ?_
  refine r_istore B hnL (pc := 4) dX3_hearers_4 (by decide) ?_
  refine r_lc (loc' := [some (.ref (ad 1)), some (.int x1), some (.int x2), some (.int x3), some (.int 0), some (.int 0), none]) rfl ?_
  have k6 : ∀ (n6 : Nat) (v4 : Int32) (v5 : Int32), f_X3_hearers_h6 σ x1 x2 x3 n6 v4 v5 = some r → MW X (wC ad K nw σ) 6 [some (.ref (ad 1)), some (.int x1), some (.int x2), some (.int x3), some (.int v4), some (.int v5), none] [] := by
    intro n6
    induction n6 with
    | zero => intro v4 v5 hf; exact nn_z hf
    | succ n6 ih6 =>
      intro v4 v5 hf
      rw [f_X3_hearers_h6] at hf
      refine r_iload B (pc := 6) dX3_hearers_6 rfl ?_
      refine r_aload_n B (pc := 8) dX3_hearers_8 rfl rfl ?_
      refine gC_RX3_12_1 B (pc := 9) dX3_hearers_9 ?_
      refine gC_RX3_73_2 B (pc := 12) dX3_hearers_12 ?_
      refine r_icmp_ge B (pc := 15) (tgt := 75) dX3_hearers_15 (by decide) hf (fun _ hf => ?_) (fun _ hf => ?_)
      · refine r_iload B (pc := 75) dX3_hearers_75 rfl ?_
        exact e_rz hf (nar_i _) (RET 77 _ dX3_hearers_77)
      · refine r_iload_n B (pc := 18) dX3_hearers_18 rfl rfl ?_
        refine r_aload_n B (pc := 19) dX3_hearers_19 rfl rfl ?_
        refine gC_RX3_12_1 B (pc := 20) dX3_hearers_20 ?_
        refine gC_RX3_76_2 B (pc := 23) dX3_hearers_23 ?_
        refine r_iload B (pc := 26) dX3_hearers_26 rfl ?_
        refine aldC_4 B (pc := 28) dX3_hearers_28 hf (fun _ hf => ?_)
        refine r_iload_n B (pc := 29) dX3_hearers_29 rfl rfl ?_
        refine r_cSI B (c_X3_farFrom X.l X.D K _ x2 (σ.1 4 (ix v5)) x3) F_X3_farFrom lk_RX3_79 (Nat.le_of_ble_eq_true rfl) (Nat.le_of_ble_eq_true rfl) (Nat.le_of_ble_eq_true rfl) (pc := 30) dX3_hearers_30 rfl ?_
        refine r_nm hf (fun y1 hf => ?_)
        refine r_istore B hnL (pc := 33) dX3_hearers_33 (by decide) ?_
        refine r_lc (loc' := [some (.ref (ad 1)), some (.int x1), some (.int x2), some (.int x3), some (.int v4), some (.int v5), some (.int y1)]) rfl ?_
        refine r_aload_n B (pc := 35) dX3_hearers_35 rfl rfl ?_
        refine gC_RX3_12_1 B (pc := 36) dX3_hearers_36 ?_
        refine gC_RX3_83_2 B (pc := 39) dX3_hearers_39 ?_
        refine r_iload B (pc := 42) dX3_hearers_42 rfl ?_
        refine aldC_3 B (pc := 44) dX3_hearers_44 hf (fun _ hf => ?_)
        refine r_iload B (pc := 45) dX3_hearers_45 rfl ?_
        refine r_aload_n B (pc := 47) dX3_hearers_47 rfl rfl ?_
        refine gC_RX3_29_1 B (pc := 48) dX3_hearers_48 ?_
        refine r_iload_n B (pc := 51) dX3_hearers_51 rfl rfl ?_
        refine aldC_14 B (pc := 52) dX3_hearers_52 hf (fun _ hf => ?_)
        refine r_iload_n B (pc := 53) dX3_hearers_53 rfl rfl ?_
        refine r_cSI B (c_X3_kindHears X.l X.D K _ (σ.1 3 (ix v5)) y1 (σ.1 14 (ix x1)) x3) F_X3_kindHears lk_RX3_86 (Nat.le_of_ble_eq_true rfl) (Nat.le_of_ble_eq_true rfl) (Nat.le_of_ble_eq_true rfl) (pc := 54) dX3_hearers_54 rfl ?_
        refine r_if_eq B (pc := 57) (tgt := 69) dX3_hearers_57 (by decide) hf (fun _ hf => ?_) (fun _ hf => ?_)
        · refine r_iincS B hnL (pc := 69) dX3_hearers_69 rfl kc_1 (by decide) hf (fun y2 hf => ?_)
          refine r_lc (loc' := [some (.ref (ad 1)), some (.int x1), some (.int x2), some (.int x3), some (.int v4), some (.int y2), some (.int y1)]) rfl ?_
          refine r_goto B (pc := 72) (tgt := 6) dX3_hearers_72 (by decide) ?_
          exact r_mask [true, true, true, true, true, true, false] rfl (ih6 v4 y2 hf)
        · refine r_iload B (pc := 60) dX3_hearers_60 rfl ?_
          refine r_iconst B (pc := 62) dX3_hearers_62 kc_1 ?_
          refine r_iload B (pc := 63) dX3_hearers_63 rfl ?_
          refine r_ishl B (pc := 65) dX3_hearers_65 ?_
          refine r_ior B (pc := 66) dX3_hearers_66 ?_
          refine r_nm hf (fun y3 hf => ?_)
          refine r_istore B hnL (pc := 67) dX3_hearers_67 (by decide) ?_
          refine r_lc (loc' := [some (.ref (ad 1)), some (.int x1), some (.int x2), some (.int x3), some (.int y3), some (.int v5), some (.int y1)]) rfl ?_
          refine r_iincS B hnL (pc := 69) dX3_hearers_69 rfl kc_1 (by decide) hf (fun y4 hf => ?_)
          refine r_lc (loc' := [some (.ref (ad 1)), some (.int x1), some (.int x2), some (.int x3), some (.int y3), some (.int y4), some (.int y1)]) rfl ?_
          refine r_goto B (pc := 72) (tgt := 6) dX3_hearers_72 (by decide) ?_
          exact r_mask [true, true, true, true, true, true, false] rfl (ih6 y3 y4 hf)
  exact r_mask [true, true, true, true, true, true, false] rfl (k6 FU 0 0 hf)
set_option maxHeartbeats 4000000 in
set_option maxRecDepth 20000 in
theorem c_X3_isWrong (l : Launch) (D : va_G) (K : Kt) (ad : Nat → Nat) (nw : Nat) (σ : St) (x1 : Int32) (x2 : Int32) (x3 : Int32) {r : Int32} (hf : f_X3_isWrong σ x1 x2 x3 = some r) : CtI l yX3_isWrong cX3_isWrong 4 (some .boolean) 3 68 D K [.ref (ad 1), .int x1, .int x2, .int x3] (wC ad K nw σ) r (wC ad K nw σ) := by
  refine met_i pl_RX3 (Nat.le_of_ble_eq_true rfl) (fun X hnL B RET => ?_)
  suffices h : MW X (wC ad K nw σ) 0 [some (.ref (ad 1)), some (.int x1), some (.int x2), some (.int x3)] [] from h
  unfold f_X3_isWrong at hf
  refine r_aload_n B (pc := 0) dX3_isWrong_0 rfl rfl ?_
  refine gC_RX3_21_1 B (pc := 1) dX3_isWrong_1 ?_
  refine gC_RX3_105_9 B (pc := 4) dX3_isWrong_4 ?_
  refine r_iload_n B (pc := 7) dX3_isWrong_7 rfl rfl ?_
  refine aldC_12 B (pc := 8) dX3_isWrong_8 hf (fun _ hf => ?_)
  refine r_iload_n B (pc := 9) dX3_isWrong_9 rfl rfl ?_
  refine r_cNI B (c_X6_has X.l X.D K _ (σ.1 12 (ix x2)) x1) F_X6_has nk_RX3_108 (Nat.le_of_ble_eq_true rfl) (Nat.le_of_ble_eq_true rfl) (Nat.le_of_ble_eq_true rfl) (pc := 10) dX3_isWrong_10 rfl ?_
  refine r_if_ne B (pc := 13) (tgt := 24) dX3_isWrong_13 (by decide) hf (fun _ hf => ?_) (fun _ hf => ?_)
  · refine r_iconst B (pc := 24) dX3_isWrong_24 kc_1 ?_
    exact e_rz hf rfl (RET 25 _ dX3_isWrong_25)
  · refine r_iload_n B (pc := 16) dX3_isWrong_16 rfl rfl ?_
    refine r_iload_n B (pc := 17) dX3_isWrong_17 rfl rfl ?_
    refine r_cNI B (c_X6_has X.l X.D K _ x3 x2) F_X6_has nk_RX3_108 (Nat.le_of_ble_eq_true rfl) (Nat.le_of_ble_eq_true rfl) (Nat.le_of_ble_eq_true rfl) (pc := 18) dX3_isWrong_18 rfl ?_
    refine r_if_eq B (pc := 21) (tgt := 26) dX3_isWrong_21 (by decide) hf (fun _ hf => ?_) (fun _ hf => ?_)
    · refine r_aload_n B (pc := 26) dX3_isWrong_26 rfl rfl ?_
      refine r_iload_n B (pc := 27) dX3_isWrong_27 rfl rfl ?_
      refine r_aload_n B (pc := 28) dX3_isWrong_28 rfl rfl ?_
      refine gC_RX3_21_1 B (pc := 29) dX3_isWrong_29 ?_
      refine gC_RX3_152_9 B (pc := 32) dX3_isWrong_32 ?_
      refine r_iload_n B (pc := 35) dX3_isWrong_35 rfl rfl ?_
      refine aldC_11 B (pc := 36) dX3_isWrong_36 hf (fun _ hf => ?_)
      refine r_iload_n B (pc := 37) dX3_isWrong_37 rfl rfl ?_
      refine r_iconst B (pc := 38) dX3_isWrong_38 kc_m1 ?_
      refine r_ixor B (pc := 39) dX3_isWrong_39 ?_
      refine r_iand B (pc := 40) dX3_isWrong_40 ?_
      obtain ⟨r2, hc1, hf⟩ := bdr_e hf
      refine r_cVI B (c_X3_owedAmong X.l X.D K ad nw σ x1 ((σ.1 11 (ix x2)) &&& (x3 ^^^ ((-1)))) hc1) F_X3_owedAmong lk_RX3_123 (q0 := 1) (ci := 3) rfl rfl (Nat.le_of_ble_eq_true rfl) (Nat.le_of_ble_eq_true rfl) (Nat.le_of_ble_eq_true rfl) (pc := 41) dX3_isWrong_41 rfl ?_
      refine r_if_eq B (pc := 44) (tgt := 51) dX3_isWrong_44 (by decide) hf (fun _ hf => ?_) (fun _ hf => ?_)
      · refine r_iconst B (pc := 51) dX3_isWrong_51 kc_0 ?_
        exact e_rz hf rfl (RET 52 _ dX3_isWrong_52)
      · refine r_iconst B (pc := 47) dX3_isWrong_47 kc_1 ?_
        refine r_goto B (pc := 48) (tgt := 52) dX3_isWrong_48 (by decide) ?_
        exact e_rz hf rfl (RET 52 _ dX3_isWrong_52)
    · refine r_iconst B (pc := 24) dX3_isWrong_24 kc_1 ?_
      exact e_rz hf rfl (RET 25 _ dX3_isWrong_25)
set_option maxHeartbeats 4000000 in
set_option maxRecDepth 20000 in
theorem c_X3_wrongedOf_6 (l : Launch) (D : va_G) (K : Kt) (ad : Nat → Nat) (nw : Nat) (σ : St) (x1 : Int32) (x2 : Int32) {r : Int32} (hf : f_X3_wrongedOf_6 σ x1 x2 = some r) : CtI l yX3_wrongedOf cX3_wrongedOf 6 (some .int) 4 91 D K [.ref (ad 1), .int x1, .int x2, .ref (ad 6)] (wC ad K nw σ) r (wC ad K nw σ) := by
  refine met_i pl_RX3 (Nat.le_of_ble_eq_true rfl) (fun X hnL B RET => ?_)
  suffices h : MW X (wC ad K nw σ) 0 [some (.ref (ad 1)), some (.int x1), some (.int x2), some (.ref (ad 6)), none, none] [] from h
  unfold f_X3_wrongedOf_6 at hf
  refine r_iconst B (pc := 0) dX3_wrongedOf_0 kc_0 ?_
  refine r_istore B hnL (pc := 1) dX3_wrongedOf_1 (by decide) ?_
  refine r_lc (loc' := [some (.ref (ad 1)), some (.int x1), some (.int x2), some (.ref (ad 6)), some (.int 0), none]) rfl ?_
  refine r_iconst B (pc := 3) dX3_wrongedOf_3 kc_0 ?_
  refine r_istore B hnL (pc := 4) dX3_wrongedOf_4 (by decide) ?_
  refine r_lc (loc' := [some (.ref (ad 1)), some (.int x1), some (.int x2), some (.ref (ad 6)), some (.int 0), some (.int 0)]) rfl ?_
  have k6 : ∀ (n6 : Nat) (v4 : Int32) (v5 : Int32), f_X3_wrongedOf_6_h6 σ x1 x2 n6 v4 v5 = some r → MW X (wC ad K nw σ) 6 [some (.ref (ad 1)), some (.int x1), some (.int x2), some (.ref (ad 6)), some (.int v4), some (.int v5)] [] := by
    intro n6
    induction n6 with
    | zero => intro v4 v5 hf; exact nn_z hf
    | succ n6 ih6 =>
      intro v4 v5 hf
      rw [f_X3_wrongedOf_6_h6] at hf
      refine r_iload B (pc := 6) dX3_wrongedOf_6 rfl ?_
      refine r_aload_n B (pc := 8) dX3_wrongedOf_8 rfl rfl ?_
      refine gC_RX3_12_1 B (pc := 9) dX3_wrongedOf_9 ?_
      refine gC_RX3_73_2 B (pc := 12) dX3_wrongedOf_12 ?_
      refine r_icmp_ge B (pc := 15) (tgt := 56) dX3_wrongedOf_15 (by decide) hf (fun _ hf => ?_) (fun _ hf => ?_)
      · refine r_iload B (pc := 56) dX3_wrongedOf_56 rfl ?_
        exact e_rz hf (nar_i _) (RET 58 _ dX3_wrongedOf_58)
      · refine r_iload_n B (pc := 18) dX3_wrongedOf_18 rfl rfl ?_
        refine r_iload B (pc := 19) dX3_wrongedOf_19 rfl ?_
        refine r_cNI B (c_X6_has X.l X.D K _ x1 v5) F_X6_has nk_RX3_108 (Nat.le_of_ble_eq_true rfl) (Nat.le_of_ble_eq_true rfl) (Nat.le_of_ble_eq_true rfl) (pc := 21) dX3_wrongedOf_21 rfl ?_
        refine r_if_eq B (pc := 24) (tgt := 50) dX3_wrongedOf_24 (by decide) hf (fun _ hf => ?_) (fun _ hf => ?_)
        · refine r_iincS B hnL (pc := 50) dX3_wrongedOf_50 rfl kc_1 (by decide) hf (fun y1 hf => ?_)
          refine r_lc (loc' := [some (.ref (ad 1)), some (.int x1), some (.int x2), some (.ref (ad 6)), some (.int v4), some (.int y1)]) rfl ?_
          refine r_goto B (pc := 53) (tgt := 6) dX3_wrongedOf_53 (by decide) ?_
          exact r_mask [true, true, true, true, true, true] rfl (ih6 v4 y1 hf)
        · refine r_aload_n B (pc := 27) dX3_wrongedOf_27 rfl rfl ?_
          refine r_iload B (pc := 28) dX3_wrongedOf_28 rfl ?_
          refine r_iload_n B (pc := 30) dX3_wrongedOf_30 rfl rfl ?_
          refine r_aload_n B (pc := 31) dX3_wrongedOf_31 rfl rfl ?_
          refine r_iload B (pc := 32) dX3_wrongedOf_32 rfl ?_
          refine aldC_6 B (pc := 34) dX3_wrongedOf_34 hf (fun _ hf => ?_)
          obtain ⟨r3, hc2, hf⟩ := bdr_e hf
          refine r_cVI B (c_X3_isWrong X.l X.D K ad nw σ v5 x2 (σ.1 6 (ix v5)) hc2) F_X3_isWrong lk_RX3_148 (q0 := 1) (ci := 3) rfl rfl (Nat.le_of_ble_eq_true rfl) (Nat.le_of_ble_eq_true rfl) (Nat.le_of_ble_eq_true rfl) (pc := 35) dX3_wrongedOf_35 rfl ?_
          refine r_if_eq B (pc := 38) (tgt := 50) dX3_wrongedOf_38 (by decide) hf (fun _ hf => ?_) (fun _ hf => ?_)
          · refine r_iincS B hnL (pc := 50) dX3_wrongedOf_50 rfl kc_1 (by decide) hf (fun y4 hf => ?_)
            refine r_lc (loc' := [some (.ref (ad 1)), some (.int x1), some (.int x2), some (.ref (ad 6)), some (.int v4), some (.int y4)]) rfl ?_
            refine r_goto B (pc := 53) (tgt := 6) dX3_wrongedOf_53 (by decide) ?_
            exact r_mask [true, true, true, true, true, true] rfl (ih6 v4 y4 hf)
          · refine r_iload B (pc := 41) dX3_wrongedOf_41 rfl ?_
            refine r_iconst B (pc := 43) dX3_wrongedOf_43 kc_1 ?_
            refine r_iload B (pc := 44) dX3_wrongedOf_44 rfl ?_
            refine r_ishl B (pc := 46) dX3_wrongedOf_46 ?_
            refine r_ior B (pc := 47) dX3_wrongedOf_47 ?_
            refine r_nm hf (fun y5 hf => ?_)
            refine r_istore B hnL (pc := 48) dX3_wrongedOf_48 (by decide) ?_
            refine r_lc (loc' := [some (.ref (ad 1)), some (.int x1), some (.int x2), some (.ref (ad 6)), some (.int y5), some (.int v5)]) rfl ?_
            refine r_iincS B hnL (pc := 50) dX3_wrongedOf_50 rfl kc_1 (by decide) hf (fun y6 hf => ?_)
            refine r_lc (loc' := [some (.ref (ad 1)), some (.int x1), some (.int x2), some (.ref (ad 6)), some (.int y5), some (.int y6)]) rfl ?_
            refine r_goto B (pc := 53) (tgt := 6) dX3_wrongedOf_53 (by decide) ?_
            exact r_mask [true, true, true, true, true, true] rfl (ih6 y5 y6 hf)
  exact r_mask [true, true, true, true, true, true] rfl (k6 FU 0 0 hf)
set_option maxHeartbeats 4000000 in
set_option maxRecDepth 20000 in
theorem c_X3_keepUndo (l : Launch) (D : va_G) (K : Kt) (ad : Nat → Nat) (nw : Nat) (σ : St) (x1 : Int32) (x2 : Int32) (x3 : Int32) {τ : St} (hf : f_X3_keepUndo σ x1 x2 x3 = some τ) : CtV l yX3_keepUndo cX3_keepUndo 4 none 1 26 D K [.ref (ad 1), .int x1, .int x2, .int x3] (wC ad K nw σ) (wC ad K nw τ) := by
  refine met_v pl_RX3 (Nat.le_of_ble_eq_true rfl) (fun X hnL B RET => ?_)
  suffices h : MW X (wC ad K nw σ) 0 [some (.ref (ad 1)), some (.int x1), some (.int x2), some (.int x3)] [] from h
  unfold f_X3_keepUndo at hf
  refine r_aload_n B (pc := 0) dX3_keepUndo_0 rfl rfl ?_
  refine gC_RX3_48_1 B (pc := 1) dX3_keepUndo_1 ?_
  refine r_bipush B (pc := 4) dX3_keepUndo_4 kb_10 ?_
  have k70 : ∀ (σ70 : St), f_X3_keepUndo_b70 x1 x2 x3 σ70 = some τ → MW X (wC ad K nw σ70) 70 [some (.ref (ad 1)), some (.int x1), some (.int x2), some (.int x3)] [] := by
    intro σ70 hf
    unfold f_X3_keepUndo_b70 at hf
    refine r_aload_n B (pc := 70) dX3_keepUndo_70 rfl rfl ?_
    refine gC_RX3_51_1 B (pc := 71) dX3_keepUndo_71 ?_
    refine r_aload_n B (pc := 74) dX3_keepUndo_74 rfl rfl ?_
    refine gC_RX3_48_1 B (pc := 75) dX3_keepUndo_75 ?_
    refine r_iload_n B (pc := 78) dX3_keepUndo_78 rfl rfl ?_
    refine astC_16 B (pc := 79) dX3_keepUndo_79 hf (fun s5 _ hf => ?_)
    refine r_aload_n B (pc := 80) dX3_keepUndo_80 rfl rfl ?_
    refine gC_RX3_54_1 B (pc := 81) dX3_keepUndo_81 ?_
    refine r_aload_n B (pc := 84) dX3_keepUndo_84 rfl rfl ?_
    refine gC_RX3_48_1 B (pc := 85) dX3_keepUndo_85 ?_
    refine r_iload_n B (pc := 88) dX3_keepUndo_88 rfl rfl ?_
    refine astC_17 B (pc := 89) dX3_keepUndo_89 hf (fun s6 _ hf => ?_)
    refine r_aload_n B (pc := 90) dX3_keepUndo_90 rfl rfl ?_
    refine gC_RX3_57_1 B (pc := 91) dX3_keepUndo_91 ?_
    refine r_aload_n B (pc := 94) dX3_keepUndo_94 rfl rfl ?_
    refine gC_RX3_48_1 B (pc := 95) dX3_keepUndo_95 ?_
    refine r_iload_n B (pc := 98) dX3_keepUndo_98 rfl rfl ?_
    refine astC_18 B (pc := 99) dX3_keepUndo_99 hf (fun s7 _ hf => ?_)
    refine r_aload_n B (pc := 100) dX3_keepUndo_100 rfl rfl ?_
    refine r_dup B (pc := 101) dX3_keepUndo_101 rfl ?_
    refine gC_RX3_48_1 B (pc := 102) dX3_keepUndo_102 ?_
    refine r_iconst B (pc := 105) dX3_keepUndo_105 kc_1 ?_
    refine r_iadd B (pc := 106) dX3_keepUndo_106 ?_
    refine pC_RX3_48_1 B (pc := 107) dX3_keepUndo_107 hf (fun s8 hf => ?_)
    exact e_s (F := (wC ad K nw)) hf (RET 110 _ dX3_keepUndo_110)
  refine r_icmp_ne B (pc := 6) (tgt := 70) dX3_keepUndo_6 (by decide) hf (fun _ hf => ?_) (fun _ hf => ?_)
  · exact r_mask [true, true, true, true] rfl (k70 σ hf)
  · refine r_aload_n B (pc := 9) dX3_keepUndo_9 rfl rfl ?_
    refine r_dup B (pc := 10) dX3_keepUndo_10 rfl ?_
    refine gC_RX3_48_1 B (pc := 11) dX3_keepUndo_11 ?_
    refine r_iconst B (pc := 14) dX3_keepUndo_14 kc_1 ?_
    refine r_isub B (pc := 15) dX3_keepUndo_15 ?_
    refine pC_RX3_48_1 B (pc := 16) dX3_keepUndo_16 hf (fun s1 hf => ?_)
    refine r_aload_n B (pc := 19) dX3_keepUndo_19 rfl rfl ?_
    refine gC_RX3_51_1 B (pc := 20) dX3_keepUndo_20 ?_
    refine r_iconst B (pc := 23) dX3_keepUndo_23 kc_1 ?_
    refine r_aload_n B (pc := 24) dX3_keepUndo_24 rfl rfl ?_
    refine gC_RX3_51_1 B (pc := 25) dX3_keepUndo_25 ?_
    refine r_iconst B (pc := 28) dX3_keepUndo_28 kc_0 ?_
    refine r_aload_n B (pc := 29) dX3_keepUndo_29 rfl rfl ?_
    refine gC_RX3_48_1 B (pc := 30) dX3_keepUndo_30 ?_
    refine cpyC_RX3_67_16_16 B (Nat.le_of_ble_eq_true rfl) (Nat.le_of_ble_eq_true rfl) (pc := 33) dX3_keepUndo_33 hf (fun s2 hf => ?_)
    refine r_aload_n B (pc := 36) dX3_keepUndo_36 rfl rfl ?_
    refine gC_RX3_54_1 B (pc := 37) dX3_keepUndo_37 ?_
    refine r_iconst B (pc := 40) dX3_keepUndo_40 kc_1 ?_
    refine r_aload_n B (pc := 41) dX3_keepUndo_41 rfl rfl ?_
    refine gC_RX3_54_1 B (pc := 42) dX3_keepUndo_42 ?_
    refine r_iconst B (pc := 45) dX3_keepUndo_45 kc_0 ?_
    refine r_aload_n B (pc := 46) dX3_keepUndo_46 rfl rfl ?_
    refine gC_RX3_48_1 B (pc := 47) dX3_keepUndo_47 ?_
    refine cpyC_RX3_67_17_17 B (Nat.le_of_ble_eq_true rfl) (Nat.le_of_ble_eq_true rfl) (pc := 50) dX3_keepUndo_50 hf (fun s3 hf => ?_)
    refine r_aload_n B (pc := 53) dX3_keepUndo_53 rfl rfl ?_
    refine gC_RX3_57_1 B (pc := 54) dX3_keepUndo_54 ?_
    refine r_iconst B (pc := 57) dX3_keepUndo_57 kc_1 ?_
    refine r_aload_n B (pc := 58) dX3_keepUndo_58 rfl rfl ?_
    refine gC_RX3_57_1 B (pc := 59) dX3_keepUndo_59 ?_
    refine r_iconst B (pc := 62) dX3_keepUndo_62 kc_0 ?_
    refine r_aload_n B (pc := 63) dX3_keepUndo_63 rfl rfl ?_
    refine gC_RX3_48_1 B (pc := 64) dX3_keepUndo_64 ?_
    refine cpyC_RX3_67_18_18 B (Nat.le_of_ble_eq_true rfl) (Nat.le_of_ble_eq_true rfl) (pc := 67) dX3_keepUndo_67 hf (fun s4 hf => ?_)
    exact r_mask [true, true, true, true] rfl (k70 s4 hf)
