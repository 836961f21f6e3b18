set_option maxHeartbeats 4000000 in
set_option maxRecDepth 20000 in
theorem c_X2_canFollow (l : Launch) (D : va_G) (K : Kt) (ad : Nat → Nat) (nw : Nat) (σ : St) (x1 : Int32) (x2 : Int32) {r : Int32} (hf : f_X2_canFollow σ x1 x2 = some r) : CtI l yX2_canFollow cX2_canFollow 3 (some .boolean) 1 21 D K [.ref (ad 9), .int x1, .int x2] (wC ad K nw σ) r (wC ad K nw σ) := by
  refine met_i pl_RX2 (Nat.le_of_ble_eq_true rfl) (fun X hnL B RET => ?_)
  suffices h : MW X (wC ad K nw σ) 0 [some (.ref (ad 9)), some (.int x1), some (.int x2)] [] from h
  unfold f_X2_canFollow at hf
  refine r_iload_n B (pc := 0) dX2_canFollow_0 rfl rfl ?_
  refine r_iload_n B (pc := 1) dX2_canFollow_1 rfl rfl ?_
  refine r_cNI B (c_X6_has X.l X.D K _ x2 x1) F_X6_has nk_RX2_31 (Nat.le_of_ble_eq_true rfl) (Nat.le_of_ble_eq_true rfl) (Nat.le_of_ble_eq_true rfl) (pc := 2) dX2_canFollow_2 rfl ?_
  refine r_if_ne B (pc := 5) (tgt := 25) dX2_canFollow_5 (by decide) hf (fun _ hf => ?_) (fun _ hf => ?_)
  · refine r_iconst B (pc := 25) dX2_canFollow_25 kc_0 ?_
    exact e_rz hf rfl (RET 26 _ dX2_canFollow_26)
  · refine r_aload_n B (pc := 8) dX2_canFollow_8 rfl rfl ?_
    refine gC_RX2_22_9 B (pc := 9) dX2_canFollow_9 ?_
    refine r_iload_n B (pc := 12) dX2_canFollow_12 rfl rfl ?_
    refine aldC_11 B (pc := 13) dX2_canFollow_13 hf (fun _ hf => ?_)
    refine r_iload_n B (pc := 14) dX2_canFollow_14 rfl rfl ?_
    refine r_iconst B (pc := 15) dX2_canFollow_15 kc_m1 ?_
    refine r_ixor B (pc := 16) dX2_canFollow_16 ?_
    refine r_iand B (pc := 17) dX2_canFollow_17 ?_
    refine r_if_ne B (pc := 18) (tgt := 25) dX2_canFollow_18 (by decide) hf (fun _ hf => ?_) (fun _ hf => ?_)
    · refine r_iconst B (pc := 25) dX2_canFollow_25 kc_0 ?_
      exact e_rz hf rfl (RET 26 _ dX2_canFollow_26)
    · refine r_iconst B (pc := 21) dX2_canFollow_21 kc_1 ?_
      refine r_goto B (pc := 22) (tgt := 26) dX2_canFollow_22 (by decide) ?_
      exact e_rz hf rfl (RET 26 _ dX2_canFollow_26)
set_option maxHeartbeats 4000000 in
set_option maxRecDepth 20000 in
theorem c_X2_greatestBehind (l : Launch) (D : va_G) (K : Kt) (ad : Nat → Nat) (nw : Nat) (σ : St) (x1 : Int32) {r : Int32} (hf : f_X2_greatestBehind σ x1 = some r) : CtI l yX2_greatestBehind cX2_greatestBehind 3 (some .int) 2 43 D K [.ref (ad 9), .int x1] (wC ad K nw σ) r (wC ad K nw σ) := by
  refine met_i pl_RX2 (Nat.le_of_ble_eq_true rfl) (fun X hnL B RET => ?_)
  suffices h : MW X (wC ad K nw σ) 0 [some (.ref (ad 9)), some (.int x1), none] [] from h
  unfold f_X2_greatestBehind at hf
  refine r_aload_n B (pc := 0) dX2_greatestBehind_0 rfl rfl ?_
  refine gC_RX2_9_9 B (pc := 1) dX2_greatestBehind_1 ?_
  refine r_iconst B (pc := 4) dX2_greatestBehind_4 kc_1 ?_
  refine r_isub B (pc := 5) dX2_greatestBehind_5 ?_
  refine r_nm hf (fun y1 hf => ?_)
  refine r_istore_n B hnL (pc := 6) dX2_greatestBehind_6 rfl (by decide) ?_
  refine r_lc (loc' := [some (.ref (ad 9)), some (.int x1), some (.int y1)]) rfl ?_
  have k7 : ∀ (n7 : Nat) (v2 : Int32), f_X2_greatestBehind_h7 σ x1 n7 v2 = some r → MW X (wC ad K nw σ) 7 [some (.ref (ad 9)), some (.int x1), some (.int v2)] [] := by
    intro n7
    induction n7 with
    | zero => intro v2 hf; exact nn_z hf
    | succ n7 ih7 =>
      intro v2 hf
      rw [f_X2_greatestBehind_h7] at hf
      refine r_iload_n B (pc := 7) dX2_greatestBehind_7 rfl rfl ?_
      refine r_if_lt B (pc := 8) (tgt := 28) dX2_greatestBehind_8 (by decide) hf (fun _ hf => ?_) (fun _ hf => ?_)
      · refine r_bipush B (pc := 28) dX2_greatestBehind_28 kb_m4 ?_
        exact e_rz hf (nar_i _) (RET 30 _ dX2_greatestBehind_30)
      · refine r_aload_n B (pc := 11) dX2_greatestBehind_11 rfl rfl ?_
        refine r_iload_n B (pc := 12) dX2_greatestBehind_12 rfl rfl ?_
        refine r_iload_n B (pc := 13) dX2_greatestBehind_13 rfl rfl ?_
        obtain ⟨r3, hc2, hf⟩ := bdr_e hf
        refine r_cVI B (c_X2_canFollow X.l X.D K ad nw σ v2 x1 hc2) F_X2_canFollow lk_RX2_41 (q0 := 9) (ci := 2) rfl rfl (Nat.le_of_ble_eq_true rfl) (Nat.le_of_ble_eq_true rfl) (Nat.le_of_ble_eq_true rfl) (pc := 14) dX2_greatestBehind_14 rfl ?_
        refine r_if_eq B (pc := 17) (tgt := 22) dX2_greatestBehind_17 (by decide) hf (fun _ hf => ?_) (fun _ hf => ?_)
        · refine r_iincS B hnL (pc := 22) dX2_greatestBehind_22 rfl kc_m1 (by decide) hf (fun y4 hf => ?_)
          refine r_lc (loc' := [some (.ref (ad 9)), some (.int x1), some (.int y4)]) rfl ?_
          refine r_goto B (pc := 25) (tgt := 7) dX2_greatestBehind_25 (by decide) ?_
          exact r_mask [true, true, true] rfl (ih7 y4 hf)
        · refine r_iload_n B (pc := 20) dX2_greatestBehind_20 rfl rfl ?_
          exact e_rz hf (nar_i _) (RET 21 _ dX2_greatestBehind_21)
  exact r_mask [true, true, true] rfl (k7 FU y1 hf)
set_option maxHeartbeats 4000000 in
set_option maxRecDepth 20000 in
theorem c_X2_inLastOrder (l : Launch) (D : va_G) (K : Kt) (ad : Nat → Nat) (nw : Nat) (σ : St) (x1 : Int32) {r : Int32} (hf : f_X2_inLastOrder σ x1 = some r) : CtI l yX2_inLastOrder cX2_inLastOrder 5 (some .int) 3 65 D K [.ref (ad 9), .int x1] (wC ad K nw σ) r (wC ad K nw σ) := by
  refine met_i pl_RX2 (Nat.le_of_ble_eq_true rfl) (fun X hnL B RET => ?_)
  suffices h : MW X (wC ad K nw σ) 0 [some (.ref (ad 9)), some (.int x1), none, none, none] [] from h
  unfold f_X2_inLastOrder at hf
  refine r_iconst B (pc := 0) dX2_inLastOrder_0 kc_0 ?_
  refine r_istore_n B hnL (pc := 1) dX2_inLastOrder_1 rfl (by decide) ?_
  refine r_lc (loc' := [some (.ref (ad 9)), some (.int x1), some (.int 0), none, none]) rfl ?_
  refine r_bipush B (pc := 2) dX2_inLastOrder_2 kb_m4 ?_
  refine r_istore_n B hnL (pc := 4) dX2_inLastOrder_4 rfl (by decide) ?_
  refine r_lc (loc' := [some (.ref (ad 9)), some (.int x1), some (.int 0), some (.int ((-4))), none]) rfl ?_
  refine r_iconst B (pc := 5) dX2_inLastOrder_5 kc_0 ?_
  refine r_istore B hnL (pc := 6) dX2_inLastOrder_6 (by decide) ?_
  refine r_lc (loc' := [some (.ref (ad 9)), some (.int x1), some (.int 0), some (.int ((-4))), some (.int 0)]) rfl ?_
  have k8 : ∀ (n8 : Nat) (v2 : Int32) (v3 : Int32) (v4 : Int32), f_X2_inLastOrder_h8 σ x1 n8 v2 v3 v4 = some r → MW X (wC ad K nw σ) 8 [some (.ref (ad 9)), some (.int x1), some (.int v2), some (.int v3), some (.int v4)] [] := by
    intro n8
    induction n8 with
    | zero => intro v2 v3 v4 hf; exact nn_z hf
    | succ n8 ih8 =>
      intro v2 v3 v4 hf
      rw [f_X2_inLastOrder_h8] at hf
      refine r_iload B (pc := 8) dX2_inLastOrder_8 rfl ?_
      refine r_iload_n B (pc := 10) dX2_inLastOrder_10 rfl rfl ?_
      refine r_icmp_gt B (pc := 11) (tgt := 48) dX2_inLastOrder_11 (by decide) hf (fun _ hf => ?_) (fun _ hf => ?_)
      · refine r_iload_n B (pc := 48) dX2_inLastOrder_48 rfl rfl ?_
        exact e_rz hf (nar_i _) (RET 49 _ dX2_inLastOrder_49)
      · refine r_iload B (pc := 14) dX2_inLastOrder_14 rfl ?_
        refine r_aload_n B (pc := 16) dX2_inLastOrder_16 rfl rfl ?_
        refine gC_RX2_9_9 B (pc := 17) dX2_inLastOrder_17 ?_
        refine r_icmp_ge B (pc := 20) (tgt := 48) dX2_inLastOrder_20 (by decide) hf (fun _ hf => ?_) (fun _ hf => ?_)
        · refine r_iload_n B (pc := 48) dX2_inLastOrder_48 rfl rfl ?_
          exact e_rz hf (nar_i _) (RET 49 _ dX2_inLastOrder_49)
        · refine r_aload_n B (pc := 23) dX2_inLastOrder_23 rfl rfl ?_
          refine r_iload_n B (pc := 24) dX2_inLastOrder_24 rfl rfl ?_
          obtain ⟨r2, hc1, hf⟩ := bdr_e hf
          refine r_cVI B (c_X2_greatestBehind X.l X.D K ad nw σ v2 hc1) F_X2_greatestBehind lk_RX2_44 (q0 := 9) (ci := 2) rfl rfl (Nat.le_of_ble_eq_true rfl) (Nat.le_of_ble_eq_true rfl) (Nat.le_of_ble_eq_true rfl) (pc := 25) dX2_inLastOrder_25 rfl ?_
          refine r_istore_n B hnL (pc := 28) dX2_inLastOrder_28 rfl (by decide) ?_
          refine r_lc (loc' := [some (.ref (ad 9)), some (.int x1), some (.int v2), some (.int r2), some (.int v4)]) rfl ?_
          refine r_iload_n B (pc := 29) dX2_inLastOrder_29 rfl rfl ?_
          refine r_if_ge B (pc := 30) (tgt := 36) dX2_inLastOrder_30 (by decide) hf (fun _ hf => ?_) (fun _ hf => ?_)
          · refine r_iload_n B (pc := 36) dX2_inLastOrder_36 rfl rfl ?_
            refine r_iconst B (pc := 37) dX2_inLastOrder_37 kc_1 ?_
            refine r_iload_n B (pc := 38) dX2_inLastOrder_38 rfl rfl ?_
            refine r_ishl B (pc := 39) dX2_inLastOrder_39 ?_
            refine r_ior B (pc := 40) dX2_inLastOrder_40 ?_
            refine r_nm hf (fun y3 hf => ?_)
            refine r_istore_n B hnL (pc := 41) dX2_inLastOrder_41 rfl (by decide) ?_
            refine r_lc (loc' := [some (.ref (ad 9)), some (.int x1), some (.int y3), some (.int r2), some (.int v4)]) rfl ?_
            refine r_iincS B hnL (pc := 42) dX2_inLastOrder_42 rfl kc_1 (by decide) hf (fun y4 hf => ?_)
            refine r_lc (loc' := [some (.ref (ad 9)), some (.int x1), some (.int y3), some (.int r2), some (.int y4)]) rfl ?_
            refine r_goto B (pc := 45) (tgt := 8) dX2_inLastOrder_45 (by decide) ?_
            exact r_mask [true, true, true, true, true] rfl (ih8 y3 r2 y4 hf)
          · refine r_bipush B (pc := 33) dX2_inLastOrder_33 kb_m4 ?_
            exact e_rz hf (nar_i _) (RET 35 _ dX2_inLastOrder_35)
  exact r_mask [true, true, true, true, true] rfl (k8 FU 0 ((-4)) 0 hf)
set_option maxHeartbeats 4000000 in
set_option maxRecDepth 20000 in
theorem c_J7_fill_53178_66 (l : Launch) (D : va_G) (K : Kt) (ad : Nat → Nat) (nw : Nat) (σ : St) (x1 : Int32) {τ : St} (hf : f_J7_fill_53178_66 nw σ x1 = some τ) : CtV l yJ7_fill_53178 cJ7_fill_53178 4 none 0 0 D K [.ref (ad 66), .int x1] (wC ad K nw σ) (wC ad K nw τ) := by
  refine met_v pl_RJ7 (Nat.le_of_ble_eq_true rfl) (fun X hnL B RET => ?_)
  suffices h : MW X (wC ad K nw σ) 0 [some (.ref (ad 66)), some (.int x1), none, none] [] from h
  unfold f_J7_fill_53178_66 at hf
  refine r_iconst B (pc := 0) dJ7_fill_53178_0 kc_0 ?_
  refine r_istore_n B hnL (pc := 1) dJ7_fill_53178_1 rfl (by decide) ?_
  refine r_lc (loc' := [some (.ref (ad 66)), some (.int x1), some (.int 0), none]) rfl ?_
  refine r_aload_n B (pc := 2) dJ7_fill_53178_2 rfl rfl ?_
  refine lenC_66 B (pc := 3) dJ7_fill_53178_3 ?_
  refine r_nm hf (fun y1 hf => ?_)
  refine r_istore_n B hnL (pc := 4) dJ7_fill_53178_4 rfl (by decide) ?_
  refine r_lc (loc' := [some (.ref (ad 66)), some (.int x1), some (.int 0), some (.int y1)]) rfl ?_
  have k5 : ∀ (n5 : Nat) (v2 : Int32) (v3 : Int32) (σ5 : St), f_J7_fill_53178_66_h5 nw x1 n5 v2 v3 σ5 = some τ → MW X (wC ad K nw σ5) 5 [some (.ref (ad 66)), some (.int x1), some (.int v2), some (.int v3)] [] := by
    intro n5
    induction n5 with
    | zero => intro v2 v3 σ5 hf; exact nn_z hf
    | succ n5 ih5 =>
      intro v2 v3 σ5 hf
      rw [f_J7_fill_53178_66_h5] at hf
      refine r_iload_n B (pc := 5) dJ7_fill_53178_5 rfl rfl ?_
      refine r_iload_n B (pc := 6) dJ7_fill_53178_6 rfl rfl ?_
      refine r_icmp_ge B (pc := 7) (tgt := 20) dJ7_fill_53178_7 (by decide) hf (fun _ hf => ?_) (fun _ hf => ?_)
      · exact e_s (F := (wC ad K nw)) hf (RET 20 _ dJ7_fill_53178_20)
      · refine r_aload_n B (pc := 10) dJ7_fill_53178_10 rfl rfl ?_
        refine r_iload_n B (pc := 11) dJ7_fill_53178_11 rfl rfl ?_
        refine r_iload_n B (pc := 12) dJ7_fill_53178_12 rfl rfl ?_
        refine astC_66 B (pc := 13) dJ7_fill_53178_13 hf (fun s2 _ hf => ?_)
        refine r_iincS B hnL (pc := 14) dJ7_fill_53178_14 rfl kc_1 (by decide) hf (fun y3 hf => ?_)
        refine r_lc (loc' := [some (.ref (ad 66)), some (.int x1), some (.int y3), some (.int v3)]) rfl ?_
        refine r_goto B (pc := 17) (tgt := 5) dJ7_fill_53178_17 (by decide) ?_
        exact r_mask [true, true, true, true] rfl (ih5 y3 v3 s2 hf)
  exact r_mask [true, true, true, true] rfl (k5 FU 0 y1 σ hf)
set_option maxHeartbeats 4000000 in
set_option maxRecDepth 20000 in
theorem c_X2_countInto_66 (l : Launch) (D : va_G) (K : Kt) (ad : Nat → Nat) (nw : Nat) (σ : St) {r : Int32} {τ : St} (hf : f_X2_countInto_66 nw σ = some (r, τ)) : CtI l yX2_countInto cX2_countInto 5 (some .int) 2 43 D K [.ref (ad 9), .ref (ad 66)] (wC ad K nw σ) r (wC ad K nw τ) := by
  refine met_i pl_RX2 (Nat.le_of_ble_eq_true rfl) (fun X hnL B RET => ?_)
  suffices h : MW X (wC ad K nw σ) 0 [some (.ref (ad 9)), some (.ref (ad 66)), none, none, none] [] from h
  unfold f_X2_countInto_66 at hf
  refine r_iconst B (pc := 0) dX2_countInto_0 kc_1 ?_
  refine r_aload_n B (pc := 1) dX2_countInto_1 rfl rfl ?_
  refine gC_RX2_9_9 B (pc := 2) dX2_countInto_2 ?_
  refine r_ishl B (pc := 5) dX2_countInto_5 ?_
  refine r_nm hf (fun y1 hf => ?_)
  refine r_istore_n B hnL (pc := 6) dX2_countInto_6 rfl (by decide) ?_
  refine r_lc (loc' := [some (.ref (ad 9)), some (.ref (ad 66)), some (.int y1), none, none]) rfl ?_
  refine r_aload_n B (pc := 7) dX2_countInto_7 rfl rfl ?_
  refine lenC_66 B (pc := 8) dX2_countInto_8 ?_
  refine r_iload_n B (pc := 9) dX2_countInto_9 rfl rfl ?_
  refine r_icmp_ge B (pc := 10) (tgt := 15) dX2_countInto_10 (by decide) hf (fun _ hf => ?_) (fun _ hf => ?_)
  · refine r_aload_n B (pc := 15) dX2_countInto_15 rfl rfl ?_
    refine r_iconst B (pc := 16) dX2_countInto_16 kc_0 ?_
    obtain ⟨s3, hc2, hf⟩ := bdr_e hf
    refine r_cSV B (c_J7_fill_53178_66 X.l X.D K ad nw σ 0 hc2) F_J7_fill_53178 lk_RX2_35 (Nat.le_of_ble_eq_true rfl) (Nat.le_of_ble_eq_true rfl) (Nat.le_of_ble_eq_true rfl) (pc := 17) dX2_countInto_17 rfl ?_
    refine r_aload_n B (pc := 20) dX2_countInto_20 rfl rfl ?_
    refine r_iconst B (pc := 21) dX2_countInto_21 kc_0 ?_
    refine r_iconst B (pc := 22) dX2_countInto_22 kc_1 ?_
    refine astC_66 B (pc := 23) dX2_countInto_23 hf (fun s4 _ hf => ?_)
    refine r_iconst B (pc := 24) dX2_countInto_24 kc_0 ?_
    refine r_istore_n B hnL (pc := 25) dX2_countInto_25 rfl (by decide) ?_
    refine r_lc (loc' := [some (.ref (ad 9)), some (.ref (ad 66)), some (.int y1), some (.int 0), none]) rfl ?_
    have k26 : ∀ (n26 : Nat) (v2 : Int32) (v3 : Int32) (σ26 : St), f_X2_countInto_66_h26 nw n26 v2 v3 σ26 = some (r, τ) → MW X (wC ad K nw σ26) 26 [some (.ref (ad 9)), some (.ref (ad 66)), some (.int v2), some (.int v3), none] [] := by
      intro n26
      induction n26 with
      | zero => intro v2 v3 σ26 hf; exact nn_z hf
      | succ n26 ih26 =>
        intro v2 v3 σ26 hf
        rw [f_X2_countInto_66_h26] at hf
        refine r_iload_n B (pc := 26) dX2_countInto_26 rfl rfl ?_
        refine r_iload_n B (pc := 27) dX2_countInto_27 rfl rfl ?_
        refine r_icmp_ge B (pc := 28) (tgt := 88) dX2_countInto_28 (by decide) hf (fun _ hf => ?_) (fun _ hf => ?_)
        · refine r_aload_n B (pc := 88) dX2_countInto_88 rfl rfl ?_
          refine r_iload_n B (pc := 89) dX2_countInto_89 rfl rfl ?_
          refine r_iconst B (pc := 90) dX2_countInto_90 kc_1 ?_
          refine r_isub B (pc := 91) dX2_countInto_91 ?_
          refine aldC_66 B (pc := 92) dX2_countInto_92 hf (fun _ hf => ?_)
          exact e_pz (F := (wC ad K nw)) hf (nar_i _) (RET 93 _ dX2_countInto_93)
        · refine r_aload_n B (pc := 31) dX2_countInto_31 rfl rfl ?_
          refine r_iload_n B (pc := 32) dX2_countInto_32 rfl rfl ?_
          refine aldC_66 B (pc := 33) dX2_countInto_33 hf (fun _ hf => ?_)
          refine r_if_ne B (pc := 34) (tgt := 40) dX2_countInto_34 (by decide) hf (fun _ hf => ?_) (fun _ hf => ?_)
          · refine r_iconst B (pc := 40) dX2_countInto_40 kc_0 ?_
            refine r_istore B hnL (pc := 41) dX2_countInto_41 (by decide) ?_
            refine r_lc (loc' := [some (.ref (ad 9)), some (.ref (ad 66)), some (.int v2), some (.int v3), some (.int 0)]) rfl ?_
            have k43 : ∀ (n43 : Nat) (v2 : Int32) (v3 : Int32) (v4 : Int32) (σ43 : St), f_X2_countInto_66_h43 (f_X2_countInto_66_h26 nw n26) nw n43 v2 v3 v4 σ43 = some (r, τ) → MW X (wC ad K nw σ43) 43 [some (.ref (ad 9)), some (.ref (ad 66)), some (.int v2), some (.int v3), some (.int v4)] [] := by
              intro n43
              induction n43 with
              | zero => intro v2 v3 v4 σ43 hf; exact nn_z hf
              | succ n43 ih43 =>
                intro v2 v3 v4 σ43 hf
                rw [f_X2_countInto_66_h43] at hf
                refine r_iload B (pc := 43) dX2_countInto_43 rfl ?_
                refine r_aload_n B (pc := 45) dX2_countInto_45 rfl rfl ?_
                refine gC_RX2_9_9 B (pc := 46) dX2_countInto_46 ?_
                refine r_icmp_ge B (pc := 49) (tgt := 82) dX2_countInto_49 (by decide) hf (fun _ hf => ?_) (fun _ hf => ?_)
                · refine r_iincS B hnL (pc := 82) dX2_countInto_82 rfl kc_1 (by decide) hf (fun y5 hf => ?_)
                  refine r_lc (loc' := [some (.ref (ad 9)), some (.ref (ad 66)), some (.int v2), some (.int y5), some (.int v4)]) rfl ?_
                  refine r_goto B (pc := 85) (tgt := 26) dX2_countInto_85 (by decide) ?_
                  exact r_mask [true, true, true, true, false] rfl (ih26 v2 y5 σ43 hf)
                · refine r_aload_n B (pc := 52) dX2_countInto_52 rfl rfl ?_
                  refine r_iload B (pc := 53) dX2_countInto_53 rfl ?_
                  refine r_iload_n B (pc := 55) dX2_countInto_55 rfl rfl ?_
                  obtain ⟨r7, hc6, hf⟩ := bdr_e hf
                  refine r_cVI B (c_X2_canFollow X.l X.D K ad nw σ43 v4 v3 hc6) F_X2_canFollow lk_RX2_41 (q0 := 9) (ci := 2) rfl rfl (Nat.le_of_ble_eq_true rfl) (Nat.le_of_ble_eq_true rfl) (Nat.le_of_ble_eq_true rfl) (pc := 56) dX2_countInto_56 rfl ?_
                  refine r_if_eq B (pc := 59) (tgt := 76) dX2_countInto_59 (by decide) hf (fun _ hf => ?_) (fun _ hf => ?_)
                  · refine r_iincS B hnL (pc := 76) dX2_countInto_76 rfl kc_1 (by decide) hf (fun y8 hf => ?_)
                    refine r_lc (loc' := [some (.ref (ad 9)), some (.ref (ad 66)), some (.int v2), some (.int v3), some (.int y8)]) rfl ?_
                    refine r_goto B (pc := 79) (tgt := 43) dX2_countInto_79 (by decide) ?_
                    exact r_mask [true, true, true, true, true] rfl (ih43 v2 v3 y8 σ43 hf)
                  · refine r_aload_n B (pc := 62) dX2_countInto_62 rfl rfl ?_
                    refine r_iload_n B (pc := 63) dX2_countInto_63 rfl rfl ?_
                    refine r_iconst B (pc := 64) dX2_countInto_64 kc_1 ?_
                    refine r_iload B (pc := 65) dX2_countInto_65 rfl ?_
                    refine r_ishl B (pc := 67) dX2_countInto_67 ?_
                    refine r_ior B (pc := 68) dX2_countInto_68 ?_
                    refine r_dup2 B (pc := 69) dX2_countInto_69 rfl rfl ?_
                    refine aldC_66 B (pc := 70) dX2_countInto_70 hf (fun _ hf => ?_)
                    refine r_aload_n B (pc := 71) dX2_countInto_71 rfl rfl ?_
                    refine r_iload_n B (pc := 72) dX2_countInto_72 rfl rfl ?_
                    refine aldC_66 B (pc := 73) dX2_countInto_73 hf (fun _ hf => ?_)
                    refine r_iadd B (pc := 74) dX2_countInto_74 ?_
                    refine astC_66 B (pc := 75) dX2_countInto_75 hf (fun s9 _ hf => ?_)
                    refine r_iincS B hnL (pc := 76) dX2_countInto_76 rfl kc_1 (by decide) hf (fun y10 hf => ?_)
                    refine r_lc (loc' := [some (.ref (ad 9)), some (.ref (ad 66)), some (.int v2), some (.int v3), some (.int y10)]) rfl ?_
                    refine r_goto B (pc := 79) (tgt := 43) dX2_countInto_79 (by decide) ?_
                    exact r_mask [true, true, true, true, true] rfl (ih43 v2 v3 y10 s9 hf)
            exact r_mask [true, true, true, true, true] rfl (k43 FU v2 v3 0 σ26 hf)
          · refine r_goto B (pc := 37) (tgt := 82) dX2_countInto_37 (by decide) ?_
            refine r_iincS B hnL (pc := 82) dX2_countInto_82 rfl kc_1 (by decide) hf (fun y11 hf => ?_)
            refine r_lc (loc' := [some (.ref (ad 9)), some (.ref (ad 66)), some (.int v2), some (.int y11), none]) rfl ?_
            refine r_goto B (pc := 85) (tgt := 26) dX2_countInto_85 (by decide) ?_
            exact r_mask [true, true, true, true, false] rfl (ih26 v2 y11 σ26 hf)
    exact r_mask [true, true, true, true, false] rfl (k26 FU y1 0 s4 hf)
  · refine r_iconst B (pc := 13) dX2_countInto_13 kc_0 ?_
    exact e_pz (F := (wC ad K nw)) hf (nar_i _) (RET 14 _ dX2_countInto_14)
