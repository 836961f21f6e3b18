set_option maxHeartbeats 4000000 in
set_option maxRecDepth 20000 in
theorem c_X7_hidden (l : Launch) (D : va_G) (K : Kt) (ad : Nat → Nat) (σ : St) (x1 : Int32) (x2 : Int32) {r : Int64} (hf : f_X7_hidden σ x1 x2 = some r) : CtL l yX7_hidden cX7_hidden 6 (some .long) 4 97 D K [.ref (ad 0), .int x1, .int x2] (wM ad K σ) r (wM ad K σ) := by
  refine met_l pl_RX7 (Nat.le_of_ble_eq_true rfl) (fun X hnL B RET => ?_)
  suffices h : MW X (wM ad K σ) 0 [some (.ref (ad 0)), some (.int x1), some (.int x2), none, none, none] [] from h
  unfold f_X7_hidden at hf
  refine r_aload_n B (pc := 0) dX7_hidden_0 rfl rfl ?_
  refine r_iload_n B (pc := 1) dX7_hidden_1 rfl rfl ?_
  refine r_i2l B (pc := 2) dX7_hidden_2 ?_
  refine r_cVI B (c_X7_isReader X.l X.D K ad σ (x1.toInt64)) F_X7_isReader lk_RX7_213 (q0 := 0) (ci := 7) rfl rfl (Nat.le_of_ble_eq_true rfl) (Nat.le_of_ble_eq_true rfl) (Nat.le_of_ble_eq_true rfl) (pc := 3) dX7_hidden_3 rfl ?_
  refine r_if_eq B (pc := 6) (tgt := 17) dX7_hidden_6 (by decide) hf (fun _ hf => ?_) (fun _ hf => ?_)
  · refine r_ldc2 B (pc := 17) kp_RX7_278 dX7_hidden_17 ?_
    exact e_rl hf (RET 20 _ dX7_hidden_20)
  · refine r_aload_n B (pc := 9) dX7_hidden_9 rfl rfl ?_
    refine r_iload_n B (pc := 10) dX7_hidden_10 rfl rfl ?_
    refine r_cVI B (c_X7_areGraves X.l X.D K ad σ x2) F_X7_areGraves lk_RX7_287 (q0 := 0) (ci := 7) rfl rfl (Nat.le_of_ble_eq_true rfl) (Nat.le_of_ble_eq_true rfl) (Nat.le_of_ble_eq_true rfl) (pc := 11) dX7_hidden_11 rfl ?_
    refine r_if_ne B (pc := 14) (tgt := 21) dX7_hidden_14 (by decide) hf (fun _ hf => ?_) (fun _ hf => ?_)
    · refine r_lconst B (pc := 21) dX7_hidden_21 kl_0 ?_
      refine r_lstore_n B hnL (pc := 22) dX7_hidden_22 rfl (by decide) ?_
      refine r_lc (loc' := [some (.ref (ad 0)), some (.int x1), some (.int x2), some (.long 0), none, none]) rfl ?_
      refine r_iconst B (pc := 23) dX7_hidden_23 kc_0 ?_
      refine r_istore B hnL (pc := 24) dX7_hidden_24 (by decide) ?_
      refine r_lc (loc' := [some (.ref (ad 0)), some (.int x1), some (.int x2), some (.long 0), none, some (.int 0)]) rfl ?_
      have k26 : ∀ (n26 : Nat) (v3 : Int64) (v5 : Int32), f_X7_hidden_h26 σ x1 x2 n26 v3 v5 = some r → MW X (wM ad K σ) 26 [some (.ref (ad 0)), some (.int x1), some (.int x2), some (.long v3), none, some (.int v5)] [] := by
        intro n26
        induction n26 with
        | zero => intro v3 v5 hf; exact nn_z hf
        | succ n26 ih26 =>
          intro v3 v5 hf
          rw [f_X7_hidden_h26] at hf
          refine r_iload B (pc := 26) dX7_hidden_26 rfl ?_
          refine r_bipush B (pc := 28) dX7_hidden_28 kb_36 ?_
          refine r_icmp_ge B (pc := 30) (tgt := 66) dX7_hidden_30 (by decide) hf (fun _ hf => ?_) (fun _ hf => ?_)
          · refine r_lload_n B (pc := 66) dX7_hidden_66 rfl rfl ?_
            exact e_rl hf (RET 67 _ dX7_hidden_67)
          · refine r_lload_n B (pc := 33) dX7_hidden_33 rfl rfl ?_
            refine r_aload_n B (pc := 34) dX7_hidden_34 rfl rfl ?_
            refine r_iload_n B (pc := 35) dX7_hidden_35 rfl rfl ?_
            refine r_iload B (pc := 36) dX7_hidden_36 rfl ?_
            refine r_aload_n B (pc := 38) dX7_hidden_38 rfl rfl ?_
            refine gM_RX7_130_0 B (pc := 39) dX7_hidden_39 ?_
            obtain ⟨r2, hc1, hf⟩ := bdr_e hf
            refine r_cVI B (c_X7_hearers X.l X.D K ad σ x1 v5 (σ.1 0 11) hc1) F_X7_hearers lk_RX7_247 (q0 := 0) (ci := 7) rfl rfl (Nat.le_of_ble_eq_true rfl) (Nat.le_of_ble_eq_true rfl) (Nat.le_of_ble_eq_true rfl) (pc := 42) dX7_hidden_42 rfl ?_
            refine r_iload_n B (pc := 45) dX7_hidden_45 rfl rfl ?_
            refine r_iand B (pc := 46) dX7_hidden_46 ?_
            have k58 : ∀ (v5 : Int32) (t0 : Int64) (t1 : Int64), f_X7_hidden_b58 (f_X7_hidden_h26 σ x1 x2 n26) σ x1 x2 v5 t0 t1 = some r → MW X (wM ad K σ) 58 [some (.ref (ad 0)), some (.int x1), some (.int x2), none, none, some (.int v5)] [.long t0, .long t1] := by
              intro v5 t0 t1 hf
              unfold f_X7_hidden_b58 at hf
              refine r_lor B (pc := 58) dX7_hidden_58 ?_
              refine r_nml hf (fun y3 hf => ?_)
              refine r_lstore_n B hnL (pc := 59) dX7_hidden_59 rfl (by decide) ?_
              refine r_lc (loc' := [some (.ref (ad 0)), some (.int x1), some (.int x2), some (.long y3), none, some (.int v5)]) rfl ?_
              refine r_iincS B hnL (pc := 60) dX7_hidden_60 rfl kc_1 (by decide) hf (fun y4 hf => ?_)
              refine r_lc (loc' := [some (.ref (ad 0)), some (.int x1), some (.int x2), some (.long y3), none, some (.int y4)]) rfl ?_
              refine r_goto B (pc := 63) (tgt := 26) dX7_hidden_63 (by decide) ?_
              exact r_mask [true, true, true, true, false, true] rfl (ih26 y3 y4 hf)
            refine r_if_ne B (pc := 47) (tgt := 57) dX7_hidden_47 (by decide) hf (fun _ hf => ?_) (fun _ hf => ?_)
            · refine r_lconst B (pc := 57) dX7_hidden_57 kl_0 ?_
              exact r_mask [true, true, true, false, false, true] rfl (k58 v5 0 v3 hf)
            · refine r_lconst B (pc := 50) dX7_hidden_50 kl_1 ?_
              refine r_iload B (pc := 51) dX7_hidden_51 rfl ?_
              refine r_lshl B (pc := 53) dX7_hidden_53 ?_
              refine r_goto B (pc := 54) (tgt := 58) dX7_hidden_54 (by decide) ?_
              exact r_mask [true, true, true, false, false, true] rfl (k58 v5 (lsl 1 v5) v3 hf)
      exact r_mask [true, true, true, true, false, true] rfl (k26 FU 0 0 hf)
    · refine r_ldc2 B (pc := 17) kp_RX7_278 dX7_hidden_17 ?_
      exact e_rl hf (RET 20 _ dX7_hidden_20)
set_option maxHeartbeats 4000000 in
set_option maxRecDepth 20000 in
theorem c_X7_alone (l : Launch) (D : va_G) (K : Kt) (ad : Nat → Nat) (σ : St) (x1 : Int32) (x2 : Int32) {r : Int32} (hf : f_X7_alone σ x1 x2 = some r) : CtI l yX7_alone cX7_alone 4 (some .int) 4 97 D K [.ref (ad 0), .int x1, .int x2] (wM ad K σ) r (wM ad K σ) := by
  refine met_i pl_RX7 (Nat.le_of_ble_eq_true rfl) (fun X hnL B RET => ?_)
  suffices h : MW X (wM ad K σ) 0 [some (.ref (ad 0)), some (.int x1), some (.int x2), none] [] from h
  unfold f_X7_alone at hf
  refine r_aload_n B (pc := 0) dX7_alone_0 rfl rfl ?_
  refine r_iload_n B (pc := 1) dX7_alone_1 rfl rfl ?_
  refine r_i2l B (pc := 2) dX7_alone_2 ?_
  refine r_cVI B (c_X7_isReader X.l X.D K ad σ (x1.toInt64)) F_X7_isReader lk_RX7_213 (q0 := 0) (ci := 7) rfl rfl (Nat.le_of_ble_eq_true rfl) (Nat.le_of_ble_eq_true rfl) (Nat.le_of_ble_eq_true rfl) (pc := 3) dX7_alone_3 rfl ?_
  refine r_if_eq B (pc := 6) (tgt := 17) dX7_alone_6 (by decide) hf (fun _ hf => ?_) (fun _ hf => ?_)
  · refine r_iconst B (pc := 17) dX7_alone_17 kc_m1 ?_
    exact e_rz hf (nar_i _) (RET 18 _ dX7_alone_18)
  · refine r_aload_n B (pc := 9) dX7_alone_9 rfl rfl ?_
    refine r_iload_n B (pc := 10) dX7_alone_10 rfl rfl ?_
    refine r_cVI B (c_X7_isGrave X.l X.D K ad σ x2) F_X7_isGrave lk_RX7_166 (q0 := 0) (ci := 7) rfl rfl (Nat.le_of_ble_eq_true rfl) (Nat.le_of_ble_eq_true rfl) (Nat.le_of_ble_eq_true rfl) (pc := 11) dX7_alone_11 rfl ?_
    refine r_if_ne B (pc := 14) (tgt := 19) dX7_alone_14 (by decide) hf (fun _ hf => ?_) (fun _ hf => ?_)
    · refine r_iconst B (pc := 19) dX7_alone_19 kc_0 ?_
      refine r_istore_n B hnL (pc := 20) dX7_alone_20 rfl (by decide) ?_
      refine r_lc (loc' := [some (.ref (ad 0)), some (.int x1), some (.int x2), some (.int 0)]) rfl ?_
      have k21 : ∀ (n21 : Nat) (v3 : Int32), f_X7_alone_h21 σ x1 x2 n21 v3 = some r → MW X (wM ad K σ) 21 [some (.ref (ad 0)), some (.int x1), some (.int x2), some (.int v3)] [] := by
        intro n21
        induction n21 with
        | zero => intro v3 hf; exact nn_z hf
        | succ n21 ih21 =>
          intro v3 hf
          rw [f_X7_alone_h21] at hf
          refine r_iload_n B (pc := 21) dX7_alone_21 rfl rfl ?_
          refine r_bipush B (pc := 22) dX7_alone_22 kb_36 ?_
          refine r_icmp_ge B (pc := 24) (tgt := 51) dX7_alone_24 (by decide) hf (fun _ hf => ?_) (fun _ hf => ?_)
          · refine r_bipush B (pc := 51) dX7_alone_51 kb_m4 ?_
            exact e_rz hf (nar_i _) (RET 53 _ dX7_alone_53)
          · refine r_aload_n B (pc := 27) dX7_alone_27 rfl rfl ?_
            refine r_iload_n B (pc := 28) dX7_alone_28 rfl rfl ?_
            refine r_iload_n B (pc := 29) dX7_alone_29 rfl rfl ?_
            refine r_aload_n B (pc := 30) dX7_alone_30 rfl rfl ?_
            refine gM_RX7_130_0 B (pc := 31) dX7_alone_31 ?_
            obtain ⟨r2, hc1, hf⟩ := bdr_e hf
            refine r_cVI B (c_X7_hearers X.l X.D K ad σ x1 v3 (σ.1 0 11) hc1) F_X7_hearers lk_RX7_247 (q0 := 0) (ci := 7) rfl rfl (Nat.le_of_ble_eq_true rfl) (Nat.le_of_ble_eq_true rfl) (Nat.le_of_ble_eq_true rfl) (pc := 34) dX7_alone_34 rfl ?_
            refine r_iconst B (pc := 37) dX7_alone_37 kc_1 ?_
            refine r_iload_n B (pc := 38) dX7_alone_38 rfl rfl ?_
            refine r_ishl B (pc := 39) dX7_alone_39 ?_
            refine r_icmp_ne B (pc := 40) (tgt := 45) dX7_alone_40 (by decide) hf (fun _ hf => ?_) (fun _ hf => ?_)
            · refine r_iincS B hnL (pc := 45) dX7_alone_45 rfl kc_1 (by decide) hf (fun y3 hf => ?_)
              refine r_lc (loc' := [some (.ref (ad 0)), some (.int x1), some (.int x2), some (.int y3)]) rfl ?_
              refine r_goto B (pc := 48) (tgt := 21) dX7_alone_48 (by decide) ?_
              exact r_mask [true, true, true, true] rfl (ih21 y3 hf)
            · refine r_iload_n B (pc := 43) dX7_alone_43 rfl rfl ?_
              exact e_rz hf (nar_i _) (RET 44 _ dX7_alone_44)
      exact r_mask [true, true, true, true] rfl (k21 FU 0 hf)
    · refine r_iconst B (pc := 17) dX7_alone_17 kc_m1 ?_
      exact e_rz hf (nar_i _) (RET 18 _ dX7_alone_18)
set_option maxHeartbeats 4000000 in
set_option maxRecDepth 20000 in
theorem c_X7_carried (l : Launch) (D : va_G) (K : Kt) (ad : Nat → Nat) (σ : St) (x1 : Int32) (x2 : Int32) (x3 : Int32) {r : Int32} {τ : St} (hf : f_X7_carried σ x1 x2 x3 = some (r, τ)) : CtI l yX7_carried cX7_carried 6 (some .int) 1 25 D K [.ref (ad 0), .int x1, .int x2, .int x3] (wM ad K σ) r (wM ad K τ) := by
  refine met_i pl_RX7 (Nat.le_of_ble_eq_true rfl) (fun X hnL B RET => ?_)
  suffices h : MW X (wM ad K σ) 0 [some (.ref (ad 0)), some (.int x1), some (.int x2), some (.int x3), none, none] [] from h
  unfold f_X7_carried at hf
  refine r_iload_n B (pc := 0) dX7_carried_0 rfl rfl ?_
  refine r_bipush B (pc := 1) dX7_carried_1 kb_30 ?_
  refine r_icmp_ge B (pc := 3) (tgt := 144) dX7_carried_3 (by decide) hf (fun _ hf => ?_) (fun _ hf => ?_)
  · refine r_iload_n B (pc := 144) dX7_carried_144 rfl rfl ?_
    refine r_bipush B (pc := 145) dX7_carried_145 kb_66 ?_
    refine r_icmp_ge B (pc := 147) (tgt := 290) dX7_carried_147 (by decide) hf (fun _ hf => ?_) (fun _ hf => ?_)
    · refine r_iload_n B (pc := 290) dX7_carried_290 rfl rfl ?_
      refine r_bipush B (pc := 291) dX7_carried_291 kb_75 ?_
      refine r_icmp_ge B (pc := 293) (tgt := 374) dX7_carried_293 (by decide) hf (fun _ hf => ?_) (fun _ hf => ?_)
      · refine r_iload_n B (pc := 374) dX7_carried_374 rfl rfl ?_
        refine r_sipush B (pc := 375) dX7_carried_375 ks_216 ?_
        refine r_icmp_ge B (pc := 378) (tgt := 417) dX7_carried_378 (by decide) hf (fun _ hf => ?_) (fun _ hf => ?_)
        · refine r_iload_n B (pc := 417) dX7_carried_417 rfl rfl ?_
          refine r_sipush B (pc := 418) dX7_carried_418 ks_1626 ?_
          refine r_icmp_ge B (pc := 421) (tgt := 463) dX7_carried_421 (by decide) hf (fun _ hf => ?_) (fun _ hf => ?_)
          · refine r_aload_n B (pc := 463) dX7_carried_463 rfl rfl ?_
            refine r_iload_n B (pc := 464) dX7_carried_464 rfl rfl ?_
            have k483 : ∀ (t0 : Int32) (σ483 : St), f_X7_carried_b483 x1 x2 x3 t0 σ483 = some (r, τ) → MW X (wM ad K σ483) 483 [some (.ref (ad 0)), some (.int x1), some (.int x2), some (.int x3), none, none] [.int t0, .ref (ad 0)] := by
              intro t0 σ483 hf
              unfold f_X7_carried_b483 at hf
              refine pM_RX7_78_0 B (pc := 483) dX7_carried_483 hf (fun s1 hf => ?_)
              refine r_aload_n B (pc := 486) dX7_carried_486 rfl rfl ?_
              refine r_iload_n B (pc := 487) dX7_carried_487 rfl rfl ?_
              have k506 : ∀ (t0 : Int32) (σ506 : St), f_X7_carried_b506 x1 x2 x3 t0 σ506 = some (r, τ) → MW X (wM ad K σ506) 506 [some (.ref (ad 0)), some (.int x1), some (.int x2), some (.int x3), none, none] [.int t0, .ref (ad 0)] := by
                intro t0 σ506 hf
                unfold f_X7_carried_b506 at hf
                refine pM_RX7_85_0 B (pc := 506) dX7_carried_506 hf (fun s2 hf => ?_)
                refine r_aload_n B (pc := 509) dX7_carried_509 rfl rfl ?_
                refine r_iload_n B (pc := 510) dX7_carried_510 rfl rfl ?_
                have k529 : ∀ (t0 : Int32) (σ529 : St), f_X7_carried_b529 x1 x2 x3 t0 σ529 = some (r, τ) → MW X (wM ad K σ529) 529 [some (.ref (ad 0)), some (.int x1), some (.int x2), some (.int x3), none, none] [.int t0, .ref (ad 0)] := by
                  intro t0 σ529 hf
                  unfold f_X7_carried_b529 at hf
                  refine pM_RX7_88_0 B (pc := 529) dX7_carried_529 hf (fun s3 hf => ?_)
                  refine r_aload_n B (pc := 532) dX7_carried_532 rfl rfl ?_
                  refine r_iload_n B (pc := 533) dX7_carried_533 rfl rfl ?_
                  have k552 : ∀ (t0 : Int32) (σ552 : St), f_X7_carried_b552 x1 x2 x3 t0 σ552 = some (r, τ) → MW X (wM ad K σ552) 552 [some (.ref (ad 0)), some (.int x1), some (.int x2), some (.int x3), none, none] [.int t0, .ref (ad 0)] := by
                    intro t0 σ552 hf
                    unfold f_X7_carried_b552 at hf
                    refine pM_RX7_110_0 B (pc := 552) dX7_carried_552 hf (fun s4 hf => ?_)
                    refine r_aload_n B (pc := 555) dX7_carried_555 rfl rfl ?_
                    refine r_iload_n B (pc := 556) dX7_carried_556 rfl rfl ?_
                    have k575 : ∀ (t0 : Int32) (σ575 : St), f_X7_carried_b575 x1 x2 x3 t0 σ575 = some (r, τ) → MW X (wM ad K σ575) 575 [some (.ref (ad 0)), some (.int x1), some (.int x2), some (.int x3), none, none] [.int t0, .ref (ad 0)] := by
                      intro t0 σ575 hf
                      unfold f_X7_carried_b575 at hf
                      refine pM_RX7_130_0 B (pc := 575) dX7_carried_575 hf (fun s5 hf => ?_)
                      refine r_aload_n B (pc := 578) dX7_carried_578 rfl rfl ?_
                      refine r_iload_n B (pc := 579) dX7_carried_579 rfl rfl ?_
                      have k598 : ∀ (t0 : Int32) (σ598 : St), f_X7_carried_b598 x1 x2 x3 t0 σ598 = some (r, τ) → MW X (wM ad K σ598) 598 [some (.ref (ad 0)), some (.int x1), some (.int x2), some (.int x3), none, none] [.int t0, .ref (ad 0)] := by
                        intro t0 σ598 hf
                        unfold f_X7_carried_b598 at hf
                        refine pM_RX7_133_0 B (pc := 598) dX7_carried_598 hf (fun s6 hf => ?_)
                        refine r_aload_n B (pc := 601) dX7_carried_601 rfl rfl ?_
                        refine r_iload_n B (pc := 602) dX7_carried_602 rfl rfl ?_
                        have k621 : ∀ (t0 : Int32) (σ621 : St), f_X7_carried_b621 x1 x2 x3 t0 σ621 = some (r, τ) → MW X (wM ad K σ621) 621 [some (.ref (ad 0)), some (.int x1), some (.int x2), some (.int x3), none, none] [.int t0, .ref (ad 0)] := by
                          intro t0 σ621 hf
                          unfold f_X7_carried_b621 at hf
                          refine pM_RX7_34_0 B (pc := 621) dX7_carried_621 hf (fun s7 hf => ?_)
                          refine r_aload_n B (pc := 624) dX7_carried_624 rfl rfl ?_
                          refine r_iload_n B (pc := 625) dX7_carried_625 rfl rfl ?_
                          have k644 : ∀ (t0 : Int32) (σ644 : St), f_X7_carried_b644 x1 x2 x3 t0 σ644 = some (r, τ) → MW X (wM ad K σ644) 644 [some (.ref (ad 0)), some (.int x1), none, none, none, none] [.int t0, .ref (ad 0)] := by
                            intro t0 σ644 hf
                            unfold f_X7_carried_b644 at hf
                            refine pM_RX7_105_0 B (pc := 644) dX7_carried_644 hf (fun s8 hf => ?_)
                            refine r_iload_n B (pc := 647) dX7_carried_647 rfl rfl ?_
                            refine r_sipush B (pc := 648) dX7_carried_648 ks_1626 ?_
                            refine r_icmp_ne B (pc := 651) (tgt := 661) dX7_carried_651 (by decide) hf (fun _ hf => ?_) (fun _ hf => ?_)
                            · refine r_iload_n B (pc := 661) dX7_carried_661 rfl rfl ?_
                              refine r_sipush B (pc := 662) dX7_carried_662 ks_1627 ?_
                              refine r_icmp_ne B (pc := 665) (tgt := 675) dX7_carried_665 (by decide) hf (fun _ hf => ?_) (fun _ hf => ?_)
                              · refine r_iload_n B (pc := 675) dX7_carried_675 rfl rfl ?_
                                refine r_sipush B (pc := 676) dX7_carried_676 ks_1628 ?_
                                refine r_icmp_ne B (pc := 679) (tgt := 689) dX7_carried_679 (by decide) hf (fun _ hf => ?_) (fun _ hf => ?_)
                                · refine r_iload_n B (pc := 689) dX7_carried_689 rfl rfl ?_
                                  refine r_sipush B (pc := 690) dX7_carried_690 ks_1629 ?_
                                  refine r_icmp_ne B (pc := 693) (tgt := 703) dX7_carried_693 (by decide) hf (fun _ hf => ?_) (fun _ hf => ?_)
                                  · refine r_iload_n B (pc := 703) dX7_carried_703 rfl rfl ?_
                                    refine r_sipush B (pc := 704) dX7_carried_704 ks_1630 ?_
                                    refine r_icmp_ne B (pc := 707) (tgt := 717) dX7_carried_707 (by decide) hf (fun _ hf => ?_) (fun _ hf => ?_)
                                    · refine r_iload_n B (pc := 717) dX7_carried_717 rfl rfl ?_
                                      refine r_sipush B (pc := 718) dX7_carried_718 ks_1631 ?_
                                      refine r_icmp_ne B (pc := 721) (tgt := 731) dX7_carried_721 (by decide) hf (fun _ hf => ?_) (fun _ hf => ?_)
                                      · refine r_iload_n B (pc := 731) dX7_carried_731 rfl rfl ?_
                                        refine r_sipush B (pc := 732) dX7_carried_732 ks_1632 ?_
                                        refine r_icmp_ne B (pc := 735) (tgt := 745) dX7_carried_735 (by decide) hf (fun _ hf => ?_) (fun _ hf => ?_)
                                        · refine r_aload_n B (pc := 745) dX7_carried_745 rfl rfl ?_
                                          refine gM_RX7_105_0 B (pc := 746) dX7_carried_746 ?_
                                          exact e_pz (F := (wM ad K)) hf (nar_i _) (RET 749 _ dX7_carried_749)
                                        · refine r_aload_n B (pc := 738) dX7_carried_738 rfl rfl ?_
                                          refine gM_RX7_34_0 B (pc := 739) dX7_carried_739 ?_
                                          refine r_goto B (pc := 742) (tgt := 749) dX7_carried_742 (by decide) ?_
                                          exact e_pz (F := (wM ad K)) hf (nar_i _) (RET 749 _ dX7_carried_749)
                                      · refine r_aload_n B (pc := 724) dX7_carried_724 rfl rfl ?_
                                        refine gM_RX7_133_0 B (pc := 725) dX7_carried_725 ?_
                                        refine r_goto B (pc := 728) (tgt := 749) dX7_carried_728 (by decide) ?_
                                        exact e_pz (F := (wM ad K)) hf (nar_i _) (RET 749 _ dX7_carried_749)
                                    · refine r_aload_n B (pc := 710) dX7_carried_710 rfl rfl ?_
                                      refine gM_RX7_130_0 B (pc := 711) dX7_carried_711 ?_
                                      refine r_goto B (pc := 714) (tgt := 749) dX7_carried_714 (by decide) ?_
                                      exact e_pz (F := (wM ad K)) hf (nar_i _) (RET 749 _ dX7_carried_749)
                                  · refine r_aload_n B (pc := 696) dX7_carried_696 rfl rfl ?_
                                    refine gM_RX7_110_0 B (pc := 697) dX7_carried_697 ?_
                                    refine r_goto B (pc := 700) (tgt := 749) dX7_carried_700 (by decide) ?_
                                    exact e_pz (F := (wM ad K)) hf (nar_i _) (RET 749 _ dX7_carried_749)
                                · refine r_aload_n B (pc := 682) dX7_carried_682 rfl rfl ?_
                                  refine gM_RX7_88_0 B (pc := 683) dX7_carried_683 ?_
                                  refine r_goto B (pc := 686) (tgt := 749) dX7_carried_686 (by decide) ?_
                                  exact e_pz (F := (wM ad K)) hf (nar_i _) (RET 749 _ dX7_carried_749)
                              · refine r_aload_n B (pc := 668) dX7_carried_668 rfl rfl ?_
                                refine gM_RX7_85_0 B (pc := 669) dX7_carried_669 ?_
                                refine r_goto B (pc := 672) (tgt := 749) dX7_carried_672 (by decide) ?_
                                exact e_pz (F := (wM ad K)) hf (nar_i _) (RET 749 _ dX7_carried_749)
                            · refine r_aload_n B (pc := 654) dX7_carried_654 rfl rfl ?_
                              refine gM_RX7_78_0 B (pc := 655) dX7_carried_655 ?_
                              refine r_goto B (pc := 658) (tgt := 749) dX7_carried_658 (by decide) ?_
                              exact e_pz (F := (wM ad K)) hf (nar_i _) (RET 749 _ dX7_carried_749)
                          refine r_if_eq B (pc := 626) (tgt := 640) dX7_carried_626 (by decide) hf (fun _ hf => ?_) (fun _ hf => ?_)
                          · refine r_aload_n B (pc := 640) dX7_carried_640 rfl rfl ?_
                            refine gM_RX7_105_0 B (pc := 641) dX7_carried_641 ?_
                            exact r_mask [true, true, false, false, false, false] rfl (k644 (s7.1 0 17) s7 hf)
                          · refine r_iload_n B (pc := 629) dX7_carried_629 rfl rfl ?_
                            refine r_sipush B (pc := 630) dX7_carried_630 ks_1633 ?_
                            refine r_icmp_ne B (pc := 633) (tgt := 640) dX7_carried_633 (by decide) hf (fun _ hf => ?_) (fun _ hf => ?_)
                            · refine r_aload_n B (pc := 640) dX7_carried_640 rfl rfl ?_
                              refine gM_RX7_105_0 B (pc := 641) dX7_carried_641 ?_
                              exact r_mask [true, true, false, false, false, false] rfl (k644 (s7.1 0 17) s7 hf)
                            · refine r_iload_n B (pc := 636) dX7_carried_636 rfl rfl ?_
                              refine r_goto B (pc := 637) (tgt := 644) dX7_carried_637 (by decide) ?_
                              exact r_mask [true, true, false, false, false, false] rfl (k644 x2 s7 hf)
                        refine r_if_eq B (pc := 603) (tgt := 617) dX7_carried_603 (by decide) hf (fun _ hf => ?_) (fun _ hf => ?_)
                        · refine r_aload_n B (pc := 617) dX7_carried_617 rfl rfl ?_
                          refine gM_RX7_34_0 B (pc := 618) dX7_carried_618 ?_
                          exact r_mask [true, true, true, true, false, false] rfl (k621 (s6.1 0 14) s6 hf)
                        · refine r_iload_n B (pc := 606) dX7_carried_606 rfl rfl ?_
                          refine r_sipush B (pc := 607) dX7_carried_607 ks_1632 ?_
                          refine r_icmp_ne B (pc := 610) (tgt := 617) dX7_carried_610 (by decide) hf (fun _ hf => ?_) (fun _ hf => ?_)
                          · refine r_aload_n B (pc := 617) dX7_carried_617 rfl rfl ?_
                            refine gM_RX7_34_0 B (pc := 618) dX7_carried_618 ?_
                            exact r_mask [true, true, true, true, false, false] rfl (k621 (s6.1 0 14) s6 hf)
                          · refine r_iload_n B (pc := 613) dX7_carried_613 rfl rfl ?_
                            refine r_goto B (pc := 614) (tgt := 621) dX7_carried_614 (by decide) ?_
                            exact r_mask [true, true, true, true, false, false] rfl (k621 x2 s6 hf)
                      refine r_if_eq B (pc := 580) (tgt := 594) dX7_carried_580 (by decide) hf (fun _ hf => ?_) (fun _ hf => ?_)
                      · refine r_aload_n B (pc := 594) dX7_carried_594 rfl rfl ?_
                        refine gM_RX7_133_0 B (pc := 595) dX7_carried_595 ?_
                        exact r_mask [true, true, true, true, false, false] rfl (k598 (s5.1 0 13) s5 hf)
                      · refine r_iload_n B (pc := 583) dX7_carried_583 rfl rfl ?_
                        refine r_sipush B (pc := 584) dX7_carried_584 ks_1631 ?_
                        refine r_icmp_ne B (pc := 587) (tgt := 594) dX7_carried_587 (by decide) hf (fun _ hf => ?_) (fun _ hf => ?_)
                        · refine r_aload_n B (pc := 594) dX7_carried_594 rfl rfl ?_
                          refine gM_RX7_133_0 B (pc := 595) dX7_carried_595 ?_
                          exact r_mask [true, true, true, true, false, false] rfl (k598 (s5.1 0 13) s5 hf)
                        · refine r_iload_n B (pc := 590) dX7_carried_590 rfl rfl ?_
                          refine r_goto B (pc := 591) (tgt := 598) dX7_carried_591 (by decide) ?_
                          exact r_mask [true, true, true, true, false, false] rfl (k598 x2 s5 hf)
                    refine r_if_eq B (pc := 557) (tgt := 571) dX7_carried_557 (by decide) hf (fun _ hf => ?_) (fun _ hf => ?_)
                    · refine r_aload_n B (pc := 571) dX7_carried_571 rfl rfl ?_
                      refine gM_RX7_130_0 B (pc := 572) dX7_carried_572 ?_
                      exact r_mask [true, true, true, true, false, false] rfl (k575 (s4.1 0 11) s4 hf)
                    · refine r_iload_n B (pc := 560) dX7_carried_560 rfl rfl ?_
                      refine r_sipush B (pc := 561) dX7_carried_561 ks_1630 ?_
                      refine r_icmp_ne B (pc := 564) (tgt := 571) dX7_carried_564 (by decide) hf (fun _ hf => ?_) (fun _ hf => ?_)
                      · refine r_aload_n B (pc := 571) dX7_carried_571 rfl rfl ?_
                        refine gM_RX7_130_0 B (pc := 572) dX7_carried_572 ?_
                        exact r_mask [true, true, true, true, false, false] rfl (k575 (s4.1 0 11) s4 hf)
                      · refine r_iload_n B (pc := 567) dX7_carried_567 rfl rfl ?_
                        refine r_goto B (pc := 568) (tgt := 575) dX7_carried_568 (by decide) ?_
                        exact r_mask [true, true, true, true, false, false] rfl (k575 x2 s4 hf)
                  refine r_if_eq B (pc := 534) (tgt := 548) dX7_carried_534 (by decide) hf (fun _ hf => ?_) (fun _ hf => ?_)
                  · refine r_aload_n B (pc := 548) dX7_carried_548 rfl rfl ?_
                    refine gM_RX7_110_0 B (pc := 549) dX7_carried_549 ?_
                    exact r_mask [true, true, true, true, false, false] rfl (k552 (s3.1 0 7) s3 hf)
                  · refine r_iload_n B (pc := 537) dX7_carried_537 rfl rfl ?_
                    refine r_sipush B (pc := 538) dX7_carried_538 ks_1629 ?_
                    refine r_icmp_ne B (pc := 541) (tgt := 548) dX7_carried_541 (by decide) hf (fun _ hf => ?_) (fun _ hf => ?_)
                    · refine r_aload_n B (pc := 548) dX7_carried_548 rfl rfl ?_
                      refine gM_RX7_110_0 B (pc := 549) dX7_carried_549 ?_
                      exact r_mask [true, true, true, true, false, false] rfl (k552 (s3.1 0 7) s3 hf)
                    · refine r_iload_n B (pc := 544) dX7_carried_544 rfl rfl ?_
                      refine r_goto B (pc := 545) (tgt := 552) dX7_carried_545 (by decide) ?_
                      exact r_mask [true, true, true, true, false, false] rfl (k552 x2 s3 hf)
                refine r_if_eq B (pc := 511) (tgt := 525) dX7_carried_511 (by decide) hf (fun _ hf => ?_) (fun _ hf => ?_)
                · refine r_aload_n B (pc := 525) dX7_carried_525 rfl rfl ?_
                  refine gM_RX7_88_0 B (pc := 526) dX7_carried_526 ?_
                  exact r_mask [true, true, true, true, false, false] rfl (k529 (s2.1 0 10) s2 hf)
                · refine r_iload_n B (pc := 514) dX7_carried_514 rfl rfl ?_
                  refine r_sipush B (pc := 515) dX7_carried_515 ks_1628 ?_
                  refine r_icmp_ne B (pc := 518) (tgt := 525) dX7_carried_518 (by decide) hf (fun _ hf => ?_) (fun _ hf => ?_)
                  · refine r_aload_n B (pc := 525) dX7_carried_525 rfl rfl ?_
                    refine gM_RX7_88_0 B (pc := 526) dX7_carried_526 ?_
                    exact r_mask [true, true, true, true, false, false] rfl (k529 (s2.1 0 10) s2 hf)
                  · refine r_iload_n B (pc := 521) dX7_carried_521 rfl rfl ?_
                    refine r_goto B (pc := 522) (tgt := 529) dX7_carried_522 (by decide) ?_
                    exact r_mask [true, true, true, true, false, false] rfl (k529 x2 s2 hf)
              refine r_if_eq B (pc := 488) (tgt := 502) dX7_carried_488 (by decide) hf (fun _ hf => ?_) (fun _ hf => ?_)
              · refine r_aload_n B (pc := 502) dX7_carried_502 rfl rfl ?_
                refine gM_RX7_85_0 B (pc := 503) dX7_carried_503 ?_
                exact r_mask [true, true, true, true, false, false] rfl (k506 (s1.1 0 8) s1 hf)
              · refine r_iload_n B (pc := 491) dX7_carried_491 rfl rfl ?_
                refine r_sipush B (pc := 492) dX7_carried_492 ks_1627 ?_
                refine r_icmp_ne B (pc := 495) (tgt := 502) dX7_carried_495 (by decide) hf (fun _ hf => ?_) (fun _ hf => ?_)
                · refine r_aload_n B (pc := 502) dX7_carried_502 rfl rfl ?_
                  refine gM_RX7_85_0 B (pc := 503) dX7_carried_503 ?_
                  exact r_mask [true, true, true, true, false, false] rfl (k506 (s1.1 0 8) s1 hf)
                · refine r_iload_n B (pc := 498) dX7_carried_498 rfl rfl ?_
                  refine r_goto B (pc := 499) (tgt := 506) dX7_carried_499 (by decide) ?_
                  exact r_mask [true, true, true, true, false, false] rfl (k506 x2 s1 hf)
            refine r_if_eq B (pc := 465) (tgt := 479) dX7_carried_465 (by decide) hf (fun _ hf => ?_) (fun _ hf => ?_)
            · refine r_aload_n B (pc := 479) dX7_carried_479 rfl rfl ?_
              refine gM_RX7_78_0 B (pc := 480) dX7_carried_480 ?_
              exact r_mask [true, true, true, true, false, false] rfl (k483 (σ.1 0 3) σ hf)
            · refine r_iload_n B (pc := 468) dX7_carried_468 rfl rfl ?_
              refine r_sipush B (pc := 469) dX7_carried_469 ks_1626 ?_
              refine r_icmp_ne B (pc := 472) (tgt := 479) dX7_carried_472 (by decide) hf (fun _ hf => ?_) (fun _ hf => ?_)
              · refine r_aload_n B (pc := 479) dX7_carried_479 rfl rfl ?_
                refine gM_RX7_78_0 B (pc := 480) dX7_carried_480 ?_
                exact r_mask [true, true, true, true, false, false] rfl (k483 (σ.1 0 3) σ hf)
              · refine r_iload_n B (pc := 475) dX7_carried_475 rfl rfl ?_
                refine r_goto B (pc := 476) (tgt := 483) dX7_carried_476 (by decide) ?_
                exact r_mask [true, true, true, true, false, false] rfl (k483 x2 σ hf)
          · refine r_aload_n B (pc := 424) dX7_carried_424 rfl rfl ?_
            refine gM_RX7_41_0 B (pc := 425) dX7_carried_425 ?_
            refine r_iload_n B (pc := 428) dX7_carried_428 rfl rfl ?_
            refine r_sipush B (pc := 429) dX7_carried_429 ks_216 ?_
            refine r_isub B (pc := 432) dX7_carried_432 ?_
            refine r_iload_n B (pc := 433) dX7_carried_433 rfl rfl ?_
            have k451 : ∀ (t0 : Int32) (t1 : Int32) (σ451 : St), f_X7_carried_b451 x1 x2 x3 t0 t1 σ451 = some (r, τ) → MW X (wM ad K σ451) 451 [some (.ref (ad 0)), some (.int x1), none, none, none, none] [.int t0, .int t1, .ref (ad 10)] := by
              intro t0 t1 σ451 hf
              unfold f_X7_carried_b451 at hf
              refine astM_10 B (pc := 451) dX7_carried_451 hf (fun s9 _ hf => ?_)
              refine r_aload_n B (pc := 452) dX7_carried_452 rfl rfl ?_
              refine gM_RX7_41_0 B (pc := 453) dX7_carried_453 ?_
              refine r_iload_n B (pc := 456) dX7_carried_456 rfl rfl ?_
              refine r_sipush B (pc := 457) dX7_carried_457 ks_216 ?_
              refine r_isub B (pc := 460) dX7_carried_460 ?_
              refine aldM_10 B (pc := 461) dX7_carried_461 hf (fun _ hf => ?_)
              exact e_pz (F := (wM ad K)) hf (nar_i _) (RET 462 _ dX7_carried_462)
            refine r_if_eq B (pc := 434) (tgt := 441) dX7_carried_434 (by decide) hf (fun _ hf => ?_) (fun _ hf => ?_)
            · refine r_aload_n B (pc := 441) dX7_carried_441 rfl rfl ?_
              refine gM_RX7_41_0 B (pc := 442) dX7_carried_442 ?_
              refine r_iload_n B (pc := 445) dX7_carried_445 rfl rfl ?_
              refine r_sipush B (pc := 446) dX7_carried_446 ks_216 ?_
              refine r_isub B (pc := 449) dX7_carried_449 ?_
              refine aldM_10 B (pc := 450) dX7_carried_450 hf (fun _ hf => ?_)
              exact r_mask [true, true, false, false, false, false] rfl (k451 (σ.1 10 (ix (x1 - 216))) (x1 - 216) σ hf)
            · refine r_iload_n B (pc := 437) dX7_carried_437 rfl rfl ?_
              refine r_goto B (pc := 438) (tgt := 451) dX7_carried_438 (by decide) ?_
              exact r_mask [true, true, false, false, false, false] rfl (k451 x2 (x1 - 216) σ hf)
        · refine r_aload_n B (pc := 381) dX7_carried_381 rfl rfl ?_
          refine gM_RX7_38_0 B (pc := 382) dX7_carried_382 ?_
          refine r_iload_n B (pc := 385) dX7_carried_385 rfl rfl ?_
          refine r_bipush B (pc := 386) dX7_carried_386 kb_75 ?_
          refine r_isub B (pc := 388) dX7_carried_388 ?_
          refine r_iload_n B (pc := 389) dX7_carried_389 rfl rfl ?_
          have k406 : ∀ (t0 : Int32) (t1 : Int32) (σ406 : St), f_X7_carried_b406 x1 x2 x3 t0 t1 σ406 = some (r, τ) → MW X (wM ad K σ406) 406 [some (.ref (ad 0)), some (.int x1), none, none, none, none] [.int t0, .int t1, .ref (ad 9)] := by
            intro t0 t1 σ406 hf
            unfold f_X7_carried_b406 at hf
            refine astM_9 B (pc := 406) dX7_carried_406 hf (fun s10 _ hf => ?_)
            refine r_aload_n B (pc := 407) dX7_carried_407 rfl rfl ?_
            refine gM_RX7_38_0 B (pc := 408) dX7_carried_408 ?_
            refine r_iload_n B (pc := 411) dX7_carried_411 rfl rfl ?_
            refine r_bipush B (pc := 412) dX7_carried_412 kb_75 ?_
            refine r_isub B (pc := 414) dX7_carried_414 ?_
            refine aldM_9 B (pc := 415) dX7_carried_415 hf (fun _ hf => ?_)
            exact e_pz (F := (wM ad K)) hf (nar_i _) (RET 416 _ dX7_carried_416)
          refine r_if_eq B (pc := 390) (tgt := 397) dX7_carried_390 (by decide) hf (fun _ hf => ?_) (fun _ hf => ?_)
          · refine r_aload_n B (pc := 397) dX7_carried_397 rfl rfl ?_
            refine gM_RX7_38_0 B (pc := 398) dX7_carried_398 ?_
            refine r_iload_n B (pc := 401) dX7_carried_401 rfl rfl ?_
            refine r_bipush B (pc := 402) dX7_carried_402 kb_75 ?_
            refine r_isub B (pc := 404) dX7_carried_404 ?_
            refine aldM_9 B (pc := 405) dX7_carried_405 hf (fun _ hf => ?_)
            exact r_mask [true, true, false, false, false, false] rfl (k406 (σ.1 9 (ix (x1 - 75))) (x1 - 75) σ hf)
          · refine r_iload_n B (pc := 393) dX7_carried_393 rfl rfl ?_
            refine r_goto B (pc := 394) (tgt := 406) dX7_carried_394 (by decide) ?_
            exact r_mask [true, true, false, false, false, false] rfl (k406 x2 (x1 - 75) σ hf)
      · refine r_iload_n B (pc := 296) dX7_carried_296 rfl rfl ?_
        refine r_bipush B (pc := 297) dX7_carried_297 kb_66 ?_
        refine r_isub B (pc := 299) dX7_carried_299 ?_
        refine r_nm hf (fun y11 hf => ?_)
        refine r_istore B hnL (pc := 300) dX7_carried_300 (by decide) ?_
        refine r_lc (loc' := [some (.ref (ad 0)), some (.int x1), some (.int x2), some (.int x3), some (.int y11), none]) rfl ?_
        refine r_iload B (pc := 302) dX7_carried_302 rfl ?_
        refine r_iconst B (pc := 304) dX7_carried_304 kc_4 ?_
        refine r_icmp_ge B (pc := 305) (tgt := 338) dX7_carried_305 (by decide) hf (fun _ hf => ?_) (fun _ hf => ?_)
        · refine r_aload_n B (pc := 338) dX7_carried_338 rfl rfl ?_
          refine gM_RX7_31_0 B (pc := 339) dX7_carried_339 ?_
          refine r_iload B (pc := 342) dX7_carried_342 rfl ?_
          refine r_iconst B (pc := 344) dX7_carried_344 kc_4 ?_
          refine r_isub B (pc := 345) dX7_carried_345 ?_
          refine r_iload_n B (pc := 346) dX7_carried_346 rfl rfl ?_
          have k363 : ∀ (v4 : Int32) (t0 : Int32) (t1 : Int32) (σ363 : St), f_X7_carried_b363 x1 x2 x3 v4 t0 t1 σ363 = some (r, τ) → MW X (wM ad K σ363) 363 [some (.ref (ad 0)), none, none, none, some (.int v4), none] [.int t0, .int t1, .ref (ad 8)] := by
            intro v4 t0 t1 σ363 hf
            unfold f_X7_carried_b363 at hf
            refine astM_8 B (pc := 363) dX7_carried_363 hf (fun s12 _ hf => ?_)
            refine r_aload_n B (pc := 364) dX7_carried_364 rfl rfl ?_
            refine gM_RX7_31_0 B (pc := 365) dX7_carried_365 ?_
            refine r_iload B (pc := 368) dX7_carried_368 rfl ?_
            refine r_iconst B (pc := 370) dX7_carried_370 kc_4 ?_
            refine r_isub B (pc := 371) dX7_carried_371 ?_
            refine aldM_8 B (pc := 372) dX7_carried_372 hf (fun _ hf => ?_)
            exact e_pz (F := (wM ad K)) hf (nar_i _) (RET 373 _ dX7_carried_373)
          refine r_if_eq B (pc := 347) (tgt := 354) dX7_carried_347 (by decide) hf (fun _ hf => ?_) (fun _ hf => ?_)
          · refine r_aload_n B (pc := 354) dX7_carried_354 rfl rfl ?_
            refine gM_RX7_31_0 B (pc := 355) dX7_carried_355 ?_
            refine r_iload B (pc := 358) dX7_carried_358 rfl ?_
            refine r_iconst B (pc := 360) dX7_carried_360 kc_4 ?_
            refine r_isub B (pc := 361) dX7_carried_361 ?_
            refine aldM_8 B (pc := 362) dX7_carried_362 hf (fun _ hf => ?_)
            exact r_mask [true, false, false, false, true, false] rfl (k363 y11 (σ.1 8 (ix (y11 - 4))) (y11 - 4) σ hf)
          · refine r_iload_n B (pc := 350) dX7_carried_350 rfl rfl ?_
            refine r_goto B (pc := 351) (tgt := 363) dX7_carried_351 (by decide) ?_
            exact r_mask [true, false, false, false, true, false] rfl (k363 y11 x2 (y11 - 4) σ hf)
        · refine r_aload_n B (pc := 308) dX7_carried_308 rfl rfl ?_
          refine gM_RX7_28_0 B (pc := 309) dX7_carried_309 ?_
          refine r_iload B (pc := 312) dX7_carried_312 rfl ?_
          refine r_iload_n B (pc := 314) dX7_carried_314 rfl rfl ?_
          have k329 : ∀ (v4 : Int32) (t0 : Int32) (t1 : Int32) (σ329 : St), f_X7_carried_b329 x1 x2 x3 v4 t0 t1 σ329 = some (r, τ) → MW X (wM ad K σ329) 329 [some (.ref (ad 0)), none, none, none, some (.int v4), none] [.int t0, .int t1, .ref (ad 7)] := by
            intro v4 t0 t1 σ329 hf
            unfold f_X7_carried_b329 at hf
            refine astM_7 B (pc := 329) dX7_carried_329 hf (fun s13 _ hf => ?_)
            refine r_aload_n B (pc := 330) dX7_carried_330 rfl rfl ?_
            refine gM_RX7_28_0 B (pc := 331) dX7_carried_331 ?_
            refine r_iload B (pc := 334) dX7_carried_334 rfl ?_
            refine aldM_7 B (pc := 336) dX7_carried_336 hf (fun _ hf => ?_)
            exact e_pz (F := (wM ad K)) hf (nar_i _) (RET 337 _ dX7_carried_337)
          refine r_if_eq B (pc := 315) (tgt := 322) dX7_carried_315 (by decide) hf (fun _ hf => ?_) (fun _ hf => ?_)
          · refine r_aload_n B (pc := 322) dX7_carried_322 rfl rfl ?_
            refine gM_RX7_28_0 B (pc := 323) dX7_carried_323 ?_
            refine r_iload B (pc := 326) dX7_carried_326 rfl ?_
            refine aldM_7 B (pc := 328) dX7_carried_328 hf (fun _ hf => ?_)
            exact r_mask [true, false, false, false, true, false] rfl (k329 y11 (σ.1 7 (ix y11)) y11 σ hf)
          · refine r_iload_n B (pc := 318) dX7_carried_318 rfl rfl ?_
            refine r_goto B (pc := 319) (tgt := 329) dX7_carried_319 (by decide) ?_
            exact r_mask [true, false, false, false, true, false] rfl (k329 y11 x2 y11 σ hf)
    · refine r_iload_n B (pc := 150) dX7_carried_150 rfl rfl ?_
      refine r_bipush B (pc := 151) dX7_carried_151 kb_30 ?_
      refine r_isub B (pc := 153) dX7_carried_153 ?_
      refine r_bipush B (pc := 154) dX7_carried_154 kb_12 ?_
      refine r_irem B (pc := 156) dX7_carried_156 (by decide) ?_
      refine r_nm hf (fun y14 hf => ?_)
      refine r_istore B hnL (pc := 157) dX7_carried_157 (by decide) ?_
      refine r_lc (loc' := [some (.ref (ad 0)), some (.int x1), some (.int x2), some (.int x3), some (.int y14), none]) rfl ?_
      refine r_iload_n B (pc := 159) dX7_carried_159 rfl rfl ?_
      refine r_bipush B (pc := 160) dX7_carried_160 kb_30 ?_
      refine r_isub B (pc := 162) dX7_carried_162 ?_
      refine r_bipush B (pc := 163) dX7_carried_163 kb_12 ?_
      refine r_idiv B (pc := 165) dX7_carried_165 (by decide) ?_
      refine r_nm hf (fun y15 hf => ?_)
      refine r_istore B hnL (pc := 166) dX7_carried_166 (by decide) ?_
      refine r_lc (loc' := [some (.ref (ad 0)), some (.int x1), some (.int x2), some (.int x3), some (.int y14), some (.int y15)]) rfl ?_
      refine r_aload_n B (pc := 168) dX7_carried_168 rfl rfl ?_
      refine gM_RX7_19_0 B (pc := 169) dX7_carried_169 ?_
      refine r_iload B (pc := 172) dX7_carried_172 rfl ?_
      refine r_iload_n B (pc := 174) dX7_carried_174 rfl rfl ?_
      have k194 : ∀ (v4 : Int32) (v5 : Int32) (t0 : Int32) (t1 : Int32) (σ194 : St), f_X7_carried_b194 x1 x2 x3 v4 v5 t0 t1 σ194 = some (r, τ) → MW X (wM ad K σ194) 194 [some (.ref (ad 0)), none, some (.int x2), some (.int x3), some (.int v4), some (.int v5)] [.int t0, .int t1, .ref (ad 4)] := by
        intro v4 v5 t0 t1 σ194 hf
        unfold f_X7_carried_b194 at hf
        refine astM_4 B (pc := 194) dX7_carried_194 hf (fun s16 _ hf => ?_)
        refine r_aload_n B (pc := 195) dX7_carried_195 rfl rfl ?_
        refine gM_RX7_22_0 B (pc := 196) dX7_carried_196 ?_
        refine r_iload B (pc := 199) dX7_carried_199 rfl ?_
        refine r_iload_n B (pc := 201) dX7_carried_201 rfl rfl ?_
        have k222 : ∀ (v4 : Int32) (v5 : Int32) (t0 : Int32) (t1 : Int32) (σ222 : St), f_X7_carried_b222 x1 x2 x3 v4 v5 t0 t1 σ222 = some (r, τ) → MW X (wM ad K σ222) 222 [some (.ref (ad 0)), none, some (.int x2), some (.int x3), some (.int v4), some (.int v5)] [.int t0, .int t1, .ref (ad 5)] := by
          intro v4 v5 t0 t1 σ222 hf
          unfold f_X7_carried_b222 at hf
          refine astM_5 B (pc := 222) dX7_carried_222 hf (fun s17 _ hf => ?_)
          refine r_aload_n B (pc := 223) dX7_carried_223 rfl rfl ?_
          refine gM_RX7_25_0 B (pc := 224) dX7_carried_224 ?_
          refine r_iload B (pc := 227) dX7_carried_227 rfl ?_
          refine r_iload_n B (pc := 229) dX7_carried_229 rfl rfl ?_
          have k250 : ∀ (v4 : Int32) (v5 : Int32) (t0 : Int32) (t1 : Int32) (σ250 : St), f_X7_carried_b250 x1 x2 x3 v4 v5 t0 t1 σ250 = some (r, τ) → MW X (wM ad K σ250) 250 [some (.ref (ad 0)), none, none, none, some (.int v4), some (.int v5)] [.int t0, .int t1, .ref (ad 6)] := by
            intro v4 v5 t0 t1 σ250 hf
            unfold f_X7_carried_b250 at hf
            refine astM_6 B (pc := 250) dX7_carried_250 hf (fun s18 _ hf => ?_)
            refine r_iload B (pc := 251) dX7_carried_251 rfl ?_
            refine r_if_ne B (pc := 253) (tgt := 266) dX7_carried_253 (by decide) hf (fun _ hf => ?_) (fun _ hf => ?_)
            · refine r_iload B (pc := 266) dX7_carried_266 rfl ?_
              refine r_iconst B (pc := 268) dX7_carried_268 kc_1 ?_
              refine r_icmp_ne B (pc := 269) (tgt := 282) dX7_carried_269 (by decide) hf (fun _ hf => ?_) (fun _ hf => ?_)
              · refine r_aload_n B (pc := 282) dX7_carried_282 rfl rfl ?_
                refine gM_RX7_25_0 B (pc := 283) dX7_carried_283 ?_
                refine r_iload B (pc := 286) dX7_carried_286 rfl ?_
                refine aldM_6 B (pc := 288) dX7_carried_288 hf (fun _ hf => ?_)
                exact e_pz (F := (wM ad K)) hf (nar_i _) (RET 289 _ dX7_carried_289)
              · refine r_aload_n B (pc := 272) dX7_carried_272 rfl rfl ?_
                refine gM_RX7_22_0 B (pc := 273) dX7_carried_273 ?_
                refine r_iload B (pc := 276) dX7_carried_276 rfl ?_
                refine aldM_5 B (pc := 278) dX7_carried_278 hf (fun _ hf => ?_)
                refine r_goto B (pc := 279) (tgt := 289) dX7_carried_279 (by decide) ?_
                exact e_pz (F := (wM ad K)) hf (nar_i _) (RET 289 _ dX7_carried_289)
            · refine r_aload_n B (pc := 256) dX7_carried_256 rfl rfl ?_
              refine gM_RX7_19_0 B (pc := 257) dX7_carried_257 ?_
              refine r_iload B (pc := 260) dX7_carried_260 rfl ?_
              refine aldM_4 B (pc := 262) dX7_carried_262 hf (fun _ hf => ?_)
              refine r_goto B (pc := 263) (tgt := 289) dX7_carried_263 (by decide) ?_
              exact e_pz (F := (wM ad K)) hf (nar_i _) (RET 289 _ dX7_carried_289)
          have k243 : ∀ (v4 : Int32) (v5 : Int32) (t0 : Int32) (σ243 : St), f_X7_carried_b243 x1 x2 x3 v4 v5 t0 σ243 = some (r, τ) → MW X (wM ad K σ243) 243 [some (.ref (ad 0)), none, none, none, some (.int v4), some (.int v5)] [.int t0, .ref (ad 6)] := by
            intro v4 v5 t0 σ243 hf
            unfold f_X7_carried_b243 at hf
            refine r_aload_n B (pc := 243) dX7_carried_243 rfl rfl ?_
            refine gM_RX7_25_0 B (pc := 244) dX7_carried_244 ?_
            refine r_iload B (pc := 247) dX7_carried_247 rfl ?_
            refine aldM_6 B (pc := 249) dX7_carried_249 hf (fun _ hf => ?_)
            exact r_mask [true, false, false, false, true, true] rfl (k250 v4 v5 (σ243.1 6 (ix v4)) t0 σ243 hf)
          refine r_if_eq B (pc := 230) (tgt := 243) dX7_carried_230 (by decide) hf (fun _ hf => ?_) (fun _ hf => ?_)
          · exact r_mask [true, false, false, false, true, true] rfl (k243 v4 v5 v4 s17 hf)
          · refine r_iload B (pc := 233) dX7_carried_233 rfl ?_
            refine r_iconst B (pc := 235) dX7_carried_235 kc_2 ?_
            refine r_icmp_ne B (pc := 236) (tgt := 243) dX7_carried_236 (by decide) hf (fun _ hf => ?_) (fun _ hf => ?_)
            · exact r_mask [true, false, false, false, true, true] rfl (k243 v4 v5 v4 s17 hf)
            · refine r_iload_n B (pc := 239) dX7_carried_239 rfl rfl ?_
              refine r_goto B (pc := 240) (tgt := 250) dX7_carried_240 (by decide) ?_
              exact r_mask [true, false, false, false, true, true] rfl (k250 v4 v5 x2 v4 s17 hf)
        have k215 : ∀ (v4 : Int32) (v5 : Int32) (t0 : Int32) (σ215 : St), f_X7_carried_b215 x1 x2 x3 v4 v5 t0 σ215 = some (r, τ) → MW X (wM ad K σ215) 215 [some (.ref (ad 0)), none, some (.int x2), some (.int x3), some (.int v4), some (.int v5)] [.int t0, .ref (ad 5)] := by
          intro v4 v5 t0 σ215 hf
          unfold f_X7_carried_b215 at hf
          refine r_aload_n B (pc := 215) dX7_carried_215 rfl rfl ?_
          refine gM_RX7_22_0 B (pc := 216) dX7_carried_216 ?_
          refine r_iload B (pc := 219) dX7_carried_219 rfl ?_
          refine aldM_5 B (pc := 221) dX7_carried_221 hf (fun _ hf => ?_)
          exact r_mask [true, false, true, true, true, true] rfl (k222 v4 v5 (σ215.1 5 (ix v4)) t0 σ215 hf)
        refine r_if_eq B (pc := 202) (tgt := 215) dX7_carried_202 (by decide) hf (fun _ hf => ?_) (fun _ hf => ?_)
        · exact r_mask [true, false, true, true, true, true] rfl (k215 v4 v5 v4 s16 hf)
        · refine r_iload B (pc := 205) dX7_carried_205 rfl ?_
          refine r_iconst B (pc := 207) dX7_carried_207 kc_1 ?_
          refine r_icmp_ne B (pc := 208) (tgt := 215) dX7_carried_208 (by decide) hf (fun _ hf => ?_) (fun _ hf => ?_)
          · exact r_mask [true, false, true, true, true, true] rfl (k215 v4 v5 v4 s16 hf)
          · refine r_iload_n B (pc := 211) dX7_carried_211 rfl rfl ?_
            refine r_goto B (pc := 212) (tgt := 222) dX7_carried_212 (by decide) ?_
            exact r_mask [true, false, true, true, true, true] rfl (k222 v4 v5 x2 v4 s16 hf)
      have k187 : ∀ (v4 : Int32) (v5 : Int32) (t0 : Int32) (σ187 : St), f_X7_carried_b187 x1 x2 x3 v4 v5 t0 σ187 = some (r, τ) → MW X (wM ad K σ187) 187 [some (.ref (ad 0)), none, some (.int x2), some (.int x3), some (.int v4), some (.int v5)] [.int t0, .ref (ad 4)] := by
        intro v4 v5 t0 σ187 hf
        unfold f_X7_carried_b187 at hf
        refine r_aload_n B (pc := 187) dX7_carried_187 rfl rfl ?_
        refine gM_RX7_19_0 B (pc := 188) dX7_carried_188 ?_
        refine r_iload B (pc := 191) dX7_carried_191 rfl ?_
        refine aldM_4 B (pc := 193) dX7_carried_193 hf (fun _ hf => ?_)
        exact r_mask [true, false, true, true, true, true] rfl (k194 v4 v5 (σ187.1 4 (ix v4)) t0 σ187 hf)
      refine r_if_eq B (pc := 175) (tgt := 187) dX7_carried_175 (by decide) hf (fun _ hf => ?_) (fun _ hf => ?_)
      · exact r_mask [true, false, true, true, true, true] rfl (k187 y14 y15 y14 σ hf)
      · refine r_iload B (pc := 178) dX7_carried_178 rfl ?_
        refine r_if_ne B (pc := 180) (tgt := 187) dX7_carried_180 (by decide) hf (fun _ hf => ?_) (fun _ hf => ?_)
        · exact r_mask [true, false, true, true, true, true] rfl (k187 y14 y15 y14 σ hf)
        · refine r_iload_n B (pc := 183) dX7_carried_183 rfl rfl ?_
          refine r_goto B (pc := 184) (tgt := 194) dX7_carried_184 (by decide) ?_
          exact r_mask [true, false, true, true, true, true] rfl (k194 y14 y15 x2 y14 σ hf)
  · refine r_iload_n B (pc := 6) dX7_carried_6 rfl rfl ?_
    refine r_bipush B (pc := 7) dX7_carried_7 kb_10 ?_
    refine r_irem B (pc := 9) dX7_carried_9 (by decide) ?_
    refine r_nm hf (fun y19 hf => ?_)
    refine r_istore B hnL (pc := 10) dX7_carried_10 (by decide) ?_
    refine r_lc (loc' := [some (.ref (ad 0)), some (.int x1), some (.int x2), some (.int x3), some (.int y19), none]) rfl ?_
    refine r_aload_n B (pc := 12) dX7_carried_12 rfl rfl ?_
    refine gM_RX7_7_0 B (pc := 13) dX7_carried_13 ?_
    refine r_iload B (pc := 16) dX7_carried_16 rfl ?_
    refine r_iload_n B (pc := 18) dX7_carried_18 rfl rfl ?_
    have k39 : ∀ (v4 : Int32) (t0 : Int32) (t1 : Int32) (σ39 : St), f_X7_carried_b39 x1 x2 x3 v4 t0 t1 σ39 = some (r, τ) → MW X (wM ad K σ39) 39 [some (.ref (ad 0)), some (.int x1), some (.int x2), some (.int x3), some (.int v4), none] [.int t0, .int t1, .ref (ad 1)] := by
      intro v4 t0 t1 σ39 hf
      unfold f_X7_carried_b39 at hf
      refine astM_1 B (pc := 39) dX7_carried_39 hf (fun s20 _ hf => ?_)
      refine r_aload_n B (pc := 40) dX7_carried_40 rfl rfl ?_
      refine gM_RX7_13_0 B (pc := 41) dX7_carried_41 ?_
      refine r_iload B (pc := 44) dX7_carried_44 rfl ?_
      refine r_iload_n B (pc := 46) dX7_carried_46 rfl rfl ?_
      have k75 : ∀ (v4 : Int32) (t0 : Int32) (t1 : Int32) (σ75 : St), f_X7_carried_b75 x1 x2 x3 v4 t0 t1 σ75 = some (r, τ) → MW X (wM ad K σ75) 75 [some (.ref (ad 0)), some (.int x1), some (.int x2), some (.int x3), some (.int v4), none] [.int t0, .int t1, .ref (ad 2)] := by
        intro v4 t0 t1 σ75 hf
        unfold f_X7_carried_b75 at hf
        refine astM_2 B (pc := 75) dX7_carried_75 hf (fun s21 _ hf => ?_)
        refine r_aload_n B (pc := 76) dX7_carried_76 rfl rfl ?_
        refine gM_RX7_16_0 B (pc := 77) dX7_carried_77 ?_
        refine r_iload B (pc := 80) dX7_carried_80 rfl ?_
        refine r_iload_n B (pc := 82) dX7_carried_82 rfl rfl ?_
        have k103 : ∀ (v4 : Int32) (t0 : Int32) (t1 : Int32) (σ103 : St), f_X7_carried_b103 x1 x2 x3 v4 t0 t1 σ103 = some (r, τ) → MW X (wM ad K σ103) 103 [some (.ref (ad 0)), some (.int x1), none, none, some (.int v4), none] [.int t0, .int t1, .ref (ad 3)] := by
          intro v4 t0 t1 σ103 hf
          unfold f_X7_carried_b103 at hf
          refine astM_3 B (pc := 103) dX7_carried_103 hf (fun s22 _ hf => ?_)
          refine r_iload_n B (pc := 104) dX7_carried_104 rfl rfl ?_
          refine r_bipush B (pc := 105) dX7_carried_105 kb_10 ?_
          refine r_icmp_ge B (pc := 107) (tgt := 120) dX7_carried_107 (by decide) hf (fun _ hf => ?_) (fun _ hf => ?_)
          · refine r_iload_n B (pc := 120) dX7_carried_120 rfl rfl ?_
            refine r_bipush B (pc := 121) dX7_carried_121 kb_20 ?_
            refine r_icmp_ge B (pc := 123) (tgt := 136) dX7_carried_123 (by decide) hf (fun _ hf => ?_) (fun _ hf => ?_)
            · refine r_aload_n B (pc := 136) dX7_carried_136 rfl rfl ?_
              refine gM_RX7_16_0 B (pc := 137) dX7_carried_137 ?_
              refine r_iload B (pc := 140) dX7_carried_140 rfl ?_
              refine aldM_3 B (pc := 142) dX7_carried_142 hf (fun _ hf => ?_)
              exact e_pz (F := (wM ad K)) hf (nar_i _) (RET 143 _ dX7_carried_143)
            · refine r_aload_n B (pc := 126) dX7_carried_126 rfl rfl ?_
              refine gM_RX7_13_0 B (pc := 127) dX7_carried_127 ?_
              refine r_iload B (pc := 130) dX7_carried_130 rfl ?_
              refine aldM_2 B (pc := 132) dX7_carried_132 hf (fun _ hf => ?_)
              refine r_goto B (pc := 133) (tgt := 143) dX7_carried_133 (by decide) ?_
              exact e_pz (F := (wM ad K)) hf (nar_i _) (RET 143 _ dX7_carried_143)
          · refine r_aload_n B (pc := 110) dX7_carried_110 rfl rfl ?_
            refine gM_RX7_7_0 B (pc := 111) dX7_carried_111 ?_
            refine r_iload B (pc := 114) dX7_carried_114 rfl ?_
            refine aldM_1 B (pc := 116) dX7_carried_116 hf (fun _ hf => ?_)
            refine r_goto B (pc := 117) (tgt := 143) dX7_carried_117 (by decide) ?_
            exact e_pz (F := (wM ad K)) hf (nar_i _) (RET 143 _ dX7_carried_143)
        have k96 : ∀ (v4 : Int32) (t0 : Int32) (σ96 : St), f_X7_carried_b96 x1 x2 x3 v4 t0 σ96 = some (r, τ) → MW X (wM ad K σ96) 96 [some (.ref (ad 0)), some (.int x1), none, none, some (.int v4), none] [.int t0, .ref (ad 3)] := by
          intro v4 t0 σ96 hf
          unfold f_X7_carried_b96 at hf
          refine r_aload_n B (pc := 96) dX7_carried_96 rfl rfl ?_
          refine gM_RX7_16_0 B (pc := 97) dX7_carried_97 ?_
          refine r_iload B (pc := 100) dX7_carried_100 rfl ?_
          refine aldM_3 B (pc := 102) dX7_carried_102 hf (fun _ hf => ?_)
          exact r_mask [true, true, false, false, true, false] rfl (k103 v4 (σ96.1 3 (ix v4)) t0 σ96 hf)
        refine r_if_eq B (pc := 83) (tgt := 96) dX7_carried_83 (by decide) hf (fun _ hf => ?_) (fun _ hf => ?_)
        · exact r_mask [true, true, false, false, true, false] rfl (k96 v4 v4 s21 hf)
        · refine r_iload_n B (pc := 86) dX7_carried_86 rfl rfl ?_
          refine r_bipush B (pc := 87) dX7_carried_87 kb_20 ?_
          refine r_icmp_lt B (pc := 89) (tgt := 96) dX7_carried_89 (by decide) hf (fun _ hf => ?_) (fun _ hf => ?_)
          · exact r_mask [true, true, false, false, true, false] rfl (k96 v4 v4 s21 hf)
          · refine r_iload_n B (pc := 92) dX7_carried_92 rfl rfl ?_
            refine r_goto B (pc := 93) (tgt := 103) dX7_carried_93 (by decide) ?_
            exact r_mask [true, true, false, false, true, false] rfl (k103 v4 x2 v4 s21 hf)
      have k68 : ∀ (v4 : Int32) (t0 : Int32) (σ68 : St), f_X7_carried_b68 x1 x2 x3 v4 t0 σ68 = some (r, τ) → MW X (wM ad K σ68) 68 [some (.ref (ad 0)), some (.int x1), some (.int x2), some (.int x3), some (.int v4), none] [.int t0, .ref (ad 2)] := by
        intro v4 t0 σ68 hf
        unfold f_X7_carried_b68 at hf
        refine r_aload_n B (pc := 68) dX7_carried_68 rfl rfl ?_
        refine gM_RX7_13_0 B (pc := 69) dX7_carried_69 ?_
        refine r_iload B (pc := 72) dX7_carried_72 rfl ?_
        refine aldM_2 B (pc := 74) dX7_carried_74 hf (fun _ hf => ?_)
        exact r_mask [true, true, true, true, true, false] rfl (k75 v4 (σ68.1 2 (ix v4)) t0 σ68 hf)
      refine r_if_eq B (pc := 47) (tgt := 68) dX7_carried_47 (by decide) hf (fun _ hf => ?_) (fun _ hf => ?_)
      · exact r_mask [true, true, true, true, true, false] rfl (k68 v4 v4 s20 hf)
      · refine r_iload_n B (pc := 50) dX7_carried_50 rfl rfl ?_
        refine r_i2l B (pc := 51) dX7_carried_51 ?_
        refine r_ldc2 B (pc := 52) kp_RX7_299 dX7_carried_52 ?_
        refine r_ldc2 B (pc := 55) kp_RX7_301 dX7_carried_55 ?_
        refine r_cSI B (c_X7_in X.l X.D K _ (x1.toInt64) 10 19) F_X7_in lk_RX7_81 (Nat.le_of_ble_eq_true rfl) (Nat.le_of_ble_eq_true rfl) (Nat.le_of_ble_eq_true rfl) (pc := 58) dX7_carried_58 rfl ?_
        refine r_if_eq B (pc := 61) (tgt := 68) dX7_carried_61 (by decide) hf (fun _ hf => ?_) (fun _ hf => ?_)
        · exact r_mask [true, true, true, true, true, false] rfl (k68 v4 v4 s20 hf)
        · refine r_iload_n B (pc := 64) dX7_carried_64 rfl rfl ?_
          refine r_goto B (pc := 65) (tgt := 75) dX7_carried_65 (by decide) ?_
          exact r_mask [true, true, true, true, true, false] rfl (k75 v4 x2 v4 s20 hf)
    have k32 : ∀ (v4 : Int32) (t0 : Int32) (σ32 : St), f_X7_carried_b32 x1 x2 x3 v4 t0 σ32 = some (r, τ) → MW X (wM ad K σ32) 32 [some (.ref (ad 0)), some (.int x1), some (.int x2), some (.int x3), some (.int v4), none] [.int t0, .ref (ad 1)] := by
      intro v4 t0 σ32 hf
      unfold f_X7_carried_b32 at hf
      refine r_aload_n B (pc := 32) dX7_carried_32 rfl rfl ?_
      refine gM_RX7_7_0 B (pc := 33) dX7_carried_33 ?_
      refine r_iload B (pc := 36) dX7_carried_36 rfl ?_
      refine aldM_1 B (pc := 38) dX7_carried_38 hf (fun _ hf => ?_)
      exact r_mask [true, true, true, true, true, false] rfl (k39 v4 (σ32.1 1 (ix v4)) t0 σ32 hf)
    refine r_if_eq B (pc := 19) (tgt := 32) dX7_carried_19 (by decide) hf (fun _ hf => ?_) (fun _ hf => ?_)
    · exact r_mask [true, true, true, true, true, false] rfl (k32 y19 y19 σ hf)
    · refine r_iload_n B (pc := 22) dX7_carried_22 rfl rfl ?_
      refine r_bipush B (pc := 23) dX7_carried_23 kb_10 ?_
      refine r_icmp_ge B (pc := 25) (tgt := 32) dX7_carried_25 (by decide) hf (fun _ hf => ?_) (fun _ hf => ?_)
      · exact r_mask [true, true, true, true, true, false] rfl (k32 y19 y19 σ hf)
      · refine r_iload_n B (pc := 28) dX7_carried_28 rfl rfl ?_
        refine r_goto B (pc := 29) (tgt := 39) dX7_carried_29 (by decide) ?_
        exact r_mask [true, true, true, true, true, false] rfl (k39 y19 x2 y19 σ hf)
set_option maxHeartbeats 4000000 in
set_option maxRecDepth 20000 in
theorem c_X7_image (l : Launch) (D : va_G) (K : Kt) (ad : Nat → Nat) (σ : St) {r : Int32} {τ : St} (hf : f_X7_image σ = some (r, τ)) : CtI l yX7_image cX7_image 2 (some .int) 2 50 D K [.ref (ad 0)] (wM ad K σ) r (wM ad K τ) := by
  refine met_i pl_RX7 (Nat.le_of_ble_eq_true rfl) (fun X hnL B RET => ?_)
  suffices h : MW X (wM ad K σ) 0 [some (.ref (ad 0)), none] [] from h
  unfold f_X7_image at hf
  refine r_iconst B (pc := 0) dX7_image_0 kc_0 ?_
  refine r_istore_n B hnL (pc := 1) dX7_image_1 rfl (by decide) ?_
  refine r_lc (loc' := [some (.ref (ad 0)), some (.int 0)]) rfl ?_
  have k2 : ∀ (n2 : Nat) (v1 : Int32) (σ2 : St), f_X7_image_h2 n2 v1 σ2 = some (r, τ) → MW X (wM ad K σ2) 2 [some (.ref (ad 0)), some (.int v1)] [] := by
    intro n2
    induction n2 with
    | zero => intro v1 σ2 hf; exact nn_z hf
    | succ n2 ih2 =>
      intro v1 σ2 hf
      rw [f_X7_image_h2] at hf
      refine r_iload_n B (pc := 2) dX7_image_2 rfl rfl ?_
      refine r_sipush B (pc := 3) dX7_image_3 ks_1634 ?_
      refine r_icmp_ge B (pc := 6) (tgt := 28) dX7_image_6 (by decide) hf (fun _ hf => ?_) (fun _ hf => ?_)
      · refine r_aload_n B (pc := 28) dX7_image_28 rfl rfl ?_
        refine r_iconst B (pc := 29) dX7_image_29 kc_1 ?_
        refine pM_RX7_307_0 B rfl rfl (pc := 30) dX7_image_30 hf (fun s1 hf => ?_)
        refine r_iconst B (pc := 33) dX7_image_33 kc_1 ?_
        exact e_pz (F := (wM ad K)) hf (nar_i _) (RET 34 _ dX7_image_34)
      · refine r_aload_n B (pc := 9) dX7_image_9 rfl rfl ?_
        refine gM_RX7_59_0 B (pc := 10) dX7_image_10 ?_
        refine r_iload_n B (pc := 13) dX7_image_13 rfl rfl ?_
        refine r_aload_n B (pc := 14) dX7_image_14 rfl rfl ?_
        refine r_iload_n B (pc := 15) dX7_image_15 rfl rfl ?_
        refine r_iconst B (pc := 16) dX7_image_16 kc_0 ?_
        refine r_iconst B (pc := 17) dX7_image_17 kc_0 ?_
        obtain ⟨r3, s4, hc2, hf⟩ := bdp_e hf
        refine r_cVI B (c_X7_carried X.l X.D K ad σ2 v1 0 0 hc2) F_X7_carried lk_RX7_303 (q0 := 0) (ci := 7) rfl rfl (Nat.le_of_ble_eq_true rfl) (Nat.le_of_ble_eq_true rfl) (Nat.le_of_ble_eq_true rfl) (pc := 18) dX7_image_18 rfl ?_
        refine astM_16 B (pc := 21) dX7_image_21 hf (fun s5 _ hf => ?_)
        refine r_iincS B hnL (pc := 22) dX7_image_22 rfl kc_1 (by decide) hf (fun y6 hf => ?_)
        refine r_lc (loc' := [some (.ref (ad 0)), some (.int y6)]) rfl ?_
        refine r_goto B (pc := 25) (tgt := 2) dX7_image_25 (by decide) ?_
        exact r_mask [true, true] rfl (ih2 y6 s5 hf)
  exact r_mask [true, true] rfl (k2 FU 0 σ hf)
set_option maxHeartbeats 4000000 in
set_option maxRecDepth 20000 in
theorem c_X7_restore (l : Launch) (D : va_G) (K : Kt) (ad : Nat → Nat) (σ : St) {r : Int32} {τ : St} (hf : f_X7_restore σ = some (r, τ)) : CtI l yX7_restore cX7_restore 2 (some .int) 2 50 D K [.ref (ad 0)] (wM ad K σ) r (wM ad K τ) := by
  refine met_i pl_RX7 (Nat.le_of_ble_eq_true rfl) (fun X hnL B RET => ?_)
  suffices h : MW X (wM ad K σ) 0 [some (.ref (ad 0)), none] [] from h
  unfold f_X7_restore at hf
  refine r_aload_n B (pc := 0) dX7_restore_0 rfl rfl ?_
  refine gM_RX7_307_0 B (pc := 1) dX7_restore_1 ?_
  refine r_if_ne B (pc := 4) (tgt := 10) dX7_restore_4 (by decide) hf (fun _ hf => ?_) (fun _ hf => ?_)
  · refine r_iconst B (pc := 10) dX7_restore_10 kc_0 ?_
    refine r_istore_n B hnL (pc := 11) dX7_restore_11 rfl (by decide) ?_
    refine r_lc (loc' := [some (.ref (ad 0)), some (.int 0)]) rfl ?_
    have k12 : ∀ (n12 : Nat) (v1 : Int32) (σ12 : St), f_X7_restore_h12 n12 v1 σ12 = some (r, τ) → MW X (wM ad K σ12) 12 [some (.ref (ad 0)), some (.int v1)] [] := by
      intro n12
      induction n12 with
      | zero => intro v1 σ12 hf; exact nn_z hf
      | succ n12 ih12 =>
        intro v1 σ12 hf
        rw [f_X7_restore_h12] at hf
        refine r_iload_n B (pc := 12) dX7_restore_12 rfl rfl ?_
        refine r_sipush B (pc := 13) dX7_restore_13 ks_1634 ?_
        refine r_icmp_ge B (pc := 16) (tgt := 38) dX7_restore_16 (by decide) hf (fun _ hf => ?_) (fun _ hf => ?_)
        · refine r_iconst B (pc := 38) dX7_restore_38 kc_1 ?_
          exact e_pz (F := (wM ad K)) hf (nar_i _) (RET 39 _ dX7_restore_39)
        · refine r_aload_n B (pc := 19) dX7_restore_19 rfl rfl ?_
          refine r_iload_n B (pc := 20) dX7_restore_20 rfl rfl ?_
          refine r_aload_n B (pc := 21) dX7_restore_21 rfl rfl ?_
          refine gM_RX7_59_0 B (pc := 22) dX7_restore_22 ?_
          refine r_iload_n B (pc := 25) dX7_restore_25 rfl rfl ?_
          refine aldM_16 B (pc := 26) dX7_restore_26 hf (fun _ hf => ?_)
          refine r_iconst B (pc := 27) dX7_restore_27 kc_1 ?_
          obtain ⟨r2, s3, hc1, hf⟩ := bdp_e hf
          refine r_cVI B (c_X7_carried X.l X.D K ad σ12 v1 (σ12.1 16 (ix v1)) 1 hc1) F_X7_carried lk_RX7_303 (q0 := 0) (ci := 7) rfl rfl (Nat.le_of_ble_eq_true rfl) (Nat.le_of_ble_eq_true rfl) (Nat.le_of_ble_eq_true rfl) (pc := 28) dX7_restore_28 rfl ?_
          refine r_pop B (pc := 31) dX7_restore_31 rfl ?_
          refine r_iincS B hnL (pc := 32) dX7_restore_32 rfl kc_1 (by decide) hf (fun y4 hf => ?_)
          refine r_lc (loc' := [some (.ref (ad 0)), some (.int y4)]) rfl ?_
          refine r_goto B (pc := 35) (tgt := 12) dX7_restore_35 (by decide) ?_
          exact r_mask [true, true] rfl (ih12 y4 s3 hf)
    exact r_mask [true, true] rfl (k12 FU 0 σ hf)
  · refine r_bipush B (pc := 7) dX7_restore_7 kb_m4 ?_
    exact e_pz (F := (wM ad K)) hf (nar_i _) (RET 9 _ dX7_restore_9)
set_option maxHeartbeats 4000000 in
set_option maxRecDepth 20000 in
theorem c_X7_isSheet (l : Launch) (D : va_G) (K : Kt) (w : va_W) (x0 : Int32) (x1 : Int32) : CtI l yX7_isSheet cX7_isSheet 2 (some .boolean) 1 25 D K [.int x0, .int x1] w (f_X7_isSheet x0 x1) w := by
  refine met_i pl_RX7 (Nat.le_of_ble_eq_true rfl) (fun X hnL B RET => ?_)
  generalize hf : f_X7_isSheet x0 x1 = r at RET
  suffices h : MW X w 0 [some (.int x0), some (.int x1)] [] from h
  unfold f_X7_isSheet at hf
  refine r_iload_n B (pc := 0) dX7_isSheet_0 rfl rfl ?_
  refine r_i2l B (pc := 1) dX7_isSheet_1 ?_
  refine r_lconst B (pc := 2) dX7_isSheet_2 kl_0 ?_
  refine r_ldc2 B (pc := 3) kp_RX7_311 dX7_isSheet_3 ?_
  refine r_cSI B (c_X7_in X.l X.D K _ (x0.toInt64) 0 3) F_X7_in lk_RX7_81 (Nat.le_of_ble_eq_true rfl) (Nat.le_of_ble_eq_true rfl) (Nat.le_of_ble_eq_true rfl) (pc := 6) dX7_isSheet_6 rfl ?_
  refine r_if_eq B (pc := 9) (tgt := 28) dX7_isSheet_9 (by decide) hf (fun _ hf => ?_) (fun _ hf => ?_)
  · refine r_iconst B (pc := 28) dX7_isSheet_28 kc_0 ?_
    exact e_tz hf rfl (RET 29 _ dX7_isSheet_29)
  · refine r_iload_n B (pc := 12) dX7_isSheet_12 rfl rfl ?_
    refine r_i2l B (pc := 13) dX7_isSheet_13 ?_
    refine r_lconst B (pc := 14) dX7_isSheet_14 kl_0 ?_
    refine r_ldc2 B (pc := 15) kp_RX7_311 dX7_isSheet_15 ?_
    refine r_cSI B (c_X7_in X.l X.D K _ (x1.toInt64) 0 3) F_X7_in lk_RX7_81 (Nat.le_of_ble_eq_true rfl) (Nat.le_of_ble_eq_true rfl) (Nat.le_of_ble_eq_true rfl) (pc := 18) dX7_isSheet_18 rfl ?_
    refine r_if_eq B (pc := 21) (tgt := 28) dX7_isSheet_21 (by decide) hf (fun _ hf => ?_) (fun _ hf => ?_)
    · refine r_iconst B (pc := 28) dX7_isSheet_28 kc_0 ?_
      exact e_tz hf rfl (RET 29 _ dX7_isSheet_29)
    · refine r_iconst B (pc := 24) dX7_isSheet_24 kc_1 ?_
      refine r_goto B (pc := 25) (tgt := 29) dX7_isSheet_25 (by decide) ?_
      exact e_tz hf rfl (RET 29 _ dX7_isSheet_29)
set_option maxHeartbeats 4000000 in
set_option maxRecDepth 20000 in
theorem c_X7_asLane (l : Launch) (D : va_G) (K : Kt) (w : va_W) (x0 : Int32) (x1 : Int64) : CtL l yX7_asLane cX7_asLane 3 (some .long) 0 0 D K [.int x0, .long x1] w (f_X7_asLane x0 x1) w := by
  refine met_l pl_RX7 (Nat.le_of_ble_eq_true rfl) (fun X hnL B RET => ?_)
  generalize hf : f_X7_asLane x0 x1 = r at RET
  suffices h : MW X w 0 [some (.int x0), some (.long x1), none] [] from h
  unfold f_X7_asLane at hf
  refine r_iload_n B (pc := 0) dX7_asLane_0 rfl rfl ?_
  refine r_if_ne B (pc := 1) (tgt := 14) dX7_asLane_1 (by decide) hf (fun _ hf => ?_) (fun _ hf => ?_)
  · refine r_iload_n B (pc := 14) dX7_asLane_14 rfl rfl ?_
    refine r_iconst B (pc := 15) dX7_asLane_15 kc_1 ?_
    refine r_icmp_ne B (pc := 16) (tgt := 29) dX7_asLane_16 (by decide) hf (fun _ hf => ?_) (fun _ hf => ?_)
    · refine r_iload_n B (pc := 29) dX7_asLane_29 rfl rfl ?_
      refine r_iconst B (pc := 30) dX7_asLane_30 kc_2 ?_
      refine r_icmp_ne B (pc := 31) (tgt := 44) dX7_asLane_31 (by decide) hf (fun _ hf => ?_) (fun _ hf => ?_)
      · refine r_lload_n B (pc := 44) dX7_asLane_44 rfl rfl ?_
        exact e_tl hf (RET 45 _ dX7_asLane_45)
      · refine r_lload_n B (pc := 34) dX7_asLane_34 rfl rfl ?_
        refine r_bipush B (pc := 35) dX7_asLane_35 kb_32 ?_
        refine r_lshl B (pc := 37) dX7_asLane_37 ?_
        refine r_bipush B (pc := 38) dX7_asLane_38 kb_32 ?_
        refine r_lshr B (pc := 40) dX7_asLane_40 ?_
        refine r_goto B (pc := 41) (tgt := 45) dX7_asLane_41 (by decide) ?_
        exact e_tl hf (RET 45 _ dX7_asLane_45)
    · refine r_lload_n B (pc := 19) dX7_asLane_19 rfl rfl ?_
      refine r_bipush B (pc := 20) dX7_asLane_20 kb_48 ?_
      refine r_lshl B (pc := 22) dX7_asLane_22 ?_
      refine r_bipush B (pc := 23) dX7_asLane_23 kb_48 ?_
      refine r_lshr B (pc := 25) dX7_asLane_25 ?_
      refine r_goto B (pc := 26) (tgt := 45) dX7_asLane_26 (by decide) ?_
      exact e_tl hf (RET 45 _ dX7_asLane_45)
  · refine r_lload_n B (pc := 4) dX7_asLane_4 rfl rfl ?_
    refine r_bipush B (pc := 5) dX7_asLane_5 kb_56 ?_
    refine r_lshl B (pc := 7) dX7_asLane_7 ?_
    refine r_bipush B (pc := 8) dX7_asLane_8 kb_56 ?_
    refine r_lshr B (pc := 10) dX7_asLane_10 ?_
    refine r_goto B (pc := 11) (tgt := 45) dX7_asLane_11 (by decide) ?_
    exact e_tl hf (RET 45 _ dX7_asLane_45)
set_option maxHeartbeats 4000000 in
set_option maxRecDepth 20000 in
theorem c_X7_sheet (l : Launch) (D : va_G) (K : Kt) (ad : Nat → Nat) (σ : St) (x1 : Int32) (x2 : Int32) (x3 : Int32) {r : Int32} {τ : St} (hf : f_X7_sheet σ x1 x2 x3 = some (r, τ)) : CtI l yX7_sheet cX7_sheet 5 (some .int) 2 46 D K [.ref (ad 0), .int x1, .int x2, .int x3] (wM ad K σ) r (wM ad K τ) := by
  refine met_i pl_RX7 (Nat.le_of_ble_eq_true rfl) (fun X hnL B RET => ?_)
  suffices h : MW X (wM ad K σ) 0 [some (.ref (ad 0)), some (.int x1), some (.int x2), some (.int x3), none] [] from h
  unfold f_X7_sheet at hf
  refine r_iload_n B (pc := 0) dX7_sheet_0 rfl rfl ?_
  refine r_iload_n B (pc := 1) dX7_sheet_1 rfl rfl ?_
  refine r_cSI B (c_X7_isSheet X.l X.D K _ x1 x2) F_X7_isSheet lk_RX7_313 (Nat.le_of_ble_eq_true rfl) (Nat.le_of_ble_eq_true rfl) (Nat.le_of_ble_eq_true rfl) (pc := 2) dX7_sheet_2 rfl ?_
  refine r_if_eq B (pc := 5) (tgt := 14) dX7_sheet_5 (by decide) hf (fun _ hf => ?_) (fun _ hf => ?_)
  · refine r_iconst B (pc := 14) dX7_sheet_14 kc_m1 ?_
    exact e_pz (F := (wM ad K)) hf (nar_i _) (RET 15 _ dX7_sheet_15)
  · refine r_iload_n B (pc := 8) dX7_sheet_8 rfl rfl ?_
    refine r_bipush B (pc := 9) dX7_sheet_9 kb_36 ?_
    refine r_icmp_le B (pc := 11) (tgt := 16) dX7_sheet_11 (by decide) hf (fun _ hf => ?_) (fun _ hf => ?_)
    · refine r_iload_n B (pc := 16) dX7_sheet_16 rfl rfl ?_
      refine r_if_ge B (pc := 17) (tgt := 23) dX7_sheet_17 (by decide) hf (fun _ hf => ?_) (fun _ hf => ?_)
      · refine r_aload_n B (pc := 23) dX7_sheet_23 rfl rfl ?_
        refine gM_RX7_62_0 B (pc := 24) dX7_sheet_24 ?_
        refine r_iload_n B (pc := 27) dX7_sheet_27 rfl rfl ?_
        refine r_iload_n B (pc := 28) dX7_sheet_28 rfl rfl ?_
        refine astM_17 B (pc := 29) dX7_sheet_29 hf (fun s1 _ hf => ?_)
        refine r_aload_n B (pc := 30) dX7_sheet_30 rfl rfl ?_
        refine gM_RX7_65_0 B (pc := 31) dX7_sheet_31 ?_
        refine r_iload_n B (pc := 34) dX7_sheet_34 rfl rfl ?_
        refine r_iload_n B (pc := 35) dX7_sheet_35 rfl rfl ?_
        refine astM_18 B (pc := 36) dX7_sheet_36 hf (fun s2 _ hf => ?_)
        refine r_iconst B (pc := 37) dX7_sheet_37 kc_0 ?_
        refine r_istore B hnL (pc := 38) dX7_sheet_38 (by decide) ?_
        refine r_lc (loc' := [some (.ref (ad 0)), some (.int x1), some (.int x2), some (.int x3), some (.int 0)]) rfl ?_
        have k40 : ∀ (n40 : Nat) (v4 : Int32) (σ40 : St), f_X7_sheet_h40 x1 x2 x3 n40 v4 σ40 = some (r, τ) → MW X (wM ad K σ40) 40 [some (.ref (ad 0)), some (.int x1), none, some (.int x3), some (.int v4)] [] := by
          intro n40
          induction n40 with
          | zero => intro v4 σ40 hf; exact nn_z hf
          | succ n40 ih40 =>
            intro v4 σ40 hf
            rw [f_X7_sheet_h40] at hf
            refine r_iload B (pc := 40) dX7_sheet_40 rfl ?_
            refine r_bipush B (pc := 42) dX7_sheet_42 kb_36 ?_
            refine r_icmp_ge B (pc := 44) (tgt := 66) dX7_sheet_44 (by decide) hf (fun _ hf => ?_) (fun _ hf => ?_)
            · refine r_iload_n B (pc := 66) dX7_sheet_66 rfl rfl ?_
              exact e_pz (F := (wM ad K)) hf (nar_i _) (RET 67 _ dX7_sheet_67)
            · refine r_aload_n B (pc := 47) dX7_sheet_47 rfl rfl ?_
              refine gM_RX7_68_0 B (pc := 48) dX7_sheet_48 ?_
              refine r_bipush B (pc := 51) dX7_sheet_51 kb_36 ?_
              refine r_iload_n B (pc := 53) dX7_sheet_53 rfl rfl ?_
              refine r_imul B (pc := 54) dX7_sheet_54 ?_
              refine r_iload B (pc := 55) dX7_sheet_55 rfl ?_
              refine r_iadd B (pc := 57) dX7_sheet_57 ?_
              refine r_lconst B (pc := 58) dX7_sheet_58 kl_0 ?_
              refine astM_19 B (pc := 59) dX7_sheet_59 hf (fun s3 _ hf => ?_)
              refine r_iincS B hnL (pc := 60) dX7_sheet_60 rfl kc_1 (by decide) hf (fun y4 hf => ?_)
              refine r_lc (loc' := [some (.ref (ad 0)), some (.int x1), none, some (.int x3), some (.int y4)]) rfl ?_
              refine r_goto B (pc := 63) (tgt := 40) dX7_sheet_63 (by decide) ?_
              exact r_mask [true, true, false, true, true] rfl (ih40 y4 s3 hf)
        exact r_mask [true, true, false, true, true] rfl (k40 FU 0 s2 hf)
      · refine r_bipush B (pc := 20) dX7_sheet_20 kb_m14 ?_
        exact e_pz (F := (wM ad K)) hf (nar_i _) (RET 22 _ dX7_sheet_22)
    · refine r_iconst B (pc := 14) dX7_sheet_14 kc_m1 ?_
      exact e_pz (F := (wM ad K)) hf (nar_i _) (RET 15 _ dX7_sheet_15)
set_option maxHeartbeats 4000000 in
set_option maxRecDepth 20000 in
theorem c_X7_drop (l : Launch) (D : va_G) (K : Kt) (ad : Nat → Nat) (σ : St) (x1 : Int32) {r : Int32} {τ : St} (hf : f_X7_drop σ x1 = some (r, τ)) : CtI l yX7_drop cX7_drop 2 (some .int) 1 25 D K [.ref (ad 0), .int x1] (wM ad K σ) r (wM ad K τ) := by
  refine met_i pl_RX7 (Nat.le_of_ble_eq_true rfl) (fun X hnL B RET => ?_)
  suffices h : MW X (wM ad K σ) 0 [some (.ref (ad 0)), some (.int x1)] [] from h
  unfold f_X7_drop at hf
  refine r_iload_n B (pc := 0) dX7_drop_0 rfl rfl ?_
  refine r_i2l B (pc := 1) dX7_drop_1 ?_
  refine r_lconst B (pc := 2) dX7_drop_2 kl_0 ?_
  refine r_ldc2 B (pc := 3) kp_RX7_311 dX7_drop_3 ?_
  refine r_cSI B (c_X7_in X.l X.D K _ (x1.toInt64) 0 3) F_X7_in lk_RX7_81 (Nat.le_of_ble_eq_true rfl) (Nat.le_of_ble_eq_true rfl) (Nat.le_of_ble_eq_true rfl) (pc := 6) dX7_drop_6 rfl ?_
  refine r_if_ne B (pc := 9) (tgt := 14) dX7_drop_9 (by decide) hf (fun _ hf => ?_) (fun _ hf => ?_)
  · refine r_aload_n B (pc := 14) dX7_drop_14 rfl rfl ?_
    refine gM_RX7_62_0 B (pc := 15) dX7_drop_15 ?_
    refine r_iload_n B (pc := 18) dX7_drop_18 rfl rfl ?_
    refine aldM_17 B (pc := 19) dX7_drop_19 hf (fun _ hf => ?_)
    refine r_if_ge B (pc := 20) (tgt := 26) dX7_drop_20 (by decide) hf (fun _ hf => ?_) (fun _ hf => ?_)
    · refine r_aload_n B (pc := 26) dX7_drop_26 rfl rfl ?_
      refine gM_RX7_62_0 B (pc := 27) dX7_drop_27 ?_
      refine r_iload_n B (pc := 30) dX7_drop_30 rfl rfl ?_
      refine r_iconst B (pc := 31) dX7_drop_31 kc_m1 ?_
      refine astM_17 B (pc := 32) dX7_drop_32 hf (fun s1 _ hf => ?_)
      refine r_aload_n B (pc := 33) dX7_drop_33 rfl rfl ?_
      refine gM_RX7_65_0 B (pc := 34) dX7_drop_34 ?_
      refine r_iload_n B (pc := 37) dX7_drop_37 rfl rfl ?_
      refine aldM_18 B (pc := 38) dX7_drop_38 hf (fun _ hf => ?_)
      exact e_pz (F := (wM ad K)) hf (nar_i _) (RET 39 _ dX7_drop_39)
    · refine r_bipush B (pc := 23) dX7_drop_23 kb_m11 ?_
      exact e_pz (F := (wM ad K)) hf (nar_i _) (RET 25 _ dX7_drop_25)
  · refine r_iconst B (pc := 12) dX7_drop_12 kc_m1 ?_
    exact e_pz (F := (wM ad K)) hf (nar_i _) (RET 13 _ dX7_drop_13)
