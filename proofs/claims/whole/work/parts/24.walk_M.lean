set_option maxHeartbeats 4000000 in
set_option maxRecDepth 20000 in
theorem c_X7_cover (l : Launch) (D : va_G) (K : Kt) (ad : Nat → Nat) (σ : St) (x1 : Int32) (x2 : Int32) (x3 : Int32) {r : Int32} {τ : St} (hf : f_X7_cover σ x1 x2 x3 = some (r, τ)) : CtI l yX7_cover cX7_cover 5 (some .int) 6 152 D K [.ref (ad 0), .int x1, .int x2, .int x3] (wM ad K σ) r (wM ad K τ) := by
  refine met_i pl_RX7 (Nat.le_of_ble_eq_true rfl) (fun X hnL B RET => ?_)
  suffices h : MW X (wM ad K σ) 0 [some (.ref (ad 0)), some (.int x1), some (.int x2), some (.int x3), none] [] from h
  unfold f_X7_cover at hf
  refine r_aload_n B (pc := 0) dX7_cover_0 rfl rfl ?_
  refine r_iload_n B (pc := 1) dX7_cover_1 rfl rfl ?_
  refine r_i2l B (pc := 2) dX7_cover_2 ?_
  refine r_cVI B (c_X7_isReader X.l X.D K ad σ (x1.toInt64)) F_X7_isReader lk_RX7_213 (q0 := 0) (ci := 7) rfl rfl (Nat.le_of_ble_eq_true rfl) (Nat.le_of_ble_eq_true rfl) (Nat.le_of_ble_eq_true rfl) (pc := 3) dX7_cover_3 rfl ?_
  refine r_if_eq B (pc := 6) (tgt := 32) dX7_cover_6 (by decide) hf (fun _ hf => ?_) (fun _ hf => ?_)
  · refine r_iconst B (pc := 32) dX7_cover_32 kc_m1 ?_
    exact e_pz (F := (wM ad K)) hf (nar_i _) (RET 33 _ dX7_cover_33)
  · refine r_aload_n B (pc := 9) dX7_cover_9 rfl rfl ?_
    refine r_iload_n B (pc := 10) dX7_cover_10 rfl rfl ?_
    refine r_i2l B (pc := 11) dX7_cover_11 ?_
    refine r_cVI B (c_X7_isNews X.l X.D K ad σ (x2.toInt64)) F_X7_isNews lk_RX7_123 (q0 := 0) (ci := 7) rfl rfl (Nat.le_of_ble_eq_true rfl) (Nat.le_of_ble_eq_true rfl) (Nat.le_of_ble_eq_true rfl) (pc := 12) dX7_cover_12 rfl ?_
    refine r_if_eq B (pc := 15) (tgt := 32) dX7_cover_15 (by decide) hf (fun _ hf => ?_) (fun _ hf => ?_)
    · refine r_iconst B (pc := 32) dX7_cover_32 kc_m1 ?_
      exact e_pz (F := (wM ad K)) hf (nar_i _) (RET 33 _ dX7_cover_33)
    · refine r_iload_n B (pc := 18) dX7_cover_18 rfl rfl ?_
      refine r_i2l B (pc := 19) dX7_cover_19 ?_
      refine r_ldc2 B (pc := 20) kp_RX7_278 dX7_cover_20 ?_
      refine r_ldc2 B (pc := 23) kp_RX7_280 dX7_cover_23 ?_
      refine r_cSI B (c_X7_in X.l X.D K _ (x3.toInt64) ((-1)) 2) F_X7_in lk_RX7_81 (Nat.le_of_ble_eq_true rfl) (Nat.le_of_ble_eq_true rfl) (Nat.le_of_ble_eq_true rfl) (pc := 26) dX7_cover_26 rfl ?_
      refine r_if_ne B (pc := 29) (tgt := 34) dX7_cover_29 (by decide) hf (fun _ hf => ?_) (fun _ hf => ?_)
      · refine r_aload_n B (pc := 34) dX7_cover_34 rfl rfl ?_
        refine r_iload_n B (pc := 35) dX7_cover_35 rfl rfl ?_
        refine r_iload_n B (pc := 36) dX7_cover_36 rfl rfl ?_
        obtain ⟨r2, s3, hc1, hf⟩ := bdp_e hf
        refine r_cVI B (c_X7_findCover X.l X.D K ad σ x1 x2 hc1) F_X7_findCover lk_RX7_282 (q0 := 0) (ci := 7) rfl rfl (Nat.le_of_ble_eq_true rfl) (Nat.le_of_ble_eq_true rfl) (Nat.le_of_ble_eq_true rfl) (pc := 37) dX7_cover_37 rfl ?_
        refine r_istore B hnL (pc := 40) dX7_cover_40 (by decide) ?_
        refine r_lc (loc' := [some (.ref (ad 0)), some (.int x1), some (.int x2), some (.int x3), some (.int r2)]) rfl ?_
        refine r_iload B (pc := 42) dX7_cover_42 rfl ?_
        refine r_if_lt B (pc := 44) (tgt := 51) dX7_cover_44 (by decide) hf (fun _ hf => ?_) (fun _ hf => ?_)
        · refine r_iload B (pc := 51) dX7_cover_51 rfl ?_
          refine r_goto B (pc := 53) (tgt := 73) dX7_cover_53 (by decide) ?_
          exact e_pz (F := (wM ad K)) hf (nar_i _) (RET 73 _ dX7_cover_73)
        · refine r_iload_n B (pc := 47) dX7_cover_47 rfl rfl ?_
          refine r_if_ge B (pc := 48) (tgt := 56) dX7_cover_48 (by decide) hf (fun _ hf => ?_) (fun _ hf => ?_)
          · refine r_iload_n B (pc := 56) dX7_cover_56 rfl rfl ?_
            refine r_iload B (pc := 57) dX7_cover_57 rfl ?_
            refine r_icmp_ge B (pc := 59) (tgt := 71) dX7_cover_59 (by decide) hf (fun _ hf => ?_) (fun _ hf => ?_)
            · refine r_bipush B (pc := 71) dX7_cover_71 kb_m4 ?_
              exact e_pz (F := (wM ad K)) hf (nar_i _) (RET 73 _ dX7_cover_73)
            · refine r_aload_n B (pc := 62) dX7_cover_62 rfl rfl ?_
              refine gM_RX7_53_0 B (pc := 63) dX7_cover_63 ?_
              refine r_iload_n B (pc := 66) dX7_cover_66 rfl rfl ?_
              refine aldM_14 B (pc := 67) dX7_cover_67 hf (fun _ hf => ?_)
              refine r_goto B (pc := 68) (tgt := 73) dX7_cover_68 (by decide) ?_
              exact e_pz (F := (wM ad K)) hf (nar_i _) (RET 73 _ dX7_cover_73)
          · refine r_iload B (pc := 51) dX7_cover_51 rfl ?_
            refine r_goto B (pc := 53) (tgt := 73) dX7_cover_53 (by decide) ?_
            exact e_pz (F := (wM ad K)) hf (nar_i _) (RET 73 _ dX7_cover_73)
      · refine r_iconst B (pc := 32) dX7_cover_32 kc_m1 ?_
        exact e_pz (F := (wM ad K)) hf (nar_i _) (RET 33 _ dX7_cover_33)
set_option maxHeartbeats 4000000 in
set_option maxRecDepth 20000 in
theorem c_X7_orders (l : Launch) (D : va_G) (K : Kt) (ad : Nat → Nat) (σ : St) (x1 : Int32) {r : Int32} {τ : St} (hf : f_X7_orders σ x1 = some (r, τ)) : CtI l yX7_orders cX7_orders 7 (some .int) 1 25 D K [.ref (ad 0), .int x1] (wM ad K σ) r (wM ad K τ) := by
  refine met_i pl_RX7 (Nat.le_of_ble_eq_true rfl) (fun X hnL B RET => ?_)
  suffices h : MW X (wM ad K σ) 0 [some (.ref (ad 0)), some (.int x1), none, none, none, none, none] [] from h
  unfold f_X7_orders at hf
  refine r_iload_n B (pc := 0) dX7_orders_0 rfl rfl ?_
  refine r_i2l B (pc := 1) dX7_orders_1 ?_
  refine r_ldc2 B (pc := 2) kp_RX7_278 dX7_orders_2 ?_
  refine r_ldc2 B (pc := 5) kp_RX7_285 dX7_orders_5 ?_
  refine r_cSI B (c_X7_in X.l X.D K _ (x1.toInt64) ((-1)) 11) F_X7_in lk_RX7_81 (Nat.le_of_ble_eq_true rfl) (Nat.le_of_ble_eq_true rfl) (Nat.le_of_ble_eq_true rfl) (pc := 8) dX7_orders_8 rfl ?_
  refine r_if_ne B (pc := 11) (tgt := 16) dX7_orders_11 (by decide) hf (fun _ hf => ?_) (fun _ hf => ?_)
  · refine r_iconst B (pc := 16) dX7_orders_16 kc_1 ?_
    refine r_aload_n B (pc := 17) dX7_orders_17 rfl rfl ?_
    refine gM_RX7_85_0 B (pc := 18) dX7_orders_18 ?_
    refine r_ishl B (pc := 21) dX7_orders_21 ?_
    refine r_iconst B (pc := 22) dX7_orders_22 kc_1 ?_
    refine r_isub B (pc := 23) dX7_orders_23 ?_
    refine r_nm hf (fun y1 hf => ?_)
    refine r_istore_n B hnL (pc := 24) dX7_orders_24 rfl (by decide) ?_
    refine r_lc (loc' := [some (.ref (ad 0)), some (.int x1), some (.int y1), none, none, none, none]) rfl ?_
    refine r_iload_n B (pc := 25) dX7_orders_25 rfl rfl ?_
    refine r_if_ge B (pc := 26) (tgt := 143) dX7_orders_26 (by decide) hf (fun _ hf => ?_) (fun _ hf => ?_)
    · refine r_iconst B (pc := 143) dX7_orders_143 kc_0 ?_
      refine r_istore_n B hnL (pc := 144) dX7_orders_144 rfl (by decide) ?_
      refine r_lc (loc' := [some (.ref (ad 0)), some (.int x1), some (.int y1), some (.int 0), none, none, none]) rfl ?_
      refine r_bipush B (pc := 145) dX7_orders_145 kb_m4 ?_
      refine r_istore B hnL (pc := 147) dX7_orders_147 (by decide) ?_
      refine r_lc (loc' := [some (.ref (ad 0)), some (.int x1), some (.int y1), some (.int 0), some (.int ((-4))), none, none]) rfl ?_
      refine r_iconst B (pc := 149) dX7_orders_149 kc_0 ?_
      refine r_istore B hnL (pc := 150) dX7_orders_150 (by decide) ?_
      refine r_lc (loc' := [some (.ref (ad 0)), some (.int x1), some (.int y1), some (.int 0), some (.int ((-4))), some (.int 0), none]) rfl ?_
      have k152 : ∀ (n152 : Nat) (v3 : Int32) (v4 : Int32) (v5 : Int32) (σ152 : St), f_X7_orders_h152 x1 n152 v3 v4 v5 σ152 = some (r, τ) → MW X (wM ad K σ152) 152 [some (.ref (ad 0)), some (.int x1), none, some (.int v3), some (.int v4), some (.int v5), none] [] := by
        intro n152
        induction n152 with
        | zero => intro v3 v4 v5 σ152 hf; exact nn_z hf
        | succ n152 ih152 =>
          intro v3 v4 v5 σ152 hf
          rw [f_X7_orders_h152] at hf
          refine r_iload B (pc := 152) dX7_orders_152 rfl ?_
          refine r_iload_n B (pc := 154) dX7_orders_154 rfl rfl ?_
          refine r_icmp_gt B (pc := 155) (tgt := 233) dX7_orders_155 (by decide) hf (fun _ hf => ?_) (fun _ hf => ?_)
          · refine r_iload B (pc := 233) dX7_orders_233 rfl ?_
            exact e_pz (F := (wM ad K)) hf (nar_i _) (RET 235 _ dX7_orders_235)
          · refine r_iload_n B (pc := 158) dX7_orders_158 rfl rfl ?_
            refine r_aload_n B (pc := 159) dX7_orders_159 rfl rfl ?_
            refine gM_RX7_85_0 B (pc := 160) dX7_orders_160 ?_
            refine r_icmp_ge B (pc := 163) (tgt := 233) dX7_orders_163 (by decide) hf (fun _ hf => ?_) (fun _ hf => ?_)
            · refine r_iload B (pc := 233) dX7_orders_233 rfl ?_
              exact e_pz (F := (wM ad K)) hf (nar_i _) (RET 235 _ dX7_orders_235)
            · refine r_bipush B (pc := 166) dX7_orders_166 kb_m4 ?_
              refine r_istore B hnL (pc := 168) dX7_orders_168 (by decide) ?_
              refine r_lc (loc' := [some (.ref (ad 0)), some (.int x1), none, some (.int v3), some (.int ((-4))), some (.int v5), none]) rfl ?_
              refine r_iconst B (pc := 170) dX7_orders_170 kc_0 ?_
              refine r_istore B hnL (pc := 171) dX7_orders_171 (by decide) ?_
              refine r_lc (loc' := [some (.ref (ad 0)), some (.int x1), none, some (.int v3), some (.int ((-4))), some (.int v5), some (.int 0)]) rfl ?_
              have k173 : ∀ (n173 : Nat) (v3 : Int32) (v4 : Int32) (v5 : Int32) (v6 : Int32) (σ173 : St), f_X7_orders_h173 (f_X7_orders_h152 x1 n152) x1 n173 v3 v4 v5 v6 σ173 = some (r, τ) → MW X (wM ad K σ173) 173 [some (.ref (ad 0)), some (.int x1), none, some (.int v3), some (.int v4), some (.int v5), some (.int v6)] [] := by
                intro n173
                induction n173 with
                | zero => intro v3 v4 v5 v6 σ173 hf; exact nn_z hf
                | succ n173 ih173 =>
                  intro v3 v4 v5 v6 σ173 hf
                  rw [f_X7_orders_h173] at hf
                  refine r_iload B (pc := 173) dX7_orders_173 rfl ?_
                  refine r_aload_n B (pc := 175) dX7_orders_175 rfl rfl ?_
                  refine gM_RX7_85_0 B (pc := 176) dX7_orders_176 ?_
                  refine r_icmp_ge B (pc := 179) (tgt := 220) dX7_orders_179 (by decide) hf (fun _ hf => ?_) (fun _ hf => ?_)
                  · refine r_iload_n B (pc := 220) dX7_orders_220 rfl rfl ?_
                    refine r_iconst B (pc := 221) dX7_orders_221 kc_1 ?_
                    refine r_iload B (pc := 222) dX7_orders_222 rfl ?_
                    refine r_ishl B (pc := 224) dX7_orders_224 ?_
                    refine r_ior B (pc := 225) dX7_orders_225 ?_
                    refine r_nm hf (fun y2 hf => ?_)
                    refine r_istore_n B hnL (pc := 226) dX7_orders_226 rfl (by decide) ?_
                    refine r_lc (loc' := [some (.ref (ad 0)), some (.int x1), none, some (.int y2), some (.int v4), some (.int v5), some (.int v6)]) rfl ?_
                    refine r_iincS B hnL (pc := 227) dX7_orders_227 rfl kc_1 (by decide) hf (fun y3 hf => ?_)
                    refine r_lc (loc' := [some (.ref (ad 0)), some (.int x1), none, some (.int y2), some (.int v4), some (.int y3), some (.int v6)]) rfl ?_
                    refine r_goto B (pc := 230) (tgt := 152) dX7_orders_230 (by decide) ?_
                    exact r_mask [true, true, false, true, true, true, false] rfl (ih152 y2 v4 y3 σ173 hf)
                  · refine r_iload_n B (pc := 182) dX7_orders_182 rfl rfl ?_
                    refine r_iload B (pc := 183) dX7_orders_183 rfl ?_
                    refine r_cSI B (c_X7_has X.l X.D K _ v3 v6) F_X7_has lk_RX7_153 (Nat.le_of_ble_eq_true rfl) (Nat.le_of_ble_eq_true rfl) (Nat.le_of_ble_eq_true rfl) (pc := 185) dX7_orders_185 rfl ?_
                    have k210 : ∀ (v3 : Int32) (v4 : Int32) (v5 : Int32) (v6 : Int32) (σ210 : St), f_X7_orders_b210 (f_X7_orders_h152 x1 n152) (f_X7_orders_h173 (f_X7_orders_h152 x1 n152) x1 n173) x1 v3 v4 v5 v6 σ210 = some (r, τ) → MW X (wM ad K σ210) 210 [some (.ref (ad 0)), some (.int x1), none, some (.int v3), some (.int v4), some (.int v5), some (.int v6)] [] := by
                      intro v3 v4 v5 v6 σ210 hf
                      unfold f_X7_orders_b210 at hf
                      refine r_iload B (pc := 210) dX7_orders_210 rfl ?_
                      refine r_istore B hnL (pc := 212) dX7_orders_212 (by decide) ?_
                      refine r_lc (loc' := [some (.ref (ad 0)), some (.int x1), none, some (.int v3), some (.int v4), some (.int v5), some (.int v6)]) rfl ?_
                      refine r_iincS B hnL (pc := 214) dX7_orders_214 rfl kc_1 (by decide) hf (fun y5 hf => ?_)
                      refine r_lc (loc' := [some (.ref (ad 0)), some (.int x1), none, some (.int v3), some (.int v4), some (.int v5), some (.int y5)]) rfl ?_
                      refine r_goto B (pc := 217) (tgt := 173) dX7_orders_217 (by decide) ?_
                      exact r_mask [true, true, false, true, true, true, true] rfl (ih173 v3 v4 v5 y5 σ210 hf)
                    refine r_if_ne B (pc := 188) (tgt := 210) dX7_orders_188 (by decide) hf (fun _ hf => ?_) (fun _ hf => ?_)
                    · exact r_mask [true, true, false, true, true, true, true] rfl (k210 v3 v4 v5 v6 σ173 hf)
                    · refine r_aload_n B (pc := 191) dX7_orders_191 rfl rfl ?_
                      refine gM_RX7_22_0 B (pc := 192) dX7_orders_192 ?_
                      refine r_iload B (pc := 195) dX7_orders_195 rfl ?_
                      refine aldM_5 B (pc := 197) dX7_orders_197 hf (fun _ hf => ?_)
                      refine r_iload_n B (pc := 198) dX7_orders_198 rfl rfl ?_
                      refine r_iconst B (pc := 199) dX7_orders_199 kc_m1 ?_
                      refine r_ixor B (pc := 200) dX7_orders_200 ?_
                      refine r_iand B (pc := 201) dX7_orders_201 ?_
                      refine r_if_ne B (pc := 202) (tgt := 210) dX7_orders_202 (by decide) hf (fun _ hf => ?_) (fun _ hf => ?_)
                      · exact r_mask [true, true, false, true, true, true, true] rfl (k210 v3 v4 v5 v6 σ173 hf)
                      · refine r_iload B (pc := 205) dX7_orders_205 rfl ?_
                        refine r_goto B (pc := 207) (tgt := 212) dX7_orders_207 (by decide) ?_
                        refine r_istore B hnL (pc := 212) dX7_orders_212 (by decide) ?_
                        refine r_lc (loc' := [some (.ref (ad 0)), some (.int x1), none, some (.int v3), some (.int v6), some (.int v5), some (.int v6)]) rfl ?_
                        refine r_iincS B hnL (pc := 214) dX7_orders_214 rfl kc_1 (by decide) hf (fun y4 hf => ?_)
                        refine r_lc (loc' := [some (.ref (ad 0)), some (.int x1), none, some (.int v3), some (.int v6), some (.int v5), some (.int y4)]) rfl ?_
                        refine r_goto B (pc := 217) (tgt := 173) dX7_orders_217 (by decide) ?_
                        exact r_mask [true, true, false, true, true, true, true] rfl (ih173 v3 v6 v5 y4 σ173 hf)
              exact r_mask [true, true, false, true, true, true, true] rfl (k173 FU v3 ((-4)) v5 0 σ152 hf)
      exact r_mask [true, true, false, true, true, true, false] rfl (k152 FU 0 ((-4)) 0 σ hf)
    · refine r_iconst B (pc := 29) dX7_orders_29 kc_0 ?_
      refine r_istore_n B hnL (pc := 30) dX7_orders_30 rfl (by decide) ?_
      refine r_lc (loc' := [some (.ref (ad 0)), some (.int x1), some (.int y1), some (.int 0), none, none, none]) rfl ?_
      have k31 : ∀ (n31 : Nat) (v2 : Int32) (v3 : Int32) (σ31 : St), f_X7_orders_h31 x1 n31 v2 v3 σ31 = some (r, τ) → MW X (wM ad K σ31) 31 [some (.ref (ad 0)), none, some (.int v2), some (.int v3), none, none, none] [] := by
        intro n31
        induction n31 with
        | zero => intro v2 v3 σ31 hf; exact nn_z hf
        | succ n31 ih31 =>
          intro v2 v3 σ31 hf
          rw [f_X7_orders_h31] at hf
          refine r_iload_n B (pc := 31) dX7_orders_31 rfl rfl ?_
          refine r_iload_n B (pc := 32) dX7_orders_32 rfl rfl ?_
          refine r_icmp_gt B (pc := 33) (tgt := 136) dX7_orders_33 (by decide) hf (fun _ hf => ?_) (fun _ hf => ?_)
          · refine r_aload_n B (pc := 136) dX7_orders_136 rfl rfl ?_
            refine gM_RX7_56_0 B (pc := 137) dX7_orders_137 ?_
            refine r_iload_n B (pc := 140) dX7_orders_140 rfl rfl ?_
            refine aldM_15 B (pc := 141) dX7_orders_141 hf (fun _ hf => ?_)
            exact e_pz (F := (wM ad K)) hf (nar_i _) (RET 142 _ dX7_orders_142)
          · refine r_aload_n B (pc := 36) dX7_orders_36 rfl rfl ?_
            refine gM_RX7_56_0 B (pc := 37) dX7_orders_37 ?_
            refine r_iload_n B (pc := 40) dX7_orders_40 rfl rfl ?_
            refine r_iload_n B (pc := 41) dX7_orders_41 rfl rfl ?_
            have k54 : ∀ (n54 : Nat) (v2 : Int32) (v3 : Int32) (v4 : Int32) (σ54 : St), f_X7_orders_h54 (f_X7_orders_h31 x1 n31) x1 n54 v2 v3 v4 σ54 = some (r, τ) → MW X (wM ad K σ54) 54 [some (.ref (ad 0)), none, some (.int v2), some (.int v3), some (.int v4), none, none] [] := by
              intro n54
              induction n54 with
              | zero => intro v2 v3 v4 σ54 hf; exact nn_z hf
              | succ n54 ih54 =>
                intro v2 v3 v4 σ54 hf
                rw [f_X7_orders_h54] at hf
                refine r_iload B (pc := 54) dX7_orders_54 rfl ?_
                refine r_aload_n B (pc := 56) dX7_orders_56 rfl rfl ?_
                refine gM_RX7_85_0 B (pc := 57) dX7_orders_57 ?_
                refine r_icmp_ge B (pc := 60) (tgt := 130) dX7_orders_60 (by decide) hf (fun _ hf => ?_) (fun _ hf => ?_)
                · refine r_iincS B hnL (pc := 130) dX7_orders_130 rfl kc_1 (by decide) hf (fun y8 hf => ?_)
                  refine r_lc (loc' := [some (.ref (ad 0)), none, some (.int v2), some (.int y8), some (.int v4), none, none]) rfl ?_
                  refine r_goto B (pc := 133) (tgt := 31) dX7_orders_133 (by decide) ?_
                  exact r_mask [true, false, true, true, false, false, false] rfl (ih31 v2 y8 σ54 hf)
                · refine r_iload_n B (pc := 63) dX7_orders_63 rfl rfl ?_
                  refine r_iload B (pc := 64) dX7_orders_64 rfl ?_
                  refine r_cSI B (c_X7_has X.l X.D K _ v3 v4) F_X7_has lk_RX7_153 (Nat.le_of_ble_eq_true rfl) (Nat.le_of_ble_eq_true rfl) (Nat.le_of_ble_eq_true rfl) (pc := 66) dX7_orders_66 rfl ?_
                  have k91 : ∀ (v2 : Int32) (v3 : Int32) (v4 : Int32) (t0 : Int32) (σ91 : St), f_X7_orders_b91 (f_X7_orders_h31 x1 n31) (f_X7_orders_h54 (f_X7_orders_h31 x1 n31) x1 n54) x1 v2 v3 v4 t0 σ91 = some (r, τ) → MW X (wM ad K σ91) 91 [some (.ref (ad 0)), none, some (.int v2), some (.int v3), some (.int v4), none, none] [.int t0] := by
                    intro v2 v3 v4 t0 σ91 hf
                    unfold f_X7_orders_b91 at hf
                    refine r_istore B hnL (pc := 91) dX7_orders_91 (by decide) ?_
                    refine r_lc (loc' := [some (.ref (ad 0)), none, some (.int v2), some (.int v3), some (.int v4), some (.int t0), none]) rfl ?_
                    refine r_aload_n B (pc := 93) dX7_orders_93 rfl rfl ?_
                    refine gM_RX7_56_0 B (pc := 94) dX7_orders_94 ?_
                    refine r_iload_n B (pc := 97) dX7_orders_97 rfl rfl ?_
                    refine r_dup2 B (pc := 98) dX7_orders_98 rfl rfl ?_
                    refine aldM_15 B (pc := 99) dX7_orders_99 hf (fun _ hf => ?_)
                    refine r_iload B (pc := 100) dX7_orders_100 rfl ?_
                    have k122 : ∀ (v2 : Int32) (v3 : Int32) (v4 : Int32) (t0 : Int32) (t1 : Int32) (t2 : Int32) (σ122 : St), f_X7_orders_b122 (f_X7_orders_h31 x1 n31) (f_X7_orders_h54 (f_X7_orders_h31 x1 n31) x1 n54) x1 v2 v3 v4 t0 t1 t2 σ122 = some (r, τ) → MW X (wM ad K σ122) 122 [some (.ref (ad 0)), none, some (.int v2), some (.int v3), some (.int v4), none, none] [.int t0, .int t1, .int t2, .ref (ad 15)] := by
                      intro v2 v3 v4 t0 t1 t2 σ122 hf
                      unfold f_X7_orders_b122 at hf
                      refine r_iadd B (pc := 122) dX7_orders_122 ?_
                      refine astM_15 B (pc := 123) dX7_orders_123 hf (fun s9 _ hf => ?_)
                      refine r_iincS B hnL (pc := 124) dX7_orders_124 rfl kc_1 (by decide) hf (fun y10 hf => ?_)
                      refine r_lc (loc' := [some (.ref (ad 0)), none, some (.int v2), some (.int v3), some (.int y10), none, none]) rfl ?_
                      refine r_goto B (pc := 127) (tgt := 54) dX7_orders_127 (by decide) ?_
                      exact r_mask [true, false, true, true, true, false, false] rfl (ih54 v2 v3 y10 s9 hf)
                    refine r_if_eq B (pc := 102) (tgt := 121) dX7_orders_102 (by decide) hf (fun _ hf => ?_) (fun _ hf => ?_)
                    · refine r_iconst B (pc := 121) dX7_orders_121 kc_0 ?_
                      exact r_mask [true, false, true, true, true, false, false] rfl (k122 v2 v3 v4 0 (σ91.1 15 (ix v3)) v3 σ91 hf)
                    · refine r_aload_n B (pc := 105) dX7_orders_105 rfl rfl ?_
                      refine gM_RX7_56_0 B (pc := 106) dX7_orders_106 ?_
                      refine r_iload_n B (pc := 109) dX7_orders_109 rfl rfl ?_
                      refine r_iconst B (pc := 110) dX7_orders_110 kc_1 ?_
                      refine r_iload B (pc := 111) dX7_orders_111 rfl ?_
                      refine r_ishl B (pc := 113) dX7_orders_113 ?_
                      refine r_iconst B (pc := 114) dX7_orders_114 kc_m1 ?_
                      refine r_ixor B (pc := 115) dX7_orders_115 ?_
                      refine r_iand B (pc := 116) dX7_orders_116 ?_
                      refine aldM_15 B (pc := 117) dX7_orders_117 hf (fun _ hf => ?_)
                      refine r_goto B (pc := 118) (tgt := 122) dX7_orders_118 (by decide) ?_
                      exact r_mask [true, false, true, true, true, false, false] rfl (k122 v2 v3 v4 (σ91.1 15 (ix (v3 &&& ((isl 1 v4) ^^^ ((-1)))))) (σ91.1 15 (ix v3)) v3 σ91 hf)
                  refine r_if_eq B (pc := 69) (tgt := 90) dX7_orders_69 (by decide) hf (fun _ hf => ?_) (fun _ hf => ?_)
                  · refine r_iconst B (pc := 90) dX7_orders_90 kc_0 ?_
                    exact r_mask [true, false, true, true, true, false, false] rfl (k91 v2 v3 v4 0 σ54 hf)
                  · refine r_aload_n B (pc := 72) dX7_orders_72 rfl rfl ?_
                    refine gM_RX7_22_0 B (pc := 73) dX7_orders_73 ?_
                    refine r_iload B (pc := 76) dX7_orders_76 rfl ?_
                    refine aldM_5 B (pc := 78) dX7_orders_78 hf (fun _ hf => ?_)
                    refine r_iload_n B (pc := 79) dX7_orders_79 rfl rfl ?_
                    refine r_iconst B (pc := 80) dX7_orders_80 kc_m1 ?_
                    refine r_ixor B (pc := 81) dX7_orders_81 ?_
                    refine r_iand B (pc := 82) dX7_orders_82 ?_
                    refine r_if_ne B (pc := 83) (tgt := 90) dX7_orders_83 (by decide) hf (fun _ hf => ?_) (fun _ hf => ?_)
                    · refine r_iconst B (pc := 90) dX7_orders_90 kc_0 ?_
                      exact r_mask [true, false, true, true, true, false, false] rfl (k91 v2 v3 v4 0 σ54 hf)
                    · refine r_iconst B (pc := 86) dX7_orders_86 kc_1 ?_
                      refine r_goto B (pc := 87) (tgt := 91) dX7_orders_87 (by decide) ?_
                      exact r_mask [true, false, true, true, true, false, false] rfl (k91 v2 v3 v4 1 σ54 hf)
            refine r_if_ne B (pc := 42) (tgt := 49) dX7_orders_42 (by decide) hf (fun _ hf => ?_) (fun _ hf => ?_)
            · refine r_iconst B (pc := 49) dX7_orders_49 kc_0 ?_
              refine astM_15 B (pc := 50) dX7_orders_50 hf (fun s6 _ hf => ?_)
              refine r_iconst B (pc := 51) dX7_orders_51 kc_0 ?_
              refine r_istore B hnL (pc := 52) dX7_orders_52 (by decide) ?_
              refine r_lc (loc' := [some (.ref (ad 0)), none, some (.int v2), some (.int v3), some (.int 0), none, none]) rfl ?_
              exact r_mask [true, false, true, true, true, false, false] rfl (k54 FU v2 v3 0 s6 hf)
            · refine r_iconst B (pc := 45) dX7_orders_45 kc_1 ?_
              refine r_goto B (pc := 46) (tgt := 50) dX7_orders_46 (by decide) ?_
              refine astM_15 B (pc := 50) dX7_orders_50 hf (fun s7 _ hf => ?_)
              refine r_iconst B (pc := 51) dX7_orders_51 kc_0 ?_
              refine r_istore B hnL (pc := 52) dX7_orders_52 (by decide) ?_
              refine r_lc (loc' := [some (.ref (ad 0)), none, some (.int v2), some (.int v3), some (.int 0), none, none]) rfl ?_
              exact r_mask [true, false, true, true, true, false, false] rfl (k54 FU v2 v3 0 s7 hf)
      exact r_mask [true, false, true, true, false, false, false] rfl (k31 FU y1 0 σ hf)
  · refine r_iconst B (pc := 14) dX7_orders_14 kc_m1 ?_
    exact e_pz (F := (wM ad K)) hf (nar_i _) (RET 15 _ dX7_orders_15)
set_option maxHeartbeats 4000000 in
set_option maxRecDepth 20000 in
theorem c_X7_years (l : Launch) (D : va_G) (K : Kt) (ad : Nat → Nat) (σ : St) (x1 : Int32) (x2 : Int32) {r : Int32} (hf : f_X7_years σ x1 x2 = some r) : CtI l yX7_years cX7_years 8 (some .int) 4 96 D K [.ref (ad 0), .int x1, .int x2] (wM ad K σ) r (wM ad K σ) := by
  refine met_i pl_RX7 (Nat.le_of_ble_eq_true rfl) (fun X hnL B RET => ?_)
  suffices h : MW X (wM ad K σ) 0 [some (.ref (ad 0)), some (.int x1), some (.int x2), none, none, none, none, none] [] from h
  unfold f_X7_years at hf
  refine r_iload_n B (pc := 0) dX7_years_0 rfl rfl ?_
  refine r_i2l B (pc := 1) dX7_years_1 ?_
  refine r_lconst B (pc := 2) dX7_years_2 kl_1 ?_
  refine r_ldc2 B (pc := 3) kp_RX7_266 dX7_years_3 ?_
  refine r_cSI B (c_X7_in X.l X.D K _ (x1.toInt64) 1 30) F_X7_in lk_RX7_81 (Nat.le_of_ble_eq_true rfl) (Nat.le_of_ble_eq_true rfl) (Nat.le_of_ble_eq_true rfl) (pc := 6) dX7_years_6 rfl ?_
  refine r_if_eq B (pc := 9) (tgt := 22) dX7_years_9 (by decide) hf (fun _ hf => ?_) (fun _ hf => ?_)
  · refine r_iconst B (pc := 22) dX7_years_22 kc_m1 ?_
    exact e_rz hf (nar_i _) (RET 23 _ dX7_years_23)
  · refine r_iload_n B (pc := 12) dX7_years_12 rfl rfl ?_
    refine r_i2l B (pc := 13) dX7_years_13 ?_
    refine r_lconst B (pc := 14) dX7_years_14 kl_0 ?_
    refine r_lconst B (pc := 15) dX7_years_15 kl_1 ?_
    refine r_cSI B (c_X7_in X.l X.D K _ (x2.toInt64) 0 1) F_X7_in lk_RX7_81 (Nat.le_of_ble_eq_true rfl) (Nat.le_of_ble_eq_true rfl) (Nat.le_of_ble_eq_true rfl) (pc := 16) dX7_years_16 rfl ?_
    refine r_if_ne B (pc := 19) (tgt := 24) dX7_years_19 (by decide) hf (fun _ hf => ?_) (fun _ hf => ?_)
    · refine r_iconst B (pc := 24) dX7_years_24 kc_0 ?_
      refine r_istore_n B hnL (pc := 25) dX7_years_25 rfl (by decide) ?_
      refine r_lc (loc' := [some (.ref (ad 0)), some (.int x1), some (.int x2), some (.int 0), none, none, none, none]) rfl ?_
      refine r_iconst B (pc := 26) dX7_years_26 kc_0 ?_
      refine r_istore B hnL (pc := 27) dX7_years_27 (by decide) ?_
      refine r_lc (loc' := [some (.ref (ad 0)), some (.int x1), some (.int x2), some (.int 0), some (.int 0), none, none, none]) rfl ?_
      have k29 : ∀ (n29 : Nat) (v3 : Int32) (v4 : Int32), f_X7_years_h29 σ x1 x2 n29 v3 v4 = some r → MW X (wM ad K σ) 29 [some (.ref (ad 0)), some (.int x1), some (.int x2), some (.int v3), some (.int v4), none, none, none] [] := by
        intro n29
        induction n29 with
        | zero => intro v3 v4 hf; exact nn_z hf
        | succ n29 ih29 =>
          intro v3 v4 hf
          rw [f_X7_years_h29] at hf
          refine r_iload B (pc := 29) dX7_years_29 rfl ?_
          refine r_bipush B (pc := 31) dX7_years_31 kb_100 ?_
          refine r_icmp_ge B (pc := 33) (tgt := 143) dX7_years_33 (by decide) hf (fun _ hf => ?_) (fun _ hf => ?_)
          · refine r_iload_n B (pc := 143) dX7_years_143 rfl rfl ?_
            refine r_iconst B (pc := 144) dX7_years_144 kc_1 ?_
            refine r_icmp_ne B (pc := 145) (tgt := 153) dX7_years_145 (by decide) hf (fun _ hf => ?_) (fun _ hf => ?_)
            · refine r_iload_n B (pc := 153) dX7_years_153 rfl rfl ?_
              refine r_iload_n B (pc := 154) dX7_years_154 rfl rfl ?_
              refine r_iadd B (pc := 155) dX7_years_155 ?_
              refine r_iconst B (pc := 156) dX7_years_156 kc_1 ?_
              refine r_isub B (pc := 157) dX7_years_157 ?_
              refine r_iload_n B (pc := 158) dX7_years_158 rfl rfl ?_
              refine r_idivS B (pc := 159) dX7_years_159 hf (fun _ hf => ?_)
              exact e_rz hf (nar_i _) (RET 160 _ dX7_years_160)
            · refine r_bipush B (pc := 148) dX7_years_148 kb_m4 ?_
              refine r_goto B (pc := 150) (tgt := 160) dX7_years_150 (by decide) ?_
              exact e_rz hf (nar_i _) (RET 160 _ dX7_years_160)
          · refine r_iconst B (pc := 36) dX7_years_36 kc_0 ?_
            refine r_istore B hnL (pc := 37) dX7_years_37 (by decide) ?_
            refine r_lc (loc' := [some (.ref (ad 0)), some (.int x1), some (.int x2), some (.int v3), some (.int v4), some (.int 0), none, none]) rfl ?_
            have k39 : ∀ (n39 : Nat) (v3 : Int32) (v4 : Int32) (v5 : Int32), f_X7_years_h39 (f_X7_years_h29 σ x1 x2 n29) σ x1 x2 n39 v3 v4 v5 = some r → MW X (wM ad K σ) 39 [some (.ref (ad 0)), some (.int x1), some (.int x2), some (.int v3), some (.int v4), some (.int v5), none, none] [] := by
              intro n39
              induction n39 with
              | zero => intro v3 v4 v5 hf; exact nn_z hf
              | succ n39 ih39 =>
                intro v3 v4 v5 hf
                rw [f_X7_years_h39] at hf
                refine r_iload B (pc := 39) dX7_years_39 rfl ?_
                refine r_bipush B (pc := 41) dX7_years_41 kb_120 ?_
                refine r_icmp_ge B (pc := 43) (tgt := 137) dX7_years_43 (by decide) hf (fun _ hf => ?_) (fun _ hf => ?_)
                · refine r_iincS B hnL (pc := 137) dX7_years_137 rfl kc_1 (by decide) hf (fun y1 hf => ?_)
                  refine r_lc (loc' := [some (.ref (ad 0)), some (.int x1), some (.int x2), some (.int v3), some (.int y1), some (.int v5), none, none]) rfl ?_
                  refine r_goto B (pc := 140) (tgt := 29) dX7_years_140 (by decide) ?_
                  exact r_mask [true, true, true, true, true, false, false, false] rfl (ih29 v3 y1 hf)
                · refine r_iload B (pc := 46) dX7_years_46 rfl ?_
                  refine r_bipush B (pc := 48) dX7_years_48 kb_12 ?_
                  refine r_idiv B (pc := 50) dX7_years_50 (by decide) ?_
                  refine r_nm hf (fun y2 hf => ?_)
                  refine r_istore B hnL (pc := 51) dX7_years_51 (by decide) ?_
                  refine r_lc (loc' := [some (.ref (ad 0)), some (.int x1), some (.int x2), some (.int v3), some (.int v4), some (.int v5), some (.int y2), none]) rfl ?_
                  refine r_iload B (pc := 53) dX7_years_53 rfl ?_
                  refine r_bipush B (pc := 55) dX7_years_55 kb_12 ?_
                  refine r_irem B (pc := 57) dX7_years_57 (by decide) ?_
                  refine r_nm hf (fun y3 hf => ?_)
                  refine r_istore B hnL (pc := 58) dX7_years_58 (by decide) ?_
                  refine r_lc (loc' := [some (.ref (ad 0)), some (.int x1), some (.int x2), some (.int v3), some (.int v4), some (.int v5), some (.int y2), some (.int y3)]) rfl ?_
                  refine r_iload B (pc := 60) dX7_years_60 rfl ?_
                  refine r_aload_n B (pc := 62) dX7_years_62 rfl rfl ?_
                  refine gM_RX7_78_0 B (pc := 63) dX7_years_63 ?_
                  refine r_icmp_ge B (pc := 66) (tgt := 131) dX7_years_66 (by decide) hf (fun _ hf => ?_) (fun _ hf => ?_)
                  · refine r_iincS B hnL (pc := 131) dX7_years_131 rfl kc_1 (by decide) hf (fun y4 hf => ?_)
                    refine r_lc (loc' := [some (.ref (ad 0)), some (.int x1), some (.int x2), some (.int v3), some (.int v4), some (.int y4), some (.int y2), some (.int y3)]) rfl ?_
                    refine r_goto B (pc := 134) (tgt := 39) dX7_years_134 (by decide) ?_
                    exact r_mask [true, true, true, true, true, true, false, false] rfl (ih39 v3 v4 y4 hf)
                  · refine r_iload B (pc := 69) dX7_years_69 rfl ?_
                    refine r_aload_n B (pc := 71) dX7_years_71 rfl rfl ?_
                    refine gM_RX7_85_0 B (pc := 72) dX7_years_72 ?_
                    refine r_icmp_ge B (pc := 75) (tgt := 131) dX7_years_75 (by decide) hf (fun _ hf => ?_) (fun _ hf => ?_)
                    · refine r_iincS B hnL (pc := 131) dX7_years_131 rfl kc_1 (by decide) hf (fun y5 hf => ?_)
                      refine r_lc (loc' := [some (.ref (ad 0)), some (.int x1), some (.int x2), some (.int v3), some (.int v4), some (.int y5), some (.int y2), some (.int y3)]) rfl ?_
                      refine r_goto B (pc := 134) (tgt := 39) dX7_years_134 (by decide) ?_
                      exact r_mask [true, true, true, true, true, true, false, false] rfl (ih39 v3 v4 y5 hf)
                    · refine r_aload_n B (pc := 78) dX7_years_78 rfl rfl ?_
                      refine gM_RX7_19_0 B (pc := 79) dX7_years_79 ?_
                      refine r_iload B (pc := 82) dX7_years_82 rfl ?_
                      refine aldM_4 B (pc := 84) dX7_years_84 hf (fun _ hf => ?_)
                      refine r_iload B (pc := 85) dX7_years_85 rfl ?_
                      refine r_icmp_ne B (pc := 87) (tgt := 131) dX7_years_87 (by decide) hf (fun _ hf => ?_) (fun _ hf => ?_)
                      · refine r_iincS B hnL (pc := 131) dX7_years_131 rfl kc_1 (by decide) hf (fun y6 hf => ?_)
                        refine r_lc (loc' := [some (.ref (ad 0)), some (.int x1), some (.int x2), some (.int v3), some (.int v4), some (.int y6), some (.int y2), some (.int y3)]) rfl ?_
                        refine r_goto B (pc := 134) (tgt := 39) dX7_years_134 (by decide) ?_
                        exact r_mask [true, true, true, true, true, true, false, false] rfl (ih39 v3 v4 y6 hf)
                      · refine r_aload_n B (pc := 90) dX7_years_90 rfl rfl ?_
                        refine r_iload B (pc := 91) dX7_years_91 rfl ?_
                        obtain ⟨r8, hc7, hf⟩ := bdr_e hf
                        refine r_cVI B (c_X7_arrears X.l X.D K ad σ y2 hc7) F_X7_arrears lk_RX7_163 (q0 := 0) (ci := 7) rfl rfl (Nat.le_of_ble_eq_true rfl) (Nat.le_of_ble_eq_true rfl) (Nat.le_of_ble_eq_true rfl) (pc := 93) dX7_years_93 rfl ?_
                        refine r_iload B (pc := 96) dX7_years_96 rfl ?_
                        refine r_cSI B (c_X7_has X.l X.D K _ r8 y3) F_X7_has lk_RX7_153 (Nat.le_of_ble_eq_true rfl) (Nat.le_of_ble_eq_true rfl) (Nat.le_of_ble_eq_true rfl) (pc := 98) dX7_years_98 rfl ?_
                        refine r_if_eq B (pc := 101) (tgt := 131) dX7_years_101 (by decide) hf (fun _ hf => ?_) (fun _ hf => ?_)
                        · refine r_iincS B hnL (pc := 131) dX7_years_131 rfl kc_1 (by decide) hf (fun y9 hf => ?_)
                          refine r_lc (loc' := [some (.ref (ad 0)), some (.int x1), some (.int x2), some (.int v3), some (.int v4), some (.int y9), some (.int y2), some (.int y3)]) rfl ?_
                          refine r_goto B (pc := 134) (tgt := 39) dX7_years_134 (by decide) ?_
                          exact r_mask [true, true, true, true, true, true, false, false] rfl (ih39 v3 v4 y9 hf)
                        · refine r_iload_n B (pc := 104) dX7_years_104 rfl rfl ?_
                          refine r_iconst B (pc := 105) dX7_years_105 kc_1 ?_
                          refine r_icmp_ne B (pc := 106) (tgt := 128) dX7_years_106 (by decide) hf (fun _ hf => ?_) (fun _ hf => ?_)
                          · refine r_iincS B hnL (pc := 128) dX7_years_128 rfl kc_1 (by decide) hf (fun y10 hf => ?_)
                            refine r_lc (loc' := [some (.ref (ad 0)), some (.int x1), some (.int x2), some (.int y10), some (.int v4), some (.int v5), some (.int y2), some (.int y3)]) rfl ?_
                            refine r_iincS B hnL (pc := 131) dX7_years_131 rfl kc_1 (by decide) hf (fun y11 hf => ?_)
                            refine r_lc (loc' := [some (.ref (ad 0)), some (.int x1), some (.int x2), some (.int y10), some (.int v4), some (.int y11), some (.int y2), some (.int y3)]) rfl ?_
                            refine r_goto B (pc := 134) (tgt := 39) dX7_years_134 (by decide) ?_
                            exact r_mask [true, true, true, true, true, true, false, false] rfl (ih39 y10 v4 y11 hf)
                          · refine r_aload_n B (pc := 109) dX7_years_109 rfl rfl ?_
                            refine gM_RX7_133_0 B (pc := 110) dX7_years_110 ?_
                            refine r_iload_n B (pc := 113) dX7_years_113 rfl rfl ?_
                            refine r_iload_n B (pc := 114) dX7_years_114 rfl rfl ?_
                            refine r_idivS B (pc := 115) dX7_years_115 hf (fun _ hf => ?_)
                            refine r_iadd B (pc := 116) dX7_years_116 ?_
                            refine r_iload B (pc := 117) dX7_years_117 rfl ?_
                            refine r_isub B (pc := 119) dX7_years_119 ?_
                            refine r_bipush B (pc := 120) dX7_years_120 kb_9 ?_
                            refine r_icmp_lt B (pc := 122) (tgt := 128) dX7_years_122 (by decide) hf (fun _ hf => ?_) (fun _ hf => ?_)
                            · refine r_iincS B hnL (pc := 128) dX7_years_128 rfl kc_1 (by decide) hf (fun y12 hf => ?_)
                              refine r_lc (loc' := [some (.ref (ad 0)), some (.int x1), some (.int x2), some (.int y12), some (.int v4), some (.int v5), some (.int y2), some (.int y3)]) rfl ?_
                              refine r_iincS B hnL (pc := 131) dX7_years_131 rfl kc_1 (by decide) hf (fun y13 hf => ?_)
                              refine r_lc (loc' := [some (.ref (ad 0)), some (.int x1), some (.int x2), some (.int y12), some (.int v4), some (.int y13), some (.int y2), some (.int y3)]) rfl ?_
                              refine r_goto B (pc := 134) (tgt := 39) dX7_years_134 (by decide) ?_
                              exact r_mask [true, true, true, true, true, true, false, false] rfl (ih39 y12 v4 y13 hf)
                            · refine r_iload B (pc := 125) dX7_years_125 rfl ?_
                              exact e_rz hf (nar_i _) (RET 127 _ dX7_years_127)
            exact r_mask [true, true, true, true, true, true, false, false] rfl (k39 FU v3 v4 0 hf)
      exact r_mask [true, true, true, true, true, false, false, false] rfl (k29 FU 0 0 hf)
    · refine r_iconst B (pc := 22) dX7_years_22 kc_m1 ?_
      exact e_rz hf (nar_i _) (RET 23 _ dX7_years_23)
set_option maxHeartbeats 4000000 in
set_option maxRecDepth 20000 in
theorem c_X7_weightOf (l : Launch) (D : va_G) (K : Kt) (ad : Nat → Nat) (σ : St) (x1 : Int32) (x2 : Int32) (x3 : Int32) {r : Int32} (hf : f_X7_weightOf σ x1 x2 x3 = some r) : CtI l yX7_weightOf cX7_weightOf 6 (some .int) 4 97 D K [.ref (ad 0), .int x1, .int x2, .int x3] (wM ad K σ) r (wM ad K σ) := by
  refine met_i pl_RX7 (Nat.le_of_ble_eq_true rfl) (fun X hnL B RET => ?_)
  suffices h : MW X (wM ad K σ) 0 [some (.ref (ad 0)), some (.int x1), some (.int x2), some (.int x3), none, none] [] from h
  unfold f_X7_weightOf at hf
  refine r_iconst B (pc := 0) dX7_weightOf_0 kc_0 ?_
  refine r_istore B hnL (pc := 1) dX7_weightOf_1 (by decide) ?_
  refine r_lc (loc' := [some (.ref (ad 0)), some (.int x1), some (.int x2), some (.int x3), some (.int 0), none]) rfl ?_
  refine r_iconst B (pc := 3) dX7_weightOf_3 kc_0 ?_
  refine r_istore B hnL (pc := 4) dX7_weightOf_4 (by decide) ?_
  refine r_lc (loc' := [some (.ref (ad 0)), some (.int x1), some (.int x2), some (.int x3), some (.int 0), some (.int 0)]) rfl ?_
  have k6 : ∀ (n6 : Nat) (v4 : Int32) (v5 : Int32), f_X7_weightOf_h6 σ x1 x2 x3 n6 v4 v5 = some r → MW X (wM ad K σ) 6 [some (.ref (ad 0)), some (.int x1), some (.int x2), some (.int x3), some (.int v4), some (.int v5)] [] := by
    intro n6
    induction n6 with
    | zero => intro v4 v5 hf; exact nn_z hf
    | succ n6 ih6 =>
      intro v4 v5 hf
      rw [f_X7_weightOf_h6] at hf
      refine r_iload B (pc := 6) dX7_weightOf_6 rfl ?_
      refine r_iconst B (pc := 8) dX7_weightOf_8 kc_5 ?_
      refine r_icmp_ge B (pc := 9) (tgt := 49) dX7_weightOf_9 (by decide) hf (fun _ hf => ?_) (fun _ hf => ?_)
      · refine r_iload B (pc := 49) dX7_weightOf_49 rfl ?_
        exact e_rz hf (nar_i _) (RET 51 _ dX7_weightOf_51)
      · refine r_iload B (pc := 12) dX7_weightOf_12 rfl ?_
        refine r_iload_n B (pc := 14) dX7_weightOf_14 rfl rfl ?_
        refine r_aload_n B (pc := 15) dX7_weightOf_15 rfl rfl ?_
        refine r_iload_n B (pc := 16) dX7_weightOf_16 rfl rfl ?_
        refine r_iload_n B (pc := 17) dX7_weightOf_17 rfl rfl ?_
        refine r_iload B (pc := 18) dX7_weightOf_18 rfl ?_
        obtain ⟨r2, hc1, hf⟩ := bdr_e hf
        refine r_cVI B (c_X7_hearers X.l X.D K ad σ x1 x2 v5 hc1) F_X7_hearers lk_RX7_247 (q0 := 0) (ci := 7) rfl rfl (Nat.le_of_ble_eq_true rfl) (Nat.le_of_ble_eq_true rfl) (Nat.le_of_ble_eq_true rfl) (pc := 20) dX7_weightOf_20 rfl ?_
        refine r_iconst B (pc := 23) dX7_weightOf_23 kc_m1 ?_
        refine r_ixor B (pc := 24) dX7_weightOf_24 ?_
        refine r_iand B (pc := 25) dX7_weightOf_25 ?_
        have k40 : ∀ (v5 : Int32) (t0 : Int32) (t1 : Int32), f_X7_weightOf_b40 (f_X7_weightOf_h6 σ x1 x2 x3 n6) σ x1 x2 x3 v5 t0 t1 = some r → MW X (wM ad K σ) 40 [some (.ref (ad 0)), some (.int x1), some (.int x2), some (.int x3), none, some (.int v5)] [.int t0, .int t1] := by
          intro v5 t0 t1 hf
          unfold f_X7_weightOf_b40 at hf
          refine r_iadd B (pc := 40) dX7_weightOf_40 ?_
          refine r_nm hf (fun y3 hf => ?_)
          refine r_istore B hnL (pc := 41) dX7_weightOf_41 (by decide) ?_
          refine r_lc (loc' := [some (.ref (ad 0)), some (.int x1), some (.int x2), some (.int x3), some (.int y3), some (.int v5)]) rfl ?_
          refine r_iincS B hnL (pc := 43) dX7_weightOf_43 rfl kc_1 (by decide) hf (fun y4 hf => ?_)
          refine r_lc (loc' := [some (.ref (ad 0)), some (.int x1), some (.int x2), some (.int x3), some (.int y3), some (.int y4)]) rfl ?_
          refine r_goto B (pc := 46) (tgt := 6) dX7_weightOf_46 (by decide) ?_
          exact r_mask [true, true, true, true, true, true] rfl (ih6 y3 y4 hf)
        refine r_if_ne B (pc := 26) (tgt := 39) dX7_weightOf_26 (by decide) hf (fun _ hf => ?_) (fun _ hf => ?_)
        · refine r_iconst B (pc := 39) dX7_weightOf_39 kc_0 ?_
          exact r_mask [true, true, true, true, false, true] rfl (k40 v5 0 v4 hf)
        · refine r_aload_n B (pc := 29) dX7_weightOf_29 rfl rfl ?_
          refine gM_RX7_31_0 B (pc := 30) dX7_weightOf_30 ?_
          refine r_iload B (pc := 33) dX7_weightOf_33 rfl ?_
          refine aldM_8 B (pc := 35) dX7_weightOf_35 hf (fun _ hf => ?_)
          refine r_goto B (pc := 36) (tgt := 40) dX7_weightOf_36 (by decide) ?_
          exact r_mask [true, true, true, true, false, true] rfl (k40 v5 (σ.1 8 (ix v5)) v4 hf)
  exact r_mask [true, true, true, true, true, true] rfl (k6 FU 0 0 hf)
set_option maxHeartbeats 4000000 in
set_option maxRecDepth 20000 in
theorem c_X7_allWeights (l : Launch) (D : va_G) (K : Kt) (ad : Nat → Nat) (σ : St) {r : Int32} (hf : f_X7_allWeights σ = some r) : CtI l yX7_allWeights cX7_allWeights 3 (some .int) 0 0 D K [.ref (ad 0)] (wM ad K σ) r (wM ad K σ) := by
  refine met_i pl_RX7 (Nat.le_of_ble_eq_true rfl) (fun X hnL B RET => ?_)
  suffices h : MW X (wM ad K σ) 0 [some (.ref (ad 0)), none, none] [] from h
  unfold f_X7_allWeights at hf
  refine r_iconst B (pc := 0) dX7_allWeights_0 kc_0 ?_
  refine r_istore_n B hnL (pc := 1) dX7_allWeights_1 rfl (by decide) ?_
  refine r_lc (loc' := [some (.ref (ad 0)), some (.int 0), none]) rfl ?_
  refine r_iconst B (pc := 2) dX7_allWeights_2 kc_0 ?_
  refine r_istore_n B hnL (pc := 3) dX7_allWeights_3 rfl (by decide) ?_
  refine r_lc (loc' := [some (.ref (ad 0)), some (.int 0), some (.int 0)]) rfl ?_
  have k4 : ∀ (n4 : Nat) (v1 : Int32) (v2 : Int32), f_X7_allWeights_h4 σ n4 v1 v2 = some r → MW X (wM ad K σ) 4 [some (.ref (ad 0)), some (.int v1), some (.int v2)] [] := by
    intro n4
    induction n4 with
    | zero => intro v1 v2 hf; exact nn_z hf
    | succ n4 ih4 =>
      intro v1 v2 hf
      rw [f_X7_allWeights_h4] at hf
      refine r_iload_n B (pc := 4) dX7_allWeights_4 rfl rfl ?_
      refine r_iconst B (pc := 5) dX7_allWeights_5 kc_5 ?_
      refine r_icmp_ge B (pc := 6) (tgt := 24) dX7_allWeights_6 (by decide) hf (fun _ hf => ?_) (fun _ hf => ?_)
      · refine r_iload_n B (pc := 24) dX7_allWeights_24 rfl rfl ?_
        exact e_rz hf (nar_i _) (RET 25 _ dX7_allWeights_25)
      · refine r_iload_n B (pc := 9) dX7_allWeights_9 rfl rfl ?_
        refine r_aload_n B (pc := 10) dX7_allWeights_10 rfl rfl ?_
        refine gM_RX7_31_0 B (pc := 11) dX7_allWeights_11 ?_
        refine r_iload_n B (pc := 14) dX7_allWeights_14 rfl rfl ?_
        refine aldM_8 B (pc := 15) dX7_allWeights_15 hf (fun _ hf => ?_)
        refine r_iadd B (pc := 16) dX7_allWeights_16 ?_
        refine r_nm hf (fun y1 hf => ?_)
        refine r_istore_n B hnL (pc := 17) dX7_allWeights_17 rfl (by decide) ?_
        refine r_lc (loc' := [some (.ref (ad 0)), some (.int y1), some (.int v2)]) rfl ?_
        refine r_iincS B hnL (pc := 18) dX7_allWeights_18 rfl kc_1 (by decide) hf (fun y2 hf => ?_)
        refine r_lc (loc' := [some (.ref (ad 0)), some (.int y1), some (.int y2)]) rfl ?_
        refine r_goto B (pc := 21) (tgt := 4) dX7_allWeights_21 (by decide) ?_
        exact r_mask [true, true, true] rfl (ih4 y1 y2 hf)
  exact r_mask [true, true, true] rfl (k4 FU 0 0 hf)
set_option maxHeartbeats 4000000 in
set_option maxRecDepth 20000 in
theorem c_X7_common (l : Launch) (D : va_G) (K : Kt) (w : va_W) (x0 : Int32) (x1 : Int32) {r : Int32} (hf : f_X7_common x0 x1 = some r) : CtI l yX7_common cX7_common 5 (some .int) 0 0 D K [.int x0, .int x1] w r w := by
  refine met_i pl_RX7 (Nat.le_of_ble_eq_true rfl) (fun X hnL B RET => ?_)
  suffices h : MW X w 0 [some (.int x0), some (.int x1), none, none, none] [] from h
  unfold f_X7_common at hf
  refine r_iload_n B (pc := 0) dX7_common_0 rfl rfl ?_
  refine r_istore_n B hnL (pc := 1) dX7_common_1 rfl (by decide) ?_
  refine r_lc (loc' := [some (.int x0), some (.int x1), some (.int x0), none, none]) rfl ?_
  refine r_iload_n B (pc := 2) dX7_common_2 rfl rfl ?_
  refine r_istore_n B hnL (pc := 3) dX7_common_3 rfl (by decide) ?_
  refine r_lc (loc' := [some (.int x0), some (.int x1), some (.int x0), some (.int x1), none]) rfl ?_
  have k4 : ∀ (n4 : Nat) (v2 : Int32) (v3 : Int32), f_X7_common_h4 x0 x1 n4 v2 v3 = some r → MW X w 4 [none, none, some (.int v2), some (.int v3), none] [] := by
    intro n4
    induction n4 with
    | zero => intro v2 v3 hf; exact nn_z hf
    | succ n4 ih4 =>
      intro v2 v3 hf
      rw [f_X7_common_h4] at hf
      refine r_iload_n B (pc := 4) dX7_common_4 rfl rfl ?_
      refine r_if_eq B (pc := 5) (tgt := 21) dX7_common_5 (by decide) hf (fun _ hf => ?_) (fun _ hf => ?_)
      · refine r_iload_n B (pc := 21) dX7_common_21 rfl rfl ?_
        exact e_rz hf (nar_i _) (RET 22 _ dX7_common_22)
      · refine r_iload_n B (pc := 8) dX7_common_8 rfl rfl ?_
        refine r_iload_n B (pc := 9) dX7_common_9 rfl rfl ?_
        refine r_iremS B (pc := 10) dX7_common_10 hf (fun _ hf => ?_)
        refine r_nm hf (fun y1 hf => ?_)
        refine r_istore B hnL (pc := 11) dX7_common_11 (by decide) ?_
        refine r_lc (loc' := [none, none, some (.int v2), some (.int v3), some (.int y1)]) rfl ?_
        refine r_iload_n B (pc := 13) dX7_common_13 rfl rfl ?_
        refine r_istore_n B hnL (pc := 14) dX7_common_14 rfl (by decide) ?_
        refine r_lc (loc' := [none, none, some (.int v3), some (.int v3), some (.int y1)]) rfl ?_
        refine r_iload B (pc := 15) dX7_common_15 rfl ?_
        refine r_istore_n B hnL (pc := 17) dX7_common_17 rfl (by decide) ?_
        refine r_lc (loc' := [none, none, some (.int v3), some (.int y1), some (.int y1)]) rfl ?_
        refine r_goto B (pc := 18) (tgt := 4) dX7_common_18 (by decide) ?_
        exact r_mask [false, false, true, true, false] rfl (ih4 v3 y1 hf)
  exact r_mask [false, false, true, true, false] rfl (k4 FU x0 x1 hf)
set_option maxHeartbeats 4000000 in
set_option maxRecDepth 20000 in
theorem c_X7_chance (l : Launch) (D : va_G) (K : Kt) (ad : Nat → Nat) (σ : St) (x1 : Int32) (x2 : Int32) (x3 : Int32) (x4 : Int32) {r : Int32} (hf : f_X7_chance σ x1 x2 x3 x4 = some r) : CtI l yX7_chance cX7_chance 8 (some .int) 5 122 D K [.ref (ad 0), .int x1, .int x2, .int x3, .int x4] (wM ad K σ) r (wM ad K σ) := by
  refine met_i pl_RX7 (Nat.le_of_ble_eq_true rfl) (fun X hnL B RET => ?_)
  suffices h : MW X (wM ad K σ) 0 [some (.ref (ad 0)), some (.int x1), some (.int x2), some (.int x3), some (.int x4), none, none, none] [] from h
  unfold f_X7_chance at hf
  refine r_aload_n B (pc := 0) dX7_chance_0 rfl rfl ?_
  refine r_iload_n B (pc := 1) dX7_chance_1 rfl rfl ?_
  refine r_i2l B (pc := 2) dX7_chance_2 ?_
  refine r_cVI B (c_X7_isReader X.l X.D K ad σ (x1.toInt64)) F_X7_isReader lk_RX7_213 (q0 := 0) (ci := 7) rfl rfl (Nat.le_of_ble_eq_true rfl) (Nat.le_of_ble_eq_true rfl) (Nat.le_of_ble_eq_true rfl) (pc := 3) dX7_chance_3 rfl ?_
  refine r_if_eq B (pc := 6) (tgt := 36) dX7_chance_6 (by decide) hf (fun _ hf => ?_) (fun _ hf => ?_)
  · refine r_iconst B (pc := 36) dX7_chance_36 kc_m1 ?_
    exact e_rz hf (nar_i _) (RET 37 _ dX7_chance_37)
  · refine r_iload_n B (pc := 9) dX7_chance_9 rfl rfl ?_
    refine r_i2l B (pc := 10) dX7_chance_10 ?_
    refine r_cSI B (c_X7_isPlace X.l X.D K _ (x2.toInt64)) F_X7_isPlace lk_RX7_95 (Nat.le_of_ble_eq_true rfl) (Nat.le_of_ble_eq_true rfl) (Nat.le_of_ble_eq_true rfl) (pc := 11) dX7_chance_11 rfl ?_
    refine r_if_eq B (pc := 14) (tgt := 36) dX7_chance_14 (by decide) hf (fun _ hf => ?_) (fun _ hf => ?_)
    · refine r_iconst B (pc := 36) dX7_chance_36 kc_m1 ?_
      exact e_rz hf (nar_i _) (RET 37 _ dX7_chance_37)
    · refine r_aload_n B (pc := 17) dX7_chance_17 rfl rfl ?_
      refine r_iload_n B (pc := 18) dX7_chance_18 rfl rfl ?_
      refine r_cVI B (c_X7_areGraves X.l X.D K ad σ x3) F_X7_areGraves lk_RX7_287 (q0 := 0) (ci := 7) rfl rfl (Nat.le_of_ble_eq_true rfl) (Nat.le_of_ble_eq_true rfl) (Nat.le_of_ble_eq_true rfl) (pc := 19) dX7_chance_19 rfl ?_
      refine r_if_eq B (pc := 22) (tgt := 36) dX7_chance_22 (by decide) hf (fun _ hf => ?_) (fun _ hf => ?_)
      · refine r_iconst B (pc := 36) dX7_chance_36 kc_m1 ?_
        exact e_rz hf (nar_i _) (RET 37 _ dX7_chance_37)
      · refine r_iload B (pc := 25) dX7_chance_25 rfl ?_
        refine r_i2l B (pc := 27) dX7_chance_27 ?_
        refine r_lconst B (pc := 28) dX7_chance_28 kl_0 ?_
        refine r_lconst B (pc := 29) dX7_chance_29 kl_1 ?_
        refine r_cSI B (c_X7_in X.l X.D K _ (x4.toInt64) 0 1) F_X7_in lk_RX7_81 (Nat.le_of_ble_eq_true rfl) (Nat.le_of_ble_eq_true rfl) (Nat.le_of_ble_eq_true rfl) (pc := 30) dX7_chance_30 rfl ?_
        refine r_if_ne B (pc := 33) (tgt := 38) dX7_chance_33 (by decide) hf (fun _ hf => ?_) (fun _ hf => ?_)
        · refine r_aload_n B (pc := 38) dX7_chance_38 rfl rfl ?_
          obtain ⟨r2, hc1, hf⟩ := bdr_e hf
          refine r_cVI B (c_X7_allWeights X.l X.D K ad σ hc1) F_X7_allWeights lk_RX7_290 (q0 := 0) (ci := 7) rfl rfl (Nat.le_of_ble_eq_true rfl) (Nat.le_of_ble_eq_true rfl) (Nat.le_of_ble_eq_true rfl) (pc := 39) dX7_chance_39 rfl ?_
          refine r_istore B hnL (pc := 42) dX7_chance_42 (by decide) ?_
          refine r_lc (loc' := [some (.ref (ad 0)), some (.int x1), some (.int x2), some (.int x3), some (.int x4), some (.int r2), none, none]) rfl ?_
          refine r_iload B (pc := 44) dX7_chance_44 rfl ?_
          refine r_if_ne B (pc := 46) (tgt := 52) dX7_chance_46 (by decide) hf (fun _ hf => ?_) (fun _ hf => ?_)
          · refine r_aload_n B (pc := 52) dX7_chance_52 rfl rfl ?_
            refine r_iload_n B (pc := 53) dX7_chance_53 rfl rfl ?_
            refine r_iload_n B (pc := 54) dX7_chance_54 rfl rfl ?_
            refine r_iload_n B (pc := 55) dX7_chance_55 rfl rfl ?_
            obtain ⟨r4, hc3, hf⟩ := bdr_e hf
            refine r_cVI B (c_X7_weightOf X.l X.D K ad σ x1 x2 x3 hc3) F_X7_weightOf lk_RX7_293 (q0 := 0) (ci := 7) rfl rfl (Nat.le_of_ble_eq_true rfl) (Nat.le_of_ble_eq_true rfl) (Nat.le_of_ble_eq_true rfl) (pc := 56) dX7_chance_56 rfl ?_
            refine r_istore B hnL (pc := 59) dX7_chance_59 (by decide) ?_
            refine r_lc (loc' := [some (.ref (ad 0)), some (.int x1), some (.int x2), some (.int x3), some (.int x4), some (.int r2), some (.int r4), none]) rfl ?_
            refine r_iload B (pc := 61) dX7_chance_61 rfl ?_
            refine r_iload B (pc := 63) dX7_chance_63 rfl ?_
            obtain ⟨r6, hc5, hf⟩ := bdr_e hf
            refine r_cSI B (c_X7_common X.l X.D K _ r4 r2 hc5) F_X7_common lk_RX7_296 (Nat.le_of_ble_eq_true rfl) (Nat.le_of_ble_eq_true rfl) (Nat.le_of_ble_eq_true rfl) (pc := 65) dX7_chance_65 rfl ?_
            refine r_istore B hnL (pc := 68) dX7_chance_68 (by decide) ?_
            refine r_lc (loc' := [some (.ref (ad 0)), some (.int x1), some (.int x2), some (.int x3), some (.int x4), some (.int r2), some (.int r4), some (.int r6)]) rfl ?_
            refine r_iload B (pc := 70) dX7_chance_70 rfl ?_
            refine r_if_ne B (pc := 72) (tgt := 83) dX7_chance_72 (by decide) hf (fun _ hf => ?_) (fun _ hf => ?_)
            · refine r_iload B (pc := 83) dX7_chance_83 rfl ?_
              refine r_iload B (pc := 85) dX7_chance_85 rfl ?_
              refine r_idivS B (pc := 87) dX7_chance_87 hf (fun _ hf => ?_)
              exact e_rz hf (nar_i _) (RET 88 _ dX7_chance_88)
            · refine r_iload B (pc := 75) dX7_chance_75 rfl ?_
              refine r_iload B (pc := 77) dX7_chance_77 rfl ?_
              refine r_idivS B (pc := 79) dX7_chance_79 hf (fun _ hf => ?_)
              refine r_goto B (pc := 80) (tgt := 88) dX7_chance_80 (by decide) ?_
              exact e_rz hf (nar_i _) (RET 88 _ dX7_chance_88)
          · refine r_bipush B (pc := 49) dX7_chance_49 kb_m2 ?_
            exact e_rz hf (nar_i _) (RET 51 _ dX7_chance_51)
        · refine r_iconst B (pc := 36) dX7_chance_36 kc_m1 ?_
          exact e_rz hf (nar_i _) (RET 37 _ dX7_chance_37)
set_option maxHeartbeats 4000000 in
set_option maxRecDepth 20000 in
theorem c_X7_likeliest (l : Launch) (D : va_G) (K : Kt) (ad : Nat → Nat) (σ : St) (x1 : Int32) (x2 : Int32) {r : Int32} (hf : f_X7_likeliest σ x1 x2 = some r) : CtI l yX7_likeliest cX7_likeliest 5 (some .int) 5 122 D K [.ref (ad 0), .int x1, .int x2] (wM ad K σ) r (wM ad K σ) := by
  refine met_i pl_RX7 (Nat.le_of_ble_eq_true rfl) (fun X hnL B RET => ?_)
  suffices h : MW X (wM ad K σ) 0 [some (.ref (ad 0)), some (.int x1), some (.int x2), none, none] [] from h
  unfold f_X7_likeliest at hf
  refine r_aload_n B (pc := 0) dX7_likeliest_0 rfl rfl ?_
  refine r_iload_n B (pc := 1) dX7_likeliest_1 rfl rfl ?_
  refine r_i2l B (pc := 2) dX7_likeliest_2 ?_
  refine r_cVI B (c_X7_isReader X.l X.D K ad σ (x1.toInt64)) F_X7_isReader lk_RX7_213 (q0 := 0) (ci := 7) rfl rfl (Nat.le_of_ble_eq_true rfl) (Nat.le_of_ble_eq_true rfl) (Nat.le_of_ble_eq_true rfl) (pc := 3) dX7_likeliest_3 rfl ?_
  refine r_if_eq B (pc := 6) (tgt := 17) dX7_likeliest_6 (by decide) hf (fun _ hf => ?_) (fun _ hf => ?_)
  · refine r_iconst B (pc := 17) dX7_likeliest_17 kc_m1 ?_
    exact e_rz hf (nar_i _) (RET 18 _ dX7_likeliest_18)
  · refine r_aload_n B (pc := 9) dX7_likeliest_9 rfl rfl ?_
    refine r_iload_n B (pc := 10) dX7_likeliest_10 rfl rfl ?_
    refine r_cVI B (c_X7_areGraves X.l X.D K ad σ x2) F_X7_areGraves lk_RX7_287 (q0 := 0) (ci := 7) rfl rfl (Nat.le_of_ble_eq_true rfl) (Nat.le_of_ble_eq_true rfl) (Nat.le_of_ble_eq_true rfl) (pc := 11) dX7_likeliest_11 rfl ?_
    refine r_if_ne B (pc := 14) (tgt := 19) dX7_likeliest_14 (by decide) hf (fun _ hf => ?_) (fun _ hf => ?_)
    · refine r_aload_n B (pc := 19) dX7_likeliest_19 rfl rfl ?_
      obtain ⟨r2, hc1, hf⟩ := bdr_e hf
      refine r_cVI B (c_X7_allWeights X.l X.D K ad σ hc1) F_X7_allWeights lk_RX7_290 (q0 := 0) (ci := 7) rfl rfl (Nat.le_of_ble_eq_true rfl) (Nat.le_of_ble_eq_true rfl) (Nat.le_of_ble_eq_true rfl) (pc := 20) dX7_likeliest_20 rfl ?_
      refine r_if_ne B (pc := 23) (tgt := 29) dX7_likeliest_23 (by decide) hf (fun _ hf => ?_) (fun _ hf => ?_)
      · refine r_iconst B (pc := 29) dX7_likeliest_29 kc_0 ?_
        refine r_istore_n B hnL (pc := 30) dX7_likeliest_30 rfl (by decide) ?_
        refine r_lc (loc' := [some (.ref (ad 0)), some (.int x1), some (.int x2), some (.int 0), none]) rfl ?_
        refine r_iconst B (pc := 31) dX7_likeliest_31 kc_1 ?_
        refine r_istore B hnL (pc := 32) dX7_likeliest_32 (by decide) ?_
        refine r_lc (loc' := [some (.ref (ad 0)), some (.int x1), some (.int x2), some (.int 0), some (.int 1)]) rfl ?_
        have k34 : ∀ (n34 : Nat) (v3 : Int32) (v4 : Int32), f_X7_likeliest_h34 σ x1 x2 n34 v3 v4 = some r → MW X (wM ad K σ) 34 [some (.ref (ad 0)), some (.int x1), some (.int x2), some (.int v3), some (.int v4)] [] := by
          intro n34
          induction n34 with
          | zero => intro v3 v4 hf; exact nn_z hf
          | succ n34 ih34 =>
            intro v3 v4 hf
            rw [f_X7_likeliest_h34] at hf
            refine r_iload B (pc := 34) dX7_likeliest_34 rfl ?_
            refine r_bipush B (pc := 36) dX7_likeliest_36 kb_36 ?_
            refine r_icmp_ge B (pc := 38) (tgt := 72) dX7_likeliest_38 (by decide) hf (fun _ hf => ?_) (fun _ hf => ?_)
            · refine r_iload_n B (pc := 72) dX7_likeliest_72 rfl rfl ?_
              exact e_rz hf (nar_i _) (RET 73 _ dX7_likeliest_73)
            · refine r_aload_n B (pc := 41) dX7_likeliest_41 rfl rfl ?_
              refine r_iload_n B (pc := 42) dX7_likeliest_42 rfl rfl ?_
              refine r_iload B (pc := 43) dX7_likeliest_43 rfl ?_
              refine r_iload_n B (pc := 45) dX7_likeliest_45 rfl rfl ?_
              obtain ⟨r4, hc3, hf⟩ := bdr_e hf
              refine r_cVI B (c_X7_weightOf X.l X.D K ad σ x1 v4 x2 hc3) F_X7_weightOf lk_RX7_293 (q0 := 0) (ci := 7) rfl rfl (Nat.le_of_ble_eq_true rfl) (Nat.le_of_ble_eq_true rfl) (Nat.le_of_ble_eq_true rfl) (pc := 46) dX7_likeliest_46 rfl ?_
              refine r_aload_n B (pc := 49) dX7_likeliest_49 rfl rfl ?_
              refine r_iload_n B (pc := 50) dX7_likeliest_50 rfl rfl ?_
              refine r_iload_n B (pc := 51) dX7_likeliest_51 rfl rfl ?_
              refine r_iload_n B (pc := 52) dX7_likeliest_52 rfl rfl ?_
              obtain ⟨r6, hc5, hf⟩ := bdr_e hf
              refine r_cVI B (c_X7_weightOf X.l X.D K ad σ x1 v3 x2 hc5) F_X7_weightOf lk_RX7_293 (q0 := 0) (ci := 7) rfl rfl (Nat.le_of_ble_eq_true rfl) (Nat.le_of_ble_eq_true rfl) (Nat.le_of_ble_eq_true rfl) (pc := 53) dX7_likeliest_53 rfl ?_
              refine r_icmp_le B (pc := 56) (tgt := 64) dX7_likeliest_56 (by decide) hf (fun _ hf => ?_) (fun _ hf => ?_)
              · refine r_iload_n B (pc := 64) dX7_likeliest_64 rfl rfl ?_
                refine r_istore_n B hnL (pc := 65) dX7_likeliest_65 rfl (by decide) ?_
                refine r_lc (loc' := [some (.ref (ad 0)), some (.int x1), some (.int x2), some (.int v3), some (.int v4)]) rfl ?_
                refine r_iincS B hnL (pc := 66) dX7_likeliest_66 rfl kc_1 (by decide) hf (fun y7 hf => ?_)
                refine r_lc (loc' := [some (.ref (ad 0)), some (.int x1), some (.int x2), some (.int v3), some (.int y7)]) rfl ?_
                refine r_goto B (pc := 69) (tgt := 34) dX7_likeliest_69 (by decide) ?_
                exact r_mask [true, true, true, true, true] rfl (ih34 v3 y7 hf)
              · refine r_iload B (pc := 59) dX7_likeliest_59 rfl ?_
                refine r_goto B (pc := 61) (tgt := 65) dX7_likeliest_61 (by decide) ?_
                refine r_istore_n B hnL (pc := 65) dX7_likeliest_65 rfl (by decide) ?_
                refine r_lc (loc' := [some (.ref (ad 0)), some (.int x1), some (.int x2), some (.int v4), some (.int v4)]) rfl ?_
                refine r_iincS B hnL (pc := 66) dX7_likeliest_66 rfl kc_1 (by decide) hf (fun y8 hf => ?_)
                refine r_lc (loc' := [some (.ref (ad 0)), some (.int x1), some (.int x2), some (.int v4), some (.int y8)]) rfl ?_
                refine r_goto B (pc := 69) (tgt := 34) dX7_likeliest_69 (by decide) ?_
                exact r_mask [true, true, true, true, true] rfl (ih34 v4 y8 hf)
        exact r_mask [true, true, true, true, true] rfl (k34 FU 0 1 hf)
      · refine r_bipush B (pc := 26) dX7_likeliest_26 kb_m2 ?_
        exact e_rz hf (nar_i _) (RET 28 _ dX7_likeliest_28)
    · refine r_iconst B (pc := 17) dX7_likeliest_17 kc_m1 ?_
      exact e_rz hf (nar_i _) (RET 18 _ dX7_likeliest_18)
set_option maxHeartbeats 4000000 in
set_option maxRecDepth 20000 in
theorem c_X7_more (l : Launch) (D : va_G) (K : Kt) (ad : Nat → Nat) (σ : St) (x1 : Int32) (x2 : Int32) {r : Int32} (hf : f_X7_more σ x1 x2 = some r) : CtI l yX7_more cX7_more 3 (some .int) 2 46 D K [.ref (ad 0), .int x1, .int x2] (wM ad K σ) r (wM ad K σ) := by
  refine met_i pl_RX7 (Nat.le_of_ble_eq_true rfl) (fun X hnL B RET => ?_)
  suffices h : MW X (wM ad K σ) 0 [some (.ref (ad 0)), some (.int x1), some (.int x2)] [] from h
  unfold f_X7_more at hf
  refine r_aload_n B (pc := 0) dX7_more_0 rfl rfl ?_
  refine r_iload_n B (pc := 1) dX7_more_1 rfl rfl ?_
  refine r_cVI B (c_X7_isGrave X.l X.D K ad σ x1) F_X7_isGrave lk_RX7_166 (q0 := 0) (ci := 7) rfl rfl (Nat.le_of_ble_eq_true rfl) (Nat.le_of_ble_eq_true rfl) (Nat.le_of_ble_eq_true rfl) (pc := 2) dX7_more_2 rfl ?_
  refine r_if_eq B (pc := 5) (tgt := 38) dX7_more_5 (by decide) hf (fun _ hf => ?_) (fun _ hf => ?_)
  · refine r_iconst B (pc := 38) dX7_more_38 kc_m1 ?_
    exact e_rz hf (nar_i _) (RET 39 _ dX7_more_39)
  · refine r_aload_n B (pc := 8) dX7_more_8 rfl rfl ?_
    refine r_iload_n B (pc := 9) dX7_more_9 rfl rfl ?_
    refine r_cVI B (c_X7_isGrave X.l X.D K ad σ x2) F_X7_isGrave lk_RX7_166 (q0 := 0) (ci := 7) rfl rfl (Nat.le_of_ble_eq_true rfl) (Nat.le_of_ble_eq_true rfl) (Nat.le_of_ble_eq_true rfl) (pc := 10) dX7_more_10 rfl ?_
    refine r_if_eq B (pc := 13) (tgt := 38) dX7_more_13 (by decide) hf (fun _ hf => ?_) (fun _ hf => ?_)
    · refine r_iconst B (pc := 38) dX7_more_38 kc_m1 ?_
      exact e_rz hf (nar_i _) (RET 39 _ dX7_more_39)
    · refine r_aload_n B (pc := 16) dX7_more_16 rfl rfl ?_
      refine gM_RX7_38_0 B (pc := 17) dX7_more_17 ?_
      refine r_iconst B (pc := 20) dX7_more_20 kc_0 ?_
      refine r_iload_n B (pc := 21) dX7_more_21 rfl rfl ?_
      refine r_iadd B (pc := 22) dX7_more_22 ?_
      refine aldM_9 B (pc := 23) dX7_more_23 hf (fun _ hf => ?_)
      refine r_aload_n B (pc := 24) dX7_more_24 rfl rfl ?_
      refine gM_RX7_38_0 B (pc := 25) dX7_more_25 ?_
      refine r_iconst B (pc := 28) dX7_more_28 kc_0 ?_
      refine r_iload_n B (pc := 29) dX7_more_29 rfl rfl ?_
      refine r_iadd B (pc := 30) dX7_more_30 ?_
      refine aldM_9 B (pc := 31) dX7_more_31 hf (fun _ hf => ?_)
      refine r_iconst B (pc := 32) dX7_more_32 kc_m1 ?_
      refine r_ixor B (pc := 33) dX7_more_33 ?_
      refine r_iand B (pc := 34) dX7_more_34 ?_
      refine r_goto B (pc := 35) (tgt := 39) dX7_more_35 (by decide) ?_
      exact e_rz hf (nar_i _) (RET 39 _ dX7_more_39)
set_option maxHeartbeats 4000000 in
set_option maxRecDepth 20000 in
theorem c_X7_sooner (l : Launch) (D : va_G) (K : Kt) (ad : Nat → Nat) (σ : St) (x1 : Int32) (x2 : Int32) {r : Int32} (hf : f_X7_sooner σ x1 x2 = some r) : CtI l yX7_sooner cX7_sooner 9 (some .int) 2 46 D K [.ref (ad 0), .int x1, .int x2] (wM ad K σ) r (wM ad K σ) := by
  refine met_i pl_RX7 (Nat.le_of_ble_eq_true rfl) (fun X hnL B RET => ?_)
  suffices h : MW X (wM ad K σ) 0 [some (.ref (ad 0)), some (.int x1), some (.int x2), none, none, none, none, none, none] [] from h
  unfold f_X7_sooner at hf
  refine r_aload_n B (pc := 0) dX7_sooner_0 rfl rfl ?_
  refine r_iload_n B (pc := 1) dX7_sooner_1 rfl rfl ?_
  refine r_cVI B (c_X7_isGrave X.l X.D K ad σ x1) F_X7_isGrave lk_RX7_166 (q0 := 0) (ci := 7) rfl rfl (Nat.le_of_ble_eq_true rfl) (Nat.le_of_ble_eq_true rfl) (Nat.le_of_ble_eq_true rfl) (pc := 2) dX7_sooner_2 rfl ?_
  refine r_if_eq B (pc := 5) (tgt := 18) dX7_sooner_5 (by decide) hf (fun _ hf => ?_) (fun _ hf => ?_)
  · refine r_iconst B (pc := 18) dX7_sooner_18 kc_m1 ?_
    exact e_rz hf (nar_i _) (RET 19 _ dX7_sooner_19)
  · refine r_iload_n B (pc := 8) dX7_sooner_8 rfl rfl ?_
    refine r_i2l B (pc := 9) dX7_sooner_9 ?_
    refine r_lconst B (pc := 10) dX7_sooner_10 kl_0 ?_
    refine r_lconst B (pc := 11) dX7_sooner_11 kl_1 ?_
    refine r_cSI B (c_X7_in X.l X.D K _ (x2.toInt64) 0 1) F_X7_in lk_RX7_81 (Nat.le_of_ble_eq_true rfl) (Nat.le_of_ble_eq_true rfl) (Nat.le_of_ble_eq_true rfl) (pc := 12) dX7_sooner_12 rfl ?_
    refine r_if_ne B (pc := 15) (tgt := 20) dX7_sooner_15 (by decide) hf (fun _ hf => ?_) (fun _ hf => ?_)
    · refine r_iconst B (pc := 20) dX7_sooner_20 kc_0 ?_
      refine r_istore_n B hnL (pc := 21) dX7_sooner_21 rfl (by decide) ?_
      refine r_lc (loc' := [some (.ref (ad 0)), some (.int x1), some (.int x2), some (.int 0), none, none, none, none, none]) rfl ?_
      refine r_bipush B (pc := 22) dX7_sooner_22 kb_m4 ?_
      refine r_istore B hnL (pc := 24) dX7_sooner_24 (by decide) ?_
      refine r_lc (loc' := [some (.ref (ad 0)), some (.int x1), some (.int x2), some (.int 0), some (.int ((-4))), none, none, none, none]) rfl ?_
      refine r_iconst B (pc := 26) dX7_sooner_26 kc_0 ?_
      refine r_istore B hnL (pc := 27) dX7_sooner_27 (by decide) ?_
      refine r_lc (loc' := [some (.ref (ad 0)), some (.int x1), some (.int x2), some (.int 0), some (.int ((-4))), some (.int 0), none, none, none]) rfl ?_
      have k29 : ∀ (n29 : Nat) (v3 : Int32) (v4 : Int32) (v5 : Int32), f_X7_sooner_h29 σ x1 x2 n29 v3 v4 v5 = some r → MW X (wM ad K σ) 29 [some (.ref (ad 0)), some (.int x1), some (.int x2), some (.int v3), some (.int v4), some (.int v5), none, none, none] [] := by
        intro n29
        induction n29 with
        | zero => intro v3 v4 v5 hf; exact nn_z hf
        | succ n29 ih29 =>
          intro v3 v4 v5 hf
          rw [f_X7_sooner_h29] at hf
          refine r_iload B (pc := 29) dX7_sooner_29 rfl ?_
          refine r_sipush B (pc := 31) dX7_sooner_31 ks_144 ?_
          refine r_icmp_ge B (pc := 34) (tgt := 199) dX7_sooner_34 (by decide) hf (fun _ hf => ?_) (fun _ hf => ?_)
          · refine r_iload_n B (pc := 199) dX7_sooner_199 rfl rfl ?_
            refine r_if_ne B (pc := 200) (tgt := 207) dX7_sooner_200 (by decide) hf (fun _ hf => ?_) (fun _ hf => ?_)
            · refine r_iload B (pc := 207) dX7_sooner_207 rfl ?_
              exact e_rz hf (nar_i _) (RET 209 _ dX7_sooner_209)
            · refine r_iload_n B (pc := 203) dX7_sooner_203 rfl rfl ?_
              refine r_goto B (pc := 204) (tgt := 209) dX7_sooner_204 (by decide) ?_
              exact e_rz hf (nar_i _) (RET 209 _ dX7_sooner_209)
          · refine r_iload B (pc := 37) dX7_sooner_37 rfl ?_
            refine r_bipush B (pc := 39) dX7_sooner_39 kb_12 ?_
            refine r_idiv B (pc := 41) dX7_sooner_41 (by decide) ?_
            refine r_nm hf (fun y1 hf => ?_)
            refine r_istore B hnL (pc := 42) dX7_sooner_42 (by decide) ?_
            refine r_lc (loc' := [some (.ref (ad 0)), some (.int x1), some (.int x2), some (.int v3), some (.int v4), some (.int v5), some (.int y1), none, none]) rfl ?_
            refine r_iload B (pc := 44) dX7_sooner_44 rfl ?_
            refine r_bipush B (pc := 46) dX7_sooner_46 kb_12 ?_
            refine r_irem B (pc := 48) dX7_sooner_48 (by decide) ?_
            refine r_nm hf (fun y2 hf => ?_)
            refine r_istore B hnL (pc := 49) dX7_sooner_49 (by decide) ?_
            refine r_lc (loc' := [some (.ref (ad 0)), some (.int x1), some (.int x2), some (.int v3), some (.int v4), some (.int v5), some (.int y1), some (.int y2), none]) rfl ?_
            refine r_iload B (pc := 51) dX7_sooner_51 rfl ?_
            refine r_aload_n B (pc := 53) dX7_sooner_53 rfl rfl ?_
            refine gM_RX7_85_0 B (pc := 54) dX7_sooner_54 ?_
            refine r_icmp_ge B (pc := 57) (tgt := 193) dX7_sooner_57 (by decide) hf (fun _ hf => ?_) (fun _ hf => ?_)
            · refine r_iincS B hnL (pc := 193) dX7_sooner_193 rfl kc_1 (by decide) hf (fun y3 hf => ?_)
              refine r_lc (loc' := [some (.ref (ad 0)), some (.int x1), some (.int x2), some (.int v3), some (.int v4), some (.int y3), some (.int y1), some (.int y2), none]) rfl ?_
              refine r_goto B (pc := 196) (tgt := 29) dX7_sooner_196 (by decide) ?_
              exact r_mask [true, true, true, true, true, true, false, false, false] rfl (ih29 v3 v4 y3 hf)
            · refine r_iload B (pc := 60) dX7_sooner_60 rfl ?_
              refine r_aload_n B (pc := 62) dX7_sooner_62 rfl rfl ?_
              refine gM_RX7_85_0 B (pc := 63) dX7_sooner_63 ?_
              refine r_icmp_ge B (pc := 66) (tgt := 193) dX7_sooner_66 (by decide) hf (fun _ hf => ?_) (fun _ hf => ?_)
              · refine r_iincS B hnL (pc := 193) dX7_sooner_193 rfl kc_1 (by decide) hf (fun y4 hf => ?_)
                refine r_lc (loc' := [some (.ref (ad 0)), some (.int x1), some (.int x2), some (.int v3), some (.int v4), some (.int y4), some (.int y1), some (.int y2), none]) rfl ?_
                refine r_goto B (pc := 196) (tgt := 29) dX7_sooner_196 (by decide) ?_
                exact r_mask [true, true, true, true, true, true, false, false, false] rfl (ih29 v3 v4 y4 hf)
              · refine r_aload_n B (pc := 69) dX7_sooner_69 rfl rfl ?_
                refine gM_RX7_22_0 B (pc := 70) dX7_sooner_70 ?_
                refine r_iload B (pc := 73) dX7_sooner_73 rfl ?_
                refine aldM_5 B (pc := 75) dX7_sooner_75 hf (fun _ hf => ?_)
                refine r_iload B (pc := 76) dX7_sooner_76 rfl ?_
                refine r_cSI B (c_X7_has X.l X.D K _ (σ.1 5 (ix y2)) y1) F_X7_has lk_RX7_153 (Nat.le_of_ble_eq_true rfl) (Nat.le_of_ble_eq_true rfl) (Nat.le_of_ble_eq_true rfl) (pc := 78) dX7_sooner_78 rfl ?_
                refine r_if_eq B (pc := 81) (tgt := 193) dX7_sooner_81 (by decide) hf (fun _ hf => ?_) (fun _ hf => ?_)
                · refine r_iincS B hnL (pc := 193) dX7_sooner_193 rfl kc_1 (by decide) hf (fun y5 hf => ?_)
                  refine r_lc (loc' := [some (.ref (ad 0)), some (.int x1), some (.int x2), some (.int v3), some (.int v4), some (.int y5), some (.int y1), some (.int y2), none]) rfl ?_
                  refine r_goto B (pc := 196) (tgt := 29) dX7_sooner_196 (by decide) ?_
                  exact r_mask [true, true, true, true, true, true, false, false, false] rfl (ih29 v3 v4 y5 hf)
                · refine r_aload_n B (pc := 84) dX7_sooner_84 rfl rfl ?_
                  refine gM_RX7_38_0 B (pc := 85) dX7_sooner_85 ?_
                  refine r_iconst B (pc := 88) dX7_sooner_88 kc_0 ?_
                  refine r_iload_n B (pc := 89) dX7_sooner_89 rfl rfl ?_
                  refine r_iadd B (pc := 90) dX7_sooner_90 ?_
                  refine aldM_9 B (pc := 91) dX7_sooner_91 hf (fun _ hf => ?_)
                  refine r_iload B (pc := 92) dX7_sooner_92 rfl ?_
                  refine r_cSI B (c_X7_has X.l X.D K _ (σ.1 9 (ix (0 + x1))) y1) F_X7_has lk_RX7_153 (Nat.le_of_ble_eq_true rfl) (Nat.le_of_ble_eq_true rfl) (Nat.le_of_ble_eq_true rfl) (pc := 94) dX7_sooner_94 rfl ?_
                  refine r_if_eq B (pc := 97) (tgt := 193) dX7_sooner_97 (by decide) hf (fun _ hf => ?_) (fun _ hf => ?_)
                  · refine r_iincS B hnL (pc := 193) dX7_sooner_193 rfl kc_1 (by decide) hf (fun y6 hf => ?_)
                    refine r_lc (loc' := [some (.ref (ad 0)), some (.int x1), some (.int x2), some (.int v3), some (.int v4), some (.int y6), some (.int y1), some (.int y2), none]) rfl ?_
                    refine r_goto B (pc := 196) (tgt := 29) dX7_sooner_196 (by decide) ?_
                    exact r_mask [true, true, true, true, true, true, false, false, false] rfl (ih29 v3 v4 y6 hf)
                  · refine r_aload_n B (pc := 100) dX7_sooner_100 rfl rfl ?_
                    refine gM_RX7_38_0 B (pc := 101) dX7_sooner_101 ?_
                    refine r_iconst B (pc := 104) dX7_sooner_104 kc_0 ?_
                    refine r_iload_n B (pc := 105) dX7_sooner_105 rfl rfl ?_
                    refine r_iadd B (pc := 106) dX7_sooner_106 ?_
                    refine aldM_9 B (pc := 107) dX7_sooner_107 hf (fun _ hf => ?_)
                    refine r_iload B (pc := 108) dX7_sooner_108 rfl ?_
                    refine r_cSI B (c_X7_has X.l X.D K _ (σ.1 9 (ix (0 + x1))) y2) F_X7_has lk_RX7_153 (Nat.le_of_ble_eq_true rfl) (Nat.le_of_ble_eq_true rfl) (Nat.le_of_ble_eq_true rfl) (pc := 110) dX7_sooner_110 rfl ?_
                    refine r_if_eq B (pc := 113) (tgt := 193) dX7_sooner_113 (by decide) hf (fun _ hf => ?_) (fun _ hf => ?_)
                    · refine r_iincS B hnL (pc := 193) dX7_sooner_193 rfl kc_1 (by decide) hf (fun y7 hf => ?_)
                      refine r_lc (loc' := [some (.ref (ad 0)), some (.int x1), some (.int x2), some (.int v3), some (.int v4), some (.int y7), some (.int y1), some (.int y2), none]) rfl ?_
                      refine r_goto B (pc := 196) (tgt := 29) dX7_sooner_196 (by decide) ?_
                      exact r_mask [true, true, true, true, true, true, false, false, false] rfl (ih29 v3 v4 y7 hf)
                    · refine r_aload_n B (pc := 116) dX7_sooner_116 rfl rfl ?_
                      refine gM_RX7_38_0 B (pc := 117) dX7_sooner_117 ?_
                      refine r_bipush B (pc := 120) dX7_sooner_120 kb_20 ?_
                      refine r_bipush B (pc := 122) dX7_sooner_122 kb_12 ?_
                      refine r_iload_n B (pc := 124) dX7_sooner_124 rfl rfl ?_
                      refine r_imul B (pc := 125) dX7_sooner_125 ?_
                      refine r_iadd B (pc := 126) dX7_sooner_126 ?_
                      refine r_iload B (pc := 127) dX7_sooner_127 rfl ?_
                      refine r_iadd B (pc := 129) dX7_sooner_129 ?_
                      refine aldM_9 B (pc := 130) dX7_sooner_130 hf (fun _ hf => ?_)
                      refine r_aload_n B (pc := 131) dX7_sooner_131 rfl rfl ?_
                      refine gM_RX7_38_0 B (pc := 132) dX7_sooner_132 ?_
                      refine r_bipush B (pc := 135) dX7_sooner_135 kb_20 ?_
                      refine r_bipush B (pc := 137) dX7_sooner_137 kb_12 ?_
                      refine r_iload_n B (pc := 139) dX7_sooner_139 rfl rfl ?_
                      refine r_imul B (pc := 140) dX7_sooner_140 ?_
                      refine r_iadd B (pc := 141) dX7_sooner_141 ?_
                      refine r_iload B (pc := 142) dX7_sooner_142 rfl ?_
                      refine r_iadd B (pc := 144) dX7_sooner_144 ?_
                      refine aldM_9 B (pc := 145) dX7_sooner_145 hf (fun _ hf => ?_)
                      have k154 : ∀ (v3 : Int32) (v4 : Int32) (v5 : Int32) (v6 : Int32) (v7 : Int32) (t0 : Int32), f_X7_sooner_b154 (f_X7_sooner_h29 σ x1 x2 n29) σ x1 x2 v3 v4 v5 v6 v7 t0 = some r → MW X (wM ad K σ) 154 [some (.ref (ad 0)), some (.int x1), some (.int x2), some (.int v3), some (.int v4), some (.int v5), some (.int v6), some (.int v7), none] [.int t0] := by
                        intro v3 v4 v5 v6 v7 t0 hf
                        unfold f_X7_sooner_b154 at hf
                        refine r_istore B hnL (pc := 154) dX7_sooner_154 (by decide) ?_
                        refine r_lc (loc' := [some (.ref (ad 0)), some (.int x1), some (.int x2), some (.int v3), some (.int v4), some (.int v5), some (.int v6), some (.int v7), some (.int t0)]) rfl ?_
                        refine r_iload B (pc := 156) dX7_sooner_156 rfl ?_
                        have k178 : ∀ (v3 : Int32) (v5 : Int32) (v8 : Int32) (t0 : Int32), f_X7_sooner_b178 (f_X7_sooner_h29 σ x1 x2 n29) σ x1 x2 v3 v5 v8 t0 = some r → MW X (wM ad K σ) 178 [some (.ref (ad 0)), some (.int x1), some (.int x2), some (.int v3), none, some (.int v5), none, none, some (.int v8)] [.int t0] := by
                          intro v3 v5 v8 t0 hf
                          unfold f_X7_sooner_b178 at hf
                          refine r_istore B hnL (pc := 178) dX7_sooner_178 (by decide) ?_
                          refine r_lc (loc' := [some (.ref (ad 0)), some (.int x1), some (.int x2), some (.int v3), some (.int t0), some (.int v5), none, none, some (.int v8)]) rfl ?_
                          refine r_iload_n B (pc := 180) dX7_sooner_180 rfl rfl ?_
                          refine r_iload B (pc := 181) dX7_sooner_181 rfl ?_
                          have k191 : ∀ (v4 : Int32) (v5 : Int32) (t0 : Int32) (t1 : Int32), f_X7_sooner_b191 (f_X7_sooner_h29 σ x1 x2 n29) σ x1 x2 v4 v5 t0 t1 = some r → MW X (wM ad K σ) 191 [some (.ref (ad 0)), some (.int x1), some (.int x2), none, some (.int v4), some (.int v5), none, none, none] [.int t0, .int t1] := by
                            intro v4 v5 t0 t1 hf
                            unfold f_X7_sooner_b191 at hf
                            refine r_iadd B (pc := 191) dX7_sooner_191 ?_
                            refine r_nm hf (fun y8 hf => ?_)
                            refine r_istore_n B hnL (pc := 192) dX7_sooner_192 rfl (by decide) ?_
                            refine r_lc (loc' := [some (.ref (ad 0)), some (.int x1), some (.int x2), some (.int y8), some (.int v4), some (.int v5), none, none, none]) rfl ?_
                            refine r_iincS B hnL (pc := 193) dX7_sooner_193 rfl kc_1 (by decide) hf (fun y9 hf => ?_)
                            refine r_lc (loc' := [some (.ref (ad 0)), some (.int x1), some (.int x2), some (.int y8), some (.int v4), some (.int y9), none, none, none]) rfl ?_
                            refine r_goto B (pc := 196) (tgt := 29) dX7_sooner_196 (by decide) ?_
                            exact r_mask [true, true, true, true, true, true, false, false, false] rfl (ih29 y8 v4 y9 hf)
                          refine r_if_eq B (pc := 183) (tgt := 190) dX7_sooner_183 (by decide) hf (fun _ hf => ?_) (fun _ hf => ?_)
                          · refine r_iconst B (pc := 190) dX7_sooner_190 kc_0 ?_
                            exact r_mask [true, true, true, false, true, true, false, false, false] rfl (k191 t0 v5 0 v3 hf)
                          · refine r_iconst B (pc := 186) dX7_sooner_186 kc_1 ?_
                            refine r_goto B (pc := 187) (tgt := 191) dX7_sooner_187 (by decide) ?_
                            exact r_mask [true, true, true, false, true, true, false, false, false] rfl (k191 t0 v5 1 v3 hf)
                        refine r_if_eq B (pc := 158) (tgt := 176) dX7_sooner_158 (by decide) hf (fun _ hf => ?_) (fun _ hf => ?_)
                        · refine r_iload B (pc := 176) dX7_sooner_176 rfl ?_
                          exact r_mask [true, true, true, true, false, true, false, false, true] rfl (k178 v3 v5 t0 v4 hf)
                        · refine r_iload_n B (pc := 161) dX7_sooner_161 rfl rfl ?_
                          refine r_if_ne B (pc := 162) (tgt := 176) dX7_sooner_162 (by decide) hf (fun _ hf => ?_) (fun _ hf => ?_)
                          · refine r_iload B (pc := 176) dX7_sooner_176 rfl ?_
                            exact r_mask [true, true, true, true, false, true, false, false, true] rfl (k178 v3 v5 t0 v4 hf)
                          · refine r_bipush B (pc := 165) dX7_sooner_165 kb_100 ?_
                            refine r_iload B (pc := 167) dX7_sooner_167 rfl ?_
                            refine r_imul B (pc := 169) dX7_sooner_169 ?_
                            refine r_iload B (pc := 170) dX7_sooner_170 rfl ?_
                            refine r_iadd B (pc := 172) dX7_sooner_172 ?_
                            refine r_goto B (pc := 173) (tgt := 178) dX7_sooner_173 (by decide) ?_
                            exact r_mask [true, true, true, true, false, true, false, false, true] rfl (k178 v3 v5 t0 ((100 * v6) + v7) hf)
                      refine r_icmp_ge B (pc := 146) (tgt := 153) dX7_sooner_146 (by decide) hf (fun _ hf => ?_) (fun _ hf => ?_)
                      · refine r_iconst B (pc := 153) dX7_sooner_153 kc_0 ?_
                        exact r_mask [true, true, true, true, true, true, true, true, false] rfl (k154 v3 v4 v5 y1 y2 0 hf)
                      · refine r_iconst B (pc := 149) dX7_sooner_149 kc_1 ?_
                        refine r_goto B (pc := 150) (tgt := 154) dX7_sooner_150 (by decide) ?_
                        exact r_mask [true, true, true, true, true, true, true, true, false] rfl (k154 v3 v4 v5 y1 y2 1 hf)
      exact r_mask [true, true, true, true, true, true, false, false, false] rfl (k29 FU 0 ((-4)) 0 hf)
    · refine r_iconst B (pc := 18) dX7_sooner_18 kc_m1 ?_
      exact e_rz hf (nar_i _) (RET 19 _ dX7_sooner_19)
