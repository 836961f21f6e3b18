set_option maxHeartbeats 4000000 in
set_option maxRecDepth 20000 in
theorem c_X3_hold (l : Launch) (D : va_G) (K : Kt) (ad : Nat → Nat) (nw : Nat) (σ : St) (x1 : Int32) (x2 : Int32) (x3 : Int32) {r : Int32} {τ : St} (hf : f_X3_hold σ x1 x2 x3 = some (r, τ)) : CtI l yX3_hold cX3_hold 9 (some .boolean) 5 116 D K [.ref (ad 1), .int x1, .int x2, .int x3] (wC ad K nw σ) r (wC ad K nw τ) := by
  refine met_i pl_RX3 (Nat.le_of_ble_eq_true rfl) (fun X hnL B RET => ?_)
  suffices h : MW X (wC ad K nw σ) 0 [some (.ref (ad 1)), some (.int x1), some (.int x2), some (.int x3), none, none, none, none, none] [] from h
  unfold f_X3_hold at hf
  refine r_aload_n B (pc := 0) dX3_hold_0 rfl rfl ?_
  refine r_iload_n B (pc := 1) dX3_hold_1 rfl rfl ?_
  refine r_iload_n B (pc := 2) dX3_hold_2 rfl rfl ?_
  refine r_aload_n B (pc := 3) dX3_hold_3 rfl rfl ?_
  refine gC_RX3_33_1 B (pc := 4) dX3_hold_4 ?_
  obtain ⟨r2, hc1, hf⟩ := bdr_e hf
  refine r_cVI B (c_X3_hearers X.l X.D K ad nw σ x1 x2 (σ.1 1 4) hc1) F_X3_hearers lk_RX3_155 (q0 := 1) (ci := 3) rfl rfl (Nat.le_of_ble_eq_true rfl) (Nat.le_of_ble_eq_true rfl) (Nat.le_of_ble_eq_true rfl) (pc := 7) dX3_hold_7 rfl ?_
  refine r_istore B hnL (pc := 10) dX3_hold_10 (by decide) ?_
  refine r_lc (loc' := [some (.ref (ad 1)), some (.int x1), some (.int x2), some (.int x3), some (.int r2), none, none, none, none]) rfl ?_
  refine r_aload_n B (pc := 12) dX3_hold_12 rfl rfl ?_
  refine r_iload B (pc := 13) dX3_hold_13 rfl ?_
  refine r_iload_n B (pc := 15) dX3_hold_15 rfl rfl ?_
  refine r_aload_n B (pc := 16) dX3_hold_16 rfl rfl ?_
  refine gC_RX3_12_1 B (pc := 17) dX3_hold_17 ?_
  refine gC_RX3_126_2 B (pc := 20) dX3_hold_20 ?_
  obtain ⟨r4, hc3, hf⟩ := bdr_e hf
  refine r_cVI B (c_X3_wrongedOf_6 X.l X.D K ad nw σ r2 x3 hc3) F_X3_wrongedOf lk_RX3_158 (q0 := 1) (ci := 3) rfl rfl (Nat.le_of_ble_eq_true rfl) (Nat.le_of_ble_eq_true rfl) (Nat.le_of_ble_eq_true rfl) (pc := 23) dX3_hold_23 rfl ?_
  refine r_istore B hnL (pc := 26) dX3_hold_26 (by decide) ?_
  refine r_lc (loc' := [some (.ref (ad 1)), some (.int x1), some (.int x2), some (.int x3), some (.int r2), some (.int r4), none, none, none]) rfl ?_
  refine r_iconst B (pc := 28) dX3_hold_28 kc_0 ?_
  refine r_istore B hnL (pc := 29) dX3_hold_29 (by decide) ?_
  refine r_lc (loc' := [some (.ref (ad 1)), some (.int x1), some (.int x2), some (.int x3), some (.int r2), some (.int r4), some (.int 0), none, none]) rfl ?_
  refine r_iconst B (pc := 31) dX3_hold_31 kc_0 ?_
  refine r_istore B hnL (pc := 32) dX3_hold_32 (by decide) ?_
  refine r_lc (loc' := [some (.ref (ad 1)), some (.int x1), some (.int x2), some (.int x3), some (.int r2), some (.int r4), some (.int 0), some (.int 0), none]) rfl ?_
  refine r_iconst B (pc := 34) dX3_hold_34 kc_0 ?_
  refine r_istore B hnL (pc := 35) dX3_hold_35 (by decide) ?_
  refine r_lc (loc' := [some (.ref (ad 1)), some (.int x1), some (.int x2), some (.int x3), some (.int r2), some (.int r4), some (.int 0), some (.int 0), some (.int 0)]) rfl ?_
  have k37 : ∀ (n37 : Nat) (v4 : Int32) (v5 : Int32) (v6 : Int32) (v7 : Int32) (v8 : Int32) (σ37 : St), f_X3_hold_h37 x1 x2 x3 n37 v4 v5 v6 v7 v8 σ37 = some (r, τ) → MW X (wC ad K nw σ37) 37 [some (.ref (ad 1)), none, none, some (.int x3), some (.int v4), some (.int v5), some (.int v6), some (.int v7), some (.int v8)] [] := by
    intro n37
    induction n37 with
    | zero => intro v4 v5 v6 v7 v8 σ37 hf; exact nn_z hf
    | succ n37 ih37 =>
      intro v4 v5 v6 v7 v8 σ37 hf
      rw [f_X3_hold_h37] at hf
      refine r_iload B (pc := 37) dX3_hold_37 rfl ?_
      refine r_aload_n B (pc := 39) dX3_hold_39 rfl rfl ?_
      refine gC_RX3_12_1 B (pc := 40) dX3_hold_40 ?_
      refine gC_RX3_73_2 B (pc := 43) dX3_hold_43 ?_
      refine r_icmp_ge B (pc := 46) (tgt := 174) dX3_hold_46 (by decide) hf (fun _ hf => ?_) (fun _ hf => ?_)
      · refine r_aload_n B (pc := 174) dX3_hold_174 rfl rfl ?_
        refine r_dup B (pc := 175) dX3_hold_175 rfl ?_
        refine gC_RX3_45_1 B (pc := 176) dX3_hold_176 ?_
        refine r_iconst B (pc := 179) dX3_hold_179 kc_1 ?_
        refine r_iadd B (pc := 180) dX3_hold_180 ?_
        refine pC_RX3_45_1 B (pc := 181) dX3_hold_181 hf (fun s5 hf => ?_)
        refine r_aload_n B (pc := 184) dX3_hold_184 rfl rfl ?_
        refine r_iload_n B (pc := 185) dX3_hold_185 rfl rfl ?_
        refine r_iload B (pc := 186) dX3_hold_186 rfl ?_
        refine r_iload B (pc := 188) dX3_hold_188 rfl ?_
        obtain ⟨s7, hc6, hf⟩ := bdr_e hf
        refine r_cVV B (c_X3_keepUndo X.l X.D K ad nw s5 x3 v6 v7 hc6) F_X3_keepUndo lk_RX3_168 (q0 := 1) (ci := 3) rfl rfl (Nat.le_of_ble_eq_true rfl) (Nat.le_of_ble_eq_true rfl) (Nat.le_of_ble_eq_true rfl) (pc := 190) dX3_hold_190 rfl ?_
        refine r_iload B (pc := 193) dX3_hold_193 rfl ?_
        refine r_if_ne B (pc := 195) (tgt := 202) dX3_hold_195 (by decide) hf (fun _ hf => ?_) (fun _ hf => ?_)
        · refine r_iconst B (pc := 202) dX3_hold_202 kc_0 ?_
          exact e_pz (F := (wC ad K nw)) hf rfl (RET 203 _ dX3_hold_203)
        · refine r_iconst B (pc := 198) dX3_hold_198 kc_1 ?_
          refine r_goto B (pc := 199) (tgt := 203) dX3_hold_199 (by decide) ?_
          exact e_pz (F := (wC ad K nw)) hf rfl (RET 203 _ dX3_hold_203)
      · refine r_iload B (pc := 49) dX3_hold_49 rfl ?_
        refine r_iload B (pc := 51) dX3_hold_51 rfl ?_
        refine r_cNI B (c_X6_has X.l X.D K _ v4 v8) F_X6_has nk_RX3_108 (Nat.le_of_ble_eq_true rfl) (Nat.le_of_ble_eq_true rfl) (Nat.le_of_ble_eq_true rfl) (pc := 53) dX3_hold_53 rfl ?_
        have k120 : ∀ (v4 : Int32) (v5 : Int32) (v6 : Int32) (v7 : Int32) (v8 : Int32) (σ120 : St), f_X3_hold_b120 (f_X3_hold_h37 x1 x2 x3 n37) x1 x2 x3 v4 v5 v6 v7 v8 σ120 = some (r, τ) → MW X (wC ad K nw σ120) 120 [some (.ref (ad 1)), none, none, some (.int x3), some (.int v4), some (.int v5), some (.int v6), some (.int v7), some (.int v8)] [] := by
          intro v4 v5 v6 v7 v8 σ120 hf
          unfold f_X3_hold_b120 at hf
          refine r_iload B (pc := 120) dX3_hold_120 rfl ?_
          refine r_iload B (pc := 122) dX3_hold_122 rfl ?_
          refine r_cNI B (c_X6_has X.l X.D K _ v5 v8) F_X6_has nk_RX3_108 (Nat.le_of_ble_eq_true rfl) (Nat.le_of_ble_eq_true rfl) (Nat.le_of_ble_eq_true rfl) (pc := 124) dX3_hold_124 rfl ?_
          refine r_if_eq B (pc := 127) (tgt := 168) dX3_hold_127 (by decide) hf (fun _ hf => ?_) (fun _ hf => ?_)
          · refine r_iincS B hnL (pc := 168) dX3_hold_168 rfl kc_1 (by decide) hf (fun y11 hf => ?_)
            refine r_lc (loc' := [some (.ref (ad 1)), none, none, some (.int x3), some (.int v4), some (.int v5), some (.int v6), some (.int v7), some (.int y11)]) rfl ?_
            refine r_goto B (pc := 171) (tgt := 37) dX3_hold_171 (by decide) ?_
            exact r_mask [true, false, false, true, true, true, true, true, true] rfl (ih37 v4 v5 v6 v7 y11 σ120 hf)
          · refine r_aload_n B (pc := 130) dX3_hold_130 rfl rfl ?_
            refine gC_RX3_12_1 B (pc := 131) dX3_hold_131 ?_
            refine gC_RX3_165_2 B (pc := 134) dX3_hold_134 ?_
            refine r_iload B (pc := 137) dX3_hold_137 rfl ?_
            refine aldC_7 B (pc := 139) dX3_hold_139 hf (fun _ hf => ?_)
            refine r_bipush B (pc := 140) dX3_hold_140 kb_99 ?_
            refine r_icmp_ge B (pc := 142) (tgt := 168) dX3_hold_142 (by decide) hf (fun _ hf => ?_) (fun _ hf => ?_)
            · refine r_iincS B hnL (pc := 168) dX3_hold_168 rfl kc_1 (by decide) hf (fun y12 hf => ?_)
              refine r_lc (loc' := [some (.ref (ad 1)), none, none, some (.int x3), some (.int v4), some (.int v5), some (.int v6), some (.int v7), some (.int y12)]) rfl ?_
              refine r_goto B (pc := 171) (tgt := 37) dX3_hold_171 (by decide) ?_
              exact r_mask [true, false, false, true, true, true, true, true, true] rfl (ih37 v4 v5 v6 v7 y12 σ120 hf)
            · refine r_aload_n B (pc := 145) dX3_hold_145 rfl rfl ?_
              refine gC_RX3_12_1 B (pc := 146) dX3_hold_146 ?_
              refine gC_RX3_165_2 B (pc := 149) dX3_hold_149 ?_
              refine r_iload B (pc := 152) dX3_hold_152 rfl ?_
              refine r_dup2 B (pc := 154) dX3_hold_154 rfl rfl ?_
              refine aldC_7 B (pc := 155) dX3_hold_155 hf (fun _ hf => ?_)
              refine r_iconst B (pc := 156) dX3_hold_156 kc_1 ?_
              refine r_iadd B (pc := 157) dX3_hold_157 ?_
              refine astC_7 B (pc := 158) dX3_hold_158 hf (fun s13 _ hf => ?_)
              refine r_iload B (pc := 159) dX3_hold_159 rfl ?_
              refine r_iconst B (pc := 161) dX3_hold_161 kc_1 ?_
              refine r_iload B (pc := 162) dX3_hold_162 rfl ?_
              refine r_ishl B (pc := 164) dX3_hold_164 ?_
              refine r_ior B (pc := 165) dX3_hold_165 ?_
              refine r_nm hf (fun y14 hf => ?_)
              refine r_istore B hnL (pc := 166) dX3_hold_166 (by decide) ?_
              refine r_lc (loc' := [some (.ref (ad 1)), none, none, some (.int x3), some (.int v4), some (.int v5), some (.int v6), some (.int y14), some (.int v8)]) rfl ?_
              refine r_iincS B hnL (pc := 168) dX3_hold_168 rfl kc_1 (by decide) hf (fun y15 hf => ?_)
              refine r_lc (loc' := [some (.ref (ad 1)), none, none, some (.int x3), some (.int v4), some (.int v5), some (.int v6), some (.int y14), some (.int y15)]) rfl ?_
              refine r_goto B (pc := 171) (tgt := 37) dX3_hold_171 (by decide) ?_
              exact r_mask [true, false, false, true, true, true, true, true, true] rfl (ih37 v4 v5 v6 y14 y15 s13 hf)
        refine r_if_eq B (pc := 56) (tgt := 120) dX3_hold_56 (by decide) hf (fun _ hf => ?_) (fun _ hf => ?_)
        · exact r_mask [true, false, false, true, true, true, true, true, true] rfl (k120 v4 v5 v6 v7 v8 σ37 hf)
        · refine r_aload_n B (pc := 59) dX3_hold_59 rfl rfl ?_
          refine gC_RX3_12_1 B (pc := 60) dX3_hold_60 ?_
          refine gC_RX3_126_2 B (pc := 63) dX3_hold_63 ?_
          refine r_iload B (pc := 66) dX3_hold_66 rfl ?_
          refine aldC_6 B (pc := 68) dX3_hold_68 hf (fun _ hf => ?_)
          refine r_iload_n B (pc := 69) dX3_hold_69 rfl rfl ?_
          refine r_cNI B (c_X6_has X.l X.D K _ (σ37.1 6 (ix v8)) x3) F_X6_has nk_RX3_108 (Nat.le_of_ble_eq_true rfl) (Nat.le_of_ble_eq_true rfl) (Nat.le_of_ble_eq_true rfl) (pc := 70) dX3_hold_70 rfl ?_
          refine r_if_ne B (pc := 73) (tgt := 120) dX3_hold_73 (by decide) hf (fun _ hf => ?_) (fun _ hf => ?_)
          · exact r_mask [true, false, false, true, true, true, true, true, true] rfl (k120 v4 v5 v6 v7 v8 σ37 hf)
          · refine r_aload_n B (pc := 76) dX3_hold_76 rfl rfl ?_
            refine gC_RX3_12_1 B (pc := 77) dX3_hold_77 ?_
            refine gC_RX3_126_2 B (pc := 80) dX3_hold_80 ?_
            refine r_iload B (pc := 83) dX3_hold_83 rfl ?_
            refine r_dup2 B (pc := 85) dX3_hold_85 rfl rfl ?_
            refine aldC_6 B (pc := 86) dX3_hold_86 hf (fun _ hf => ?_)
            refine r_iconst B (pc := 87) dX3_hold_87 kc_1 ?_
            refine r_iload_n B (pc := 88) dX3_hold_88 rfl rfl ?_
            refine r_ishl B (pc := 89) dX3_hold_89 ?_
            refine r_ior B (pc := 90) dX3_hold_90 ?_
            refine astC_6 B (pc := 91) dX3_hold_91 hf (fun s8 _ hf => ?_)
            refine r_aload_n B (pc := 92) dX3_hold_92 rfl rfl ?_
            refine gC_RX3_12_1 B (pc := 93) dX3_hold_93 ?_
            refine gC_RX3_162_2 B (pc := 96) dX3_hold_96 ?_
            refine r_iload B (pc := 99) dX3_hold_99 rfl ?_
            refine r_bipush B (pc := 101) dX3_hold_101 kb_12 ?_
            refine r_imul B (pc := 103) dX3_hold_103 ?_
            refine r_iload_n B (pc := 104) dX3_hold_104 rfl rfl ?_
            refine r_iadd B (pc := 105) dX3_hold_105 ?_
            refine r_aload_n B (pc := 106) dX3_hold_106 rfl rfl ?_
            refine gC_RX3_45_1 B (pc := 107) dX3_hold_107 ?_
            refine astC_8 B (pc := 110) dX3_hold_110 hf (fun s9 _ hf => ?_)
            refine r_iload B (pc := 111) dX3_hold_111 rfl ?_
            refine r_iconst B (pc := 113) dX3_hold_113 kc_1 ?_
            refine r_iload B (pc := 114) dX3_hold_114 rfl ?_
            refine r_ishl B (pc := 116) dX3_hold_116 ?_
            refine r_ior B (pc := 117) dX3_hold_117 ?_
            refine r_nm hf (fun y10 hf => ?_)
            refine r_istore B hnL (pc := 118) dX3_hold_118 (by decide) ?_
            refine r_lc (loc' := [some (.ref (ad 1)), none, none, some (.int x3), some (.int v4), some (.int v5), some (.int y10), some (.int v7), some (.int v8)]) rfl ?_
            exact r_mask [true, false, false, true, true, true, true, true, true] rfl (k120 v4 v5 y10 v7 v8 s9 hf)
  exact r_mask [true, false, false, true, true, true, true, true, true] rfl (k37 FU r2 r4 0 0 0 σ hf)
set_option maxHeartbeats 4000000 in
set_option maxRecDepth 20000 in
theorem c_X6_day (l : Launch) (D : va_G) (K : Kt) (ad : Nat → Nat) (nw : Nat) (σ : St) {r : Int32} {τ : St} (hf : f_X6_day σ = some (r, τ)) : CtI l yX6_day cX6_day 5 (some .int) 6 144 D K [.ref (ad 0)] (wC ad K nw σ) r (wC ad K nw τ) := by
  refine met_i pl_RX6 (Nat.le_of_ble_eq_true rfl) (fun X hnL B RET => ?_)
  suffices h : MW X (wC ad K nw σ) 0 [some (.ref (ad 0)), none, none, none, none] [] from h
  unfold f_X6_day at hf
  refine r_aload_n B (pc := 0) dX6_day_0 rfl rfl ?_
  refine gC_RX6_26_0 B (pc := 1) dX6_day_1 ?_
  refine r_aload_n B (pc := 4) dX6_day_4 rfl rfl ?_
  refine gC_RX6_44_0 B (pc := 5) dX6_day_5 ?_
  refine r_aload_n B (pc := 8) dX6_day_8 rfl rfl ?_
  refine gC_RX6_10_0 B (pc := 9) dX6_day_9 ?_
  refine gC_RX6_86_1 B (pc := 12) dX6_day_12 ?_
  refine r_aload_n B (pc := 15) dX6_day_15 rfl rfl ?_
  refine gC_RX6_10_0 B (pc := 16) dX6_day_16 ?_
  refine gC_RX6_96_1 B (pc := 19) dX6_day_19 ?_
  refine gC_RX6_103_9 B (pc := 22) dX6_day_22 ?_
  obtain ⟨r2, s3, hc1, hf⟩ := bdp_e hf
  refine r_cVI B (c_X5_takeDay_51 X.l X.D K ad nw σ (σ.1 1 2) (σ.1 9 0) hc1) F_X5_takeDay lk_RX6_192 (q0 := 37) (ci := 5) rfl rfl (Nat.le_of_ble_eq_true rfl) (Nat.le_of_ble_eq_true rfl) (Nat.le_of_ble_eq_true rfl) (pc := 25) dX6_day_25 rfl ?_
  refine r_istore_n B hnL (pc := 28) dX6_day_28 rfl (by decide) ?_
  refine r_lc (loc' := [some (.ref (ad 0)), some (.int r2), none, none, none]) rfl ?_
  refine r_aload_n B (pc := 29) dX6_day_29 rfl rfl ?_
  refine gC_RX6_26_0 B (pc := 30) dX6_day_30 ?_
  refine r_iconst B (pc := 33) dX6_day_33 kc_0 ?_
  refine pC_RX6_166_37 B (pc := 34) dX6_day_34 hf (fun s4 hf => ?_)
  refine r_iload_n B (pc := 37) dX6_day_37 rfl rfl ?_
  refine r_if_ge B (pc := 38) (tgt := 49) dX6_day_38 (by decide) hf (fun _ hf => ?_) (fun _ hf => ?_)
  · refine r_iconst B (pc := 49) dX6_day_49 kc_0 ?_
    refine r_istore_n B hnL (pc := 50) dX6_day_50 rfl (by decide) ?_
    refine r_lc (loc' := [some (.ref (ad 0)), some (.int r2), some (.int 0), none, none]) rfl ?_
    refine r_iconst B (pc := 51) dX6_day_51 kc_0 ?_
    refine r_istore_n B hnL (pc := 52) dX6_day_52 rfl (by decide) ?_
    refine r_lc (loc' := [some (.ref (ad 0)), some (.int r2), some (.int 0), some (.int 0), none]) rfl ?_
    have k53 : ∀ (n53 : Nat) (v1 : Int32) (v2 : Int32) (v3 : Int32) (σ53 : St), f_X6_day_h53 n53 v1 v2 v3 σ53 = some (r, τ) → MW X (wC ad K nw σ53) 53 [some (.ref (ad 0)), some (.int v1), some (.int v2), some (.int v3), none] [] := by
      intro n53
      induction n53 with
      | zero => intro v1 v2 v3 σ53 hf; exact nn_z hf
      | succ n53 ih53 =>
        intro v1 v2 v3 σ53 hf
        rw [f_X6_day_h53] at hf
        refine r_iload_n B (pc := 53) dX6_day_53 rfl rfl ?_
        refine r_iload_n B (pc := 54) dX6_day_54 rfl rfl ?_
        refine r_icmp_ge B (pc := 55) (tgt := 119) dX6_day_55 (by decide) hf (fun _ hf => ?_) (fun _ hf => ?_)
        · refine r_iload_n B (pc := 119) dX6_day_119 rfl rfl ?_
          exact e_pz (F := (wC ad K nw)) hf (nar_i _) (RET 120 _ dX6_day_120)
        · refine r_iload_n B (pc := 58) dX6_day_58 rfl rfl ?_
          refine r_bipush B (pc := 59) dX6_day_59 kb_32 ?_
          refine r_icmp_ge B (pc := 61) (tgt := 119) dX6_day_61 (by decide) hf (fun _ hf => ?_) (fun _ hf => ?_)
          · refine r_iload_n B (pc := 119) dX6_day_119 rfl rfl ?_
            exact e_pz (F := (wC ad K nw)) hf (nar_i _) (RET 120 _ dX6_day_120)
          · refine r_aload_n B (pc := 64) dX6_day_64 rfl rfl ?_
            refine gC_RX6_10_0 B (pc := 65) dX6_day_65 ?_
            refine gC_RX6_196_1 B (pc := 68) dX6_day_68 ?_
            refine r_sipush B (pc := 71) dX6_day_71 ks_9999 ?_
            refine r_icmp_ge B (pc := 74) (tgt := 119) dX6_day_74 (by decide) hf (fun _ hf => ?_) (fun _ hf => ?_)
            · refine r_iload_n B (pc := 119) dX6_day_119 rfl rfl ?_
              exact e_pz (F := (wC ad K nw)) hf (nar_i _) (RET 120 _ dX6_day_120)
            · refine r_aload_n B (pc := 77) dX6_day_77 rfl rfl ?_
              refine gC_RX6_44_0 B (pc := 78) dX6_day_78 ?_
              refine r_iload_n B (pc := 81) dX6_day_81 rfl rfl ?_
              refine aldC_51 B (pc := 82) dX6_day_82 hf (fun _ hf => ?_)
              refine r_nm hf (fun y5 hf => ?_)
              refine r_istore B hnL (pc := 83) dX6_day_83 (by decide) ?_
              refine r_lc (loc' := [some (.ref (ad 0)), some (.int v1), some (.int v2), some (.int v3), some (.int y5)]) rfl ?_
              refine r_aload_n B (pc := 85) dX6_day_85 rfl rfl ?_
              refine gC_RX6_10_0 B (pc := 86) dX6_day_86 ?_
              refine r_iload B (pc := 89) dX6_day_89 rfl ?_
              refine r_cSI B (c_X5_readerIn X.l X.D K _ y5) F_X5_readerIn lk_RX6_199 (Nat.le_of_ble_eq_true rfl) (Nat.le_of_ble_eq_true rfl) (Nat.le_of_ble_eq_true rfl) (pc := 91) dX6_day_91 rfl ?_
              refine r_iload B (pc := 94) dX6_day_94 rfl ?_
              refine r_cSI B (c_X5_placeIn X.l X.D K _ y5) F_X5_placeIn lk_RX6_202 (Nat.le_of_ble_eq_true rfl) (Nat.le_of_ble_eq_true rfl) (Nat.le_of_ble_eq_true rfl) (pc := 96) dX6_day_96 rfl ?_
              refine r_iload B (pc := 99) dX6_day_99 rfl ?_
              refine r_cSI B (c_X5_newsIn X.l X.D K _ y5) F_X5_newsIn lk_RX6_205 (Nat.le_of_ble_eq_true rfl) (Nat.le_of_ble_eq_true rfl) (Nat.le_of_ble_eq_true rfl) (pc := 101) dX6_day_101 rfl ?_
              obtain ⟨r7, s8, hc6, hf⟩ := bdp_e hf
              refine r_cVI B (c_X3_hold X.l X.D K ad nw σ53 (f_X5_readerIn y5) (f_X5_placeIn y5) (f_X5_newsIn y5) hc6) F_X3_hold lk_RX6_208 (q0 := 1) (ci := 3) rfl rfl (Nat.le_of_ble_eq_true rfl) (Nat.le_of_ble_eq_true rfl) (Nat.le_of_ble_eq_true rfl) (pc := 104) dX6_day_104 rfl ?_
              refine r_if_eq B (pc := 107) (tgt := 113) dX6_day_107 (by decide) hf (fun _ hf => ?_) (fun _ hf => ?_)
              · refine r_iincS B hnL (pc := 113) dX6_day_113 rfl kc_1 (by decide) hf (fun y9 hf => ?_)
                refine r_lc (loc' := [some (.ref (ad 0)), some (.int v1), some (.int v2), some (.int y9), some (.int y5)]) rfl ?_
                refine r_goto B (pc := 116) (tgt := 53) dX6_day_116 (by decide) ?_
                exact r_mask [true, true, true, true, false] rfl (ih53 v1 v2 y9 s8 hf)
              · refine r_iincS B hnL (pc := 110) dX6_day_110 rfl kc_1 (by decide) hf (fun y10 hf => ?_)
                refine r_lc (loc' := [some (.ref (ad 0)), some (.int v1), some (.int y10), some (.int v3), some (.int y5)]) rfl ?_
                refine r_iincS B hnL (pc := 113) dX6_day_113 rfl kc_1 (by decide) hf (fun y11 hf => ?_)
                refine r_lc (loc' := [some (.ref (ad 0)), some (.int v1), some (.int y10), some (.int y11), some (.int y5)]) rfl ?_
                refine r_goto B (pc := 116) (tgt := 53) dX6_day_116 (by decide) ?_
                exact r_mask [true, true, true, true, false] rfl (ih53 v1 y10 y11 s8 hf)
    exact r_mask [true, true, true, true, false] rfl (k53 FU r2 0 0 s4 hf)
  · refine r_aload_n B (pc := 41) dX6_day_41 rfl rfl ?_
    refine gC_RX6_26_0 B (pc := 42) dX6_day_42 ?_
    refine r_cVI B (c_X5_faultHere X.l X.D K ad nw s4) F_X5_faultHere lk_RX6_174 (q0 := 37) (ci := 5) rfl rfl (Nat.le_of_ble_eq_true rfl) (Nat.le_of_ble_eq_true rfl) (Nat.le_of_ble_eq_true rfl) (pc := 45) dX6_day_45 rfl ?_
    exact e_pz (F := (wC ad K nw)) hf (nar_i _) (RET 48 _ dX6_day_48)
set_option maxHeartbeats 4000000 in
set_option maxRecDepth 20000 in
theorem c_J6_bitCount_0f7a4 (l : Launch) (D : va_G) (K : Kt) (w : va_W) (x0 : Int32) : CtI l yJ6_bitCount_0f7a4 cJ6_bitCount_0f7a4 1 (some .int) 0 0 D K [.int x0] w (f_J6_bitCount_0f7a4 x0) w := by
  refine met_i pl_RJ6 (Nat.le_of_ble_eq_true rfl) (fun X hnL B RET => ?_)
  generalize hf : f_J6_bitCount_0f7a4 x0 = r at RET
  suffices h : MW X w 0 [some (.int x0)] [] from h
  unfold f_J6_bitCount_0f7a4 at hf
  refine r_iload_n B (pc := 0) dJ6_bitCount_0f7a4_0 rfl rfl ?_
  refine r_iload_n B (pc := 1) dJ6_bitCount_0f7a4_1 rfl rfl ?_
  refine r_iconst B (pc := 2) dJ6_bitCount_0f7a4_2 kc_1 ?_
  refine r_iushr B (pc := 3) dJ6_bitCount_0f7a4_3 ?_
  refine r_ldcw B (pc := 4) kp_RJ6_265 dJ6_bitCount_0f7a4_4 ?_
  refine r_iand B (pc := 7) dJ6_bitCount_0f7a4_7 ?_
  refine r_isub B (pc := 8) dJ6_bitCount_0f7a4_8 ?_
  refine r_nm hf (fun y1 hf => ?_)
  refine r_istore_n B hnL (pc := 9) dJ6_bitCount_0f7a4_9 rfl (by decide) ?_
  refine r_lc (loc' := [some (.int y1)]) rfl ?_
  refine r_iload_n B (pc := 10) dJ6_bitCount_0f7a4_10 rfl rfl ?_
  refine r_ldcw B (pc := 11) kp_RJ6_266 dJ6_bitCount_0f7a4_11 ?_
  refine r_iand B (pc := 14) dJ6_bitCount_0f7a4_14 ?_
  refine r_iload_n B (pc := 15) dJ6_bitCount_0f7a4_15 rfl rfl ?_
  refine r_iconst B (pc := 16) dJ6_bitCount_0f7a4_16 kc_2 ?_
  refine r_iushr B (pc := 17) dJ6_bitCount_0f7a4_17 ?_
  refine r_ldcw B (pc := 18) kp_RJ6_266 dJ6_bitCount_0f7a4_18 ?_
  refine r_iand B (pc := 21) dJ6_bitCount_0f7a4_21 ?_
  refine r_iadd B (pc := 22) dJ6_bitCount_0f7a4_22 ?_
  refine r_nm hf (fun y2 hf => ?_)
  refine r_istore_n B hnL (pc := 23) dJ6_bitCount_0f7a4_23 rfl (by decide) ?_
  refine r_lc (loc' := [some (.int y2)]) rfl ?_
  refine r_iload_n B (pc := 24) dJ6_bitCount_0f7a4_24 rfl rfl ?_
  refine r_iload_n B (pc := 25) dJ6_bitCount_0f7a4_25 rfl rfl ?_
  refine r_iconst B (pc := 26) dJ6_bitCount_0f7a4_26 kc_4 ?_
  refine r_iushr B (pc := 27) dJ6_bitCount_0f7a4_27 ?_
  refine r_iadd B (pc := 28) dJ6_bitCount_0f7a4_28 ?_
  refine r_ldcw B (pc := 29) kp_RJ6_267 dJ6_bitCount_0f7a4_29 ?_
  refine r_iand B (pc := 32) dJ6_bitCount_0f7a4_32 ?_
  refine r_nm hf (fun y3 hf => ?_)
  refine r_istore_n B hnL (pc := 33) dJ6_bitCount_0f7a4_33 rfl (by decide) ?_
  refine r_lc (loc' := [some (.int y3)]) rfl ?_
  refine r_iload_n B (pc := 34) dJ6_bitCount_0f7a4_34 rfl rfl ?_
  refine r_iload_n B (pc := 35) dJ6_bitCount_0f7a4_35 rfl rfl ?_
  refine r_bipush B (pc := 36) dJ6_bitCount_0f7a4_36 kb_8 ?_
  refine r_iushr B (pc := 38) dJ6_bitCount_0f7a4_38 ?_
  refine r_iadd B (pc := 39) dJ6_bitCount_0f7a4_39 ?_
  refine r_nm hf (fun y4 hf => ?_)
  refine r_istore_n B hnL (pc := 40) dJ6_bitCount_0f7a4_40 rfl (by decide) ?_
  refine r_lc (loc' := [some (.int y4)]) rfl ?_
  refine r_iload_n B (pc := 41) dJ6_bitCount_0f7a4_41 rfl rfl ?_
  refine r_iload_n B (pc := 42) dJ6_bitCount_0f7a4_42 rfl rfl ?_
  refine r_bipush B (pc := 43) dJ6_bitCount_0f7a4_43 kb_16 ?_
  refine r_iushr B (pc := 45) dJ6_bitCount_0f7a4_45 ?_
  refine r_iadd B (pc := 46) dJ6_bitCount_0f7a4_46 ?_
  refine r_nm hf (fun y5 hf => ?_)
  refine r_istore_n B hnL (pc := 47) dJ6_bitCount_0f7a4_47 rfl (by decide) ?_
  refine r_lc (loc' := [some (.int y5)]) rfl ?_
  refine r_iload_n B (pc := 48) dJ6_bitCount_0f7a4_48 rfl rfl ?_
  refine r_bipush B (pc := 49) dJ6_bitCount_0f7a4_49 kb_63 ?_
  refine r_iand B (pc := 51) dJ6_bitCount_0f7a4_51 ?_
  exact e_tz hf (nar_i _) (RET 52 _ dJ6_bitCount_0f7a4_52)
set_option maxHeartbeats 4000000 in
set_option maxRecDepth 20000 in
theorem c_X3_allArrears (l : Launch) (D : va_G) (K : Kt) (ad : Nat → Nat) (nw : Nat) (σ : St) {r : Int32} (hf : f_X3_allArrears σ = some r) : CtI l yX3_allArrears cX3_allArrears 3 (some .int) 4 89 D K [.ref (ad 1)] (wC ad K nw σ) r (wC ad K nw σ) := by
  refine met_i pl_RX3 (Nat.le_of_ble_eq_true rfl) (fun X hnL B RET => ?_)
  suffices h : MW X (wC ad K nw σ) 0 [some (.ref (ad 1)), none, none] [] from h
  unfold f_X3_allArrears at hf
  refine r_iconst B (pc := 0) dX3_allArrears_0 kc_0 ?_
  refine r_istore_n B hnL (pc := 1) dX3_allArrears_1 rfl (by decide) ?_
  refine r_lc (loc' := [some (.ref (ad 1)), some (.int 0), none]) rfl ?_
  refine r_iconst B (pc := 2) dX3_allArrears_2 kc_0 ?_
  refine r_istore_n B hnL (pc := 3) dX3_allArrears_3 rfl (by decide) ?_
  refine r_lc (loc' := [some (.ref (ad 1)), some (.int 0), some (.int 0)]) rfl ?_
  have k4 : ∀ (n4 : Nat) (v1 : Int32) (v2 : Int32), f_X3_allArrears_h4 σ n4 v1 v2 = some r → MW X (wC ad K nw σ) 4 [some (.ref (ad 1)), some (.int v1), some (.int v2)] [] := by
    intro n4
    induction n4 with
    | zero => intro v1 v2 hf; exact nn_z hf
    | succ n4 ih4 =>
      intro v1 v2 hf
      rw [f_X3_allArrears_h4] at hf
      refine r_iload_n B (pc := 4) dX3_allArrears_4 rfl rfl ?_
      refine r_aload_n B (pc := 5) dX3_allArrears_5 rfl rfl ?_
      refine gC_RX3_12_1 B (pc := 6) dX3_allArrears_6 ?_
      refine gC_RX3_73_2 B (pc := 9) dX3_allArrears_9 ?_
      refine r_icmp_ge B (pc := 12) (tgt := 32) dX3_allArrears_12 (by decide) hf (fun _ hf => ?_) (fun _ hf => ?_)
      · refine r_iload_n B (pc := 32) dX3_allArrears_32 rfl rfl ?_
        exact e_rz hf (nar_i _) (RET 33 _ dX3_allArrears_33)
      · refine r_iload_n B (pc := 15) dX3_allArrears_15 rfl rfl ?_
        refine r_aload_n B (pc := 16) dX3_allArrears_16 rfl rfl ?_
        refine r_iload_n B (pc := 17) dX3_allArrears_17 rfl rfl ?_
        obtain ⟨r2, hc1, hf⟩ := bdr_e hf
        refine r_cVI B (c_X3_arrearsOf X.l X.D K ad nw σ v2 hc1) F_X3_arrearsOf lk_RX3_135 (q0 := 1) (ci := 3) rfl rfl (Nat.le_of_ble_eq_true rfl) (Nat.le_of_ble_eq_true rfl) (Nat.le_of_ble_eq_true rfl) (pc := 18) dX3_allArrears_18 rfl ?_
        refine r_cSI B (c_J6_bitCount_0f7a4 X.l X.D K _ r2) F_J6_bitCount_0f7a4 lk_RX3_138 (Nat.le_of_ble_eq_true rfl) (Nat.le_of_ble_eq_true rfl) (Nat.le_of_ble_eq_true rfl) (pc := 21) dX3_allArrears_21 rfl ?_
        refine r_iadd B (pc := 24) dX3_allArrears_24 ?_
        refine r_nm hf (fun y3 hf => ?_)
        refine r_istore_n B hnL (pc := 25) dX3_allArrears_25 rfl (by decide) ?_
        refine r_lc (loc' := [some (.ref (ad 1)), some (.int y3), some (.int v2)]) rfl ?_
        refine r_iincS B hnL (pc := 26) dX3_allArrears_26 rfl kc_1 (by decide) hf (fun y4 hf => ?_)
        refine r_lc (loc' := [some (.ref (ad 1)), some (.int y3), some (.int y4)]) rfl ?_
        refine r_goto B (pc := 29) (tgt := 4) dX3_allArrears_29 (by decide) ?_
        exact r_mask [true, true, true] rfl (ih4 y3 y4 hf)
  exact r_mask [true, true, true] rfl (k4 FU 0 0 hf)
set_option maxHeartbeats 4000000 in
set_option maxRecDepth 20000 in
theorem c_X3_paidGraves (l : Launch) (D : va_G) (K : Kt) (ad : Nat → Nat) (nw : Nat) (σ : St) {r : Int32} (hf : f_X3_paidGraves σ = some r) : CtI l yX3_paidGraves cX3_paidGraves 3 (some .int) 4 89 D K [.ref (ad 1)] (wC ad K nw σ) r (wC ad K nw σ) := by
  refine met_i pl_RX3 (Nat.le_of_ble_eq_true rfl) (fun X hnL B RET => ?_)
  suffices h : MW X (wC ad K nw σ) 0 [some (.ref (ad 1)), none, none] [] from h
  unfold f_X3_paidGraves at hf
  refine r_iconst B (pc := 0) dX3_paidGraves_0 kc_0 ?_
  refine r_istore_n B hnL (pc := 1) dX3_paidGraves_1 rfl (by decide) ?_
  refine r_lc (loc' := [some (.ref (ad 1)), some (.int 0), none]) rfl ?_
  refine r_iconst B (pc := 2) dX3_paidGraves_2 kc_0 ?_
  refine r_istore_n B hnL (pc := 3) dX3_paidGraves_3 rfl (by decide) ?_
  refine r_lc (loc' := [some (.ref (ad 1)), some (.int 0), some (.int 0)]) rfl ?_
  have k4 : ∀ (n4 : Nat) (v1 : Int32) (v2 : Int32), f_X3_paidGraves_h4 σ n4 v1 v2 = some r → MW X (wC ad K nw σ) 4 [some (.ref (ad 1)), some (.int v1), some (.int v2)] [] := by
    intro n4
    induction n4 with
    | zero => intro v1 v2 hf; exact nn_z hf
    | succ n4 ih4 =>
      intro v1 v2 hf
      rw [f_X3_paidGraves_h4] at hf
      refine r_iload_n B (pc := 4) dX3_paidGraves_4 rfl rfl ?_
      refine r_aload_n B (pc := 5) dX3_paidGraves_5 rfl rfl ?_
      refine gC_RX3_12_1 B (pc := 6) dX3_paidGraves_6 ?_
      refine gC_RX3_73_2 B (pc := 9) dX3_paidGraves_9 ?_
      refine r_icmp_ge B (pc := 12) (tgt := 32) dX3_paidGraves_12 (by decide) hf (fun _ hf => ?_) (fun _ hf => ?_)
      · refine r_iload_n B (pc := 32) dX3_paidGraves_32 rfl rfl ?_
        exact e_rz hf (nar_i _) (RET 33 _ dX3_paidGraves_33)
      · refine r_aload_n B (pc := 15) dX3_paidGraves_15 rfl rfl ?_
        refine r_iload_n B (pc := 16) dX3_paidGraves_16 rfl rfl ?_
        obtain ⟨r2, hc1, hf⟩ := bdr_e hf
        refine r_cVI B (c_X3_arrearsOf X.l X.D K ad nw σ v2 hc1) F_X3_arrearsOf lk_RX3_135 (q0 := 1) (ci := 3) rfl rfl (Nat.le_of_ble_eq_true rfl) (Nat.le_of_ble_eq_true rfl) (Nat.le_of_ble_eq_true rfl) (pc := 17) dX3_paidGraves_17 rfl ?_
        refine r_if_ne B (pc := 20) (tgt := 26) dX3_paidGraves_20 (by decide) hf (fun _ hf => ?_) (fun _ hf => ?_)
        · refine r_iincS B hnL (pc := 26) dX3_paidGraves_26 rfl kc_1 (by decide) hf (fun y3 hf => ?_)
          refine r_lc (loc' := [some (.ref (ad 1)), some (.int v1), some (.int y3)]) rfl ?_
          refine r_goto B (pc := 29) (tgt := 4) dX3_paidGraves_29 (by decide) ?_
          exact r_mask [true, true, true] rfl (ih4 v1 y3 hf)
        · refine r_iincS B hnL (pc := 23) dX3_paidGraves_23 rfl kc_1 (by decide) hf (fun y4 hf => ?_)
          refine r_lc (loc' := [some (.ref (ad 1)), some (.int y4), some (.int v2)]) rfl ?_
          refine r_iincS B hnL (pc := 26) dX3_paidGraves_26 rfl kc_1 (by decide) hf (fun y5 hf => ?_)
          refine r_lc (loc' := [some (.ref (ad 1)), some (.int y4), some (.int y5)]) rfl ?_
          refine r_goto B (pc := 29) (tgt := 4) dX3_paidGraves_29 (by decide) ?_
          exact r_mask [true, true, true] rfl (ih4 y4 y5 hf)
  exact r_mask [true, true, true] rfl (k4 FU 0 0 hf)
set_option maxHeartbeats 4000000 in
set_option maxRecDepth 20000 in
theorem c_X3_lateGraves (l : Launch) (D : va_G) (K : Kt) (ad : Nat → Nat) (nw : Nat) (σ : St) {r : Int32} (hf : f_X3_lateGraves σ = some r) : CtI l yX3_lateGraves cX3_lateGraves 3 (some .int) 5 112 D K [.ref (ad 1)] (wC ad K nw σ) r (wC ad K nw σ) := by
  refine met_i pl_RX3 (Nat.le_of_ble_eq_true rfl) (fun X hnL B RET => ?_)
  suffices h : MW X (wC ad K nw σ) 0 [some (.ref (ad 1)), none, none] [] from h
  unfold f_X3_lateGraves at hf
  refine r_iconst B (pc := 0) dX3_lateGraves_0 kc_0 ?_
  refine r_istore_n B hnL (pc := 1) dX3_lateGraves_1 rfl (by decide) ?_
  refine r_lc (loc' := [some (.ref (ad 1)), some (.int 0), none]) rfl ?_
  refine r_iconst B (pc := 2) dX3_lateGraves_2 kc_0 ?_
  refine r_istore_n B hnL (pc := 3) dX3_lateGraves_3 rfl (by decide) ?_
  refine r_lc (loc' := [some (.ref (ad 1)), some (.int 0), some (.int 0)]) rfl ?_
  have k4 : ∀ (n4 : Nat) (v1 : Int32) (v2 : Int32), f_X3_lateGraves_h4 σ n4 v1 v2 = some r → MW X (wC ad K nw σ) 4 [some (.ref (ad 1)), some (.int v1), some (.int v2)] [] := by
    intro n4
    induction n4 with
    | zero => intro v1 v2 hf; exact nn_z hf
    | succ n4 ih4 =>
      intro v1 v2 hf
      rw [f_X3_lateGraves_h4] at hf
      refine r_iload_n B (pc := 4) dX3_lateGraves_4 rfl rfl ?_
      refine r_aload_n B (pc := 5) dX3_lateGraves_5 rfl rfl ?_
      refine gC_RX3_12_1 B (pc := 6) dX3_lateGraves_6 ?_
      refine gC_RX3_73_2 B (pc := 9) dX3_lateGraves_9 ?_
      refine r_icmp_ge B (pc := 12) (tgt := 32) dX3_lateGraves_12 (by decide) hf (fun _ hf => ?_) (fun _ hf => ?_)
      · refine r_iload_n B (pc := 32) dX3_lateGraves_32 rfl rfl ?_
        exact e_rz hf (nar_i _) (RET 33 _ dX3_lateGraves_33)
      · refine r_aload_n B (pc := 15) dX3_lateGraves_15 rfl rfl ?_
        refine r_iload_n B (pc := 16) dX3_lateGraves_16 rfl rfl ?_
        obtain ⟨r2, hc1, hf⟩ := bdr_e hf
        refine r_cVI B (c_X3_isLate X.l X.D K ad nw σ v2 hc1) F_X3_isLate lk_RX3_141 (q0 := 1) (ci := 3) rfl rfl (Nat.le_of_ble_eq_true rfl) (Nat.le_of_ble_eq_true rfl) (Nat.le_of_ble_eq_true rfl) (pc := 17) dX3_lateGraves_17 rfl ?_
        refine r_if_eq B (pc := 20) (tgt := 26) dX3_lateGraves_20 (by decide) hf (fun _ hf => ?_) (fun _ hf => ?_)
        · refine r_iincS B hnL (pc := 26) dX3_lateGraves_26 rfl kc_1 (by decide) hf (fun y3 hf => ?_)
          refine r_lc (loc' := [some (.ref (ad 1)), some (.int v1), some (.int y3)]) rfl ?_
          refine r_goto B (pc := 29) (tgt := 4) dX3_lateGraves_29 (by decide) ?_
          exact r_mask [true, true, true] rfl (ih4 v1 y3 hf)
        · refine r_iincS B hnL (pc := 23) dX3_lateGraves_23 rfl kc_1 (by decide) hf (fun y4 hf => ?_)
          refine r_lc (loc' := [some (.ref (ad 1)), some (.int y4), some (.int v2)]) rfl ?_
          refine r_iincS B hnL (pc := 26) dX3_lateGraves_26 rfl kc_1 (by decide) hf (fun y5 hf => ?_)
          refine r_lc (loc' := [some (.ref (ad 1)), some (.int y4), some (.int y5)]) rfl ?_
          refine r_goto B (pc := 29) (tgt := 4) dX3_lateGraves_29 (by decide) ?_
          exact r_mask [true, true, true] rfl (ih4 y4 y5 hf)
  exact r_mask [true, true, true] rfl (k4 FU 0 0 hf)
set_option maxHeartbeats 4000000 in
set_option maxRecDepth 20000 in
theorem c_X1_allWrongs (l : Launch) (D : va_G) (K : Kt) (ad : Nat → Nat) (nw : Nat) (σ : St) {r : Int32} (hf : f_X1_allWrongs σ = some r) : CtI l yX1_allWrongs cX1_allWrongs 3 (some .int) 0 0 D K [.ref (ad 2)] (wC ad K nw σ) r (wC ad K nw σ) := by
  refine met_i pl_RX1 (Nat.le_of_ble_eq_true rfl) (fun X hnL B RET => ?_)
  suffices h : MW X (wC ad K nw σ) 0 [some (.ref (ad 2)), none, none] [] from h
  unfold f_X1_allWrongs at hf
  refine r_iconst B (pc := 0) dX1_allWrongs_0 kc_0 ?_
  refine r_istore_n B hnL (pc := 1) dX1_allWrongs_1 rfl (by decide) ?_
  refine r_lc (loc' := [some (.ref (ad 2)), some (.int 0), none]) rfl ?_
  refine r_iconst B (pc := 2) dX1_allWrongs_2 kc_0 ?_
  refine r_istore_n B hnL (pc := 3) dX1_allWrongs_3 rfl (by decide) ?_
  refine r_lc (loc' := [some (.ref (ad 2)), some (.int 0), some (.int 0)]) rfl ?_
  have k4 : ∀ (n4 : Nat) (v1 : Int32) (v2 : Int32), f_X1_allWrongs_h4 σ n4 v1 v2 = some r → MW X (wC ad K nw σ) 4 [some (.ref (ad 2)), some (.int v1), some (.int v2)] [] := by
    intro n4
    induction n4 with
    | zero => intro v1 v2 hf; exact nn_z hf
    | succ n4 ih4 =>
      intro v1 v2 hf
      rw [f_X1_allWrongs_h4] at hf
      refine r_iload_n B (pc := 4) dX1_allWrongs_4 rfl rfl ?_
      refine r_aload_n B (pc := 5) dX1_allWrongs_5 rfl rfl ?_
      refine gC_RX1_9_2 B (pc := 6) dX1_allWrongs_6 ?_
      refine r_icmp_ge B (pc := 9) (tgt := 27) dX1_allWrongs_9 (by decide) hf (fun _ hf => ?_) (fun _ hf => ?_)
      · refine r_iload_n B (pc := 27) dX1_allWrongs_27 rfl rfl ?_
        exact e_rz hf (nar_i _) (RET 28 _ dX1_allWrongs_28)
      · refine r_iload_n B (pc := 12) dX1_allWrongs_12 rfl rfl ?_
        refine r_aload_n B (pc := 13) dX1_allWrongs_13 rfl rfl ?_
        refine gC_RX1_28_2 B (pc := 14) dX1_allWrongs_14 ?_
        refine r_iload_n B (pc := 17) dX1_allWrongs_17 rfl rfl ?_
        refine aldC_7 B (pc := 18) dX1_allWrongs_18 hf (fun _ hf => ?_)
        refine r_iadd B (pc := 19) dX1_allWrongs_19 ?_
        refine r_nm hf (fun y1 hf => ?_)
        refine r_istore_n B hnL (pc := 20) dX1_allWrongs_20 rfl (by decide) ?_
        refine r_lc (loc' := [some (.ref (ad 2)), some (.int y1), some (.int v2)]) rfl ?_
        refine r_iincS B hnL (pc := 21) dX1_allWrongs_21 rfl kc_1 (by decide) hf (fun y2 hf => ?_)
        refine r_lc (loc' := [some (.ref (ad 2)), some (.int y1), some (.int y2)]) rfl ?_
        refine r_goto B (pc := 24) (tgt := 4) dX1_allWrongs_24 (by decide) ?_
        exact r_mask [true, true, true] rfl (ih4 y1 y2 hf)
  exact r_mask [true, true, true] rfl (k4 FU 0 0 hf)
set_option maxHeartbeats 4000000 in
set_option maxRecDepth 20000 in
theorem c_X6_count (l : Launch) (D : va_G) (K : Kt) (ad : Nat → Nat) (nw : Nat) (σ : St) (x1 : Int32) {r : Int32} (hf : f_X6_count σ x1 = some r) : CtI l yX6_count cX6_count 2 (some .int) 6 134 D K [.ref (ad 0), .int x1] (wC ad K nw σ) r (wC ad K nw σ) := by
  refine met_i pl_RX6 (Nat.le_of_ble_eq_true rfl) (fun X hnL B RET => ?_)
  suffices h : MW X (wC ad K nw σ) 0 [some (.ref (ad 0)), some (.int x1)] [] from h
  unfold f_X6_count at hf
  refine r_iload_n B (pc := 0) dX6_count_0 rfl rfl ?_
  by_cases q1_0 : x1 = 0
  · have hf := it_t hf q1_0
    refine r_tsw B (pc := 1) (off := 55) (tgt := 56) dX6_count_1 (by rw [q1_0]; decide) (by rw [q1_0]; decide) (by rw [q1_0]; decide) (by decide) ?_
    refine r_aload_n B (pc := 56) dX6_count_56 rfl rfl ?_
    refine gC_RX6_10_0 B (pc := 57) dX6_count_57 ?_
    refine gC_RX6_72_1 B (pc := 60) dX6_count_60 ?_
    refine gC_RX6_75_2 B (pc := 63) dX6_count_63 ?_
    exact e_rz hf (nar_i _) (RET 66 _ dX6_count_66)
  have hf := it_f hf q1_0
  by_cases q1_1 : x1 = 1
  · have hf := it_t hf q1_1
    refine r_tsw B (pc := 1) (off := 66) (tgt := 67) dX6_count_1 (by rw [q1_1]; decide) (by rw [q1_1]; decide) (by rw [q1_1]; decide) (by decide) ?_
    refine r_aload_n B (pc := 67) dX6_count_67 rfl rfl ?_
    refine gC_RX6_10_0 B (pc := 68) dX6_count_68 ?_
    refine gC_RX6_96_1 B (pc := 71) dX6_count_71 ?_
    refine gC_RX6_103_9 B (pc := 74) dX6_count_74 ?_
    exact e_rz hf (nar_i _) (RET 77 _ dX6_count_77)
  have hf := it_f hf q1_1
  by_cases q1_2 : x1 = 2
  · have hf := it_t hf q1_2
    refine r_tsw B (pc := 1) (off := 77) (tgt := 78) dX6_count_1 (by rw [q1_2]; decide) (by rw [q1_2]; decide) (by rw [q1_2]; decide) (by decide) ?_
    refine r_aload_n B (pc := 78) dX6_count_78 rfl rfl ?_
    refine gC_RX6_10_0 B (pc := 79) dX6_count_79 ?_
    refine gC_RX6_86_1 B (pc := 82) dX6_count_82 ?_
    exact e_rz hf (nar_i _) (RET 85 _ dX6_count_85)
  have hf := it_f hf q1_2
  by_cases q1_3 : x1 = 3
  · have hf := it_t hf q1_3
    refine r_tsw B (pc := 1) (off := 85) (tgt := 86) dX6_count_1 (by rw [q1_3]; decide) (by rw [q1_3]; decide) (by rw [q1_3]; decide) (by decide) ?_
    refine r_aload_n B (pc := 86) dX6_count_86 rfl rfl ?_
    refine gC_RX6_10_0 B (pc := 87) dX6_count_87 ?_
    refine gC_RX6_196_1 B (pc := 90) dX6_count_90 ?_
    exact e_rz hf (nar_i _) (RET 93 _ dX6_count_93)
  have hf := it_f hf q1_3
  by_cases q1_4 : x1 = 4
  · have hf := it_t hf q1_4
    refine r_tsw B (pc := 1) (off := 93) (tgt := 94) dX6_count_1 (by rw [q1_4]; decide) (by rw [q1_4]; decide) (by rw [q1_4]; decide) (by decide) ?_
    refine r_aload_n B (pc := 94) dX6_count_94 rfl rfl ?_
    refine gC_RX6_10_0 B (pc := 95) dX6_count_95 ?_
    obtain ⟨r2, hc1, hf⟩ := bdr_e hf
    refine r_cVI B (c_X3_allArrears X.l X.D K ad nw σ hc1) F_X3_allArrears lk_RX6_212 (q0 := 1) (ci := 3) rfl rfl (Nat.le_of_ble_eq_true rfl) (Nat.le_of_ble_eq_true rfl) (Nat.le_of_ble_eq_true rfl) (pc := 98) dX6_count_98 rfl ?_
    exact e_rz hf (nar_i _) (RET 101 _ dX6_count_101)
  have hf := it_f hf q1_4
  by_cases q1_5 : x1 = 5
  · have hf := it_t hf q1_5
    refine r_tsw B (pc := 1) (off := 101) (tgt := 102) dX6_count_1 (by rw [q1_5]; decide) (by rw [q1_5]; decide) (by rw [q1_5]; decide) (by decide) ?_
    refine r_aload_n B (pc := 102) dX6_count_102 rfl rfl ?_
    refine gC_RX6_10_0 B (pc := 103) dX6_count_103 ?_
    obtain ⟨r4, hc3, hf⟩ := bdr_e hf
    refine r_cVI B (c_X3_paidGraves X.l X.D K ad nw σ hc3) F_X3_paidGraves lk_RX6_215 (q0 := 1) (ci := 3) rfl rfl (Nat.le_of_ble_eq_true rfl) (Nat.le_of_ble_eq_true rfl) (Nat.le_of_ble_eq_true rfl) (pc := 106) dX6_count_106 rfl ?_
    exact e_rz hf (nar_i _) (RET 109 _ dX6_count_109)
  have hf := it_f hf q1_5
  by_cases q1_6 : x1 = 6
  · have hf := it_t hf q1_6
    refine r_tsw B (pc := 1) (off := 109) (tgt := 110) dX6_count_1 (by rw [q1_6]; decide) (by rw [q1_6]; decide) (by rw [q1_6]; decide) (by decide) ?_
    refine r_aload_n B (pc := 110) dX6_count_110 rfl rfl ?_
    refine gC_RX6_10_0 B (pc := 111) dX6_count_111 ?_
    obtain ⟨r6, hc5, hf⟩ := bdr_e hf
    refine r_cVI B (c_X3_lateGraves X.l X.D K ad nw σ hc5) F_X3_lateGraves lk_RX6_218 (q0 := 1) (ci := 3) rfl rfl (Nat.le_of_ble_eq_true rfl) (Nat.le_of_ble_eq_true rfl) (Nat.le_of_ble_eq_true rfl) (pc := 114) dX6_count_114 rfl ?_
    exact e_rz hf (nar_i _) (RET 117 _ dX6_count_117)
  have hf := it_f hf q1_6
  by_cases q1_7 : x1 = 7
  · have hf := it_t hf q1_7
    refine r_tsw B (pc := 1) (off := 117) (tgt := 118) dX6_count_1 (by rw [q1_7]; decide) (by rw [q1_7]; decide) (by rw [q1_7]; decide) (by decide) ?_
    refine r_aload_n B (pc := 118) dX6_count_118 rfl rfl ?_
    refine gC_RX6_10_0 B (pc := 119) dX6_count_119 ?_
    refine gC_RX6_83_1 B (pc := 122) dX6_count_122 ?_
    exact e_rz hf (nar_i _) (RET 125 _ dX6_count_125)
  have hf := it_f hf q1_7
  by_cases q1_8 : x1 = 8
  · have hf := it_t hf q1_8
    refine r_tsw B (pc := 1) (off := 125) (tgt := 126) dX6_count_1 (by rw [q1_8]; decide) (by rw [q1_8]; decide) (by rw [q1_8]; decide) (by decide) ?_
    refine r_aload_n B (pc := 126) dX6_count_126 rfl rfl ?_
    refine gC_RX6_10_0 B (pc := 127) dX6_count_127 ?_
    refine gC_RX6_116_1 B (pc := 130) dX6_count_130 ?_
    exact e_rz hf (nar_i _) (RET 133 _ dX6_count_133)
  have hf := it_f hf q1_8
  by_cases q1_9 : x1 = 9
  · have hf := it_t hf q1_9
    refine r_tsw B (pc := 1) (off := 133) (tgt := 134) dX6_count_1 (by rw [q1_9]; decide) (by rw [q1_9]; decide) (by rw [q1_9]; decide) (by decide) ?_
    refine r_aload_n B (pc := 134) dX6_count_134 rfl rfl ?_
    refine gC_RX6_10_0 B (pc := 135) dX6_count_135 ?_
    refine gC_RX6_72_1 B (pc := 138) dX6_count_138 ?_
    obtain ⟨r8, hc7, hf⟩ := bdr_e hf
    refine r_cVI B (c_X1_allWrongs X.l X.D K ad nw σ hc7) F_X1_allWrongs lk_RX6_221 (q0 := 2) (ci := 1) rfl rfl (Nat.le_of_ble_eq_true rfl) (Nat.le_of_ble_eq_true rfl) (Nat.le_of_ble_eq_true rfl) (pc := 141) dX6_count_141 rfl ?_
    exact e_rz hf (nar_i _) (RET 144 _ dX6_count_144)
  have hf := it_f hf q1_9
  refine r_tswd B (pc := 1) (tgt := 145) dX6_count_1 (sw_out 10 0 (fun k hk => match k, hk with | 0, _ => fun e => q1_0 (Int32.toInt_inj.mp (e.trans (by decide))) | 1, _ => fun e => q1_1 (Int32.toInt_inj.mp (e.trans (by decide))) | 2, _ => fun e => q1_2 (Int32.toInt_inj.mp (e.trans (by decide))) | 3, _ => fun e => q1_3 (Int32.toInt_inj.mp (e.trans (by decide))) | 4, _ => fun e => q1_4 (Int32.toInt_inj.mp (e.trans (by decide))) | 5, _ => fun e => q1_5 (Int32.toInt_inj.mp (e.trans (by decide))) | 6, _ => fun e => q1_6 (Int32.toInt_inj.mp (e.trans (by decide))) | 7, _ => fun e => q1_7 (Int32.toInt_inj.mp (e.trans (by decide))) | 8, _ => fun e => q1_8 (Int32.toInt_inj.mp (e.trans (by decide))) | 9, _ => fun e => q1_9 (Int32.toInt_inj.mp (e.trans (by decide))))) (by decide) ?_
  refine r_iconst B (pc := 145) dX6_count_145 kc_m1 ?_
  exact e_rz hf (nar_i _) (RET 146 _ dX6_count_146)
set_option maxHeartbeats 4000000 in
set_option maxRecDepth 20000 in
theorem c_X6_isReader (l : Launch) (D : va_G) (K : Kt) (ad : Nat → Nat) (nw : Nat) (σ : St) (x1 : Int64) : CtI l yX6_isReader cX6_isReader 3 (some .boolean) 0 0 D K [.ref (ad 0), .long x1] (wC ad K nw σ) (f_X6_isReader σ x1) (wC ad K nw σ) := by
  refine met_i pl_RX6 (Nat.le_of_ble_eq_true rfl) (fun X hnL B RET => ?_)
  generalize hf : f_X6_isReader σ x1 = r at RET
  suffices h : MW X (wC ad K nw σ) 0 [some (.ref (ad 0)), some (.long x1), none] [] from h
  unfold f_X6_isReader at hf
  refine r_lload_n B (pc := 0) dX6_isReader_0 rfl rfl ?_
  refine r_lconst B (pc := 1) dX6_isReader_1 kl_0 ?_
  refine r_lcmp B (pc := 2) dX6_isReader_2 ?_
  refine r_if_lt B (pc := 3) (tgt := 23) dX6_isReader_3 (by decide) hf (fun _ hf => ?_) (fun _ hf => ?_)
  · refine r_iconst B (pc := 23) dX6_isReader_23 kc_0 ?_
    exact e_tz hf rfl (RET 24 _ dX6_isReader_24)
  · refine r_lload_n B (pc := 6) dX6_isReader_6 rfl rfl ?_
    refine r_aload_n B (pc := 7) dX6_isReader_7 rfl rfl ?_
    refine gC_RX6_10_0 B (pc := 8) dX6_isReader_8 ?_
    refine gC_RX6_86_1 B (pc := 11) dX6_isReader_11 ?_
    refine r_i2l B (pc := 14) dX6_isReader_14 ?_
    refine r_lcmp B (pc := 15) dX6_isReader_15 ?_
    refine r_if_ge B (pc := 16) (tgt := 23) dX6_isReader_16 (by decide) hf (fun _ hf => ?_) (fun _ hf => ?_)
    · refine r_iconst B (pc := 23) dX6_isReader_23 kc_0 ?_
      exact e_tz hf rfl (RET 24 _ dX6_isReader_24)
    · refine r_iconst B (pc := 19) dX6_isReader_19 kc_1 ?_
      refine r_goto B (pc := 20) (tgt := 24) dX6_isReader_20 (by decide) ?_
      exact e_tz hf rfl (RET 24 _ dX6_isReader_24)
set_option maxHeartbeats 4000000 in
set_option maxRecDepth 20000 in
theorem c_X6_hears (l : Launch) (D : va_G) (K : Kt) (ad : Nat → Nat) (nw : Nat) (σ : St) (x1 : Int32) (x2 : Int32) {r : Int32} (hf : f_X6_hears σ x1 x2 = some r) : CtI l yX6_hears cX6_hears 3 (some .int) 3 72 D K [.ref (ad 0), .int x1, .int x2] (wC ad K nw σ) r (wC ad K nw σ) := by
  refine met_i pl_RX6 (Nat.le_of_ble_eq_true rfl) (fun X hnL B RET => ?_)
  suffices h : MW X (wC ad K nw σ) 0 [some (.ref (ad 0)), some (.int x1), some (.int x2)] [] from h
  unfold f_X6_hears at hf
  refine r_aload_n B (pc := 0) dX6_hears_0 rfl rfl ?_
  refine r_iload_n B (pc := 1) dX6_hears_1 rfl rfl ?_
  refine r_i2l B (pc := 2) dX6_hears_2 ?_
  refine r_cVI B (c_X6_isReader X.l X.D K ad nw σ (x1.toInt64)) F_X6_isReader lk_RX6_224 (q0 := 0) (ci := 6) rfl rfl (Nat.le_of_ble_eq_true rfl) (Nat.le_of_ble_eq_true rfl) (Nat.le_of_ble_eq_true rfl) (pc := 3) dX6_hears_3 rfl ?_
  refine r_if_eq B (pc := 6) (tgt := 17) dX6_hears_6 (by decide) hf (fun _ hf => ?_) (fun _ hf => ?_)
  · refine r_iconst B (pc := 17) dX6_hears_17 kc_m1 ?_
    exact e_rz hf (nar_i _) (RET 18 _ dX6_hears_18)
  · refine r_iload_n B (pc := 9) dX6_hears_9 rfl rfl ?_
    refine r_i2l B (pc := 10) dX6_hears_10 ?_
    refine r_cSI B (c_X6_isPlace X.l X.D K _ (x2.toInt64)) F_X6_isPlace lk_RX6_68 (Nat.le_of_ble_eq_true rfl) (Nat.le_of_ble_eq_true rfl) (Nat.le_of_ble_eq_true rfl) (pc := 11) dX6_hears_11 rfl ?_
    refine r_if_ne B (pc := 14) (tgt := 19) dX6_hears_14 (by decide) hf (fun _ hf => ?_) (fun _ hf => ?_)
    · refine r_aload_n B (pc := 19) dX6_hears_19 rfl rfl ?_
      refine gC_RX6_10_0 B (pc := 20) dX6_hears_20 ?_
      refine r_iload_n B (pc := 23) dX6_hears_23 rfl rfl ?_
      refine r_iload_n B (pc := 24) dX6_hears_24 rfl rfl ?_
      refine r_aload_n B (pc := 25) dX6_hears_25 rfl rfl ?_
      refine gC_RX6_10_0 B (pc := 26) dX6_hears_26 ?_
      refine gC_RX6_116_1 B (pc := 29) dX6_hears_29 ?_
      obtain ⟨r2, hc1, hf⟩ := bdr_e hf
      refine r_cVI B (c_X3_hearers X.l X.D K ad nw σ x1 x2 (σ.1 1 4) hc1) F_X3_hearers lk_RX6_227 (q0 := 1) (ci := 3) rfl rfl (Nat.le_of_ble_eq_true rfl) (Nat.le_of_ble_eq_true rfl) (Nat.le_of_ble_eq_true rfl) (pc := 32) dX6_hears_32 rfl ?_
      exact e_rz hf (nar_i _) (RET 35 _ dX6_hears_35)
    · refine r_iconst B (pc := 17) dX6_hears_17 kc_m1 ?_
      exact e_rz hf (nar_i _) (RET 18 _ dX6_hears_18)
set_option maxHeartbeats 4000000 in
set_option maxRecDepth 20000 in
theorem c_X6_isReading (l : Launch) (D : va_G) (K : Kt) (ad : Nat → Nat) (nw : Nat) (σ : St) (x1 : Int64) (x3 : Int64) (x5 : Int64) : CtI l yX6_isReading cX6_isReading 7 (some .boolean) 1 22 D K [.ref (ad 0), .long x1, .long x3, .long x5] (wC ad K nw σ) (f_X6_isReading σ x1 x3 x5) (wC ad K nw σ) := by
  refine met_i pl_RX6 (Nat.le_of_ble_eq_true rfl) (fun X hnL B RET => ?_)
  generalize hf : f_X6_isReading σ x1 x3 x5 = r at RET
  suffices h : MW X (wC ad K nw σ) 0 [some (.ref (ad 0)), some (.long x1), none, some (.long x3), none, some (.long x5), none] [] from h
  unfold f_X6_isReading at hf
  refine r_aload_n B (pc := 0) dX6_isReading_0 rfl rfl ?_
  refine r_lload_n B (pc := 1) dX6_isReading_1 rfl rfl ?_
  refine r_cVI B (c_X6_isReader X.l X.D K ad nw σ x1) F_X6_isReader lk_RX6_224 (q0 := 0) (ci := 6) rfl rfl (Nat.le_of_ble_eq_true rfl) (Nat.le_of_ble_eq_true rfl) (Nat.le_of_ble_eq_true rfl) (pc := 2) dX6_isReading_2 rfl ?_
  refine r_if_eq B (pc := 5) (tgt := 28) dX6_isReading_5 (by decide) hf (fun _ hf => ?_) (fun _ hf => ?_)
  · refine r_iconst B (pc := 28) dX6_isReading_28 kc_0 ?_
    exact e_tz hf rfl (RET 29 _ dX6_isReading_29)
  · refine r_lload_n B (pc := 8) dX6_isReading_8 rfl rfl ?_
    refine r_cSI B (c_X6_isPlace X.l X.D K _ x3) F_X6_isPlace lk_RX6_68 (Nat.le_of_ble_eq_true rfl) (Nat.le_of_ble_eq_true rfl) (Nat.le_of_ble_eq_true rfl) (pc := 9) dX6_isReading_9 rfl ?_
    refine r_if_eq B (pc := 12) (tgt := 28) dX6_isReading_12 (by decide) hf (fun _ hf => ?_) (fun _ hf => ?_)
    · refine r_iconst B (pc := 28) dX6_isReading_28 kc_0 ?_
      exact e_tz hf rfl (RET 29 _ dX6_isReading_29)
    · refine r_aload_n B (pc := 15) dX6_isReading_15 rfl rfl ?_
      refine r_lload B (pc := 16) dX6_isReading_16 rfl ?_
      refine r_cVI B (c_X6_isNews X.l X.D K ad nw σ x5) F_X6_isNews lk_RX6_107 (q0 := 0) (ci := 6) rfl rfl (Nat.le_of_ble_eq_true rfl) (Nat.le_of_ble_eq_true rfl) (Nat.le_of_ble_eq_true rfl) (pc := 18) dX6_isReading_18 rfl ?_
      refine r_if_eq B (pc := 21) (tgt := 28) dX6_isReading_21 (by decide) hf (fun _ hf => ?_) (fun _ hf => ?_)
      · refine r_iconst B (pc := 28) dX6_isReading_28 kc_0 ?_
        exact e_tz hf rfl (RET 29 _ dX6_isReading_29)
      · refine r_iconst B (pc := 24) dX6_isReading_24 kc_1 ?_
        refine r_goto B (pc := 25) (tgt := 29) dX6_isReading_25 (by decide) ?_
        exact e_tz hf rfl (RET 29 _ dX6_isReading_29)
set_option maxHeartbeats 4000000 in
set_option maxRecDepth 20000 in
theorem c_X6_wronged (l : Launch) (D : va_G) (K : Kt) (ad : Nat → Nat) (nw : Nat) (σ : St) (x1 : Int32) (x2 : Int32) (x3 : Int32) {r : Int32} (hf : f_X6_wronged σ x1 x2 x3 = some r) : CtI l yX6_wronged cX6_wronged 4 (some .int) 5 116 D K [.ref (ad 0), .int x1, .int x2, .int x3] (wC ad K nw σ) r (wC ad K nw σ) := by
  refine met_i pl_RX6 (Nat.le_of_ble_eq_true rfl) (fun X hnL B RET => ?_)
  suffices h : MW X (wC ad K nw σ) 0 [some (.ref (ad 0)), some (.int x1), some (.int x2), some (.int x3)] [] from h
  unfold f_X6_wronged at hf
  refine r_aload_n B (pc := 0) dX6_wronged_0 rfl rfl ?_
  refine r_iload_n B (pc := 1) dX6_wronged_1 rfl rfl ?_
  refine r_i2l B (pc := 2) dX6_wronged_2 ?_
  refine r_iload_n B (pc := 3) dX6_wronged_3 rfl rfl ?_
  refine r_i2l B (pc := 4) dX6_wronged_4 ?_
  refine r_iload_n B (pc := 5) dX6_wronged_5 rfl rfl ?_
  refine r_i2l B (pc := 6) dX6_wronged_6 ?_
  refine r_cVI B (c_X6_isReading X.l X.D K ad nw σ (x1.toInt64) (x2.toInt64) (x3.toInt64)) F_X6_isReading lk_RX6_231 (q0 := 0) (ci := 6) rfl rfl (Nat.le_of_ble_eq_true rfl) (Nat.le_of_ble_eq_true rfl) (Nat.le_of_ble_eq_true rfl) (pc := 7) dX6_wronged_7 rfl ?_
  refine r_if_ne B (pc := 10) (tgt := 15) dX6_wronged_10 (by decide) hf (fun _ hf => ?_) (fun _ hf => ?_)
  · refine r_aload_n B (pc := 15) dX6_wronged_15 rfl rfl ?_
    refine gC_RX6_10_0 B (pc := 16) dX6_wronged_16 ?_
    refine r_aload_n B (pc := 19) dX6_wronged_19 rfl rfl ?_
    refine gC_RX6_10_0 B (pc := 20) dX6_wronged_20 ?_
    refine r_iload_n B (pc := 23) dX6_wronged_23 rfl rfl ?_
    refine r_iload_n B (pc := 24) dX6_wronged_24 rfl rfl ?_
    refine r_aload_n B (pc := 25) dX6_wronged_25 rfl rfl ?_
    refine gC_RX6_10_0 B (pc := 26) dX6_wronged_26 ?_
    refine gC_RX6_116_1 B (pc := 29) dX6_wronged_29 ?_
    obtain ⟨r2, hc1, hf⟩ := bdr_e hf
    refine r_cVI B (c_X3_hearers X.l X.D K ad nw σ x1 x2 (σ.1 1 4) hc1) F_X3_hearers lk_RX6_227 (q0 := 1) (ci := 3) rfl rfl (Nat.le_of_ble_eq_true rfl) (Nat.le_of_ble_eq_true rfl) (Nat.le_of_ble_eq_true rfl) (pc := 32) dX6_wronged_32 rfl ?_
    refine r_iload_n B (pc := 35) dX6_wronged_35 rfl rfl ?_
    refine r_aload_n B (pc := 36) dX6_wronged_36 rfl rfl ?_
    refine gC_RX6_10_0 B (pc := 37) dX6_wronged_37 ?_
    refine gC_RX6_72_1 B (pc := 40) dX6_wronged_40 ?_
    refine gC_RX6_137_2 B (pc := 43) dX6_wronged_43 ?_
    obtain ⟨r4, hc3, hf⟩ := bdr_e hf
    refine r_cVI B (c_X3_wrongedOf_6 X.l X.D K ad nw σ r2 x3 hc3) F_X3_wrongedOf lk_RX6_235 (q0 := 1) (ci := 3) rfl rfl (Nat.le_of_ble_eq_true rfl) (Nat.le_of_ble_eq_true rfl) (Nat.le_of_ble_eq_true rfl) (pc := 46) dX6_wronged_46 rfl ?_
    exact e_rz hf (nar_i _) (RET 49 _ dX6_wronged_49)
  · refine r_iconst B (pc := 13) dX6_wronged_13 kc_m1 ?_
    exact e_rz hf (nar_i _) (RET 14 _ dX6_wronged_14)
set_option maxHeartbeats 4000000 in
set_option maxRecDepth 20000 in
theorem c_X6_read (l : Launch) (D : va_G) (K : Kt) (ad : Nat → Nat) (nw : Nat) (σ : St) (x1 : Int32) (x2 : Int32) (x3 : Int32) {r : Int32} {τ : St} (hf : f_X6_read σ x1 x2 x3 = some (r, τ)) : CtI l yX6_read cX6_read 4 (some .int) 6 144 D K [.ref (ad 0), .int x1, .int x2, .int x3] (wC ad K nw σ) r (wC ad K nw τ) := by
  refine met_i pl_RX6 (Nat.le_of_ble_eq_true rfl) (fun X hnL B RET => ?_)
  suffices h : MW X (wC ad K nw σ) 0 [some (.ref (ad 0)), some (.int x1), some (.int x2), some (.int x3)] [] from h
  unfold f_X6_read at hf
  refine r_aload_n B (pc := 0) dX6_read_0 rfl rfl ?_
  refine r_iload_n B (pc := 1) dX6_read_1 rfl rfl ?_
  refine r_i2l B (pc := 2) dX6_read_2 ?_
  refine r_iload_n B (pc := 3) dX6_read_3 rfl rfl ?_
  refine r_i2l B (pc := 4) dX6_read_4 ?_
  refine r_iload_n B (pc := 5) dX6_read_5 rfl rfl ?_
  refine r_i2l B (pc := 6) dX6_read_6 ?_
  refine r_cVI B (c_X6_isReading X.l X.D K ad nw σ (x1.toInt64) (x2.toInt64) (x3.toInt64)) F_X6_isReading lk_RX6_231 (q0 := 0) (ci := 6) rfl rfl (Nat.le_of_ble_eq_true rfl) (Nat.le_of_ble_eq_true rfl) (Nat.le_of_ble_eq_true rfl) (pc := 7) dX6_read_7 rfl ?_
  refine r_if_ne B (pc := 10) (tgt := 15) dX6_read_10 (by decide) hf (fun _ hf => ?_) (fun _ hf => ?_)
  · refine r_aload_n B (pc := 15) dX6_read_15 rfl rfl ?_
    refine gC_RX6_10_0 B (pc := 16) dX6_read_16 ?_
    refine gC_RX6_196_1 B (pc := 19) dX6_read_19 ?_
    refine r_sipush B (pc := 22) dX6_read_22 ks_9999 ?_
    refine r_icmp_lt B (pc := 25) (tgt := 31) dX6_read_25 (by decide) hf (fun _ hf => ?_) (fun _ hf => ?_)
    · refine r_aload_n B (pc := 31) dX6_read_31 rfl rfl ?_
      refine gC_RX6_10_0 B (pc := 32) dX6_read_32 ?_
      refine r_iload_n B (pc := 35) dX6_read_35 rfl rfl ?_
      refine r_iload_n B (pc := 36) dX6_read_36 rfl rfl ?_
      refine r_iload_n B (pc := 37) dX6_read_37 rfl rfl ?_
      obtain ⟨r2, s3, hc1, hf⟩ := bdp_e hf
      refine r_cVI B (c_X3_hold X.l X.D K ad nw σ x1 x2 x3 hc1) F_X3_hold lk_RX6_208 (q0 := 1) (ci := 3) rfl rfl (Nat.le_of_ble_eq_true rfl) (Nat.le_of_ble_eq_true rfl) (Nat.le_of_ble_eq_true rfl) (pc := 38) dX6_read_38 rfl ?_
      refine r_pop B (pc := 41) dX6_read_41 rfl ?_
      refine r_aload_n B (pc := 42) dX6_read_42 rfl rfl ?_
      refine gC_RX6_10_0 B (pc := 43) dX6_read_43 ?_
      refine r_iload_n B (pc := 46) dX6_read_46 rfl rfl ?_
      refine r_iload_n B (pc := 47) dX6_read_47 rfl rfl ?_
      refine r_aload_n B (pc := 48) dX6_read_48 rfl rfl ?_
      refine gC_RX6_10_0 B (pc := 49) dX6_read_49 ?_
      refine gC_RX6_116_1 B (pc := 52) dX6_read_52 ?_
      obtain ⟨r5, hc4, hf⟩ := bdr_e hf
      refine r_cVI B (c_X3_hearers X.l X.D K ad nw s3 x1 x2 (s3.1 1 4) hc4) F_X3_hearers lk_RX6_227 (q0 := 1) (ci := 3) rfl rfl (Nat.le_of_ble_eq_true rfl) (Nat.le_of_ble_eq_true rfl) (Nat.le_of_ble_eq_true rfl) (pc := 55) dX6_read_55 rfl ?_
      exact e_pz (F := (wC ad K nw)) hf (nar_i _) (RET 58 _ dX6_read_58)
    · refine r_bipush B (pc := 28) dX6_read_28 kb_m3 ?_
      exact e_pz (F := (wC ad K nw)) hf (nar_i _) (RET 30 _ dX6_read_30)
  · refine r_iconst B (pc := 13) dX6_read_13 kc_m1 ?_
    exact e_pz (F := (wC ad K nw)) hf (nar_i _) (RET 14 _ dX6_read_14)
set_option maxHeartbeats 4000000 in
set_option maxRecDepth 20000 in
theorem c_X3_unhold (l : Launch) (D : va_G) (K : Kt) (ad : Nat → Nat) (nw : Nat) (σ : St) {τ : St} (hf : f_X3_unhold σ = some τ) : CtV l yX3_unhold cX3_unhold 2 none 1 21 D K [.ref (ad 1)] (wC ad K nw σ) (wC ad K nw τ) := by
  refine met_v pl_RX3 (Nat.le_of_ble_eq_true rfl) (fun X hnL B RET => ?_)
  suffices h : MW X (wC ad K nw σ) 0 [some (.ref (ad 1)), none] [] from h
  unfold f_X3_unhold at hf
  refine r_aload_n B (pc := 0) dX3_unhold_0 rfl rfl ?_
  refine gC_RX3_48_1 B (pc := 1) dX3_unhold_1 ?_
  refine r_if_gt B (pc := 4) (tgt := 8) dX3_unhold_4 (by decide) hf (fun _ hf => ?_) (fun _ hf => ?_)
  · refine r_aload_n B (pc := 8) dX3_unhold_8 rfl rfl ?_
    refine r_dup B (pc := 9) dX3_unhold_9 rfl ?_
    refine gC_RX3_48_1 B (pc := 10) dX3_unhold_10 ?_
    refine r_iconst B (pc := 13) dX3_unhold_13 kc_1 ?_
    refine r_isub B (pc := 14) dX3_unhold_14 ?_
    refine pC_RX3_48_1 B (pc := 15) dX3_unhold_15 hf (fun s1 hf => ?_)
    refine r_aload_n B (pc := 18) dX3_unhold_18 rfl rfl ?_
    refine r_dup B (pc := 19) dX3_unhold_19 rfl ?_
    refine gC_RX3_45_1 B (pc := 20) dX3_unhold_20 ?_
    refine r_iconst B (pc := 23) dX3_unhold_23 kc_1 ?_
    refine r_isub B (pc := 24) dX3_unhold_24 ?_
    refine pC_RX3_45_1 B (pc := 25) dX3_unhold_25 hf (fun s2 hf => ?_)
    refine r_iconst B (pc := 28) dX3_unhold_28 kc_0 ?_
    refine r_istore_n B hnL (pc := 29) dX3_unhold_29 rfl (by decide) ?_
    refine r_lc (loc' := [some (.ref (ad 1)), some (.int 0)]) rfl ?_
    have k30 : ∀ (n30 : Nat) (v1 : Int32) (σ30 : St), f_X3_unhold_h30 n30 v1 σ30 = some τ → MW X (wC ad K nw σ30) 30 [some (.ref (ad 1)), some (.int v1)] [] := by
      intro n30
      induction n30 with
      | zero => intro v1 σ30 hf; exact nn_z hf
      | succ n30 ih30 =>
        intro v1 σ30 hf
        rw [f_X3_unhold_h30] at hf
        refine r_iload_n B (pc := 30) dX3_unhold_30 rfl rfl ?_
        refine r_aload_n B (pc := 31) dX3_unhold_31 rfl rfl ?_
        refine gC_RX3_12_1 B (pc := 32) dX3_unhold_32 ?_
        refine gC_RX3_73_2 B (pc := 35) dX3_unhold_35 ?_
        refine r_icmp_ge B (pc := 38) (tgt := 117) dX3_unhold_38 (by decide) hf (fun _ hf => ?_) (fun _ hf => ?_)
        · exact e_s (F := (wC ad K nw)) hf (RET 117 _ dX3_unhold_117)
        · refine r_aload_n B (pc := 41) dX3_unhold_41 rfl rfl ?_
          refine gC_RX3_54_1 B (pc := 42) dX3_unhold_42 ?_
          refine r_aload_n B (pc := 45) dX3_unhold_45 rfl rfl ?_
          refine gC_RX3_48_1 B (pc := 46) dX3_unhold_46 ?_
          refine aldC_17 B (pc := 49) dX3_unhold_49 hf (fun _ hf => ?_)
          refine r_iload_n B (pc := 50) dX3_unhold_50 rfl rfl ?_
          refine r_cNI B (c_X6_has X.l X.D K _ (σ30.1 17 (ix (σ30.1 1 9))) v1) F_X6_has nk_RX3_108 (Nat.le_of_ble_eq_true rfl) (Nat.le_of_ble_eq_true rfl) (Nat.le_of_ble_eq_true rfl) (pc := 51) dX3_unhold_51 rfl ?_
          have k82 : ∀ (v1 : Int32) (σ82 : St), f_X3_unhold_b82 (f_X3_unhold_h30 n30) v1 σ82 = some τ → MW X (wC ad K nw σ82) 82 [some (.ref (ad 1)), some (.int v1)] [] := by
            intro v1 σ82 hf
            unfold f_X3_unhold_b82 at hf
            refine r_aload_n B (pc := 82) dX3_unhold_82 rfl rfl ?_
            refine gC_RX3_57_1 B (pc := 83) dX3_unhold_83 ?_
            refine r_aload_n B (pc := 86) dX3_unhold_86 rfl rfl ?_
            refine gC_RX3_48_1 B (pc := 87) dX3_unhold_87 ?_
            refine aldC_18 B (pc := 90) dX3_unhold_90 hf (fun _ hf => ?_)
            refine r_iload_n B (pc := 91) dX3_unhold_91 rfl rfl ?_
            refine r_cNI B (c_X6_has X.l X.D K _ (σ82.1 18 (ix (σ82.1 1 9))) v1) F_X6_has nk_RX3_108 (Nat.le_of_ble_eq_true rfl) (Nat.le_of_ble_eq_true rfl) (Nat.le_of_ble_eq_true rfl) (pc := 92) dX3_unhold_92 rfl ?_
            refine r_if_eq B (pc := 95) (tgt := 111) dX3_unhold_95 (by decide) hf (fun _ hf => ?_) (fun _ hf => ?_)
            · refine r_iincS B hnL (pc := 111) dX3_unhold_111 rfl kc_1 (by decide) hf (fun y4 hf => ?_)
              refine r_lc (loc' := [some (.ref (ad 1)), some (.int y4)]) rfl ?_
              refine r_goto B (pc := 114) (tgt := 30) dX3_unhold_114 (by decide) ?_
              exact r_mask [true, true] rfl (ih30 y4 σ82 hf)
            · refine r_aload_n B (pc := 98) dX3_unhold_98 rfl rfl ?_
              refine gC_RX3_12_1 B (pc := 99) dX3_unhold_99 ?_
              refine gC_RX3_165_2 B (pc := 102) dX3_unhold_102 ?_
              refine r_iload_n B (pc := 105) dX3_unhold_105 rfl rfl ?_
              refine r_dup2 B (pc := 106) dX3_unhold_106 rfl rfl ?_
              refine aldC_7 B (pc := 107) dX3_unhold_107 hf (fun _ hf => ?_)
              refine r_iconst B (pc := 108) dX3_unhold_108 kc_1 ?_
              refine r_isub B (pc := 109) dX3_unhold_109 ?_
              refine astC_7 B (pc := 110) dX3_unhold_110 hf (fun s5 _ hf => ?_)
              refine r_iincS B hnL (pc := 111) dX3_unhold_111 rfl kc_1 (by decide) hf (fun y6 hf => ?_)
              refine r_lc (loc' := [some (.ref (ad 1)), some (.int y6)]) rfl ?_
              refine r_goto B (pc := 114) (tgt := 30) dX3_unhold_114 (by decide) ?_
              exact r_mask [true, true] rfl (ih30 y6 s5 hf)
          refine r_if_eq B (pc := 54) (tgt := 82) dX3_unhold_54 (by decide) hf (fun _ hf => ?_) (fun _ hf => ?_)
          · exact r_mask [true, true] rfl (k82 v1 σ30 hf)
          · refine r_aload_n B (pc := 57) dX3_unhold_57 rfl rfl ?_
            refine gC_RX3_12_1 B (pc := 58) dX3_unhold_58 ?_
            refine gC_RX3_126_2 B (pc := 61) dX3_unhold_61 ?_
            refine r_iload_n B (pc := 64) dX3_unhold_64 rfl rfl ?_
            refine r_dup2 B (pc := 65) dX3_unhold_65 rfl rfl ?_
            refine aldC_6 B (pc := 66) dX3_unhold_66 hf (fun _ hf => ?_)
            refine r_iconst B (pc := 67) dX3_unhold_67 kc_1 ?_
            refine r_aload_n B (pc := 68) dX3_unhold_68 rfl rfl ?_
            refine gC_RX3_51_1 B (pc := 69) dX3_unhold_69 ?_
            refine r_aload_n B (pc := 72) dX3_unhold_72 rfl rfl ?_
            refine gC_RX3_48_1 B (pc := 73) dX3_unhold_73 ?_
            refine aldC_16 B (pc := 76) dX3_unhold_76 hf (fun _ hf => ?_)
            refine r_ishl B (pc := 77) dX3_unhold_77 ?_
            refine r_iconst B (pc := 78) dX3_unhold_78 kc_m1 ?_
            refine r_ixor B (pc := 79) dX3_unhold_79 ?_
            refine r_iand B (pc := 80) dX3_unhold_80 ?_
            refine astC_6 B (pc := 81) dX3_unhold_81 hf (fun s3 _ hf => ?_)
            exact r_mask [true, true] rfl (k82 v1 s3 hf)
    exact r_mask [true, true] rfl (k30 FU 0 s2 hf)
  · exact e_s (F := (wC ad K nw)) hf (RET 7 _ dX3_unhold_7)
set_option maxHeartbeats 4000000 in
set_option maxRecDepth 20000 in
theorem c_X6_undo (l : Launch) (D : va_G) (K : Kt) (ad : Nat → Nat) (nw : Nat) (σ : St) {r : Int32} {τ : St} (hf : f_X6_undo σ = some (r, τ)) : CtI l yX6_undo cX6_undo 1 (some .int) 2 42 D K [.ref (ad 0)] (wC ad K nw σ) r (wC ad K nw τ) := by
  refine met_i pl_RX6 (Nat.le_of_ble_eq_true rfl) (fun X hnL B RET => ?_)
  suffices h : MW X (wC ad K nw σ) 0 [some (.ref (ad 0))] [] from h
  unfold f_X6_undo at hf
  refine r_aload_n B (pc := 0) dX6_undo_0 rfl rfl ?_
  refine gC_RX6_10_0 B (pc := 1) dX6_undo_1 ?_
  refine gC_RX6_83_1 B (pc := 4) dX6_undo_4 ?_
  refine r_if_ne B (pc := 7) (tgt := 13) dX6_undo_7 (by decide) hf (fun _ hf => ?_) (fun _ hf => ?_)
  · refine r_aload_n B (pc := 13) dX6_undo_13 rfl rfl ?_
    refine gC_RX6_10_0 B (pc := 14) dX6_undo_14 ?_
    obtain ⟨s2, hc1, hf⟩ := bdr_e hf
    refine r_cVV B (c_X3_unhold X.l X.D K ad nw σ hc1) F_X3_unhold lk_RX6_239 (q0 := 1) (ci := 3) rfl rfl (Nat.le_of_ble_eq_true rfl) (Nat.le_of_ble_eq_true rfl) (Nat.le_of_ble_eq_true rfl) (pc := 17) dX6_undo_17 rfl ?_
    refine r_aload_n B (pc := 20) dX6_undo_20 rfl rfl ?_
    refine gC_RX6_10_0 B (pc := 21) dX6_undo_21 ?_
    refine gC_RX6_83_1 B (pc := 24) dX6_undo_24 ?_
    exact e_pz (F := (wC ad K nw)) hf (nar_i _) (RET 27 _ dX6_undo_27)
  · refine r_bipush B (pc := 10) dX6_undo_10 kb_m4 ?_
    exact e_pz (F := (wC ad K nw)) hf (nar_i _) (RET 12 _ dX6_undo_12)
set_option maxHeartbeats 4000000 in
set_option maxRecDepth 20000 in
theorem c_X3_drawn (l : Launch) (D : va_G) (K : Kt) (ad : Nat → Nat) (nw : Nat) (σ : St) (x1 : Int32) {r : Int32} {τ : St} (hf : f_X3_drawn σ x1 = some (r, τ)) : CtI l yX3_drawn cX3_drawn 2 (some .int) 0 0 D K [.ref (ad 1), .int x1] (wC ad K nw σ) r (wC ad K nw τ) := by
  refine met_i pl_RX3 (Nat.le_of_ble_eq_true rfl) (fun X hnL B RET => ?_)
  suffices h : MW X (wC ad K nw σ) 0 [some (.ref (ad 1)), some (.int x1)] [] from h
  unfold f_X3_drawn at hf
  refine r_aload_n B (pc := 0) dX3_drawn_0 rfl rfl ?_
  refine r_aload_n B (pc := 1) dX3_drawn_1 rfl rfl ?_
  refine gC_RX3_42_1 B (pc := 2) dX3_drawn_2 ?_
  refine r_ldc B (pc := 5) kp_RX3_172 dX3_drawn_5 ?_
  refine r_imul B (pc := 7) dX3_drawn_7 ?_
  refine r_sipush B (pc := 8) dX3_drawn_8 ks_12345 ?_
  refine r_iadd B (pc := 11) dX3_drawn_11 ?_
  refine r_ldc B (pc := 12) kp_RX3_173 dX3_drawn_12 ?_
  refine r_iand B (pc := 14) dX3_drawn_14 ?_
  refine pC_RX3_42_1 B (pc := 15) dX3_drawn_15 hf (fun s1 hf => ?_)
  refine r_iload_n B (pc := 18) dX3_drawn_18 rfl rfl ?_
  refine r_if_le B (pc := 19) (tgt := 34) dX3_drawn_19 (by decide) hf (fun _ hf => ?_) (fun _ hf => ?_)
  · refine r_iconst B (pc := 34) dX3_drawn_34 kc_0 ?_
    exact e_pz (F := (wC ad K nw)) hf (nar_i _) (RET 35 _ dX3_drawn_35)
  · refine r_aload_n B (pc := 22) dX3_drawn_22 rfl rfl ?_
    refine gC_RX3_42_1 B (pc := 23) dX3_drawn_23 ?_
    refine r_bipush B (pc := 26) dX3_drawn_26 kb_16 ?_
    refine r_ishr B (pc := 28) dX3_drawn_28 ?_
    refine r_iload_n B (pc := 29) dX3_drawn_29 rfl rfl ?_
    refine r_iremS B (pc := 30) dX3_drawn_30 hf (fun _ hf => ?_)
    refine r_goto B (pc := 31) (tgt := 35) dX3_drawn_31 (by decide) ?_
    exact e_pz (F := (wC ad K nw)) hf (nar_i _) (RET 35 _ dX3_drawn_35)
set_option maxHeartbeats 4000000 in
set_option maxRecDepth 20000 in
theorem c_X6_lots (l : Launch) (D : va_G) (K : Kt) (ad : Nat → Nat) (nw : Nat) (σ : St) (x1 : Int32) {r : Int32} {τ : St} (hf : f_X6_lots σ x1 = some (r, τ)) : CtI l yX6_lots cX6_lots 6 (some .int) 6 144 D K [.ref (ad 0), .int x1] (wC ad K nw σ) r (wC ad K nw τ) := by
  refine met_i pl_RX6 (Nat.le_of_ble_eq_true rfl) (fun X hnL B RET => ?_)
  suffices h : MW X (wC ad K nw σ) 0 [some (.ref (ad 0)), some (.int x1), none, none, none, none] [] from h
  unfold f_X6_lots at hf
  refine r_iload_n B (pc := 0) dX6_lots_0 rfl rfl ?_
  refine r_iconst B (pc := 1) dX6_lots_1 kc_1 ?_
  refine r_icmp_lt B (pc := 2) (tgt := 11) dX6_lots_2 (by decide) hf (fun _ hf => ?_) (fun _ hf => ?_)
  · refine r_iconst B (pc := 11) dX6_lots_11 kc_m1 ?_
    exact e_pz (F := (wC ad K nw)) hf (nar_i _) (RET 12 _ dX6_lots_12)
  · refine r_iload_n B (pc := 5) dX6_lots_5 rfl rfl ?_
    refine r_bipush B (pc := 6) dX6_lots_6 kb_30 ?_
    refine r_icmp_le B (pc := 8) (tgt := 13) dX6_lots_8 (by decide) hf (fun _ hf => ?_) (fun _ hf => ?_)
    · refine r_aload_n B (pc := 13) dX6_lots_13 rfl rfl ?_
      refine gC_RX6_10_0 B (pc := 14) dX6_lots_14 ?_
      refine gC_RX6_86_1 B (pc := 17) dX6_lots_17 ?_
      refine r_if_eq B (pc := 20) (tgt := 36) dX6_lots_20 (by decide) hf (fun _ hf => ?_) (fun _ hf => ?_)
      · refine r_bipush B (pc := 36) dX6_lots_36 kb_m2 ?_
        exact e_pz (F := (wC ad K nw)) hf (nar_i _) (RET 38 _ dX6_lots_38)
      · refine r_aload_n B (pc := 23) dX6_lots_23 rfl rfl ?_
        refine gC_RX6_10_0 B (pc := 24) dX6_lots_24 ?_
        refine gC_RX6_96_1 B (pc := 27) dX6_lots_27 ?_
        refine gC_RX6_103_9 B (pc := 30) dX6_lots_30 ?_
        refine r_if_ne B (pc := 33) (tgt := 39) dX6_lots_33 (by decide) hf (fun _ hf => ?_) (fun _ hf => ?_)
        · refine r_aload_n B (pc := 39) dX6_lots_39 rfl rfl ?_
          refine gC_RX6_10_0 B (pc := 40) dX6_lots_40 ?_
          refine gC_RX6_196_1 B (pc := 43) dX6_lots_43 ?_
          refine r_iload_n B (pc := 46) dX6_lots_46 rfl rfl ?_
          refine r_iadd B (pc := 47) dX6_lots_47 ?_
          refine r_sipush B (pc := 48) dX6_lots_48 ks_9999 ?_
          refine r_icmp_le B (pc := 51) (tgt := 57) dX6_lots_51 (by decide) hf (fun _ hf => ?_) (fun _ hf => ?_)
          · refine r_iconst B (pc := 57) dX6_lots_57 kc_0 ?_
            refine r_istore_n B hnL (pc := 58) dX6_lots_58 rfl (by decide) ?_
            refine r_lc (loc' := [some (.ref (ad 0)), some (.int x1), some (.int 0), none, none, none]) rfl ?_
            refine r_iconst B (pc := 59) dX6_lots_59 kc_0 ?_
            refine r_istore_n B hnL (pc := 60) dX6_lots_60 rfl (by decide) ?_
            refine r_lc (loc' := [some (.ref (ad 0)), some (.int x1), some (.int 0), some (.int 0), none, none]) rfl ?_
            have k61 : ∀ (n61 : Nat) (v2 : Int32) (v3 : Int32) (σ61 : St), f_X6_lots_h61 x1 n61 v2 v3 σ61 = some (r, τ) → MW X (wC ad K nw σ61) 61 [some (.ref (ad 0)), some (.int x1), some (.int v2), some (.int v3), none, none] [] := by
              intro n61
              induction n61 with
              | zero => intro v2 v3 σ61 hf; exact nn_z hf
              | succ n61 ih61 =>
                intro v2 v3 σ61 hf
                rw [f_X6_lots_h61] at hf
                refine r_iload_n B (pc := 61) dX6_lots_61 rfl rfl ?_
                refine r_iload_n B (pc := 62) dX6_lots_62 rfl rfl ?_
                refine r_icmp_ge B (pc := 63) (tgt := 148) dX6_lots_63 (by decide) hf (fun _ hf => ?_) (fun _ hf => ?_)
                · refine r_iload_n B (pc := 148) dX6_lots_148 rfl rfl ?_
                  exact e_pz (F := (wC ad K nw)) hf (nar_i _) (RET 149 _ dX6_lots_149)
                · refine r_aload_n B (pc := 66) dX6_lots_66 rfl rfl ?_
                  refine gC_RX6_10_0 B (pc := 67) dX6_lots_67 ?_
                  refine r_aload_n B (pc := 70) dX6_lots_70 rfl rfl ?_
                  refine gC_RX6_10_0 B (pc := 71) dX6_lots_71 ?_
                  refine r_iconst B (pc := 74) dX6_lots_74 kc_5 ?_
                  obtain ⟨r2, s3, hc1, hf⟩ := bdp_e hf
                  refine r_cVI B (c_X3_drawn X.l X.D K ad nw σ61 5 hc1) F_X3_drawn lk_RX6_242 (q0 := 1) (ci := 3) rfl rfl (Nat.le_of_ble_eq_true rfl) (Nat.le_of_ble_eq_true rfl) (Nat.le_of_ble_eq_true rfl) (pc := 75) dX6_lots_75 rfl ?_
                  refine pC_RX6_116_1 B (pc := 78) dX6_lots_78 hf (fun s4 hf => ?_)
                  refine r_aload_n B (pc := 81) dX6_lots_81 rfl rfl ?_
                  refine gC_RX6_10_0 B (pc := 82) dX6_lots_82 ?_
                  refine r_aload_n B (pc := 85) dX6_lots_85 rfl rfl ?_
                  refine gC_RX6_10_0 B (pc := 86) dX6_lots_86 ?_
                  refine gC_RX6_86_1 B (pc := 89) dX6_lots_89 ?_
                  obtain ⟨r6, s7, hc5, hf⟩ := bdp_e hf
                  refine r_cVI B (c_X3_drawn X.l X.D K ad nw s4 (s4.1 1 2) hc5) F_X3_drawn lk_RX6_242 (q0 := 1) (ci := 3) rfl rfl (Nat.le_of_ble_eq_true rfl) (Nat.le_of_ble_eq_true rfl) (Nat.le_of_ble_eq_true rfl) (pc := 92) dX6_lots_92 rfl ?_
                  refine r_istore B hnL (pc := 95) dX6_lots_95 (by decide) ?_
                  refine r_lc (loc' := [some (.ref (ad 0)), some (.int x1), some (.int v2), some (.int v3), some (.int r6), none]) rfl ?_
                  refine r_aload_n B (pc := 97) dX6_lots_97 rfl rfl ?_
                  refine gC_RX6_10_0 B (pc := 98) dX6_lots_98 ?_
                  refine r_bipush B (pc := 101) dX6_lots_101 kb_36 ?_
                  obtain ⟨r9, s10, hc8, hf⟩ := bdp_e hf
                  refine r_cVI B (c_X3_drawn X.l X.D K ad nw s7 36 hc8) F_X3_drawn lk_RX6_242 (q0 := 1) (ci := 3) rfl rfl (Nat.le_of_ble_eq_true rfl) (Nat.le_of_ble_eq_true rfl) (Nat.le_of_ble_eq_true rfl) (pc := 103) dX6_lots_103 rfl ?_
                  refine r_istore B hnL (pc := 106) dX6_lots_106 (by decide) ?_
                  refine r_lc (loc' := [some (.ref (ad 0)), some (.int x1), some (.int v2), some (.int v3), some (.int r6), some (.int r9)]) rfl ?_
                  refine r_aload_n B (pc := 108) dX6_lots_108 rfl rfl ?_
                  refine gC_RX6_10_0 B (pc := 109) dX6_lots_109 ?_
                  refine r_iload B (pc := 112) dX6_lots_112 rfl ?_
                  refine r_iload B (pc := 114) dX6_lots_114 rfl ?_
                  refine r_aload_n B (pc := 116) dX6_lots_116 rfl rfl ?_
                  refine gC_RX6_10_0 B (pc := 117) dX6_lots_117 ?_
                  refine r_aload_n B (pc := 120) dX6_lots_120 rfl rfl ?_
                  refine gC_RX6_10_0 B (pc := 121) dX6_lots_121 ?_
                  refine gC_RX6_96_1 B (pc := 124) dX6_lots_124 ?_
                  refine gC_RX6_103_9 B (pc := 127) dX6_lots_127 ?_
                  obtain ⟨r12, s13, hc11, hf⟩ := bdp_e hf
                  refine r_cVI B (c_X3_drawn X.l X.D K ad nw s10 (s10.1 9 0) hc11) F_X3_drawn lk_RX6_242 (q0 := 1) (ci := 3) rfl rfl (Nat.le_of_ble_eq_true rfl) (Nat.le_of_ble_eq_true rfl) (Nat.le_of_ble_eq_true rfl) (pc := 130) dX6_lots_130 rfl ?_
                  obtain ⟨r15, s16, hc14, hf⟩ := bdp_e hf
                  refine r_cVI B (c_X3_hold X.l X.D K ad nw s13 r6 r9 r12 hc14) F_X3_hold lk_RX6_208 (q0 := 1) (ci := 3) rfl rfl (Nat.le_of_ble_eq_true rfl) (Nat.le_of_ble_eq_true rfl) (Nat.le_of_ble_eq_true rfl) (pc := 133) dX6_lots_133 rfl ?_
                  refine r_if_eq B (pc := 136) (tgt := 142) dX6_lots_136 (by decide) hf (fun _ hf => ?_) (fun _ hf => ?_)
                  · refine r_iincS B hnL (pc := 142) dX6_lots_142 rfl kc_1 (by decide) hf (fun y17 hf => ?_)
                    refine r_lc (loc' := [some (.ref (ad 0)), some (.int x1), some (.int v2), some (.int y17), some (.int r6), some (.int r9)]) rfl ?_
                    refine r_goto B (pc := 145) (tgt := 61) dX6_lots_145 (by decide) ?_
                    exact r_mask [true, true, true, true, false, false] rfl (ih61 v2 y17 s16 hf)
                  · refine r_iincS B hnL (pc := 139) dX6_lots_139 rfl kc_1 (by decide) hf (fun y18 hf => ?_)
                    refine r_lc (loc' := [some (.ref (ad 0)), some (.int x1), some (.int y18), some (.int v3), some (.int r6), some (.int r9)]) rfl ?_
                    refine r_iincS B hnL (pc := 142) dX6_lots_142 rfl kc_1 (by decide) hf (fun y19 hf => ?_)
                    refine r_lc (loc' := [some (.ref (ad 0)), some (.int x1), some (.int y18), some (.int y19), some (.int r6), some (.int r9)]) rfl ?_
                    refine r_goto B (pc := 145) (tgt := 61) dX6_lots_145 (by decide) ?_
                    exact r_mask [true, true, true, true, false, false] rfl (ih61 y18 y19 s16 hf)
            exact r_mask [true, true, true, true, false, false] rfl (k61 FU 0 0 σ hf)
          · refine r_bipush B (pc := 54) dX6_lots_54 kb_m3 ?_
            exact e_pz (F := (wC ad K nw)) hf (nar_i _) (RET 56 _ dX6_lots_56)
        · refine r_bipush B (pc := 36) dX6_lots_36 kb_m2 ?_
          exact e_pz (F := (wC ad K nw)) hf (nar_i _) (RET 38 _ dX6_lots_38)
    · refine r_iconst B (pc := 11) dX6_lots_11 kc_m1 ?_
      exact e_pz (F := (wC ad K nw)) hf (nar_i _) (RET 12 _ dX6_lots_12)
