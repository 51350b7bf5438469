set_option maxRecDepth 100000 in
set_option maxHeartbeats 4000000 in
theorem p_X7_by {Γ : GA} {E : EV} (C : Cx Γ E RX7 cX7_by 2 0 (some .int)) (M : Mx Γ E) (x0 : Int32) (x1 : Int32) (S : St) : G Γ E (QI Γ E) 2 0 [(0, .int x0), (1, .int x1)] [] S (f_X7_by x0 x1 S) := by
  rw [f_X7_by]
  refine g_iload_n (pc := 0) C dX7_by_0 1 rfl rfl ?_
  refine g_if_le (pc := 1) C 10 dX7_by_1 (by decide) ?_ ?_
  · refine g_iconst (pc := 10) C (v := 0) dX7_by_10 (by decide) ?_
    exact g_iret C M dX7_by_11
  · refine g_iload_n (pc := 4) C dX7_by_4 0 rfl rfl ?_
    refine g_iload_n (pc := 5) C dX7_by_5 1 rfl rfl ?_
    refine g_idiv (pc := 6) C dX7_by_6 ?_
    refine g_goto (pc := 7) C 11 dX7_by_7 (by decide) ?_
    exact g_iret C M dX7_by_11
theorem ct_X7_by {Γ : GA} (x0 : Int32) (x1 : Int32) (S : St) : CtI Γ yX7_by cX7_by 2 (some .int) 0 [.int x0, .int x1] S (f_X7_by x0 x1 S) :=
  ctI_of (by decide) (Nat.le_of_ble_eq_true rfl) (fun _ C M => p_X7_by C M x0 x1 S)
set_option maxRecDepth 100000 in
set_option maxHeartbeats 4000000 in
theorem p_X6_bearable {Γ : GA} {E : EV} (C : Cx Γ E RX6 cX6_bearable 2 1 (some .int)) (M : Mx Γ E) (x1 : Int32) (S : St) : G Γ E (QI Γ E) 2 0 [(0, .ref (gX Γ 44)), (1, .int x1)] [] S (f_X6_bearable x1 S) := by
  rw [f_X6_bearable]
  refine g_bipush (pc := 0) C (v := 100) dX6_bearable_0 (by decide) ?_
  refine g_aload_n (pc := 2) C dX6_bearable_2 0 rfl rfl ?_
  refine g_getI (pc := 3) C lk_X6_31 fi_44_7 dX6_bearable_3 ?_
  refine g_imul (pc := 6) C dX6_bearable_6 ?_
  refine g_aload_n (pc := 7) C dX6_bearable_7 0 rfl rfl ?_
  refine g_getR (pc := 8) C lk_X6_55 fr_44_0 dX6_bearable_8 ?_
  refine g_getR (pc := 11) C lk_X6_88 fr_3_1 dX6_bearable_11 ?_
  refine g_iload_n (pc := 14) C dX6_bearable_14 1 rfl rfl ?_
  refine g_iald (pc := 15) C ai_5 dX6_bearable_15 ?_
  refine g_callSI (pc := 16) (As := [.int (100 * (S 44 7)), .int (S 5 (x1 : Int32).toNatClampNeg)]) (st := []) C ls_X6_102 (ct_X7_by (100 * (S 44 7)) (S 5 (x1 : Int32).toNatClampNeg) S) (by decide) rfl rfl (Nat.le_of_ble_eq_true rfl) dX6_bearable_16 (fun r_2 S_1 => ?_)
  exact g_iret C M dX6_bearable_19
theorem ct_X6_bearable {Γ : GA} (x1 : Int32) (S : St) : CtI Γ yX6_bearable cX6_bearable 2 (some .int) 1 [.ref (gX Γ 44), .int x1] S (f_X6_bearable x1 S) :=
  ctI_of (by decide) (Nat.le_of_ble_eq_true rfl) (fun _ C M => p_X6_bearable C M x1 S)
set_option maxRecDepth 100000 in
set_option maxHeartbeats 4000000 in
theorem p_X6_takes {Γ : GA} {E : EV} (C : Cx Γ E RX6 cX6_takes 7 1 (some .int)) (M : Mx Γ E) (x1 : Int32) (x2 : Int32) (x3 : Int32) (x4 : Int32) (x5 : Int32) (S : St) : G Γ E (QI Γ E) 7 0 [(0, .ref (gX Γ 44)), (1, .int x1), (2, .int x2), (3, .int x3), (4, .int x4), (5, .int x5)] [] S (f_X6_takes x1 x2 x3 x4 x5 S) := by
  rw [f_X6_takes]
  refine g_aload_n (pc := 0) C dX6_takes_0 0 rfl rfl ?_
  refine g_getR (pc := 1) C lk_X6_15 fr_44_2 dX6_takes_1 ?_
  refine g_iload_n (pc := 4) C dX6_takes_4 1 rfl rfl ?_
  refine g_iald (pc := 5) C ai_46 dX6_takes_5 ?_
  refine g_istore (pc := 6) C dX6_takes_6 (by decide) (fun x => [(6, .int x), (0, .ref (gX Γ 44)), (1, .int x1), (2, .int x2), (3, .int x3), (4, .int x4), (5, .int x5)]) (fun _ => rfl) (fun x6_1 => ?_)
  refine g_aload_n (pc := 8) C dX6_takes_8 1 rfl rfl ?_
  refine g_getR (pc := 9) C lk_X6_9 fr_44_1 dX6_takes_9 ?_
  refine g_iload_n (pc := 12) C dX6_takes_12 2 rfl rfl ?_
  refine g_iald (pc := 13) C ai_45 dX6_takes_13 ?_
  refine g_tsw (res := none) (pc := 14) C 1 48 0 dX6_takes_14 (by show ¬ ((1 : Int) ≤ _ ∧ _ < (1 : Int)); omega) (by decide) rfl (by decide) ?_ (fun hs_2 => ?_)
  · refine g_iconst (pc := 48) C (v := 2) dX6_takes_48 (by decide) ?_
    refine g_iload (pc := 49) C dX6_takes_49 0 rfl ?_
    refine g_imul (pc := 51) C dX6_takes_51 ?_
    exact g_iret C M dX6_takes_52
  refine g_tsw (res := none) (pc := 14) C 2 53 1 dX6_takes_14 hs_2 (by decide) rfl (by decide) ?_ (fun hs_3 => ?_)
  · refine g_iload (pc := 53) C dX6_takes_53 0 rfl ?_
    refine g_iload (pc := 55) C dX6_takes_55 0 rfl ?_
    refine g_iload (pc := 57) C dX6_takes_57 5 rfl ?_
    refine g_imul (pc := 59) C dX6_takes_59 ?_
    refine g_iadd (pc := 60) C dX6_takes_60 ?_
    exact g_iret C M dX6_takes_61
  refine g_tsw (res := none) (pc := 14) C 3 62 2 dX6_takes_14 hs_3 (by decide) rfl (by decide) ?_ (fun hs_6 => ?_)
  · refine g_iload_n (pc := 62) C dX6_takes_62 3 rfl rfl ?_
    refine g_iload (pc := 63) C dX6_takes_63 0 rfl ?_
    refine g_imul (pc := 65) C dX6_takes_65 ?_
    refine g_bipush (pc := 66) C (v := 10) dX6_takes_66 (by decide) ?_
    refine g_aload_n (pc := 68) C dX6_takes_68 1 rfl rfl ?_
    refine g_getI (pc := 69) C lk_X6_28 fi_44_6 dX6_takes_69 ?_
    refine g_imul (pc := 72) C dX6_takes_72 ?_
    refine g_callSI (pc := 73) (As := [.int (x2 * x6_1), .int (10 * (S 44 6))]) (st := []) C ls_X6_102 (ct_X7_by (x2 * x6_1) (10 * (S 44 6)) S) (by decide) rfl rfl (Nat.le_of_ble_eq_true rfl) dX6_takes_73 (fun r_5 S_4 => ?_)
    exact g_iret C M dX6_takes_76
  refine g_tsw (res := none) (pc := 14) C 4 77 3 dX6_takes_14 hs_6 (by decide) rfl (by decide) ?_ (fun hs_7 => ?_)
  · refine g_iload (pc := 77) C dX6_takes_77 6 rfl ?_
    refine g_iload_n (pc := 79) C dX6_takes_79 3 rfl rfl ?_
    refine g_iload (pc := 80) C dX6_takes_80 0 rfl ?_
    refine g_imul (pc := 82) C dX6_takes_82 ?_
    refine g_bipush (pc := 83) C (v := 40) dX6_takes_83 (by decide) ?_
    refine g_idiv (pc := 85) C dX6_takes_85 ?_
    refine g_imul (pc := 86) C dX6_takes_86 ?_
    exact g_iret C M dX6_takes_87
  refine g_tsw (res := none) (pc := 14) C 5 88 4 dX6_takes_14 hs_7 (by decide) rfl (by decide) ?_ (fun hs_8 => ?_)
  · refine g_iload (pc := 88) C dX6_takes_88 0 rfl ?_
    refine g_iload_n (pc := 90) C dX6_takes_90 4 rfl rfl ?_
    refine g_imul (pc := 91) C dX6_takes_91 ?_
    exact g_iret C M dX6_takes_92
  refine g_tsd (pc := 14) C (k := 5) 93 dX6_takes_14 hs_8 rfl (by decide) ?_
  refine g_iload (pc := 93) C dX6_takes_93 0 rfl ?_
  exact g_iret C M dX6_takes_95
theorem ct_X6_takes {Γ : GA} (x1 : Int32) (x2 : Int32) (x3 : Int32) (x4 : Int32) (x5 : Int32) (S : St) : CtI Γ yX6_takes cX6_takes 7 (some .int) 1 [.ref (gX Γ 44), .int x1, .int x2, .int x3, .int x4, .int x5] S (f_X6_takes x1 x2 x3 x4 x5 S) :=
  ctI_of (by decide) (Nat.le_of_ble_eq_true rfl) (fun _ C M => p_X6_takes C M x1 x2 x3 x4 x5 S)
set_option maxRecDepth 100000 in
set_option maxHeartbeats 4000000 in
theorem p_X6_goThrough_b110 {Γ : GA} {E : EV} (C : Cx Γ E RX6 cX6_goThrough 6 2 none) (M : Mx Γ E) (x1 : Int32) (x3 : Int32) (s0 : Int32) (S : St) : G Γ E (QV Γ E) 6 110 [(0, .ref (gX Γ 44)), (1, .int x1), (3, .int x3)] [.int s0] S (f_X6_goThrough_b110 x1 x3 s0 S) := by
  rw [f_X6_goThrough_b110]
  refine g_istore0 (pc := 110) C dX6_goThrough_110 (by decide) (lv' := [(4, .int s0), (0, .ref (gX Γ 44)), (1, .int x1), (3, .int x3)]) rfl ?_
  refine g_aload_n (pc := 112) C dX6_goThrough_112 1 rfl rfl ?_
  refine g_dup (pc := 113) C dX6_goThrough_113 rfl ?_
  refine g_getI (pc := 114) C lk_X6_46 fi_44_12 dX6_goThrough_114 ?_
  refine g_iload (pc := 117) C dX6_goThrough_117 0 rfl ?_
  refine g_iadd (pc := 119) C dX6_goThrough_119 ?_
  refine g_putI (pc := 120) C lp_X6_46 fi_44_12 dX6_goThrough_120 (fun S_2 => ?_)
  refine g_iload_n (pc := 123) C dX6_goThrough_123 3 rfl rfl ?_
  refine g_iload (pc := 124) C dX6_goThrough_124 0 rfl ?_
  refine g_isub (pc := 126) C dX6_goThrough_126 ?_
  refine g_istore_n (pc := 127) C dX6_goThrough_127 rfl (by decide) (fun x => [(3, .int x), (4, .int s0), (0, .ref (gX Γ 44)), (1, .int x1)]) (fun _ => rfl) (fun x3_3 => ?_)
  refine g_iload_n (pc := 128) C dX6_goThrough_128 0 rfl rfl ?_
  refine g_if_gt (pc := 129) C 143 dX6_goThrough_129 (by decide) ?_ ?_
  · refine g_aload_n (pc := 143) C dX6_goThrough_143 2 rfl rfl ?_
    refine g_iload_n (pc := 144) C dX6_goThrough_144 0 rfl rfl ?_
    refine g_putI (pc := 145) C lp_X6_43 fi_44_11 dX6_goThrough_145 (fun S_4 => ?_)
    refine g_aload_n (pc := 148) C dX6_goThrough_148 2 rfl rfl ?_
    refine g_getR (pc := 149) C lk_X6_52 fr_44_14 dX6_goThrough_149 ?_
    refine g_iload_n (pc := 152) C dX6_goThrough_152 3 rfl rfl ?_
    refine g_iload_n (pc := 153) C dX6_goThrough_153 0 rfl rfl ?_
    refine g_iast (pc := 154) C ai_50 dX6_goThrough_154 (fun S_5 => ?_)
    refine g_aload_n (pc := 155) C dX6_goThrough_155 2 rfl rfl ?_
    refine g_dup (pc := 156) C dX6_goThrough_156 rfl ?_
    refine g_getI (pc := 157) C lk_X6_40 fi_44_10 dX6_goThrough_157 ?_
    refine g_sipush (pc := 160) C (v := 1000) dX6_goThrough_160 (by decide) ?_
    refine g_iload_n (pc := 163) C dX6_goThrough_163 0 rfl rfl ?_
    refine g_callSI (pc := 164) (As := [.int x3_3]) (st := [.int 1000, .int (S_5 44 10), .ref (gX Γ 44)]) C ls_X6_98 (ct_X6_root x3_3 S_5) (by decide) rfl rfl (Nat.le_of_ble_eq_true rfl) dX6_goThrough_164 (fun r_7 S_6 => ?_)
    refine g_callSI (pc := 167) (As := [.int 1000, .int r_7]) (st := [.int (S_5 44 10), .ref (gX Γ 44)]) C ls_X6_102 (ct_X7_by 1000 r_7 S_6) (by decide) rfl rfl (Nat.le_of_ble_eq_true rfl) dX6_goThrough_167 (fun r_9 S_8 => ?_)
    refine g_iadd (pc := 170) C dX6_goThrough_170 ?_
    refine g_putI (pc := 171) C lp_X6_40 fi_44_10 dX6_goThrough_171 (fun S_10 => ?_)
    refine g_aload_n (pc := 174) C dX6_goThrough_174 2 rfl rfl ?_
    refine g_getR (pc := 175) C lk_X6_55 fr_44_0 dX6_goThrough_175 ?_
    refine g_getR (pc := 178) C lk_X6_88 fr_3_1 dX6_goThrough_178 ?_
    refine g_iload_n (pc := 181) C dX6_goThrough_181 3 rfl rfl ?_
    refine g_iald (pc := 182) C ai_5 dX6_goThrough_182 ?_
    refine g_if_le (pc := 183) C 200 dX6_goThrough_183 (by decide) ?_ ?_
    · exact g_vret C M dX6_goThrough_200
    · refine g_iload_n (pc := 186) C dX6_goThrough_186 0 rfl rfl ?_
      refine g_aload_n (pc := 187) C dX6_goThrough_187 2 rfl rfl ?_
      refine g_iload_n (pc := 188) C dX6_goThrough_188 3 rfl rfl ?_
      refine g_callVI (pc := 189) (As := [.int x1]) (st := [.int x3_3]) C lv_X6_106 fo_44 rfl (ct_X6_bearable x1 S_10) (by decide) rfl rfl (Nat.le_of_ble_eq_true rfl) dX6_goThrough_189 (fun r_12 S_11 => ?_)
      refine g_icmp_le (pc := 192) C 200 dX6_goThrough_192 (by decide) ?_ ?_
      · exact g_vret C M dX6_goThrough_200
      · refine g_aload_n (pc := 195) C dX6_goThrough_195 2 rfl rfl ?_
        refine g_iconst (pc := 196) C (v := 2) dX6_goThrough_196 (by decide) ?_
        refine g_putI (pc := 197) C lp_X6_34 fi_44_8 dX6_goThrough_197 (fun S_13 => ?_)
        exact g_vret C M dX6_goThrough_200
  · refine g_aload_n (pc := 132) C dX6_goThrough_132 2 rfl rfl ?_
    refine g_iconst (pc := 133) C (v := 0) dX6_goThrough_133 (by decide) ?_
    refine g_putI (pc := 134) C lp_X6_43 fi_44_11 dX6_goThrough_134 (fun S_14 => ?_)
    refine g_aload_n (pc := 137) C dX6_goThrough_137 2 rfl rfl ?_
    refine g_iconst (pc := 138) C (v := 1) dX6_goThrough_138 (by decide) ?_
    refine g_putI (pc := 139) C lp_X6_34 fi_44_8 dX6_goThrough_139 (fun S_15 => ?_)
    exact g_vret C M dX6_goThrough_142
set_option maxRecDepth 100000 in
set_option maxHeartbeats 4000000 in
theorem p_X6_goThrough_l23 {Γ : GA} {E : EV} (C : Cx Γ E RX6 cX6_goThrough 6 2 none) (M : Mx Γ E) : ∀ (n : Nat) (x1 : Int32) (x2 : Int32) (x3 : Int32) (x4 : Int32) (S : St), G Γ E (QV Γ E) 6 23 [(0, .ref (gX Γ 44)), (1, .int x1), (2, .int x2), (3, .int x3), (4, .int x4)] [] S (f_X6_goThrough_l23 n x1 x2 x3 x4 S) := by
  intro n
  induction n with
  | zero => intro x1 x2 x3 x4 S; exact g_none
  | succ n ih =>
    intro x1 x2 x3 x4 S
    rw [f_X6_goThrough_l23]
    refine g_iload (pc := 23) C dX6_goThrough_23 4 rfl ?_
    refine g_aload_n (pc := 25) C dX6_goThrough_25 0 rfl rfl ?_
    refine g_getI (pc := 26) C lk_X6_24 fi_44_5 dX6_goThrough_26 ?_
    refine g_icmp_ge (pc := 29) C 91 dX6_goThrough_29 (by decide) ?_ ?_
    · refine g_iload_n (pc := 91) C dX6_goThrough_91 3 rfl rfl ?_
      refine g_if_le (pc := 92) C 109 dX6_goThrough_92 (by decide) ?_ ?_
      · refine g_iconst (pc := 109) C (v := 0) dX6_goThrough_109 (by decide) ?_
        exact g_sub [0, 1, 3] rfl (p_X6_goThrough_b110 C M x1 x3 0 S)
      · refine g_iload_n (pc := 95) C dX6_goThrough_95 3 rfl rfl ?_
        refine g_aload_n (pc := 96) C dX6_goThrough_96 0 rfl rfl ?_
        refine g_getR (pc := 97) C lk_X6_21 fr_44_4 dX6_goThrough_97 ?_
        refine g_iload_n (pc := 100) C dX6_goThrough_100 1 rfl rfl ?_
        refine g_iald (pc := 101) C ai_48 dX6_goThrough_101 ?_
        refine g_imul (pc := 102) C dX6_goThrough_102 ?_
        refine g_bipush (pc := 103) C (v := 10) dX6_goThrough_103 (by decide) ?_
        refine g_idiv (pc := 105) C dX6_goThrough_105 ?_
        refine g_goto (pc := 106) C 110 dX6_goThrough_106 (by decide) ?_
        exact g_sub [0, 1, 3] rfl (p_X6_goThrough_b110 C M x1 x3 ((x3 * (S 48 (x1 : Int32).toNatClampNeg)) / 10) S)
    · refine g_aload_n (pc := 32) C dX6_goThrough_32 0 rfl rfl ?_
      refine g_iload (pc := 33) C dX6_goThrough_33 4 rfl ?_
      refine g_iload_n (pc := 35) C dX6_goThrough_35 2 rfl rfl ?_
      refine g_aload_n (pc := 36) C dX6_goThrough_36 0 rfl rfl ?_
      refine g_getR (pc := 37) C lk_X6_55 fr_44_0 dX6_goThrough_37 ?_
      refine g_getR (pc := 40) C lk_X6_85 fr_3_0 dX6_goThrough_40 ?_
      refine g_iload_n (pc := 43) C dX6_goThrough_43 1 rfl rfl ?_
      refine g_iald (pc := 44) C ai_4 dX6_goThrough_44 ?_
      refine g_aload_n (pc := 45) C dX6_goThrough_45 0 rfl rfl ?_
      refine g_getR (pc := 46) C lk_X6_55 fr_44_0 dX6_goThrough_46 ?_
      refine g_getR (pc := 49) C lk_X6_88 fr_3_1 dX6_goThrough_49 ?_
      refine g_iload_n (pc := 52) C dX6_goThrough_52 1 rfl rfl ?_
      refine g_iald (pc := 53) C ai_5 dX6_goThrough_53 ?_
      refine g_aload_n (pc := 54) C dX6_goThrough_54 0 rfl rfl ?_
      refine g_getR (pc := 55) C lk_X6_55 fr_44_0 dX6_goThrough_55 ?_
      refine g_getR (pc := 58) C lk_X6_91 fr_3_2 dX6_goThrough_58 ?_
      refine g_iload_n (pc := 61) C dX6_goThrough_61 1 rfl rfl ?_
      refine g_iald (pc := 62) C ai_6 dX6_goThrough_62 ?_
      refine g_callVI (pc := 63) (As := [.int x4, .int x2, .int (S 4 (x1 : Int32).toNatClampNeg), .int (S 5 (x1 : Int32).toNatClampNeg), .int (S 6 (x1 : Int32).toNatClampNeg)]) (st := []) C lv_X6_94 fo_44 rfl (ct_X6_takes x4 x2 (S 4 (x1 : Int32).toNatClampNeg) (S 5 (x1 : Int32).toNatClampNeg) (S 6 (x1 : Int32).toNatClampNeg) S) (by decide) rfl rfl (Nat.le_of_ble_eq_true rfl) dX6_goThrough_63 (fun r_17 S_16 => ?_)
      refine g_istore0 (pc := 66) C dX6_goThrough_66 (by decide) (lv' := [(5, .int r_17), (0, .ref (gX Γ 44)), (1, .int x1), (2, .int x2), (3, .int x3), (4, .int x4)]) rfl ?_
      refine g_aload_n (pc := 68) C dX6_goThrough_68 1 rfl rfl ?_
      refine g_getR (pc := 69) C lk_X6_49 fr_44_13 dX6_goThrough_69 ?_
      refine g_iload (pc := 72) C dX6_goThrough_72 5 rfl ?_
      refine g_dup2 (pc := 74) C dX6_goThrough_74 rfl rfl ?_
      refine g_iald (pc := 75) C ai_49 dX6_goThrough_75 ?_
      refine g_iload (pc := 76) C dX6_goThrough_76 0 rfl ?_
      refine g_iadd (pc := 78) C dX6_goThrough_78 ?_
      refine g_iast (pc := 79) C ai_49 dX6_goThrough_79 (fun S_18 => ?_)
      refine g_iload_n (pc := 80) C dX6_goThrough_80 4 rfl rfl ?_
      refine g_iload (pc := 81) C dX6_goThrough_81 0 rfl ?_
      refine g_isub (pc := 83) C dX6_goThrough_83 ?_
      refine g_istore_n (pc := 84) C dX6_goThrough_84 rfl (by decide) (fun x => [(3, .int x), (5, .int r_17), (0, .ref (gX Γ 44)), (1, .int x1), (2, .int x2), (4, .int x4)]) (fun _ => rfl) (fun x3_19 => ?_)
      refine g_iinc (pc := 85) C (v := 1) dX6_goThrough_85 5 rfl (by decide) (by decide) (fun x => [(4, .int x), (3, .int x3_19), (5, .int r_17), (0, .ref (gX Γ 44)), (1, .int x1), (2, .int x2)]) (fun _ => rfl) (fun x4_20 => ?_)
      refine g_goto (pc := 88) C 23 dX6_goThrough_88 (by decide) ?_
      exact g_sub [3, 4, 5, 1, 0] rfl (ih x1 x2 x3_19 x4_20 S_18)
set_option maxRecDepth 100000 in
set_option maxHeartbeats 4000000 in
theorem p_X6_goThrough {Γ : GA} {E : EV} (C : Cx Γ E RX6 cX6_goThrough 6 2 none) (M : Mx Γ E) (x1 : Int32) (S : St) : G Γ E (QV Γ E) 6 0 [(0, .ref (gX Γ 44)), (1, .int x1)] [] S (f_X6_goThrough x1 S) := by
  rw [f_X6_goThrough]
  refine g_aload_n (pc := 0) C dX6_goThrough_0 0 rfl rfl ?_
  refine g_getI (pc := 1) C lk_X6_43 fi_44_11 dX6_goThrough_1 ?_
  refine g_bipush (pc := 4) C (v := 20) dX6_goThrough_4 (by decide) ?_
  refine g_aload_n (pc := 6) C dX6_goThrough_6 0 rfl rfl ?_
  refine g_getR (pc := 7) C lk_X6_55 fr_44_0 dX6_goThrough_7 ?_
  refine g_getR (pc := 10) C lk_X6_85 fr_3_0 dX6_goThrough_10 ?_
  refine g_iload_n (pc := 13) C dX6_goThrough_13 1 rfl rfl ?_
  refine g_iald (pc := 14) C ai_4 dX6_goThrough_14 ?_
  refine g_imul (pc := 15) C dX6_goThrough_15 ?_
  refine g_iadd (pc := 16) C dX6_goThrough_16 ?_
  refine g_istore_n (pc := 17) C dX6_goThrough_17 rfl (by decide) (fun x => [(2, .int x), (0, .ref (gX Γ 44)), (1, .int x1)]) (fun _ => rfl) (fun x2_1 => ?_)
  refine g_iload_n (pc := 18) C dX6_goThrough_18 0 rfl rfl ?_
  refine g_istore_n0 (pc := 19) C dX6_goThrough_19 rfl (by decide) (lv' := [(3, .int x2_1), (2, .int x2_1), (0, .ref (gX Γ 44)), (1, .int x1)]) rfl ?_
  refine g_iconst (pc := 20) C (v := 0) dX6_goThrough_20 (by decide) ?_
  refine g_istore0 (pc := 21) C dX6_goThrough_21 (by decide) (lv' := [(4, .int 0), (3, .int x2_1), (2, .int x2_1), (0, .ref (gX Γ 44)), (1, .int x1)]) rfl ?_
  exact g_sub [3, 4, 2, 1, 0] rfl (p_X6_goThrough_l23 C M FU x1 x2_1 x2_1 0 S)
theorem ct_X6_goThrough {Γ : GA} (x1 : Int32) (S : St) : CtV Γ yX6_goThrough cX6_goThrough 6 none 2 [.ref (gX Γ 44), .int x1] S (f_X6_goThrough x1 S) :=
  ctV_of (by decide) (Nat.le_of_ble_eq_true rfl) (fun _ C M => p_X6_goThrough C M x1 S)
set_option maxRecDepth 100000 in
set_option maxHeartbeats 4000000 in
theorem p_X6_go_l38 {Γ : GA} {E : EV} (C : Cx Γ E RX6 cX6_go 3 3 none) (M : Mx Γ E) : ∀ (n : Nat) (x2 : Int32) (S : St), G Γ E (QV Γ E) 3 38 [(0, .ref (gX Γ 44)), (2, .int x2)] [] S (f_X6_go_l38 n x2 S) := by
  intro n
  induction n with
  | zero => intro x2 S; exact g_none
  | succ n ih =>
    intro x2 S
    rw [f_X6_go_l38]
    refine g_aload_n (pc := 38) C dX6_go_38 0 rfl rfl ?_
    refine g_getI (pc := 39) C lk_X6_34 fi_44_8 dX6_go_39 ?_
    refine g_if_ne (pc := 42) C 72 dX6_go_42 (by decide) ?_ ?_
    · refine g_iload_n (pc := 45) C dX6_go_45 1 rfl rfl ?_
      refine g_aload_n (pc := 46) C dX6_go_46 0 rfl rfl ?_
      refine g_getR (pc := 47) C lk_X6_55 fr_44_0 dX6_go_47 ?_
      refine g_getI (pc := 50) C lk_X6_80 fi_3_4 dX6_go_50 ?_
      refine g_icmp_ge (pc := 53) C 72 dX6_go_53 (by decide) ?_ ?_
      · exact g_vret C M dX6_go_72
      · refine g_aload_n (pc := 56) C dX6_go_56 0 rfl rfl ?_
        refine g_iload_n (pc := 57) C dX6_go_57 1 rfl rfl ?_
        refine g_putI (pc := 58) C lp_X6_37 fi_44_9 dX6_go_58 (fun S_9 => ?_)
        refine g_aload_n (pc := 61) C dX6_go_61 0 rfl rfl ?_
        refine g_iload_n (pc := 62) C dX6_go_62 1 rfl rfl ?_
        refine g_callVV (pc := 63) (As := [.int x2]) (st := []) C lv_X6_81 fo_44 rfl (ct_X6_goThrough x2 S_9) (by decide) rfl rfl (Nat.le_of_ble_eq_true rfl) dX6_go_63 (fun r_11 S_10 => ?_)
        refine g_iinc (pc := 66) C (v := 1) dX6_go_66 1 rfl (by decide) (by decide) (fun x => [(2, .int x), (0, .ref (gX Γ 44))]) (fun _ => rfl) (fun x2_12 => ?_)
        refine g_goto (pc := 69) C 38 dX6_go_69 (by decide) ?_
        exact g_sub [1, 0] rfl (ih x2_12 S_10)
    · exact g_vret C M dX6_go_72
set_option maxRecDepth 100000 in
set_option maxHeartbeats 4000000 in
theorem p_X6_go {Γ : GA} {E : EV} (C : Cx Γ E RX6 cX6_go 3 3 none) (M : Mx Γ E) (x1 : Int32) (S : St) : G Γ E (QV Γ E) 3 0 [(0, .ref (gX Γ 44)), (1, .int x1)] [] S (f_X6_go x1 S) := by
  rw [f_X6_go]
  refine g_aload_n (pc := 0) C dX6_go_0 0 rfl rfl ?_
  refine g_getR (pc := 1) C lk_X6_49 fr_44_13 dX6_go_1 ?_
  refine g_iconst (pc := 4) C (v := 0) dX6_go_4 (by decide) ?_
  refine g_callSV (pc := 5) (As := [.ref (gX Γ 49), .int 0]) (st := []) C ls_X6_72 (ct_fill _ _ ai_49 0 S) (by decide) rfl rfl (Nat.le_of_ble_eq_true rfl) dX6_go_5 (fun r_2 S_1 => ?_)
  refine g_aload_n (pc := 8) C dX6_go_8 0 rfl rfl ?_
  refine g_getR (pc := 9) C lk_X6_52 fr_44_14 dX6_go_9 ?_
  refine g_iconst (pc := 12) C (v := (-1)) dX6_go_12 (by decide) ?_
  refine g_callSV (pc := 13) (As := [.ref (gX Γ 50), .int (-1)]) (st := []) C ls_X6_72 (ct_fill _ _ ai_50 (-1) S_1) (by decide) rfl rfl (Nat.le_of_ble_eq_true rfl) dX6_go_13 (fun r_4 S_3 => ?_)
  refine g_aload_n (pc := 16) C dX6_go_16 0 rfl rfl ?_
  refine g_iconst (pc := 17) C (v := 0) dX6_go_17 (by decide) ?_
  refine g_putI (pc := 18) C lp_X6_34 fi_44_8 dX6_go_18 (fun S_5 => ?_)
  refine g_aload_n (pc := 21) C dX6_go_21 0 rfl rfl ?_
  refine g_iconst (pc := 22) C (v := 0) dX6_go_22 (by decide) ?_
  refine g_putI (pc := 23) C lp_X6_40 fi_44_10 dX6_go_23 (fun S_6 => ?_)
  refine g_aload_n (pc := 26) C dX6_go_26 0 rfl rfl ?_
  refine g_iload_n (pc := 27) C dX6_go_27 1 rfl rfl ?_
  refine g_putI (pc := 28) C lp_X6_43 fi_44_11 dX6_go_28 (fun S_7 => ?_)
  refine g_aload_n (pc := 31) C dX6_go_31 0 rfl rfl ?_
  refine g_iconst (pc := 32) C (v := 0) dX6_go_32 (by decide) ?_
  refine g_putI (pc := 33) C lp_X6_46 fi_44_12 dX6_go_33 (fun S_8 => ?_)
  refine g_iconst (pc := 36) C (v := 0) dX6_go_36 (by decide) ?_
  refine g_istore_n0 (pc := 37) C dX6_go_37 rfl (by decide) (lv' := [(2, .int 0), (0, .ref (gX Γ 44)), (1, .int x1)]) rfl ?_
  exact g_sub [1, 0] rfl (p_X6_go_l38 C M FU 0 S_8)
theorem ct_X6_go {Γ : GA} (x1 : Int32) (S : St) : CtV Γ yX6_go cX6_go 3 none 3 [.ref (gX Γ 44), .int x1] S (f_X6_go x1 S) :=
  ctV_of (by decide) (Nat.le_of_ble_eq_true rfl) (fun _ C M => p_X6_go C M x1 S)
set_option maxRecDepth 100000 in
set_option maxHeartbeats 4000000 in
theorem p_X7_goDown {Γ : GA} {E : EV} (C : Cx Γ E RX7 cX7_goDown 3 4 none) (M : Mx Γ E) (x1 : Int32) (x2 : Int32) (S : St) : G Γ E (QV Γ E) 3 0 [(0, .ref (gX Γ 0)), (1, .int x1), (2, .int x2)] [] S (f_X7_goDown x1 x2 S) := by
  rw [f_X7_goDown]
  refine g_aload_n (pc := 0) C dX7_goDown_0 0 rfl rfl ?_
  refine g_getR (pc := 1) C lk_X7_49 fr_0_5 dX7_goDown_1 ?_
  refine g_aload_n (pc := 4) C dX7_goDown_4 0 rfl rfl ?_
  refine g_getR (pc := 5) C lk_X7_25 fr_0_2 dX7_goDown_5 ?_
  refine g_iload_n (pc := 8) C dX7_goDown_8 1 rfl rfl ?_
  refine g_aald (pc := 9) C aq_8 dX7_goDown_9 (fun hj_1 => ?_)
  refine g_aload_n (pc := 10) C dX7_goDown_10 0 rfl rfl ?_
  refine g_getI (pc := 11) C lk_X7_71 fi_0_10 dX7_goDown_11 ?_
  refine g_callVV (pc := 14) (As := [.ref (gX Γ (9 + 3 * (x1 : Int32).toNatClampNeg)), .int (S 0 10)]) (st := []) C lv_X7_168 fo_44 rfl (ct_X6_mount _ hj_1 (S 0 10) S) (by decide) rfl rfl (Nat.le_of_ble_eq_true rfl) dX7_goDown_14 (fun r_3 S_2 => ?_)
  refine g_aload_n (pc := 17) C dX7_goDown_17 0 rfl rfl ?_
  refine g_getR (pc := 18) C lk_X7_49 fr_0_5 dX7_goDown_18 ?_
  refine g_iload_n (pc := 21) C dX7_goDown_21 2 rfl rfl ?_
  refine g_callVV (pc := 22) (As := [.int x2]) (st := []) C lv_X7_195 fo_44 rfl (ct_X6_go x2 S_2) (by decide) rfl rfl (Nat.le_of_ble_eq_true rfl) dX7_goDown_22 (fun r_5 S_4 => ?_)
  exact g_vret C M dX7_goDown_25
theorem ct_X7_goDown {Γ : GA} (x1 : Int32) (x2 : Int32) (S : St) : CtV Γ yX7_goDown cX7_goDown 3 none 4 [.ref (gX Γ 0), .int x1, .int x2] S (f_X7_goDown x1 x2 S) :=
  ctV_of (by decide) (Nat.le_of_ble_eq_true rfl) (fun _ C M => p_X7_goDown C M x1 x2 S)
set_option maxRecDepth 100000 in
set_option maxHeartbeats 4000000 in
theorem p_X6_tell {Γ : GA} {E : EV} (C : Cx Γ E RX6 cX6_tell 2 0 (some .int)) (M : Mx Γ E) (x1 : Int32) (S : St) : G Γ E (QI Γ E) 2 0 [(0, .ref (gX Γ 44)), (1, .int x1)] [] S (f_X6_tell x1 S) := by
  rw [f_X6_tell]
  refine g_iload_n (pc := 0) C dX6_tell_0 1 rfl rfl ?_
  refine g_tsw (res := none) (pc := 1) C 0 28 0 dX6_tell_1 (by show ¬ ((0 : Int) ≤ _ ∧ _ < (0 : Int)); omega) (by decide) rfl (by decide) ?_ (fun hs_1 => ?_)
  · refine g_aload_n (pc := 28) C dX6_tell_28 0 rfl rfl ?_
    refine g_getI (pc := 29) C lk_X6_34 fi_44_8 dX6_tell_29 ?_
    exact g_iret C M dX6_tell_32
  refine g_tsw (res := none) (pc := 1) C 1 33 1 dX6_tell_1 hs_1 (by decide) rfl (by decide) ?_ (fun hs_2 => ?_)
  · refine g_aload_n (pc := 33) C dX6_tell_33 0 rfl rfl ?_
    refine g_getI (pc := 34) C lk_X6_37 fi_44_9 dX6_tell_34 ?_
    exact g_iret C M dX6_tell_37
  refine g_tsw (res := none) (pc := 1) C 2 38 2 dX6_tell_1 hs_2 (by decide) rfl (by decide) ?_ (fun hs_3 => ?_)
  · refine g_aload_n (pc := 38) C dX6_tell_38 0 rfl rfl ?_
    refine g_getI (pc := 39) C lk_X6_40 fi_44_10 dX6_tell_39 ?_
    exact g_iret C M dX6_tell_42
  refine g_tsd (pc := 1) C (k := 2) 43 dX6_tell_1 hs_3 rfl (by decide) ?_
  refine g_aload_n (pc := 43) C dX6_tell_43 0 rfl rfl ?_
  refine g_getI (pc := 44) C lk_X6_43 fi_44_11 dX6_tell_44 ?_
  exact g_iret C M dX6_tell_47
theorem ct_X6_tell {Γ : GA} (x1 : Int32) (S : St) : CtI Γ yX6_tell cX6_tell 2 (some .int) 0 [.ref (gX Γ 44), .int x1] S (f_X6_tell x1 S) :=
  ctI_of (by decide) (Nat.le_of_ble_eq_true rfl) (fun _ C M => p_X6_tell C M x1 S)
set_option maxRecDepth 100000 in
set_option maxHeartbeats 4000000 in
theorem p_X7_run {Γ : GA} {E : EV} (C : Cx Γ E RX7 cX7_run 5 5 (some .int)) (M : Mx Γ E) (x1 : Int32) (x2 : Int32) (x3 : Int32) (S : St) : G Γ E (QI Γ E) 5 0 [(0, .ref (gX Γ 0)), (1, .int x1), (2, .int x2), (3, .int x3)] [] S (f_X7_run x1 x2 x3 S) := by
  rw [f_X7_run]
  refine g_aload_n (pc := 0) C dX7_run_0 0 rfl rfl ?_
  refine g_iload_n (pc := 1) C dX7_run_1 1 rfl rfl ?_
  refine g_iload_n (pc := 2) C dX7_run_2 2 rfl rfl ?_
  refine g_iload_n (pc := 3) C dX7_run_3 3 rfl rfl ?_
  refine g_iconst (pc := 4) C (v := 0) dX7_run_4 (by decide) ?_
  refine g_iconst (pc := 5) C (v := 3) dX7_run_5 (by decide) ?_
  refine g_callSI (pc := 6) (As := [.int x3, .int 0, .int 3]) (st := [.int x2, .int x1, .ref (gX Γ 0)]) C ls_X7_137 (ct_X7_isWithin x3 0 3 S) (by decide) rfl rfl (Nat.le_of_ble_eq_true rfl) dX7_run_6 (fun r_2 S_1 => ?_)
  refine g_callVI (pc := 9) (As := [.int x1, .int x2, .int r_2]) (st := []) C lv_X7_144 fo_0 rfl (ct_X7_refusalOfRun x1 x2 r_2 S_1) (by decide) rfl rfl (Nat.le_of_ble_eq_true rfl) dX7_run_9 (fun r_4 S_3 => ?_)
  refine g_istore0 (pc := 12) C dX7_run_12 (by decide) (lv' := [(4, .int r_4), (0, .ref (gX Γ 0)), (1, .int x1), (2, .int x2), (3, .int x3)]) rfl ?_
  refine g_iload (pc := 14) C dX7_run_14 0 rfl ?_
  refine g_if_eq (pc := 16) C 22 dX7_run_16 (by decide) ?_ ?_
  · refine g_aload_n (pc := 22) C dX7_run_22 1 rfl rfl ?_
    refine g_iload_n (pc := 23) C dX7_run_23 2 rfl rfl ?_
    refine g_iload_n (pc := 24) C dX7_run_24 3 rfl rfl ?_
    refine g_callVV (pc := 25) (As := [.int x1, .int x2]) (st := []) C lv_X7_148 fo_0 rfl (ct_X7_goDown x1 x2 S_3) (by decide) rfl rfl (Nat.le_of_ble_eq_true rfl) dX7_run_25 (fun r_6 S_5 => ?_)
    refine g_aload_n (pc := 28) C dX7_run_28 1 rfl rfl ?_
    refine g_getR (pc := 29) C lk_X7_49 fr_0_5 dX7_run_29 ?_
    refine g_iload_n (pc := 32) C dX7_run_32 4 rfl rfl ?_
    refine g_callVI (pc := 33) (As := [.int x3]) (st := []) C lv_X7_152 fo_44 rfl (ct_X6_tell x3 S_5) (by decide) rfl rfl (Nat.le_of_ble_eq_true rfl) dX7_run_33 (fun r_8 S_7 => ?_)
    exact g_iret C M dX7_run_36
  · refine g_iload (pc := 19) C dX7_run_19 0 rfl ?_
    exact g_iret C M dX7_run_21
theorem ct_X7_run {Γ : GA} (x1 : Int32) (x2 : Int32) (x3 : Int32) (S : St) : CtI Γ yX7_run cX7_run 5 (some .int) 5 [.ref (gX Γ 0), .int x1, .int x2, .int x3] S (f_X7_run x1 x2 x3 S) :=
  ctI_of (by decide) (Nat.le_of_ble_eq_true rfl) (fun _ C M => p_X7_run C M x1 x2 x3 S)
set_option maxRecDepth 100000 in
set_option maxHeartbeats 4000000 in
theorem p_X7_pace {Γ : GA} {E : EV} (C : Cx Γ E RX7 cX7_pace 4 5 (some .int)) (M : Mx Γ E) (x1 : Int32) (x2 : Int32) (x3 : Int32) (S : St) : G Γ E (QI Γ E) 4 0 [(0, .ref (gX Γ 0)), (1, .int x1), (2, .int x2), (3, .int x3)] [] S (f_X7_pace x1 x2 x3 S) := by
  rw [f_X7_pace]
  refine g_aload_n (pc := 0) C dX7_pace_0 0 rfl rfl ?_
  refine g_iload_n (pc := 1) C dX7_pace_1 1 rfl rfl ?_
  refine g_callVI (pc := 2) (As := [.int x1]) (st := []) C lv_X7_121 fo_0 rfl (ct_X7_isCart x1 S) (by decide) rfl rfl (Nat.le_of_ble_eq_true rfl) dX7_pace_2 (fun r_2 S_1 => ?_)
  refine g_if_eq (pc := 5) C 16 dX7_pace_5 (by decide) ?_ ?_
  · refine g_bipush (pc := 16) C (v := (-101)) dX7_pace_16 (by decide) ?_
    exact g_iret C M dX7_pace_18
  · refine g_aload_n (pc := 8) C dX7_pace_8 0 rfl rfl ?_
    refine g_iload_n (pc := 9) C dX7_pace_9 3 rfl rfl ?_
    refine g_callVI (pc := 10) (As := [.int x3]) (st := []) C lv_X7_105 fo_0 rfl (ct_X7_isCell x3 S_1) (by decide) rfl rfl (Nat.le_of_ble_eq_true rfl) dX7_pace_10 (fun r_4 S_3 => ?_)
    refine g_if_ne (pc := 13) C 19 dX7_pace_13 (by decide) ?_ ?_
    · refine g_bipush (pc := 16) C (v := (-101)) dX7_pace_16 (by decide) ?_
      exact g_iret C M dX7_pace_18
    · refine g_iload_n (pc := 19) C dX7_pace_19 2 rfl rfl ?_
      refine g_callSI (pc := 20) (As := [.int x2]) (st := []) C ls_X7_156 (ct_X7_isSwing x2 S_3) (by decide) rfl rfl (Nat.le_of_ble_eq_true rfl) dX7_pace_20 (fun r_6 S_5 => ?_)
      refine g_if_ne (pc := 23) C 29 dX7_pace_23 (by decide) ?_ ?_
      · refine g_bipush (pc := 26) C (v := (-102)) dX7_pace_26 (by decide) ?_
        exact g_iret C M dX7_pace_28
      · refine g_aload_n (pc := 29) C dX7_pace_29 0 rfl rfl ?_
        refine g_iload_n (pc := 30) C dX7_pace_30 1 rfl rfl ?_
        refine g_iload_n (pc := 31) C dX7_pace_31 2 rfl rfl ?_
        refine g_callVV (pc := 32) (As := [.int x1, .int x2]) (st := []) C lv_X7_148 fo_0 rfl (ct_X7_goDown x1 x2 S_5) (by decide) rfl rfl (Nat.le_of_ble_eq_true rfl) dX7_pace_32 (fun r_8 S_7 => ?_)
        refine g_aload_n (pc := 35) C dX7_pace_35 0 rfl rfl ?_
        refine g_getR (pc := 36) C lk_X7_49 fr_0_5 dX7_pace_36 ?_
        refine g_getR (pc := 39) C lk_X7_159 fr_44_14 dX7_pace_39 ?_
        refine g_iload_n (pc := 42) C dX7_pace_42 3 rfl rfl ?_
        refine g_iald (pc := 43) C ai_50 dX7_pace_43 ?_
        exact g_iret C M dX7_pace_44
theorem ct_X7_pace {Γ : GA} (x1 : Int32) (x2 : Int32) (x3 : Int32) (S : St) : CtI Γ yX7_pace cX7_pace 4 (some .int) 5 [.ref (gX Γ 0), .int x1, .int x2, .int x3] S (f_X7_pace x1 x2 x3 S) :=
  ctI_of (by decide) (Nat.le_of_ble_eq_true rfl) (fun _ C M => p_X7_pace C M x1 x2 x3 S)
set_option maxRecDepth 100000 in
set_option maxHeartbeats 4000000 in
theorem p_X7_lost_b17 {Γ : GA} {E : EV} (C : Cx Γ E RX7 cX7_lost 5 5 (some .int)) (M : Mx Γ E) (x1 : Int32) (x2 : Int32) (x3 : Int32) (S : St) : G Γ E (QI Γ E) 5 17 [(0, .ref (gX Γ 0)), (1, .int x1), (2, .int x2), (3, .int x3)] [] S (f_X7_lost_b17 x1 x2 x3 S) := by
  rw [f_X7_lost_b17]
  refine g_aload_n (pc := 17) C dX7_lost_17 0 rfl rfl ?_
  refine g_iload_n (pc := 18) C dX7_lost_18 1 rfl rfl ?_
  refine g_iload_n (pc := 19) C dX7_lost_19 2 rfl rfl ?_
  refine g_iconst (pc := 20) C (v := 1) dX7_lost_20 (by decide) ?_
  refine g_callVI (pc := 21) (As := [.int x1, .int x2, .int 1]) (st := []) C lv_X7_144 fo_0 rfl (ct_X7_refusalOfRun x1 x2 1 S) (by decide) rfl rfl (Nat.le_of_ble_eq_true rfl) dX7_lost_21 (fun r_2 S_1 => ?_)
  refine g_istore0 (pc := 24) C dX7_lost_24 (by decide) (lv' := [(4, .int r_2), (0, .ref (gX Γ 0)), (1, .int x1), (2, .int x2), (3, .int x3)]) rfl ?_
  refine g_iload (pc := 26) C dX7_lost_26 0 rfl ?_
  refine g_if_eq (pc := 28) C 34 dX7_lost_28 (by decide) ?_ ?_
  · refine g_aload_n (pc := 34) C dX7_lost_34 1 rfl rfl ?_
    refine g_iload_n (pc := 35) C dX7_lost_35 2 rfl rfl ?_
    refine g_iload_n (pc := 36) C dX7_lost_36 3 rfl rfl ?_
    refine g_callVV (pc := 37) (As := [.int x1, .int x2]) (st := []) C lv_X7_148 fo_0 rfl (ct_X7_goDown x1 x2 S_1) (by decide) rfl rfl (Nat.le_of_ble_eq_true rfl) dX7_lost_37 (fun r_4 S_3 => ?_)
    refine g_iload_n (pc := 40) C dX7_lost_40 4 rfl rfl ?_
    refine g_iconst (pc := 41) C (v := (-1)) dX7_lost_41 (by decide) ?_
    refine g_icmp_ne (pc := 42) C 55 dX7_lost_42 (by decide) ?_ ?_
    · refine g_aload_n (pc := 45) C dX7_lost_45 1 rfl rfl ?_
      refine g_getR (pc := 46) C lk_X7_49 fr_0_5 dX7_lost_46 ?_
      refine g_getI (pc := 49) C lk_X7_162 fi_44_12 dX7_lost_49 ?_
      refine g_goto (pc := 52) C 64 dX7_lost_52 (by decide) ?_
      exact g_iret C M dX7_lost_64
    · refine g_aload_n (pc := 55) C dX7_lost_55 1 rfl rfl ?_
      refine g_getR (pc := 56) C lk_X7_49 fr_0_5 dX7_lost_56 ?_
      refine g_getR (pc := 59) C lk_X7_165 fr_44_13 dX7_lost_59 ?_
      refine g_iload_n (pc := 62) C dX7_lost_62 4 rfl rfl ?_
      refine g_iald (pc := 63) C ai_49 dX7_lost_63 ?_
      exact g_iret C M dX7_lost_64
  · refine g_iload (pc := 31) C dX7_lost_31 0 rfl ?_
    exact g_iret C M dX7_lost_33
set_option maxRecDepth 100000 in
set_option maxHeartbeats 4000000 in
theorem p_X7_lost {Γ : GA} {E : EV} (C : Cx Γ E RX7 cX7_lost 5 5 (some .int)) (M : Mx Γ E) (x1 : Int32) (x2 : Int32) (x3 : Int32) (S : St) : G Γ E (QI Γ E) 5 0 [(0, .ref (gX Γ 0)), (1, .int x1), (2, .int x2), (3, .int x3)] [] S (f_X7_lost x1 x2 x3 S) := by
  rw [f_X7_lost]
  refine g_iload_n (pc := 0) C dX7_lost_0 3 rfl rfl ?_
  refine g_iconst (pc := 1) C (v := (-1)) dX7_lost_1 (by decide) ?_
  refine g_icmp_eq (pc := 2) C 17 dX7_lost_2 (by decide) ?_ ?_
  · exact g_sub [0, 1, 2, 3] rfl (p_X7_lost_b17 C M x1 x2 x3 S)
  · refine g_aload_n (pc := 5) C dX7_lost_5 0 rfl rfl ?_
    refine g_iload_n (pc := 6) C dX7_lost_6 1 rfl rfl ?_
    refine g_iload_n (pc := 7) C dX7_lost_7 3 rfl rfl ?_
    refine g_callVI (pc := 8) (As := [.int x1, .int x3]) (st := []) C lv_X7_127 fo_0 rfl (ct_X7_isLoss x1 x3 S) (by decide) rfl rfl (Nat.le_of_ble_eq_true rfl) dX7_lost_8 (fun r_6 S_5 => ?_)
    refine g_if_ne (pc := 11) C 17 dX7_lost_11 (by decide) ?_ ?_
    · refine g_bipush (pc := 14) C (v := (-101)) dX7_lost_14 (by decide) ?_
      exact g_iret C M dX7_lost_16
    · exact g_sub [0, 1, 2, 3] rfl (p_X7_lost_b17 C M x1 x2 x3 S_5)
theorem ct_X7_lost {Γ : GA} (x1 : Int32) (x2 : Int32) (x3 : Int32) (S : St) : CtI Γ yX7_lost cX7_lost 5 (some .int) 5 [.ref (gX Γ 0), .int x1, .int x2, .int x3] S (f_X7_lost x1 x2 x3 S) :=
  ctI_of (by decide) (Nat.le_of_ble_eq_true rfl) (fun _ C M => p_X7_lost C M x1 x2 x3 S)
set_option maxRecDepth 100000 in
set_option maxHeartbeats 4000000 in
theorem p_X0_clear {Γ : GA} {E : EV} (C : Cx Γ E RX0 cX0_clear 1 0 none) (M : Mx Γ E) (S : St) : G Γ E (QV Γ E) 1 0 [(0, .ref (gX Γ 51))] [] S (f_X0_clear S) := by
  rw [f_X0_clear]
  refine g_aload_n (pc := 0) C dX0_clear_0 0 rfl rfl ?_
  refine g_iconst (pc := 1) C (v := (-1)) dX0_clear_1 (by decide) ?_
  refine g_putI (pc := 2) C lp_X0_9 fi_51_0 dX0_clear_2 (fun S_1 => ?_)
  refine g_aload_n (pc := 5) C dX0_clear_5 0 rfl rfl ?_
  refine g_iconst (pc := 6) C (v := (-1)) dX0_clear_6 (by decide) ?_
  refine g_putI (pc := 7) C lp_X0_15 fi_51_1 dX0_clear_7 (fun S_2 => ?_)
  exact g_vret C M dX0_clear_10
theorem ct_X0_clear {Γ : GA} (S : St) : CtV Γ yX0_clear cX0_clear 1 none 0 [.ref (gX Γ 51)] S (f_X0_clear S) :=
  ctV_of (by decide) (Nat.le_of_ble_eq_true rfl) (fun _ C M => p_X0_clear C M  S)
set_option maxRecDepth 100000 in
set_option maxHeartbeats 4000000 in
theorem p_X3_bendAt_b31 {Γ : GA} {E : EV} (C : Cx Γ E RX3 cX3_bendAt 4 0 (some .int)) (M : Mx Γ E) (k4 : Int32 → Int32 → Int32 → St → Option (Int32 × St)) (hk4 : ∀ (x1 : Int32) (x2 : Int32) (x3 : Int32) (S : St), G Γ E (QI Γ E) 4 4 [(0, .ref (gX Γ 3)), (1, .int x1), (2, .int x2), (3, .int x3)] [] S (k4 x1 x2 x3 S)) (x1 : Int32) (x2 : Int32) (x3 : Int32) (S : St) : G Γ E (QI Γ E) 4 31 [(0, .ref (gX Γ 3)), (1, .int x1), (2, .int x2), (3, .int x3)] [] S (f_X3_bendAt_b31 k4 x1 x2 x3 S) := by
  rw [f_X3_bendAt_b31]
  refine g_iinc (pc := 31) C (v := 1) dX3_bendAt_31 3 rfl (by decide) (by decide) (fun x => [(3, .int x), (0, .ref (gX Γ 3)), (1, .int x1), (2, .int x2)]) (fun _ => rfl) (fun x3_1 => ?_)
  refine g_goto (pc := 34) C 4 dX3_bendAt_34 (by decide) ?_
  exact g_sub [1, 2, 3, 0] rfl (hk4 x1 x2 x3_1 S)
set_option maxRecDepth 100000 in
set_option maxHeartbeats 4000000 in
theorem p_X3_bendAt_l4 {Γ : GA} {E : EV} (C : Cx Γ E RX3 cX3_bendAt 4 0 (some .int)) (M : Mx Γ E) : ∀ (n : Nat) (x1 : Int32) (x2 : Int32) (x3 : Int32) (S : St), G Γ E (QI Γ E) 4 4 [(0, .ref (gX Γ 3)), (1, .int x1), (2, .int x2), (3, .int x3)] [] S (f_X3_bendAt_l4 n x1 x2 x3 S) := by
  intro n
  induction n with
  | zero => intro x1 x2 x3 S; exact g_none
  | succ n ih =>
    intro x1 x2 x3 S
    rw [f_X3_bendAt_l4]
    refine g_iload_n (pc := 4) C dX3_bendAt_4 3 rfl rfl ?_
    refine g_aload_n (pc := 5) C dX3_bendAt_5 0 rfl rfl ?_
    refine g_getI (pc := 6) C lk_X3_24 fi_3_4 dX3_bendAt_6 ?_
    refine g_icmp_ge (pc := 9) C 37 dX3_bendAt_9 (by decide) ?_ ?_
    · refine g_iconst (pc := 37) C (v := (-1)) dX3_bendAt_37 (by decide) ?_
      exact g_iret C M dX3_bendAt_38
    · refine g_aload_n (pc := 12) C dX3_bendAt_12 0 rfl rfl ?_
      refine g_getR (pc := 13) C lk_X3_15 fr_3_1 dX3_bendAt_13 ?_
      refine g_iload_n (pc := 16) C dX3_bendAt_16 3 rfl rfl ?_
      refine g_iald (pc := 17) C ai_5 dX3_bendAt_17 ?_
      refine g_if_le (pc := 18) C 31 dX3_bendAt_18 (by decide) ?_ ?_
      · exact g_sub [0, 1, 2, 3] rfl (p_X3_bendAt_b31 C M (f_X3_bendAt_l4 n) ih x1 x2 x3 S)
      · refine g_iload_n (pc := 21) C dX3_bendAt_21 2 rfl rfl ?_
        refine g_iload_n (pc := 22) C dX3_bendAt_22 1 rfl rfl ?_
        refine g_icmp_ne (pc := 23) C 28 dX3_bendAt_23 (by decide) ?_ ?_
        · refine g_iload_n (pc := 26) C dX3_bendAt_26 3 rfl rfl ?_
          exact g_iret C M dX3_bendAt_27
        · refine g_iinc (pc := 28) C (v := 1) dX3_bendAt_28 2 rfl (by decide) (by decide) (fun x => [(2, .int x), (0, .ref (gX Γ 3)), (1, .int x1), (3, .int x3)]) (fun _ => rfl) (fun x2_2 => ?_)
          exact g_sub [1, 2, 0, 3] rfl (p_X3_bendAt_b31 C M (f_X3_bendAt_l4 n) ih x1 x2_2 x3 S)
set_option maxRecDepth 100000 in
set_option maxHeartbeats 4000000 in
theorem p_X3_bendAt {Γ : GA} {E : EV} (C : Cx Γ E RX3 cX3_bendAt 4 0 (some .int)) (M : Mx Γ E) (x1 : Int32) (S : St) : G Γ E (QI Γ E) 4 0 [(0, .ref (gX Γ 3)), (1, .int x1)] [] S (f_X3_bendAt x1 S) := by
  rw [f_X3_bendAt]
  refine g_iconst (pc := 0) C (v := 0) dX3_bendAt_0 (by decide) ?_
  refine g_istore_n0 (pc := 1) C dX3_bendAt_1 rfl (by decide) (lv' := [(2, .int 0), (0, .ref (gX Γ 3)), (1, .int x1)]) rfl ?_
  refine g_iconst (pc := 2) C (v := 0) dX3_bendAt_2 (by decide) ?_
  refine g_istore_n0 (pc := 3) C dX3_bendAt_3 rfl (by decide) (lv' := [(3, .int 0), (2, .int 0), (0, .ref (gX Γ 3)), (1, .int x1)]) rfl ?_
  exact g_sub [2, 3, 1, 0] rfl (p_X3_bendAt_l4 C M FU x1 0 0 S)
theorem ct_X3_bendAt {Γ : GA} (x1 : Int32) (S : St) : CtI Γ yX3_bendAt cX3_bendAt 4 (some .int) 0 [.ref (gX Γ 3), .int x1] S (f_X3_bendAt x1 S) :=
  ctI_of (by decide) (Nat.le_of_ble_eq_true rfl) (fun _ C M => p_X3_bendAt C M x1 S)
set_option maxRecDepth 100000 in
set_option maxHeartbeats 4000000 in
theorem p_X7_isBraked {Γ : GA} {E : EV} (C : Cx Γ E RX7 cX7_isBraked 2 1 (some .boolean)) (M : Mx Γ E) (x1 : Int32) (S : St) : G Γ E (QI Γ E) 2 0 [(0, .ref (gX Γ 0)), (1, .int x1)] [] S (f_X7_isBraked x1 S) := by
  rw [f_X7_isBraked]
  refine g_aload_n (pc := 0) C dX7_isBraked_0 0 rfl rfl ?_
  refine g_getR (pc := 1) C lk_X7_19 fr_0_1 dX7_isBraked_1 ?_
  refine g_iload_n (pc := 4) C dX7_isBraked_4 1 rfl rfl ?_
  refine g_callVI (pc := 5) (As := [.int x1]) (st := []) C lv_X7_342 fo_3 rfl (ct_X3_bendAt x1 S) (by decide) rfl rfl (Nat.le_of_ble_eq_true rfl) dX7_isBraked_5 (fun r_2 S_1 => ?_)
  refine g_if_le (pc := 8) C 15 dX7_isBraked_8 (by decide) ?_ ?_
  · refine g_iconst (pc := 15) C (v := 0) dX7_isBraked_15 (by decide) ?_
    exact g_zret1 C M rfl dX7_isBraked_16
  · refine g_iconst (pc := 11) C (v := 1) dX7_isBraked_11 (by decide) ?_
    refine g_goto (pc := 12) C 16 dX7_isBraked_12 (by decide) ?_
    exact g_zret1 C M rfl dX7_isBraked_16
theorem ct_X7_isBraked {Γ : GA} (x1 : Int32) (S : St) : CtI Γ yX7_isBraked cX7_isBraked 2 (some .boolean) 1 [.ref (gX Γ 0), .int x1] S (f_X7_isBraked x1 S) :=
  ctI_of (by decide) (Nat.le_of_ble_eq_true rfl) (fun _ C M => p_X7_isBraked C M x1 S)
set_option maxRecDepth 100000 in
set_option maxHeartbeats 4000000 in
theorem p_X7_choice {Γ : GA} {E : EV} (C : Cx Γ E RX7 cX7_choice 2 0 (some .int)) (M : Mx Γ E) (x0 : Int32) (x1 : Int32) (S : St) : G Γ E (QI Γ E) 2 0 [(0, .int x0), (1, .int x1)] [] S (f_X7_choice x0 x1 S) := by
  rw [f_X7_choice]
  refine g_iload_n (pc := 0) C dX7_choice_0 0 rfl rfl ?_
  refine g_bipush (pc := 1) C (v := 6) dX7_choice_1 (by decide) ?_
  refine g_iconst (pc := 3) C (v := 2) dX7_choice_3 (by decide) ?_
  refine g_iload_n (pc := 4) C dX7_choice_4 1 rfl rfl ?_
  refine g_imul (pc := 5) C dX7_choice_5 ?_
  refine g_isub (pc := 6) C dX7_choice_6 ?_
  refine g_ishr (pc := 7) C dX7_choice_7 ?_
  refine g_iconst (pc := 8) C (v := 3) dX7_choice_8 (by decide) ?_
  refine g_iand (pc := 9) C dX7_choice_9 ?_
  exact g_iret C M dX7_choice_10
theorem ct_X7_choice {Γ : GA} (x0 : Int32) (x1 : Int32) (S : St) : CtI Γ yX7_choice cX7_choice 2 (some .int) 0 [.int x0, .int x1] S (f_X7_choice x0 x1 S) :=
  ctI_of (by decide) (Nat.le_of_ble_eq_true rfl) (fun _ C M => p_X7_choice C M x0 x1 S)
set_option maxRecDepth 100000 in
set_option maxHeartbeats 4000000 in
theorem p_X0_offer_b18 {Γ : GA} {E : EV} (C : Cx Γ E RX0 cX0_offer 3 0 (some .boolean)) (M : Mx Γ E) (x1 : Int32) (x2 : Int32) (S : St) : G Γ E (QI Γ E) 3 18 [(0, .ref (gX Γ 51)), (1, .int x1), (2, .int x2)] [] S (f_X0_offer_b18 x1 x2 S) := by
  rw [f_X0_offer_b18]
  refine g_aload_n (pc := 18) C dX0_offer_18 0 rfl rfl ?_
  refine g_iload_n (pc := 19) C dX0_offer_19 1 rfl rfl ?_
  refine g_putI (pc := 20) C lp_X0_9 fi_51_0 dX0_offer_20 (fun S_1 => ?_)
  refine g_aload_n (pc := 23) C dX0_offer_23 0 rfl rfl ?_
  refine g_iload_n (pc := 24) C dX0_offer_24 2 rfl rfl ?_
  refine g_putI (pc := 25) C lp_X0_15 fi_51_1 dX0_offer_25 (fun S_2 => ?_)
  refine g_iconst (pc := 28) C (v := 1) dX0_offer_28 (by decide) ?_
  exact g_zret1 C M rfl dX0_offer_29
set_option maxRecDepth 100000 in
set_option maxHeartbeats 4000000 in
theorem p_X0_offer {Γ : GA} {E : EV} (C : Cx Γ E RX0 cX0_offer 3 0 (some .boolean)) (M : Mx Γ E) (x1 : Int32) (x2 : Int32) (S : St) : G Γ E (QI Γ E) 3 0 [(0, .ref (gX Γ 51)), (1, .int x1), (2, .int x2)] [] S (f_X0_offer x1 x2 S) := by
  rw [f_X0_offer]
  refine g_aload_n (pc := 0) C dX0_offer_0 0 rfl rfl ?_
  refine g_getI (pc := 1) C lk_X0_9 fi_51_0 dX0_offer_1 ?_
  refine g_iconst (pc := 4) C (v := (-1)) dX0_offer_4 (by decide) ?_
  refine g_icmp_eq (pc := 5) C 18 dX0_offer_5 (by decide) ?_ ?_
  · exact g_sub [0, 1, 2] rfl (p_X0_offer_b18 C M x1 x2 S)
  · refine g_aload_n (pc := 8) C dX0_offer_8 0 rfl rfl ?_
    refine g_getI (pc := 9) C lk_X0_9 fi_51_0 dX0_offer_9 ?_
    refine g_iload_n (pc := 12) C dX0_offer_12 1 rfl rfl ?_
    refine g_icmp_gt (pc := 13) C 18 dX0_offer_13 (by decide) ?_ ?_
    · exact g_sub [0, 1, 2] rfl (p_X0_offer_b18 C M x1 x2 S)
    · refine g_iconst (pc := 16) C (v := 0) dX0_offer_16 (by decide) ?_
      exact g_zret1 C M rfl dX0_offer_17
theorem ct_X0_offer {Γ : GA} (x1 : Int32) (x2 : Int32) (S : St) : CtI Γ yX0_offer cX0_offer 3 (some .boolean) 0 [.ref (gX Γ 51), .int x1, .int x2] S (f_X0_offer x1 x2 S) :=
  ctI_of (by decide) (Nat.le_of_ble_eq_true rfl) (fun _ C M => p_X0_offer C M x1 x2 S)
set_option maxRecDepth 100000 in
set_option maxHeartbeats 4000000 in
theorem p_X7_tryBrakes_b65 {Γ : GA} {E : EV} (C : Cx Γ E RX7 cX7_tryBrakes 6 4 none) (M : Mx Γ E) (k13 : Int32 → Int32 → Int32 → St → Option (Unit × St)) (hk13 : ∀ (x1 : Int32) (x2 : Int32) (x3 : Int32) (S : St), G Γ E (QV Γ E) 6 13 [(0, .ref (gX Γ 0)), (1, .int x1), (2, .int x2), (3, .int x3)] [] S (k13 x1 x2 x3 S)) (x1 : Int32) (x2 : Int32) (x3 : Int32) (S : St) : G Γ E (QV Γ E) 6 65 [(0, .ref (gX Γ 0)), (1, .int x1), (2, .int x2), (3, .int x3)] [] S (f_X7_tryBrakes_b65 k13 x1 x2 x3 S) := by
  rw [f_X7_tryBrakes_b65]
  refine g_iinc (pc := 65) C (v := 1) dX7_tryBrakes_65 3 rfl (by decide) (by decide) (fun x => [(3, .int x), (0, .ref (gX Γ 0)), (1, .int x1), (2, .int x2)]) (fun _ => rfl) (fun x3_13 => ?_)
  refine g_goto (pc := 68) C 13 dX7_tryBrakes_68 (by decide) ?_
  exact g_sub [1, 2, 3, 0] rfl (hk13 x1 x2 x3_13 S)
set_option maxRecDepth 100000 in
set_option maxHeartbeats 4000000 in
theorem p_X7_tryBrakes_l13 {Γ : GA} {E : EV} (C : Cx Γ E RX7 cX7_tryBrakes 6 4 none) (M : Mx Γ E) : ∀ (n : Nat) (x1 : Int32) (x2 : Int32) (x3 : Int32) (S : St), G Γ E (QV Γ E) 6 13 [(0, .ref (gX Γ 0)), (1, .int x1), (2, .int x2), (3, .int x3)] [] S (f_X7_tryBrakes_l13 n x1 x2 x3 S) := by
  intro n
  induction n with
  | zero => intro x1 x2 x3 S; exact g_none
  | succ n ih =>
    intro x1 x2 x3 S
    rw [f_X7_tryBrakes_l13]
    refine g_iload_n (pc := 13) C dX7_tryBrakes_13 3 rfl rfl ?_
    refine g_iconst (pc := 14) C (v := 4) dX7_tryBrakes_14 (by decide) ?_
    refine g_icmp_ge (pc := 15) C 71 dX7_tryBrakes_15 (by decide) ?_ ?_
    · refine g_aload_n (pc := 71) C dX7_tryBrakes_71 0 rfl rfl ?_
      refine g_getR (pc := 72) C lk_X7_49 fr_0_5 dX7_tryBrakes_72 ?_
      refine g_iload_n (pc := 75) C dX7_tryBrakes_75 2 rfl rfl ?_
      refine g_callVV (pc := 76) (As := [.int x2]) (st := []) C lv_X7_195 fo_44 rfl (ct_X6_go x2 S) (by decide) rfl rfl (Nat.le_of_ble_eq_true rfl) dX7_tryBrakes_76 (fun r_4 S_3 => ?_)
      refine g_aload_n (pc := 79) C dX7_tryBrakes_79 0 rfl rfl ?_
      refine g_getR (pc := 80) C lk_X7_49 fr_0_5 dX7_tryBrakes_80 ?_
      refine g_getI (pc := 83) C lk_X7_198 fi_44_8 dX7_tryBrakes_83 ?_
      refine g_if_ne (pc := 86) C 105 dX7_tryBrakes_86 (by decide) ?_ ?_
      · refine g_aload_n (pc := 89) C dX7_tryBrakes_89 0 rfl rfl ?_
        refine g_getR (pc := 90) C lk_X7_56 fr_0_6 dX7_tryBrakes_90 ?_
        refine g_aload_n (pc := 93) C dX7_tryBrakes_93 0 rfl rfl ?_
        refine g_getR (pc := 94) C lk_X7_49 fr_0_5 dX7_tryBrakes_94 ?_
        refine g_getI (pc := 97) C lk_X7_201 fi_44_10 dX7_tryBrakes_97 ?_
        refine g_iload_n (pc := 100) C dX7_tryBrakes_100 1 rfl rfl ?_
        refine g_callVI (pc := 101) (As := [.int (S_3 44 10), .int x1]) (st := []) C lv_X7_202 fo_51 rfl (ct_X0_offer (S_3 44 10) x1 S_3) (by decide) rfl rfl (Nat.le_of_ble_eq_true rfl) dX7_tryBrakes_101 (fun r_6 S_5 => ?_)
        refine g_pop (pc := 104) C dX7_tryBrakes_104 rfl ?_
        exact g_vret C M dX7_tryBrakes_105
      · exact g_vret C M dX7_tryBrakes_105
    · refine g_iconst (pc := 18) C (v := 3) dX7_tryBrakes_18 (by decide) ?_
      refine g_iload_n (pc := 19) C dX7_tryBrakes_19 1 rfl rfl ?_
      refine g_iload_n (pc := 20) C dX7_tryBrakes_20 3 rfl rfl ?_
      refine g_callSI (pc := 21) (As := [.int x1, .int x3]) (st := [.int 3]) C ls_X7_187 (ct_X7_choice x1 x3 S) (by decide) rfl rfl (Nat.le_of_ble_eq_true rfl) dX7_tryBrakes_21 (fun r_8 S_7 => ?_)
      refine g_imul (pc := 24) C dX7_tryBrakes_24 ?_
      refine g_istore (pc := 25) C dX7_tryBrakes_25 (by decide) (fun x => [(4, .int x), (0, .ref (gX Γ 0)), (1, .int x1), (2, .int x2), (3, .int x3)]) (fun _ => rfl) (fun x4_9 => ?_)
      refine g_aload_n (pc := 27) C dX7_tryBrakes_27 1 rfl rfl ?_
      refine g_getR (pc := 28) C lk_X7_19 fr_0_1 dX7_tryBrakes_28 ?_
      refine g_iload_n (pc := 31) C dX7_tryBrakes_31 4 rfl rfl ?_
      refine g_callVI (pc := 32) (As := [.int x3]) (st := []) C lv_X7_342 fo_3 rfl (ct_X3_bendAt x3 S_7) (by decide) rfl rfl (Nat.le_of_ble_eq_true rfl) dX7_tryBrakes_32 (fun r_11 S_10 => ?_)
      refine g_iconst (pc := 35) C (v := 1) dX7_tryBrakes_35 (by decide) ?_
      refine g_isub (pc := 36) C dX7_tryBrakes_36 ?_
      refine g_istore (pc := 37) C dX7_tryBrakes_37 (by decide) (fun x => [(5, .int x), (4, .int x4_9), (0, .ref (gX Γ 0)), (1, .int x1), (2, .int x2), (3, .int x3)]) (fun _ => rfl) (fun x5_12 => ?_)
      refine g_iload (pc := 39) C dX7_tryBrakes_39 0 rfl ?_
      refine g_if_lt (pc := 41) C 59 dX7_tryBrakes_41 (by decide) ?_ ?_
      · refine g_iload (pc := 59) C dX7_tryBrakes_59 1 rfl ?_
        refine g_if_le (pc := 61) C 65 dX7_tryBrakes_61 (by decide) ?_ ?_
        · exact g_sub [2, 3, 4, 5] rfl (p_X7_tryBrakes_b65 C M (f_X7_tryBrakes_l13 n) ih x1 x2 x3 S_10)
        · exact g_vret C M dX7_tryBrakes_64
      · refine g_aload_n (pc := 44) C dX7_tryBrakes_44 2 rfl rfl ?_
        refine g_getR (pc := 45) C lk_X7_49 fr_0_5 dX7_tryBrakes_45 ?_
        refine g_getR (pc := 48) C lk_X7_345 fr_44_4 dX7_tryBrakes_48 ?_
        refine g_iload (pc := 51) C dX7_tryBrakes_51 0 rfl ?_
        refine g_iload (pc := 53) C dX7_tryBrakes_53 1 rfl ?_
        refine g_iast (pc := 55) C ai_48 dX7_tryBrakes_55 (fun S_14 => ?_)
        refine g_goto (pc := 56) C 65 dX7_tryBrakes_56 (by decide) ?_
        exact g_sub [2, 3, 4, 5] rfl (p_X7_tryBrakes_b65 C M (f_X7_tryBrakes_l13 n) ih x1 x2 x3 S_14)
set_option maxRecDepth 100000 in
set_option maxHeartbeats 4000000 in
theorem p_X7_tryBrakes {Γ : GA} {E : EV} (C : Cx Γ E RX7 cX7_tryBrakes 6 4 none) (M : Mx Γ E) (x1 : Int32) (x2 : Int32) (S : St) : G Γ E (QV Γ E) 6 0 [(0, .ref (gX Γ 0)), (1, .int x1), (2, .int x2)] [] S (f_X7_tryBrakes x1 x2 S) := by
  rw [f_X7_tryBrakes]
  refine g_aload_n (pc := 0) C dX7_tryBrakes_0 0 rfl rfl ?_
  refine g_getR (pc := 1) C lk_X7_49 fr_0_5 dX7_tryBrakes_1 ?_
  refine g_getR (pc := 4) C lk_X7_345 fr_44_4 dX7_tryBrakes_4 ?_
  refine g_iconst (pc := 7) C (v := 0) dX7_tryBrakes_7 (by decide) ?_
  refine g_callSV (pc := 8) (As := [.ref (gX Γ 48), .int 0]) (st := []) C ls_X7_346 (ct_fill _ _ ai_48 0 S) (by decide) rfl rfl (Nat.le_of_ble_eq_true rfl) dX7_tryBrakes_8 (fun r_2 S_1 => ?_)
  refine g_iconst (pc := 11) C (v := 0) dX7_tryBrakes_11 (by decide) ?_
  refine g_istore_n0 (pc := 12) C dX7_tryBrakes_12 rfl (by decide) (lv' := [(3, .int 0), (0, .ref (gX Γ 0)), (1, .int x1), (2, .int x2)]) rfl ?_
  exact g_sub [1, 2, 3, 0] rfl (p_X7_tryBrakes_l13 C M FU x1 x2 0 S_1)
theorem ct_X7_tryBrakes {Γ : GA} (x1 : Int32) (x2 : Int32) (S : St) : CtV Γ yX7_tryBrakes cX7_tryBrakes 6 none 4 [.ref (gX Γ 0), .int x1, .int x2] S (f_X7_tryBrakes x1 x2 S) :=
  ctV_of (by decide) (Nat.le_of_ble_eq_true rfl) (fun _ C M => p_X7_tryBrakes C M x1 x2 S)
set_option maxRecDepth 100000 in
set_option maxHeartbeats 4000000 in
theorem p_X7_bestBrakes_b85 {Γ : GA} {E : EV} (C : Cx Γ E RX7 cX7_bestBrakes 6 5 (some .int)) (M : Mx Γ E) (S : St) : G Γ E (QI Γ E) 6 85 [(0, .ref (gX Γ 0))] [] S (f_X7_bestBrakes_b85 S) := by
  rw [f_X7_bestBrakes_b85]
  refine g_aload_n (pc := 85) C dX7_bestBrakes_85 0 rfl rfl ?_
  refine g_getR (pc := 86) C lk_X7_56 fr_0_6 dX7_bestBrakes_86 ?_
  refine g_getI (pc := 89) C lk_X7_178 fi_51_0 dX7_bestBrakes_89 ?_
  exact g_iret C M dX7_bestBrakes_92
set_option maxRecDepth 100000 in
set_option maxHeartbeats 4000000 in
theorem p_X7_bestBrakes_l49 {Γ : GA} {E : EV} (C : Cx Γ E RX7 cX7_bestBrakes 6 5 (some .int)) (M : Mx Γ E) : ∀ (n : Nat) (x2 : Int32) (x3 : Int32) (x5 : Int32) (S : St), G Γ E (QI Γ E) 6 49 [(0, .ref (gX Γ 0)), (2, .int x2), (3, .int x3), (5, .int x5)] [] S (f_X7_bestBrakes_l49 n x2 x3 x5 S) := by
  intro n
  induction n with
  | zero => intro x2 x3 x5 S; exact g_none
  | succ n ih =>
    intro x2 x3 x5 S
    rw [f_X7_bestBrakes_l49]
    refine g_iload (pc := 49) C dX7_bestBrakes_49 3 rfl ?_
    refine g_sipush (pc := 51) C (v := 256) dX7_bestBrakes_51 (by decide) ?_
    refine g_icmp_ge (pc := 54) C 70 dX7_bestBrakes_54 (by decide) ?_ ?_
    · refine g_iload_n (pc := 70) C dX7_bestBrakes_70 2 rfl rfl ?_
      refine g_if_eq (pc := 71) C 85 dX7_bestBrakes_71 (by decide) ?_ ?_
      · exact g_sub [0] rfl (p_X7_bestBrakes_b85 C M S)
      · refine g_aload_n (pc := 74) C dX7_bestBrakes_74 0 rfl rfl ?_
        refine g_getR (pc := 75) C lk_X7_56 fr_0_6 dX7_bestBrakes_75 ?_
        refine g_getI (pc := 78) C lk_X7_178 fi_51_0 dX7_bestBrakes_78 ?_
        refine g_iconst (pc := 81) C (v := (-1)) dX7_bestBrakes_81 (by decide) ?_
        refine g_icmp_ne (pc := 82) C 93 dX7_bestBrakes_82 (by decide) ?_ ?_
        · exact g_sub [0] rfl (p_X7_bestBrakes_b85 C M S)
        · refine g_aload_n (pc := 93) C dX7_bestBrakes_93 0 rfl rfl ?_
          refine g_iload_n (pc := 94) C dX7_bestBrakes_94 2 rfl rfl ?_
          refine g_iconst (pc := 95) C (v := 1) dX7_bestBrakes_95 (by decide) ?_
          refine g_isub (pc := 96) C dX7_bestBrakes_96 ?_
          refine g_callVI (pc := 97) (As := [.int (x3 - 1)]) (st := []) C lv_X7_181 fo_0 rfl (ct_X7_isBraked (x3 - 1) S) (by decide) rfl rfl (Nat.le_of_ble_eq_true rfl) dX7_bestBrakes_97 (fun r_11 S_10 => ?_)
          refine g_if_eq (pc := 100) C 121 dX7_bestBrakes_100 (by decide) ?_ ?_
          · refine g_iconst (pc := 121) C (v := (-1)) dX7_bestBrakes_121 (by decide) ?_
            exact g_iret C M dX7_bestBrakes_122
          · refine g_iconst (pc := 103) C (v := 3) dX7_bestBrakes_103 (by decide) ?_
            refine g_aload_n (pc := 104) C dX7_bestBrakes_104 0 rfl rfl ?_
            refine g_getR (pc := 105) C lk_X7_56 fr_0_6 dX7_bestBrakes_105 ?_
            refine g_getI (pc := 108) C lk_X7_184 fi_51_1 dX7_bestBrakes_108 ?_
            refine g_iload_n (pc := 111) C dX7_bestBrakes_111 2 rfl rfl ?_
            refine g_iconst (pc := 112) C (v := 1) dX7_bestBrakes_112 (by decide) ?_
            refine g_isub (pc := 113) C dX7_bestBrakes_113 ?_
            refine g_callSI (pc := 114) (As := [.int (S_10 51 1), .int (x3 - 1)]) (st := [.int 3]) C ls_X7_187 (ct_X7_choice (S_10 51 1) (x3 - 1) S_10) (by decide) rfl rfl (Nat.le_of_ble_eq_true rfl) dX7_bestBrakes_114 (fun r_13 S_12 => ?_)
            refine g_imul (pc := 117) C dX7_bestBrakes_117 ?_
            refine g_goto (pc := 118) C 122 dX7_bestBrakes_118 (by decide) ?_
            exact g_iret C M dX7_bestBrakes_122
    · refine g_aload_n (pc := 57) C dX7_bestBrakes_57 0 rfl rfl ?_
      refine g_iload (pc := 58) C dX7_bestBrakes_58 3 rfl ?_
      refine g_iload_n (pc := 60) C dX7_bestBrakes_60 1 rfl rfl ?_
      refine g_callVV (pc := 61) (As := [.int x5, .int x2]) (st := []) C lv_X7_175 fo_0 rfl (ct_X7_tryBrakes x5 x2 S) (by decide) rfl rfl (Nat.le_of_ble_eq_true rfl) dX7_bestBrakes_61 (fun r_15 S_14 => ?_)
      refine g_iinc (pc := 64) C (v := 1) dX7_bestBrakes_64 3 rfl (by decide) (by decide) (fun x => [(5, .int x), (0, .ref (gX Γ 0)), (2, .int x2), (3, .int x3)]) (fun _ => rfl) (fun x5_16 => ?_)
      refine g_goto (pc := 67) C 49 dX7_bestBrakes_67 (by decide) ?_
      exact g_sub [1, 2, 3, 0] rfl (ih x2 x3 x5_16 S_14)
set_option maxRecDepth 100000 in
set_option maxHeartbeats 4000000 in
theorem p_X7_bestBrakes {Γ : GA} {E : EV} (C : Cx Γ E RX7 cX7_bestBrakes 6 5 (some .int)) (M : Mx Γ E) (x1 : Int32) (x2 : Int32) (x3 : Int32) (S : St) : G Γ E (QI Γ E) 6 0 [(0, .ref (gX Γ 0)), (1, .int x1), (2, .int x2), (3, .int x3)] [] S (f_X7_bestBrakes x1 x2 x3 S) := by
  rw [f_X7_bestBrakes]
  refine g_aload_n (pc := 0) C dX7_bestBrakes_0 0 rfl rfl ?_
  refine g_iload_n (pc := 1) C dX7_bestBrakes_1 1 rfl rfl ?_
  refine g_iload_n (pc := 2) C dX7_bestBrakes_2 2 rfl rfl ?_
  refine g_iload_n (pc := 3) C dX7_bestBrakes_3 3 rfl rfl ?_
  refine g_iconst (pc := 4) C (v := 0) dX7_bestBrakes_4 (by decide) ?_
  refine g_iconst (pc := 5) C (v := 4) dX7_bestBrakes_5 (by decide) ?_
  refine g_callSI (pc := 6) (As := [.int x3, .int 0, .int 4]) (st := [.int x2, .int x1, .ref (gX Γ 0)]) C ls_X7_137 (ct_X7_isWithin x3 0 4 S) (by decide) rfl rfl (Nat.le_of_ble_eq_true rfl) dX7_bestBrakes_6 (fun r_2 S_1 => ?_)
  refine g_callVI (pc := 9) (As := [.int x1, .int x2, .int r_2]) (st := []) C lv_X7_144 fo_0 rfl (ct_X7_refusalOfRun x1 x2 r_2 S_1) (by decide) rfl rfl (Nat.le_of_ble_eq_true rfl) dX7_bestBrakes_9 (fun r_4 S_3 => ?_)
  refine g_istore0 (pc := 12) C dX7_bestBrakes_12 (by decide) (lv' := [(4, .int r_4), (0, .ref (gX Γ 0)), (1, .int x1), (2, .int x2), (3, .int x3)]) rfl ?_
  refine g_iload (pc := 14) C dX7_bestBrakes_14 0 rfl ?_
  refine g_if_eq (pc := 16) C 22 dX7_bestBrakes_16 (by decide) ?_ ?_
  · refine g_aload_n (pc := 22) C dX7_bestBrakes_22 1 rfl rfl ?_
    refine g_getR (pc := 23) C lk_X7_49 fr_0_5 dX7_bestBrakes_23 ?_
    refine g_aload_n (pc := 26) C dX7_bestBrakes_26 1 rfl rfl ?_
    refine g_getR (pc := 27) C lk_X7_25 fr_0_2 dX7_bestBrakes_27 ?_
    refine g_iload_n (pc := 30) C dX7_bestBrakes_30 2 rfl rfl ?_
    refine g_aald (pc := 31) C aq_8 dX7_bestBrakes_31 (fun hj_5 => ?_)
    refine g_aload_n (pc := 32) C dX7_bestBrakes_32 1 rfl rfl ?_
    refine g_getI (pc := 33) C lk_X7_71 fi_0_10 dX7_bestBrakes_33 ?_
    refine g_callVV (pc := 36) (As := [.ref (gX Γ (9 + 3 * (x1 : Int32).toNatClampNeg)), .int (S_3 0 10)]) (st := []) C lv_X7_168 fo_44 rfl (ct_X6_mount _ hj_5 (S_3 0 10) S_3) (by decide) rfl rfl (Nat.le_of_ble_eq_true rfl) dX7_bestBrakes_36 (fun r_7 S_6 => ?_)
    refine g_aload_n (pc := 39) C dX7_bestBrakes_39 1 rfl rfl ?_
    refine g_getR (pc := 40) C lk_X7_56 fr_0_6 dX7_bestBrakes_40 ?_
    refine g_callVV (pc := 43) (As := []) (st := []) C lv_X7_172 fo_51 rfl (ct_X0_clear S_6) (by decide) rfl rfl (Nat.le_of_ble_eq_true rfl) dX7_bestBrakes_43 (fun r_9 S_8 => ?_)
    refine g_iconst (pc := 46) C (v := 0) dX7_bestBrakes_46 (by decide) ?_
    refine g_istore0 (pc := 47) C dX7_bestBrakes_47 (by decide) (lv' := [(5, .int 0), (4, .int r_4), (0, .ref (gX Γ 0)), (1, .int x1), (2, .int x2), (3, .int x3)]) rfl ?_
    exact g_sub [2, 4, 5, 0] rfl (p_X7_bestBrakes_l49 C M FU x2 x3 0 S_8)
  · refine g_iload (pc := 19) C dX7_bestBrakes_19 0 rfl ?_
    exact g_iret C M dX7_bestBrakes_21
theorem ct_X7_bestBrakes {Γ : GA} (x1 : Int32) (x2 : Int32) (x3 : Int32) (S : St) : CtI Γ yX7_bestBrakes cX7_bestBrakes 6 (some .int) 5 [.ref (gX Γ 0), .int x1, .int x2, .int x3] S (f_X7_bestBrakes x1 x2 x3 S) :=
  ctI_of (by decide) (Nat.le_of_ble_eq_true rfl) (fun _ C M => p_X7_bestBrakes C M x1 x2 x3 S)
set_option maxRecDepth 100000 in
set_option maxHeartbeats 4000000 in
theorem p_X7_bestPush_b131 {Γ : GA} {E : EV} (C : Cx Γ E RX7 cX7_bestPush 6 4 (some .int)) (M : Mx Γ E) (k67 : Int32 → Int32 → Int32 → St → Option (Int32 × St)) (hk67 : ∀ (x2 : Int32) (x3 : Int32) (x5 : Int32) (S : St), G Γ E (QI Γ E) 6 67 [(0, .ref (gX Γ 0)), (2, .int x2), (3, .int x3), (5, .int x5)] [] S (k67 x2 x3 x5 S)) (x2 : Int32) (x3 : Int32) (x5 : Int32) (S : St) : G Γ E (QI Γ E) 6 131 [(0, .ref (gX Γ 0)), (2, .int x2), (3, .int x3), (5, .int x5)] [] S (f_X7_bestPush_b131 k67 x2 x3 x5 S) := by
  rw [f_X7_bestPush_b131]
  refine g_iinc (pc := 131) C (v := 1) dX7_bestPush_131 3 rfl (by decide) (by decide) (fun x => [(5, .int x), (0, .ref (gX Γ 0)), (2, .int x2), (3, .int x3)]) (fun _ => rfl) (fun x5_16 => ?_)
  refine g_goto (pc := 134) C 67 dX7_bestPush_134 (by decide) ?_
  exact g_sub [1, 2, 3, 0] rfl (hk67 x2 x3 x5_16 S)
set_option maxRecDepth 100000 in
set_option maxHeartbeats 4000000 in
theorem p_X7_bestPush_l67 {Γ : GA} {E : EV} (C : Cx Γ E RX7 cX7_bestPush 6 4 (some .int)) (M : Mx Γ E) : ∀ (n : Nat) (x2 : Int32) (x3 : Int32) (x5 : Int32) (S : St), G Γ E (QI Γ E) 6 67 [(0, .ref (gX Γ 0)), (2, .int x2), (3, .int x3), (5, .int x5)] [] S (f_X7_bestPush_l67 n x2 x3 x5 S) := by
  intro n
  induction n with
  | zero => intro x2 x3 x5 S; exact g_none
  | succ n ih =>
    intro x2 x3 x5 S
    rw [f_X7_bestPush_l67]
    refine g_iload (pc := 67) C dX7_bestPush_67 3 rfl ?_
    refine g_bipush (pc := 69) C (v := 20) dX7_bestPush_69 (by decide) ?_
    refine g_icmp_gt (pc := 71) C 137 dX7_bestPush_71 (by decide) ?_ ?_
    · refine g_iload_n (pc := 137) C dX7_bestPush_137 2 rfl rfl ?_
      refine g_if_ne (pc := 138) C 151 dX7_bestPush_138 (by decide) ?_ ?_
      · refine g_aload_n (pc := 141) C dX7_bestPush_141 0 rfl rfl ?_
        refine g_getR (pc := 142) C lk_X7_56 fr_0_6 dX7_bestPush_142 ?_
        refine g_getI (pc := 145) C lk_X7_184 fi_51_1 dX7_bestPush_145 ?_
        refine g_goto (pc := 148) C 158 dX7_bestPush_148 (by decide) ?_
        exact g_iret C M dX7_bestPush_158
      · refine g_aload_n (pc := 151) C dX7_bestPush_151 0 rfl rfl ?_
        refine g_getR (pc := 152) C lk_X7_56 fr_0_6 dX7_bestPush_152 ?_
        refine g_getI (pc := 155) C lk_X7_178 fi_51_0 dX7_bestPush_155 ?_
        exact g_iret C M dX7_bestPush_158
    · refine g_aload_n (pc := 74) C dX7_bestPush_74 0 rfl rfl ?_
      refine g_getR (pc := 75) C lk_X7_49 fr_0_5 dX7_bestPush_75 ?_
      refine g_iload (pc := 78) C dX7_bestPush_78 3 rfl ?_
      refine g_iload_n (pc := 80) C dX7_bestPush_80 1 rfl rfl ?_
      refine g_imul (pc := 81) C dX7_bestPush_81 ?_
      refine g_bipush (pc := 82) C (v := 10) dX7_bestPush_82 (by decide) ?_
      refine g_imul (pc := 84) C dX7_bestPush_84 ?_
      refine g_aload_n (pc := 85) C dX7_bestPush_85 0 rfl rfl ?_
      refine g_getR (pc := 86) C lk_X7_49 fr_0_5 dX7_bestPush_86 ?_
      refine g_getI (pc := 89) C lk_X7_191 fi_44_6 dX7_bestPush_89 ?_
      refine g_callSI (pc := 92) (As := [.int ((x5 * x2) * 10), .int (S 44 6)]) (st := [.ref (gX Γ 44)]) C ls_X7_192 (ct_X7_by ((x5 * x2) * 10) (S 44 6) S) (by decide) rfl rfl (Nat.le_of_ble_eq_true rfl) dX7_bestPush_92 (fun r_11 S_10 => ?_)
      refine g_callVV (pc := 95) (As := [.int r_11]) (st := []) C lv_X7_195 fo_44 rfl (ct_X6_go r_11 S_10) (by decide) rfl rfl (Nat.le_of_ble_eq_true rfl) dX7_bestPush_95 (fun r_13 S_12 => ?_)
      refine g_aload_n (pc := 98) C dX7_bestPush_98 0 rfl rfl ?_
      refine g_getR (pc := 99) C lk_X7_49 fr_0_5 dX7_bestPush_99 ?_
      refine g_getI (pc := 102) C lk_X7_198 fi_44_8 dX7_bestPush_102 ?_
      refine g_if_ne (pc := 105) C 131 dX7_bestPush_105 (by decide) ?_ ?_
      · refine g_aload_n (pc := 108) C dX7_bestPush_108 0 rfl rfl ?_
        refine g_getR (pc := 109) C lk_X7_56 fr_0_6 dX7_bestPush_109 ?_
        refine g_aload_n (pc := 112) C dX7_bestPush_112 0 rfl rfl ?_
        refine g_getR (pc := 113) C lk_X7_49 fr_0_5 dX7_bestPush_113 ?_
        refine g_getI (pc := 116) C lk_X7_201 fi_44_10 dX7_bestPush_116 ?_
        refine g_bipush (pc := 119) C (v := 60) dX7_bestPush_119 (by decide) ?_
        refine g_iload (pc := 121) C dX7_bestPush_121 3 rfl ?_
        refine g_imul (pc := 123) C dX7_bestPush_123 ?_
        refine g_iadd (pc := 124) C dX7_bestPush_124 ?_
        refine g_iload (pc := 125) C dX7_bestPush_125 3 rfl ?_
        refine g_callVI (pc := 127) (As := [.int ((S_12 44 10) + (60 * x5)), .int x5]) (st := []) C lv_X7_202 fo_51 rfl (ct_X0_offer ((S_12 44 10) + (60 * x5)) x5 S_12) (by decide) rfl rfl (Nat.le_of_ble_eq_true rfl) dX7_bestPush_127 (fun r_15 S_14 => ?_)
        refine g_pop (pc := 130) C dX7_bestPush_130 rfl ?_
        exact g_sub [0, 1, 2, 3] rfl (p_X7_bestPush_b131 C M (f_X7_bestPush_l67 n) ih x2 x3 x5 S_14)
      · exact g_sub [0, 1, 2, 3] rfl (p_X7_bestPush_b131 C M (f_X7_bestPush_l67 n) ih x2 x3 x5 S_12)
set_option maxRecDepth 100000 in
set_option maxHeartbeats 4000000 in
theorem p_X7_bestPush_b27 {Γ : GA} {E : EV} (C : Cx Γ E RX7 cX7_bestPush 6 4 (some .int)) (M : Mx Γ E) (x1 : Int32) (x2 : Int32) (x3 : Int32) (s0 : Int32) (s1 : Int32) (s2 : Int32) (S : St) : G Γ E (QI Γ E) 6 27 [(0, .ref (gX Γ 0)), (1, .int x1), (2, .int x2), (3, .int x3)] [.int s0, .int s1, .int s2, .ref (gX Γ 0)] S (f_X7_bestPush_b27 x1 x2 x3 s0 s1 s2 S) := by
  rw [f_X7_bestPush_b27]
  refine g_callVI (pc := 27) (As := [.int s2, .int s1, .int s0]) (st := []) C lv_X7_144 fo_0 rfl (ct_X7_refusalOfRun s2 s1 s0 S) (by decide) rfl rfl (Nat.le_of_ble_eq_true rfl) dX7_bestPush_27 (fun r_4 S_3 => ?_)
  refine g_istore0 (pc := 30) C dX7_bestPush_30 (by decide) (lv' := [(4, .int r_4), (0, .ref (gX Γ 0)), (1, .int x1), (2, .int x2), (3, .int x3)]) rfl ?_
  refine g_iload (pc := 32) C dX7_bestPush_32 0 rfl ?_
  refine g_if_eq (pc := 34) C 40 dX7_bestPush_34 (by decide) ?_ ?_
  · refine g_aload_n (pc := 40) C dX7_bestPush_40 1 rfl rfl ?_
    refine g_getR (pc := 41) C lk_X7_49 fr_0_5 dX7_bestPush_41 ?_
    refine g_aload_n (pc := 44) C dX7_bestPush_44 1 rfl rfl ?_
    refine g_getR (pc := 45) C lk_X7_25 fr_0_2 dX7_bestPush_45 ?_
    refine g_iload_n (pc := 48) C dX7_bestPush_48 2 rfl rfl ?_
    refine g_aald (pc := 49) C aq_8 dX7_bestPush_49 (fun hj_5 => ?_)
    refine g_aload_n (pc := 50) C dX7_bestPush_50 1 rfl rfl ?_
    refine g_getI (pc := 51) C lk_X7_71 fi_0_10 dX7_bestPush_51 ?_
    refine g_callVV (pc := 54) (As := [.ref (gX Γ (9 + 3 * (x1 : Int32).toNatClampNeg)), .int (S_3 0 10)]) (st := []) C lv_X7_168 fo_44 rfl (ct_X6_mount _ hj_5 (S_3 0 10) S_3) (by decide) rfl rfl (Nat.le_of_ble_eq_true rfl) dX7_bestPush_54 (fun r_7 S_6 => ?_)
    refine g_aload_n (pc := 57) C dX7_bestPush_57 1 rfl rfl ?_
    refine g_getR (pc := 58) C lk_X7_56 fr_0_6 dX7_bestPush_58 ?_
    refine g_callVV (pc := 61) (As := []) (st := []) C lv_X7_172 fo_51 rfl (ct_X0_clear S_6) (by decide) rfl rfl (Nat.le_of_ble_eq_true rfl) dX7_bestPush_61 (fun r_9 S_8 => ?_)
    refine g_iconst (pc := 64) C (v := 0) dX7_bestPush_64 (by decide) ?_
    refine g_istore0 (pc := 65) C dX7_bestPush_65 (by decide) (lv' := [(5, .int 0), (4, .int r_4), (0, .ref (gX Γ 0)), (1, .int x1), (2, .int x2), (3, .int x3)]) rfl ?_
    exact g_sub [2, 4, 5, 0] rfl (p_X7_bestPush_l67 C M FU x2 x3 0 S_8)
  · refine g_iload (pc := 37) C dX7_bestPush_37 0 rfl ?_
    exact g_iret C M dX7_bestPush_39
set_option maxRecDepth 100000 in
set_option maxHeartbeats 4000000 in
theorem p_X7_bestPush_b26 {Γ : GA} {E : EV} (C : Cx Γ E RX7 cX7_bestPush 6 4 (some .int)) (M : Mx Γ E) (x1 : Int32) (x2 : Int32) (x3 : Int32) (s0 : Int32) (s1 : Int32) (S : St) : G Γ E (QI Γ E) 6 26 [(0, .ref (gX Γ 0)), (1, .int x1), (2, .int x2), (3, .int x3)] [.int s0, .int s1, .ref (gX Γ 0)] S (f_X7_bestPush_b26 x1 x2 x3 s0 s1 S) := by
  rw [f_X7_bestPush_b26]
  refine g_iconst (pc := 26) C (v := 0) dX7_bestPush_26 (by decide) ?_
  exact g_sub [0, 1, 2, 3] rfl (p_X7_bestPush_b27 C M x1 x2 x3 0 s0 s1 S)
set_option maxRecDepth 100000 in
set_option maxHeartbeats 4000000 in
theorem p_X7_bestPush {Γ : GA} {E : EV} (C : Cx Γ E RX7 cX7_bestPush 6 4 (some .int)) (M : Mx Γ E) (x1 : Int32) (x2 : Int32) (x3 : Int32) (S : St) : G Γ E (QI Γ E) 6 0 [(0, .ref (gX Γ 0)), (1, .int x1), (2, .int x2), (3, .int x3)] [] S (f_X7_bestPush x1 x2 x3 S) := by
  rw [f_X7_bestPush]
  refine g_aload_n (pc := 0) C dX7_bestPush_0 0 rfl rfl ?_
  refine g_iload_n (pc := 1) C dX7_bestPush_1 1 rfl rfl ?_
  refine g_iconst (pc := 2) C (v := 0) dX7_bestPush_2 (by decide) ?_
  refine g_iload_n (pc := 3) C dX7_bestPush_3 2 rfl rfl ?_
  refine g_iconst (pc := 4) C (v := 1) dX7_bestPush_4 (by decide) ?_
  refine g_bipush (pc := 5) C (v := 99) dX7_bestPush_5 (by decide) ?_
  refine g_callSI (pc := 7) (As := [.int x2, .int 1, .int 99]) (st := [.int 0, .int x1, .ref (gX Γ 0)]) C ls_X7_137 (ct_X7_isWithin x2 1 99 S) (by decide) rfl rfl (Nat.le_of_ble_eq_true rfl) dX7_bestPush_7 (fun r_2 S_1 => ?_)
  refine g_if_eq (pc := 10) C 26 dX7_bestPush_10 (by decide) ?_ ?_
  · exact g_sub [0, 1, 2, 3] rfl (p_X7_bestPush_b26 C M x1 x2 x3 0 x1 S_1)
  · refine g_iload_n (pc := 13) C dX7_bestPush_13 3 rfl rfl ?_
    refine g_iconst (pc := 14) C (v := 0) dX7_bestPush_14 (by decide) ?_
    refine g_iconst (pc := 15) C (v := 1) dX7_bestPush_15 (by decide) ?_
    refine g_callSI (pc := 16) (As := [.int x3, .int 0, .int 1]) (st := [.int 0, .int x1, .ref (gX Γ 0)]) C ls_X7_137 (ct_X7_isWithin x3 0 1 S_1) (by decide) rfl rfl (Nat.le_of_ble_eq_true rfl) dX7_bestPush_16 (fun r_18 S_17 => ?_)
    refine g_if_eq (pc := 19) C 26 dX7_bestPush_19 (by decide) ?_ ?_
    · exact g_sub [0, 1, 2, 3] rfl (p_X7_bestPush_b26 C M x1 x2 x3 0 x1 S_17)
    · refine g_iconst (pc := 22) C (v := 1) dX7_bestPush_22 (by decide) ?_
      refine g_goto (pc := 23) C 27 dX7_bestPush_23 (by decide) ?_
      exact g_sub [0, 1, 2, 3] rfl (p_X7_bestPush_b27 C M x1 x2 x3 1 0 x1 S_17)
theorem ct_X7_bestPush {Γ : GA} (x1 : Int32) (x2 : Int32) (x3 : Int32) (S : St) : CtI Γ yX7_bestPush cX7_bestPush 6 (some .int) 4 [.ref (gX Γ 0), .int x1, .int x2, .int x3] S (f_X7_bestPush x1 x2 x3 S) :=
  ctI_of (by decide) (Nat.le_of_ble_eq_true rfl) (fun _ C M => p_X7_bestPush C M x1 x2 x3 S)
set_option maxRecDepth 100000 in
set_option maxHeartbeats 4000000 in
theorem p_X6_spendNext_b74 {Γ : GA} {E : EV} (C : Cx Γ E RX6 cX6_spendNext 4 0 (some .boolean)) (M : Mx Γ E) (k34 : Int32 → Int32 → Int32 → St → Option (Int32 × St)) (hk34 : ∀ (x1 : Int32) (x2 : Int32) (x3 : Int32) (S : St), G Γ E (QI Γ E) 4 34 [(0, .ref (gX Γ 44)), (1, .int x1), (2, .int x2), (3, .int x3)] [] S (k34 x1 x2 x3 S)) (x1 : Int32) (x2 : Int32) (x3 : Int32) (S : St) : G Γ E (QI Γ E) 4 74 [(0, .ref (gX Γ 44)), (1, .int x1), (2, .int x2), (3, .int x3)] [] S (f_X6_spendNext_b74 k34 x1 x2 x3 S) := by
  rw [f_X6_spendNext_b74]
  refine g_iload_n (pc := 74) C dX6_spendNext_74 2 rfl rfl ?_
  refine g_aload_n (pc := 75) C dX6_spendNext_75 0 rfl rfl ?_
  refine g_getR (pc := 76) C lk_X6_18 fr_44_3 dX6_spendNext_76 ?_
  refine g_iload_n (pc := 79) C dX6_spendNext_79 3 rfl rfl ?_
  refine g_iald (pc := 80) C ai_47 dX6_spendNext_80 ?_
  refine g_isub (pc := 81) C dX6_spendNext_81 ?_
  refine g_istore_n (pc := 82) C dX6_spendNext_82 rfl (by decide) (fun x => [(2, .int x), (0, .ref (gX Γ 44)), (1, .int x1), (3, .int x3)]) (fun _ => rfl) (fun x2_2 => ?_)
  refine g_aload_n (pc := 83) C dX6_spendNext_83 1 rfl rfl ?_
  refine g_getR (pc := 84) C lk_X6_15 fr_44_2 dX6_spendNext_84 ?_
  refine g_iload_n (pc := 87) C dX6_spendNext_87 3 rfl rfl ?_
  refine g_dup2 (pc := 88) C dX6_spendNext_88 rfl rfl ?_
  refine g_iald (pc := 89) C ai_46 dX6_spendNext_89 ?_
  refine g_aload_n (pc := 90) C dX6_spendNext_90 1 rfl rfl ?_
  refine g_getR (pc := 91) C lk_X6_18 fr_44_3 dX6_spendNext_91 ?_
  refine g_iload_n (pc := 94) C dX6_spendNext_94 3 rfl rfl ?_
  refine g_iald (pc := 95) C ai_47 dX6_spendNext_95 ?_
  refine g_iadd (pc := 96) C dX6_spendNext_96 ?_
  refine g_iast (pc := 97) C ai_46 dX6_spendNext_97 (fun S_3 => ?_)
  refine g_aload_n (pc := 98) C dX6_spendNext_98 1 rfl rfl ?_
  refine g_getR (pc := 99) C lk_X6_18 fr_44_3 dX6_spendNext_99 ?_
  refine g_iload_n (pc := 102) C dX6_spendNext_102 3 rfl rfl ?_
  refine g_iconst (pc := 103) C (v := 0) dX6_spendNext_103 (by decide) ?_
  refine g_iast (pc := 104) C ai_47 dX6_spendNext_104 (fun S_4 => ?_)
  refine g_iinc (pc := 105) C (v := (-1)) dX6_spendNext_105 3 rfl (by decide) (by decide) (fun x => [(3, .int x), (2, .int x2_2), (0, .ref (gX Γ 44)), (1, .int x1)]) (fun _ => rfl) (fun x3_5 => ?_)
  refine g_goto (pc := 108) C 34 dX6_spendNext_108 (by decide) ?_
  exact g_sub [2, 3, 1, 0] rfl (hk34 x1 x2_2 x3_5 S_4)
set_option maxRecDepth 100000 in
set_option maxHeartbeats 4000000 in
theorem p_X6_spendNext_l34 {Γ : GA} {E : EV} (C : Cx Γ E RX6 cX6_spendNext 4 0 (some .boolean)) (M : Mx Γ E) : ∀ (n : Nat) (x1 : Int32) (x2 : Int32) (x3 : Int32) (S : St), G Γ E (QI Γ E) 4 34 [(0, .ref (gX Γ 44)), (1, .int x1), (2, .int x2), (3, .int x3)] [] S (f_X6_spendNext_l34 n x1 x2 x3 S) := by
  intro n
  induction n with
  | zero => intro x1 x2 x3 S; exact g_none
  | succ n ih =>
    intro x1 x2 x3 S
    rw [f_X6_spendNext_l34]
    refine g_iload_n (pc := 34) C dX6_spendNext_34 3 rfl rfl ?_
    refine g_if_lt (pc := 35) C 111 dX6_spendNext_35 (by decide) ?_ ?_
    · refine g_iconst (pc := 111) C (v := 0) dX6_spendNext_111 (by decide) ?_
      exact g_zret1 C M rfl dX6_spendNext_112
    · refine g_iload_n (pc := 38) C dX6_spendNext_38 2 rfl rfl ?_
      refine g_iload_n (pc := 39) C dX6_spendNext_39 1 rfl rfl ?_
      refine g_icmp_ge (pc := 40) C 74 dX6_spendNext_40 (by decide) ?_ ?_
      · exact g_sub [0, 1, 2, 3] rfl (p_X6_spendNext_b74 C M (f_X6_spendNext_l34 n) ih x1 x2 x3 S)
      · refine g_aload_n (pc := 43) C dX6_spendNext_43 0 rfl rfl ?_
        refine g_getR (pc := 44) C lk_X6_15 fr_44_2 dX6_spendNext_44 ?_
        refine g_iload_n (pc := 47) C dX6_spendNext_47 3 rfl rfl ?_
        refine g_iald (pc := 48) C ai_46 dX6_spendNext_48 ?_
        refine g_if_le (pc := 49) C 74 dX6_spendNext_49 (by decide) ?_ ?_
        · exact g_sub [0, 1, 2, 3] rfl (p_X6_spendNext_b74 C M (f_X6_spendNext_l34 n) ih x1 x2 x3 S)
        · refine g_aload_n (pc := 52) C dX6_spendNext_52 0 rfl rfl ?_
          refine g_getR (pc := 53) C lk_X6_18 fr_44_3 dX6_spendNext_53 ?_
          refine g_iload_n (pc := 56) C dX6_spendNext_56 3 rfl rfl ?_
          refine g_dup2 (pc := 57) C dX6_spendNext_57 rfl rfl ?_
          refine g_iald (pc := 58) C ai_47 dX6_spendNext_58 ?_
          refine g_iconst (pc := 59) C (v := 1) dX6_spendNext_59 (by decide) ?_
          refine g_iadd (pc := 60) C dX6_spendNext_60 ?_
          refine g_iast (pc := 61) C ai_47 dX6_spendNext_61 (fun S_6 => ?_)
          refine g_aload_n (pc := 62) C dX6_spendNext_62 0 rfl rfl ?_
          refine g_getR (pc := 63) C lk_X6_15 fr_44_2 dX6_spendNext_63 ?_
          refine g_iload_n (pc := 66) C dX6_spendNext_66 3 rfl rfl ?_
          refine g_dup2 (pc := 67) C dX6_spendNext_67 rfl rfl ?_
          refine g_iald (pc := 68) C ai_46 dX6_spendNext_68 ?_
          refine g_iconst (pc := 69) C (v := 1) dX6_spendNext_69 (by decide) ?_
          refine g_isub (pc := 70) C dX6_spendNext_70 ?_
          refine g_iast (pc := 71) C ai_46 dX6_spendNext_71 (fun S_7 => ?_)
          refine g_iconst (pc := 72) C (v := 1) dX6_spendNext_72 (by decide) ?_
          exact g_zret1 C M rfl dX6_spendNext_73
set_option maxRecDepth 100000 in
set_option maxHeartbeats 4000000 in
theorem p_X6_spendNext_l4 {Γ : GA} {E : EV} (C : Cx Γ E RX6 cX6_spendNext 4 0 (some .boolean)) (M : Mx Γ E) : ∀ (n : Nat) (x1 : Int32) (x2 : Int32) (x3 : Int32) (S : St), G Γ E (QI Γ E) 4 4 [(0, .ref (gX Γ 44)), (1, .int x1), (2, .int x2), (3, .int x3)] [] S (f_X6_spendNext_l4 n x1 x2 x3 S) := by
  intro n
  induction n with
  | zero => intro x1 x2 x3 S; exact g_none
  | succ n ih =>
    intro x1 x2 x3 S
    rw [f_X6_spendNext_l4]
    refine g_iload_n (pc := 4) C dX6_spendNext_4 3 rfl rfl ?_
    refine g_aload_n (pc := 5) C dX6_spendNext_5 0 rfl rfl ?_
    refine g_getI (pc := 6) C lk_X6_24 fi_44_5 dX6_spendNext_6 ?_
    refine g_icmp_ge (pc := 9) C 27 dX6_spendNext_9 (by decide) ?_ ?_
    · refine g_aload_n (pc := 27) C dX6_spendNext_27 0 rfl rfl ?_
      refine g_getI (pc := 28) C lk_X6_24 fi_44_5 dX6_spendNext_28 ?_
      refine g_iconst (pc := 31) C (v := 1) dX6_spendNext_31 (by decide) ?_
      refine g_isub (pc := 32) C dX6_spendNext_32 ?_
      refine g_istore_n (pc := 33) C dX6_spendNext_33 rfl (by decide) (fun x => [(3, .int x), (0, .ref (gX Γ 44)), (1, .int x1), (2, .int x2)]) (fun _ => rfl) (fun x3_1 => ?_)
      exact g_sub [1, 2, 3, 0] rfl (p_X6_spendNext_l34 C M FU x1 x2 x3_1 S)
    · refine g_iload_n (pc := 12) C dX6_spendNext_12 2 rfl rfl ?_
      refine g_aload_n (pc := 13) C dX6_spendNext_13 0 rfl rfl ?_
      refine g_getR (pc := 14) C lk_X6_18 fr_44_3 dX6_spendNext_14 ?_
      refine g_iload_n (pc := 17) C dX6_spendNext_17 3 rfl rfl ?_
      refine g_iald (pc := 18) C ai_47 dX6_spendNext_18 ?_
      refine g_iadd (pc := 19) C dX6_spendNext_19 ?_
      refine g_istore_n (pc := 20) C dX6_spendNext_20 rfl (by decide) (fun x => [(2, .int x), (0, .ref (gX Γ 44)), (1, .int x1), (3, .int x3)]) (fun _ => rfl) (fun x2_8 => ?_)
      refine g_iinc (pc := 21) C (v := 1) dX6_spendNext_21 3 rfl (by decide) (by decide) (fun x => [(3, .int x), (2, .int x2_8), (0, .ref (gX Γ 44)), (1, .int x1)]) (fun _ => rfl) (fun x3_9 => ?_)
      refine g_goto (pc := 24) C 4 dX6_spendNext_24 (by decide) ?_
      exact g_sub [2, 3, 1, 0] rfl (ih x1 x2_8 x3_9 S)
set_option maxRecDepth 100000 in
set_option maxHeartbeats 4000000 in
theorem p_X6_spendNext {Γ : GA} {E : EV} (C : Cx Γ E RX6 cX6_spendNext 4 0 (some .boolean)) (M : Mx Γ E) (x1 : Int32) (S : St) : G Γ E (QI Γ E) 4 0 [(0, .ref (gX Γ 44)), (1, .int x1)] [] S (f_X6_spendNext x1 S) := by
  rw [f_X6_spendNext]
  refine g_iconst (pc := 0) C (v := 0) dX6_spendNext_0 (by decide) ?_
  refine g_istore_n0 (pc := 1) C dX6_spendNext_1 rfl (by decide) (lv' := [(2, .int 0), (0, .ref (gX Γ 44)), (1, .int x1)]) rfl ?_
  refine g_iconst (pc := 2) C (v := 0) dX6_spendNext_2 (by decide) ?_
  refine g_istore_n0 (pc := 3) C dX6_spendNext_3 rfl (by decide) (lv' := [(3, .int 0), (2, .int 0), (0, .ref (gX Γ 44)), (1, .int x1)]) rfl ?_
  exact g_sub [2, 3, 1, 0] rfl (p_X6_spendNext_l4 C M FU x1 0 0 S)
theorem ct_X6_spendNext {Γ : GA} (x1 : Int32) (S : St) : CtI Γ yX6_spendNext cX6_spendNext 4 (some .boolean) 0 [.ref (gX Γ 44), .int x1] S (f_X6_spendNext x1 S) :=
  ctI_of (by decide) (Nat.le_of_ble_eq_true rfl) (fun _ C M => p_X6_spendNext C M x1 S)
set_option maxRecDepth 100000 in
set_option maxHeartbeats 4000000 in
theorem p_X0_keepRow {Γ : GA} {E : EV} (C : Cx Γ E RX0 cX0_keepRow 2 1 none) (M : Mx Γ E) (S : St) : G Γ E (QV Γ E) 2 0 [(0, .ref (gX Γ 51)), (1, .ref (gX Γ 47))] [] S (f_X0_keepRow S) := by
  rw [f_X0_keepRow]
  refine g_aload_n (pc := 0) C dX0_keepRow_0 1 rfl rfl ?_
  refine g_iconst (pc := 1) C (v := 0) dX0_keepRow_1 (by decide) ?_
  refine g_aload_n (pc := 2) C dX0_keepRow_2 0 rfl rfl ?_
  refine g_getR (pc := 3) C lk_X0_18 fr_51_2 dX0_keepRow_3 ?_
  refine g_iconst (pc := 6) C (v := 0) dX0_keepRow_6 (by decide) ?_
  refine g_iconst (pc := 7) C (v := 5) dX0_keepRow_7 (by decide) ?_
  refine g_copy (pc := 8) C ai_47 ai_52 kw_X0_22 kw_ac1 kw_ac2 kw_ac3 (by decide) (by decide) (by decide) (by decide) (by decide) (Nat.le_of_ble_eq_true rfl) dX0_keepRow_8 (fun S_1 => ?_)
  exact g_vret C M dX0_keepRow_11
theorem ct_X0_keepRow {Γ : GA} (S : St) : CtV Γ yX0_keepRow cX0_keepRow 2 none 1 [.ref (gX Γ 51), .ref (gX Γ 47)] S (f_X0_keepRow S) :=
  ctV_of (by decide) (Nat.le_of_ble_eq_true rfl) (fun _ C M => p_X0_keepRow C M  S)
set_option maxRecDepth 100000 in
set_option maxHeartbeats 4000000 in
theorem p_X7_work_b167 {Γ : GA} {E : EV} (C : Cx Γ E RX7 cX7_work 8 4 (some .int)) (M : Mx Γ E) (S : St) : G Γ E (QI Γ E) 8 167 [(0, .ref (gX Γ 0))] [] S (f_X7_work_b167 S) := by
  rw [f_X7_work_b167]
  refine g_aload_n (pc := 167) C dX7_work_167 0 rfl rfl ?_
  refine g_getR (pc := 168) C lk_X7_56 fr_0_6 dX7_work_168 ?_
  refine g_getI (pc := 171) C lk_X7_178 fi_51_0 dX7_work_171 ?_
  exact g_iret C M dX7_work_174
set_option maxRecDepth 100000 in
set_option maxHeartbeats 4000000 in
theorem p_X7_work_b151 {Γ : GA} {E : EV} (C : Cx Γ E RX7 cX7_work 8 4 (some .int)) (M : Mx Γ E) (x4 : Int32) (S : St) : G Γ E (QI Γ E) 8 151 [(0, .ref (gX Γ 0)), (4, .int x4)] [] S (f_X7_work_b151 x4 S) := by
  rw [f_X7_work_b151]
  refine g_iload (pc := 151) C dX7_work_151 1 rfl ?_
  refine g_if_eq (pc := 153) C 167 dX7_work_153 (by decide) ?_ ?_
  · exact g_sub [0] rfl (p_X7_work_b167 C M S)
  · refine g_aload_n (pc := 156) C dX7_work_156 0 rfl rfl ?_
    refine g_getR (pc := 157) C lk_X7_56 fr_0_6 dX7_work_157 ?_
    refine g_getI (pc := 160) C lk_X7_178 fi_51_0 dX7_work_160 ?_
    refine g_iconst (pc := 163) C (v := (-1)) dX7_work_163 (by decide) ?_
    refine g_icmp_ne (pc := 164) C 175 dX7_work_164 (by decide) ?_ ?_
    · exact g_sub [0] rfl (p_X7_work_b167 C M S)
    · refine g_iload (pc := 175) C dX7_work_175 1 rfl ?_
      refine g_aload_n (pc := 177) C dX7_work_177 0 rfl rfl ?_
      refine g_getR (pc := 178) C lk_X7_49 fr_0_5 dX7_work_178 ?_
      refine g_getI (pc := 181) C lk_X7_215 fi_44_5 dX7_work_181 ?_
      refine g_icmp_gt (pc := 184) C 202 dX7_work_184 (by decide) ?_ ?_
      · refine g_iconst (pc := 202) C (v := (-1)) dX7_work_202 (by decide) ?_
        exact g_iret C M dX7_work_203
      · refine g_aload_n (pc := 187) C dX7_work_187 0 rfl rfl ?_
        refine g_getR (pc := 188) C lk_X7_56 fr_0_6 dX7_work_188 ?_
        refine g_getR (pc := 191) C lk_X7_216 fr_51_2 dX7_work_191 ?_
        refine g_iload (pc := 194) C dX7_work_194 1 rfl ?_
        refine g_iconst (pc := 196) C (v := 1) dX7_work_196 (by decide) ?_
        refine g_isub (pc := 197) C dX7_work_197 ?_
        refine g_iald (pc := 198) C ai_52 dX7_work_198 ?_
        refine g_goto (pc := 199) C 203 dX7_work_199 (by decide) ?_
        exact g_iret C M dX7_work_203
set_option maxRecDepth 100000 in
set_option maxHeartbeats 4000000 in
theorem p_X7_work_b135 {Γ : GA} {E : EV} (C : Cx Γ E RX7 cX7_work 8 4 (some .int)) (M : Mx Γ E) (k71 : Int32 → Int32 → Int32 → Int32 → Int32 → St → Option (Int32 × St)) (hk71 : ∀ (x2 : Int32) (x3 : Int32) (x4 : Int32) (x6 : Int32) (x7 : Int32) (S : St), G Γ E (QI Γ E) 8 71 [(0, .ref (gX Γ 0)), (2, .int x2), (3, .int x3), (4, .int x4), (6, .int x6), (7, .int x7)] [] S (k71 x2 x3 x4 x6 x7 S)) (x2 : Int32) (x3 : Int32) (x4 : Int32) (x7 : Int32) (S : St) : G Γ E (QI Γ E) 8 135 [(0, .ref (gX Γ 0)), (2, .int x2), (3, .int x3), (4, .int x4), (7, .int x7)] [] S (f_X7_work_b135 k71 x2 x3 x4 x7 S) := by
  rw [f_X7_work_b135]
  refine g_aload_n (pc := 135) C dX7_work_135 0 rfl rfl ?_
  refine g_getR (pc := 136) C lk_X7_49 fr_0_5 dX7_work_136 ?_
  refine g_iload_n (pc := 139) C dX7_work_139 2 rfl rfl ?_
  refine g_callVI (pc := 140) (As := [.int x3]) (st := []) C lv_X7_212 fo_44 rfl (ct_X6_spendNext x3 S) (by decide) rfl rfl (Nat.le_of_ble_eq_true rfl) dX7_work_140 (fun r_15 S_14 => ?_)
  refine g_istore0 (pc := 143) C dX7_work_143 (by decide) (lv' := [(6, .int r_15), (0, .ref (gX Γ 0)), (2, .int x2), (3, .int x3), (4, .int x4), (7, .int x7)]) rfl ?_
  refine g_iinc (pc := 145) C (v := 1) dX7_work_145 5 rfl (by decide) (by decide) (fun x => [(7, .int x), (6, .int r_15), (0, .ref (gX Γ 0)), (2, .int x2), (3, .int x3), (4, .int x4)]) (fun _ => rfl) (fun x7_16 => ?_)
  refine g_goto (pc := 148) C 71 dX7_work_148 (by decide) ?_
  exact g_sub [2, 3, 4, 5, 1, 0] rfl (hk71 x2 x3 x4 r_15 x7_16 S_14)
set_option maxRecDepth 100000 in
set_option maxHeartbeats 4000000 in
theorem p_X7_work_l71 {Γ : GA} {E : EV} (C : Cx Γ E RX7 cX7_work 8 4 (some .int)) (M : Mx Γ E) : ∀ (n : Nat) (x2 : Int32) (x3 : Int32) (x4 : Int32) (x6 : Int32) (x7 : Int32) (S : St), G Γ E (QI Γ E) 8 71 [(0, .ref (gX Γ 0)), (2, .int x2), (3, .int x3), (4, .int x4), (6, .int x6), (7, .int x7)] [] S (f_X7_work_l71 n x2 x3 x4 x6 x7 S) := by
  intro n
  induction n with
  | zero => intro x2 x3 x4 x6 x7 S; exact g_none
  | succ n ih =>
    intro x2 x3 x4 x6 x7 S
    rw [f_X7_work_l71]
    refine g_iload (pc := 71) C dX7_work_71 4 rfl ?_
    refine g_if_eq (pc := 73) C 151 dX7_work_73 (by decide) ?_ ?_
    · exact g_sub [0, 3] rfl (p_X7_work_b151 C M x4 S)
    · refine g_iload (pc := 76) C dX7_work_76 5 rfl ?_
      refine g_sipush (pc := 78) C (v := 1000) dX7_work_78 (by decide) ?_
      refine g_icmp_ge (pc := 81) C 151 dX7_work_81 (by decide) ?_ ?_
      · exact g_sub [0, 3] rfl (p_X7_work_b151 C M x4 S)
      · refine g_aload_n (pc := 84) C dX7_work_84 0 rfl rfl ?_
        refine g_getR (pc := 85) C lk_X7_49 fr_0_5 dX7_work_85 ?_
        refine g_iload_n (pc := 88) C dX7_work_88 1 rfl rfl ?_
        refine g_callVV (pc := 89) (As := [.int x2]) (st := []) C lv_X7_195 fo_44 rfl (ct_X6_go x2 S) (by decide) rfl rfl (Nat.le_of_ble_eq_true rfl) dX7_work_89 (fun r_11 S_10 => ?_)
        refine g_aload_n (pc := 92) C dX7_work_92 0 rfl rfl ?_
        refine g_getR (pc := 93) C lk_X7_49 fr_0_5 dX7_work_93 ?_
        refine g_getI (pc := 96) C lk_X7_198 fi_44_8 dX7_work_96 ?_
        refine g_if_ne (pc := 99) C 135 dX7_work_99 (by decide) ?_ ?_
        · refine g_aload_n (pc := 102) C dX7_work_102 0 rfl rfl ?_
          refine g_getR (pc := 103) C lk_X7_56 fr_0_6 dX7_work_103 ?_
          refine g_aload_n (pc := 106) C dX7_work_106 0 rfl rfl ?_
          refine g_getR (pc := 107) C lk_X7_49 fr_0_5 dX7_work_107 ?_
          refine g_getI (pc := 110) C lk_X7_201 fi_44_10 dX7_work_110 ?_
          refine g_iload (pc := 113) C dX7_work_113 5 rfl ?_
          refine g_callVI (pc := 115) (As := [.int (S_10 44 10), .int x7]) (st := []) C lv_X7_202 fo_51 rfl (ct_X0_offer (S_10 44 10) x7 S_10) (by decide) rfl rfl (Nat.le_of_ble_eq_true rfl) dX7_work_115 (fun r_13 S_12 => ?_)
          refine g_if_eq (pc := 118) C 135 dX7_work_118 (by decide) ?_ ?_
          · exact g_sub [0, 1, 2, 3, 5] rfl (p_X7_work_b135 C M (f_X7_work_l71 n) ih x2 x3 x4 x7 S_12)
          · refine g_aload_n (pc := 121) C dX7_work_121 0 rfl rfl ?_
            refine g_getR (pc := 122) C lk_X7_56 fr_0_6 dX7_work_122 ?_
            refine g_aload_n (pc := 125) C dX7_work_125 0 rfl rfl ?_
            refine g_getR (pc := 126) C lk_X7_49 fr_0_5 dX7_work_126 ?_
            refine g_getR (pc := 129) C lk_X7_205 fr_44_3 dX7_work_129 ?_
            refine g_callVV (pc := 132) (As := [.ref (gX Γ 47)]) (st := []) C lv_X7_208 fo_51 rfl (ct_X0_keepRow S_12) (by decide) rfl rfl (Nat.le_of_ble_eq_true rfl) dX7_work_132 (fun r_18 S_17 => ?_)
            exact g_sub [0, 1, 2, 3, 5] rfl (p_X7_work_b135 C M (f_X7_work_l71 n) ih x2 x3 x4 x7 S_17)
        · exact g_sub [0, 1, 2, 3, 5] rfl (p_X7_work_b135 C M (f_X7_work_l71 n) ih x2 x3 x4 x7 S_10)
set_option maxRecDepth 100000 in
set_option maxHeartbeats 4000000 in
theorem p_X7_work_b28 {Γ : GA} {E : EV} (C : Cx Γ E RX7 cX7_work 8 4 (some .int)) (M : Mx Γ E) (x1 : Int32) (x2 : Int32) (x3 : Int32) (x4 : Int32) (s0 : Int32) (s1 : Int32) (s2 : Int32) (S : St) : G Γ E (QI Γ E) 8 28 [(0, .ref (gX Γ 0)), (1, .int x1), (2, .int x2), (3, .int x3), (4, .int x4)] [.int s0, .int s1, .int s2, .ref (gX Γ 0)] S (f_X7_work_b28 x1 x2 x3 x4 s0 s1 s2 S) := by
  rw [f_X7_work_b28]
  refine g_callVI (pc := 28) (As := [.int s2, .int s1, .int s0]) (st := []) C lv_X7_144 fo_0 rfl (ct_X7_refusalOfRun s2 s1 s0 S) (by decide) rfl rfl (Nat.le_of_ble_eq_true rfl) dX7_work_28 (fun r_4 S_3 => ?_)
  refine g_istore0 (pc := 31) C dX7_work_31 (by decide) (lv' := [(5, .int r_4), (0, .ref (gX Γ 0)), (1, .int x1), (2, .int x2), (3, .int x3), (4, .int x4)]) rfl ?_
  refine g_iload (pc := 33) C dX7_work_33 0 rfl ?_
  refine g_if_eq (pc := 35) C 41 dX7_work_35 (by decide) ?_ ?_
  · refine g_aload_n (pc := 41) C dX7_work_41 1 rfl rfl ?_
    refine g_getR (pc := 42) C lk_X7_49 fr_0_5 dX7_work_42 ?_
    refine g_aload_n (pc := 45) C dX7_work_45 1 rfl rfl ?_
    refine g_getR (pc := 46) C lk_X7_25 fr_0_2 dX7_work_46 ?_
    refine g_iload_n (pc := 49) C dX7_work_49 2 rfl rfl ?_
    refine g_aald (pc := 50) C aq_8 dX7_work_50 (fun hj_5 => ?_)
    refine g_aload_n (pc := 51) C dX7_work_51 1 rfl rfl ?_
    refine g_getI (pc := 52) C lk_X7_71 fi_0_10 dX7_work_52 ?_
    refine g_callVV (pc := 55) (As := [.ref (gX Γ (9 + 3 * (x1 : Int32).toNatClampNeg)), .int (S_3 0 10)]) (st := []) C lv_X7_168 fo_44 rfl (ct_X6_mount _ hj_5 (S_3 0 10) S_3) (by decide) rfl rfl (Nat.le_of_ble_eq_true rfl) dX7_work_55 (fun r_7 S_6 => ?_)
    refine g_aload_n (pc := 58) C dX7_work_58 1 rfl rfl ?_
    refine g_getR (pc := 59) C lk_X7_56 fr_0_6 dX7_work_59 ?_
    refine g_callVV (pc := 62) (As := []) (st := []) C lv_X7_172 fo_51 rfl (ct_X0_clear S_6) (by decide) rfl rfl (Nat.le_of_ble_eq_true rfl) dX7_work_62 (fun r_9 S_8 => ?_)
    refine g_iconst (pc := 65) C (v := 1) dX7_work_65 (by decide) ?_
    refine g_istore0 (pc := 66) C dX7_work_66 (by decide) (lv' := [(6, .int 1), (5, .int r_4), (0, .ref (gX Γ 0)), (1, .int x1), (2, .int x2), (3, .int x3), (4, .int x4)]) rfl ?_
    refine g_iconst (pc := 68) C (v := 0) dX7_work_68 (by decide) ?_
    refine g_istore0 (pc := 69) C dX7_work_69 (by decide) (lv' := [(7, .int 0), (6, .int 1), (5, .int r_4), (0, .ref (gX Γ 0)), (1, .int x1), (2, .int x2), (3, .int x3), (4, .int x4)]) rfl ?_
    exact g_sub [3, 5, 6, 7, 1, 0] rfl (p_X7_work_l71 C M FU x2 x3 x4 1 0 S_8)
  · refine g_iload (pc := 38) C dX7_work_38 0 rfl ?_
    exact g_iret C M dX7_work_40
set_option maxRecDepth 100000 in
set_option maxHeartbeats 4000000 in
theorem p_X7_work_b27 {Γ : GA} {E : EV} (C : Cx Γ E RX7 cX7_work 8 4 (some .int)) (M : Mx Γ E) (x1 : Int32) (x2 : Int32) (x3 : Int32) (x4 : Int32) (s0 : Int32) (s1 : Int32) (S : St) : G Γ E (QI Γ E) 8 27 [(0, .ref (gX Γ 0)), (1, .int x1), (2, .int x2), (3, .int x3), (4, .int x4)] [.int s0, .int s1, .ref (gX Γ 0)] S (f_X7_work_b27 x1 x2 x3 x4 s0 s1 S) := by
  rw [f_X7_work_b27]
  refine g_iconst (pc := 27) C (v := 0) dX7_work_27 (by decide) ?_
  exact g_sub [0, 1, 2, 3, 4] rfl (p_X7_work_b28 C M x1 x2 x3 x4 0 s0 s1 S)
set_option maxRecDepth 100000 in
set_option maxHeartbeats 4000000 in
theorem p_X7_work {Γ : GA} {E : EV} (C : Cx Γ E RX7 cX7_work 8 4 (some .int)) (M : Mx Γ E) (x1 : Int32) (x2 : Int32) (x3 : Int32) (x4 : Int32) (S : St) : G Γ E (QI Γ E) 8 0 [(0, .ref (gX Γ 0)), (1, .int x1), (2, .int x2), (3, .int x3), (4, .int x4)] [] S (f_X7_work x1 x2 x3 x4 S) := by
  rw [f_X7_work]
  refine g_aload_n (pc := 0) C dX7_work_0 0 rfl rfl ?_
  refine g_iload_n (pc := 1) C dX7_work_1 1 rfl rfl ?_
  refine g_iload_n (pc := 2) C dX7_work_2 2 rfl rfl ?_
  refine g_iload_n (pc := 3) C dX7_work_3 3 rfl rfl ?_
  refine g_iconst (pc := 4) C (v := 0) dX7_work_4 (by decide) ?_
  refine g_bipush (pc := 5) C (v := 6) dX7_work_5 (by decide) ?_
  refine g_callSI (pc := 7) (As := [.int x3, .int 0, .int 6]) (st := [.int x2, .int x1, .ref (gX Γ 0)]) C ls_X7_137 (ct_X7_isWithin x3 0 6 S) (by decide) rfl rfl (Nat.le_of_ble_eq_true rfl) dX7_work_7 (fun r_2 S_1 => ?_)
  refine g_if_eq (pc := 10) C 27 dX7_work_10 (by decide) ?_ ?_
  · exact g_sub [0, 1, 2, 3, 4] rfl (p_X7_work_b27 C M x1 x2 x3 x4 x2 x1 S_1)
  · refine g_iload (pc := 13) C dX7_work_13 4 rfl ?_
    refine g_iconst (pc := 15) C (v := 0) dX7_work_15 (by decide) ?_
    refine g_iconst (pc := 16) C (v := 5) dX7_work_16 (by decide) ?_
    refine g_callSI (pc := 17) (As := [.int x4, .int 0, .int 5]) (st := [.int x2, .int x1, .ref (gX Γ 0)]) C ls_X7_137 (ct_X7_isWithin x4 0 5 S_1) (by decide) rfl rfl (Nat.le_of_ble_eq_true rfl) dX7_work_17 (fun r_20 S_19 => ?_)
    refine g_if_eq (pc := 20) C 27 dX7_work_20 (by decide) ?_ ?_
    · exact g_sub [0, 1, 2, 3, 4] rfl (p_X7_work_b27 C M x1 x2 x3 x4 x2 x1 S_19)
    · refine g_iconst (pc := 23) C (v := 1) dX7_work_23 (by decide) ?_
      refine g_goto (pc := 24) C 28 dX7_work_24 (by decide) ?_
      exact g_sub [0, 1, 2, 3, 4] rfl (p_X7_work_b28 C M x1 x2 x3 x4 1 x2 x1 S_19)
theorem ct_X7_work {Γ : GA} (x1 : Int32) (x2 : Int32) (x3 : Int32) (x4 : Int32) (S : St) : CtI Γ yX7_work cX7_work 8 (some .int) 4 [.ref (gX Γ 0), .int x1, .int x2, .int x3, .int x4] S (f_X7_work x1 x2 x3 x4 S) :=
  ctI_of (by decide) (Nat.le_of_ble_eq_true rfl) (fun _ C M => p_X7_work C M x1 x2 x3 x4 S)
set_option maxRecDepth 100000 in
set_option maxHeartbeats 4000000 in
theorem p_X6_timeIfDown {Γ : GA} {E : EV} (C : Cx Γ E RX6 cX6_timeIfDown 1 0 (some .int)) (M : Mx Γ E) (S : St) : G Γ E (QI Γ E) 1 0 [(0, .ref (gX Γ 44))] [] S (f_X6_timeIfDown S) := by
  rw [f_X6_timeIfDown]
  refine g_aload_n (pc := 0) C dX6_timeIfDown_0 0 rfl rfl ?_
  refine g_getI (pc := 1) C lk_X6_34 fi_44_8 dX6_timeIfDown_1 ?_
  refine g_if_ne (pc := 4) C 14 dX6_timeIfDown_4 (by decide) ?_ ?_
  · refine g_aload_n (pc := 7) C dX6_timeIfDown_7 0 rfl rfl ?_
    refine g_getI (pc := 8) C lk_X6_40 fi_44_10 dX6_timeIfDown_8 ?_
    refine g_goto (pc := 11) C 15 dX6_timeIfDown_11 (by decide) ?_
    exact g_iret C M dX6_timeIfDown_15
  · refine g_iconst (pc := 14) C (v := (-1)) dX6_timeIfDown_14 (by decide) ?_
    exact g_iret C M dX6_timeIfDown_15
theorem ct_X6_timeIfDown {Γ : GA} (S : St) : CtI Γ yX6_timeIfDown cX6_timeIfDown 1 (some .int) 0 [.ref (gX Γ 44)] S (f_X6_timeIfDown S) :=
  ctI_of (by decide) (Nat.le_of_ble_eq_true rfl) (fun _ C M => p_X6_timeIfDown C M  S)
set_option maxRecDepth 100000 in
set_option maxHeartbeats 4000000 in
theorem p_X7_timeAt {Γ : GA} {E : EV} (C : Cx Γ E RX7 cX7_timeAt 4 4 (some .int)) (M : Mx Γ E) (x1 : Int32) (x2 : Int32) (x3 : Int32) (S : St) : G Γ E (QI Γ E) 4 0 [(0, .ref (gX Γ 0)), (1, .int x1), (2, .int x2), (3, .int x3)] [] S (f_X7_timeAt x1 x2 x3 S) := by
  rw [f_X7_timeAt]
  refine g_aload_n (pc := 0) C dX7_timeAt_0 0 rfl rfl ?_
  refine g_getR (pc := 1) C lk_X7_49 fr_0_5 dX7_timeAt_1 ?_
  refine g_aload_n (pc := 4) C dX7_timeAt_4 0 rfl rfl ?_
  refine g_getR (pc := 5) C lk_X7_25 fr_0_2 dX7_timeAt_5 ?_
  refine g_iload_n (pc := 8) C dX7_timeAt_8 1 rfl rfl ?_
  refine g_aald (pc := 9) C aq_8 dX7_timeAt_9 (fun hj_1 => ?_)
  refine g_aload_n (pc := 10) C dX7_timeAt_10 0 rfl rfl ?_
  refine g_getI (pc := 11) C lk_X7_71 fi_0_10 dX7_timeAt_11 ?_
  refine g_callVV (pc := 14) (As := [.ref (gX Γ (9 + 3 * (x1 : Int32).toNatClampNeg)), .int (S 0 10)]) (st := []) C lv_X7_168 fo_44 rfl (ct_X6_mount _ hj_1 (S 0 10) S) (by decide) rfl rfl (Nat.le_of_ble_eq_true rfl) dX7_timeAt_14 (fun r_3 S_2 => ?_)
  refine g_aload_n (pc := 17) C dX7_timeAt_17 0 rfl rfl ?_
  refine g_getR (pc := 18) C lk_X7_49 fr_0_5 dX7_timeAt_18 ?_
  refine g_iload_n (pc := 21) C dX7_timeAt_21 3 rfl rfl ?_
  refine g_putI (pc := 22) C lp_X7_191 fi_44_6 dX7_timeAt_22 (fun S_4 => ?_)
  refine g_aload_n (pc := 25) C dX7_timeAt_25 0 rfl rfl ?_
  refine g_getR (pc := 26) C lk_X7_49 fr_0_5 dX7_timeAt_26 ?_
  refine g_iload_n (pc := 29) C dX7_timeAt_29 2 rfl rfl ?_
  refine g_callVV (pc := 30) (As := [.int x2]) (st := []) C lv_X7_195 fo_44 rfl (ct_X6_go x2 S_4) (by decide) rfl rfl (Nat.le_of_ble_eq_true rfl) dX7_timeAt_30 (fun r_6 S_5 => ?_)
  refine g_aload_n (pc := 33) C dX7_timeAt_33 0 rfl rfl ?_
  refine g_getR (pc := 34) C lk_X7_49 fr_0_5 dX7_timeAt_34 ?_
  refine g_callVI (pc := 37) (As := []) (st := []) C lv_X7_339 fo_44 rfl (ct_X6_timeIfDown S_5) (by decide) rfl rfl (Nat.le_of_ble_eq_true rfl) dX7_timeAt_37 (fun r_8 S_7 => ?_)
  exact g_iret C M dX7_timeAt_40
theorem ct_X7_timeAt {Γ : GA} (x1 : Int32) (x2 : Int32) (x3 : Int32) (S : St) : CtI Γ yX7_timeAt cX7_timeAt 4 (some .int) 4 [.ref (gX Γ 0), .int x1, .int x2, .int x3] S (f_X7_timeAt x1 x2 x3 S) :=
  ctI_of (by decide) (Nat.le_of_ble_eq_true rfl) (fun _ C M => p_X7_timeAt C M x1 x2 x3 S)
set_option maxRecDepth 100000 in
set_option maxHeartbeats 4000000 in
theorem p_X7_weighed {Γ : GA} {E : EV} (C : Cx Γ E RX7 cX7_weighed 5 5 (some .int)) (M : Mx Γ E) (x1 : Int32) (x2 : Int32) (x3 : Int32) (S : St) : G Γ E (QI Γ E) 5 0 [(0, .ref (gX Γ 0)), (1, .int x1), (2, .int x2), (3, .int x3)] [] S (f_X7_weighed x1 x2 x3 S) := by
  rw [f_X7_weighed]
  refine g_aload_n (pc := 0) C dX7_weighed_0 0 rfl rfl ?_
  refine g_iload_n (pc := 1) C dX7_weighed_1 1 rfl rfl ?_
  refine g_iload_n (pc := 2) C dX7_weighed_2 2 rfl rfl ?_
  refine g_iload_n (pc := 3) C dX7_weighed_3 3 rfl rfl ?_
  refine g_bipush (pc := 4) C (v := 10) dX7_weighed_4 (by decide) ?_
  refine g_bipush (pc := 6) C (v := 99) dX7_weighed_6 (by decide) ?_
  refine g_callSI (pc := 8) (As := [.int x3, .int 10, .int 99]) (st := [.int x2, .int x1, .ref (gX Γ 0)]) C ls_X7_137 (ct_X7_isWithin x3 10 99 S) (by decide) rfl rfl (Nat.le_of_ble_eq_true rfl) dX7_weighed_8 (fun r_2 S_1 => ?_)
  refine g_callVI (pc := 11) (As := [.int x1, .int x2, .int r_2]) (st := []) C lv_X7_144 fo_0 rfl (ct_X7_refusalOfRun x1 x2 r_2 S_1) (by decide) rfl rfl (Nat.le_of_ble_eq_true rfl) dX7_weighed_11 (fun r_4 S_3 => ?_)
  refine g_istore0 (pc := 14) C dX7_weighed_14 (by decide) (lv' := [(4, .int r_4), (0, .ref (gX Γ 0)), (1, .int x1), (2, .int x2), (3, .int x3)]) rfl ?_
  refine g_iload (pc := 16) C dX7_weighed_16 0 rfl ?_
  refine g_if_eq (pc := 18) C 24 dX7_weighed_18 (by decide) ?_ ?_
  · refine g_aload_n (pc := 24) C dX7_weighed_24 1 rfl rfl ?_
    refine g_iload_n (pc := 25) C dX7_weighed_25 2 rfl rfl ?_
    refine g_iload_n (pc := 26) C dX7_weighed_26 3 rfl rfl ?_
    refine g_iload_n (pc := 27) C dX7_weighed_27 4 rfl rfl ?_
    refine g_callVI (pc := 28) (As := [.int x1, .int x2, .int x3]) (st := []) C lv_X7_219 fo_0 rfl (ct_X7_timeAt x1 x2 x3 S_3) (by decide) rfl rfl (Nat.le_of_ble_eq_true rfl) dX7_weighed_28 (fun r_6 S_5 => ?_)
    exact g_iret C M dX7_weighed_31
  · refine g_iload (pc := 21) C dX7_weighed_21 0 rfl ?_
    exact g_iret C M dX7_weighed_23
theorem ct_X7_weighed {Γ : GA} (x1 : Int32) (x2 : Int32) (x3 : Int32) (S : St) : CtI Γ yX7_weighed cX7_weighed 5 (some .int) 5 [.ref (gX Γ 0), .int x1, .int x2, .int x3] S (f_X7_weighed x1 x2 x3 S) :=
  ctI_of (by decide) (Nat.le_of_ble_eq_true rfl) (fun _ C M => p_X7_weighed C M x1 x2 x3 S)
set_option maxRecDepth 100000 in
set_option maxHeartbeats 4000000 in
theorem p_X7_apartBy_l10 {Γ : GA} {E : EV} (C : Cx Γ E RX7 cX7_apartBy 7 5 (some .int)) (M : Mx Γ E) : ∀ (n : Nat) (x1 : Int32) (x2 : Int32) (x3 : Int32) (x4 : Int32) (x5 : Int32) (S : St), G Γ E (QI Γ E) 7 10 [(0, .ref (gX Γ 0)), (1, .int x1), (2, .int x2), (3, .int x3), (4, .int x4), (5, .int x5)] [] S (f_X7_apartBy_l10 n x1 x2 x3 x4 x5 S) := by
  intro n
  induction n with
  | zero => intro x1 x2 x3 x4 x5 S; exact g_none
  | succ n ih =>
    intro x1 x2 x3 x4 x5 S
    rw [f_X7_apartBy_l10]
    refine g_iload (pc := 10) C dX7_apartBy_10 5 rfl ?_
    refine g_aload_n (pc := 12) C dX7_apartBy_12 0 rfl rfl ?_
    refine g_getI (pc := 13) C lk_X7_67 fi_0_9 dX7_apartBy_13 ?_
    refine g_icmp_ge (pc := 16) C 72 dX7_apartBy_16 (by decide) ?_ ?_
    · refine g_iload (pc := 72) C dX7_apartBy_72 4 rfl ?_
      refine g_iload_n (pc := 74) C dX7_apartBy_74 3 rfl rfl ?_
      refine g_isub (pc := 75) C dX7_apartBy_75 ?_
      exact g_iret C M dX7_apartBy_76
    · refine g_aload_n (pc := 19) C dX7_apartBy_19 0 rfl rfl ?_
      refine g_iload (pc := 20) C dX7_apartBy_20 5 rfl ?_
      refine g_iload_n (pc := 22) C dX7_apartBy_22 2 rfl rfl ?_
      refine g_iload_n (pc := 23) C dX7_apartBy_23 1 rfl rfl ?_
      refine g_aload_n (pc := 24) C dX7_apartBy_24 0 rfl rfl ?_
      refine g_getR (pc := 25) C lk_X7_25 fr_0_2 dX7_apartBy_25 ?_
      refine g_iload (pc := 28) C dX7_apartBy_28 5 rfl ?_
      refine g_aald (pc := 30) C aq_8 dX7_apartBy_30 (fun hj_1 => ?_)
      refine g_getI (pc := 31) C lk_X7_123 (fiC_3 _ hj_1) dX7_apartBy_31 ?_
      refine g_mmin (pc := 34) C kw_X7_276 kw_mmin1 kw_m2 kw_mmin3 (Nat.le_of_ble_eq_true rfl) dX7_apartBy_34 ?_
      refine g_callVI (pc := 37) (As := [.int x5, .int x2, .int (if (S (9 + 3 * (x5 : Int32).toNatClampNeg) 3) < x1 then (S (9 + 3 * (x5 : Int32).toNatClampNeg) 3) else x1)]) (st := []) C lv_X7_219 fo_0 rfl (ct_X7_timeAt x5 x2 (if (S (9 + 3 * (x5 : Int32).toNatClampNeg) 3) < x1 then (S (9 + 3 * (x5 : Int32).toNatClampNeg) 3) else x1) S) (by decide) rfl rfl (Nat.le_of_ble_eq_true rfl) dX7_apartBy_37 (fun r_3 S_2 => ?_)
      refine g_istore0 (pc := 40) C dX7_apartBy_40 (by decide) (lv' := [(6, .int r_3), (0, .ref (gX Γ 0)), (1, .int x1), (2, .int x2), (3, .int x3), (4, .int x4), (5, .int x5)]) rfl ?_
      refine g_iload (pc := 42) C dX7_apartBy_42 0 rfl ?_
      refine g_iconst (pc := 44) C (v := (-1)) dX7_apartBy_44 (by decide) ?_
      refine g_icmp_ne (pc := 45) C 50 dX7_apartBy_45 (by decide) ?_ ?_
      · refine g_iconst (pc := 48) C (v := (-1)) dX7_apartBy_48 (by decide) ?_
        exact g_iret C M dX7_apartBy_49
      · refine g_iload_n (pc := 50) C dX7_apartBy_50 4 rfl rfl ?_
        refine g_iload (pc := 51) C dX7_apartBy_51 0 rfl ?_
        refine g_mmin (pc := 53) C kw_X7_276 kw_mmin1 kw_m2 kw_mmin3 (Nat.le_of_ble_eq_true rfl) dX7_apartBy_53 ?_
        refine g_istore_n (pc := 56) C dX7_apartBy_56 rfl (by decide) (fun x => [(3, .int x), (6, .int r_3), (0, .ref (gX Γ 0)), (1, .int x1), (2, .int x2), (4, .int x4), (5, .int x5)]) (fun _ => rfl) (fun x3_4 => ?_)
        refine g_iload (pc := 57) C dX7_apartBy_57 5 rfl ?_
        refine g_iload (pc := 59) C dX7_apartBy_59 1 rfl ?_
        refine g_mmax (pc := 61) C kw_X7_352 kw_mmax1 kw_m2 kw_mmax3 (Nat.le_of_ble_eq_true rfl) dX7_apartBy_61 ?_
        refine g_istore (pc := 64) C dX7_apartBy_64 (by decide) (fun x => [(4, .int x), (3, .int x3_4), (6, .int r_3), (0, .ref (gX Γ 0)), (1, .int x1), (2, .int x2), (5, .int x5)]) (fun _ => rfl) (fun x4_5 => ?_)
        refine g_iinc (pc := 66) C (v := 1) dX7_apartBy_66 6 rfl (by decide) (by decide) (fun x => [(5, .int x), (4, .int x4_5), (3, .int x3_4), (6, .int r_3), (0, .ref (gX Γ 0)), (1, .int x1), (2, .int x2)]) (fun _ => rfl) (fun x5_6 => ?_)
        refine g_goto (pc := 69) C 10 dX7_apartBy_69 (by decide) ?_
        exact g_sub [4, 5, 6, 2, 1, 0] rfl (ih x1 x2 x3_4 x4_5 x5_6 S_2)
set_option maxRecDepth 100000 in
set_option maxHeartbeats 4000000 in
theorem p_X7_apartBy {Γ : GA} {E : EV} (C : Cx Γ E RX7 cX7_apartBy 7 5 (some .int)) (M : Mx Γ E) (x1 : Int32) (x2 : Int32) (S : St) : G Γ E (QI Γ E) 7 0 [(0, .ref (gX Γ 0)), (1, .int x1), (2, .int x2)] [] S (f_X7_apartBy x1 x2 S) := by
  rw [f_X7_apartBy]
  refine g_sipush (pc := 0) C (v := 12000) dX7_apartBy_0 (by decide) ?_
  refine g_istore_n0 (pc := 3) C dX7_apartBy_3 rfl (by decide) (lv' := [(3, .int 12000), (0, .ref (gX Γ 0)), (1, .int x1), (2, .int x2)]) rfl ?_
  refine g_iconst (pc := 4) C (v := 0) dX7_apartBy_4 (by decide) ?_
  refine g_istore0 (pc := 5) C dX7_apartBy_5 (by decide) (lv' := [(4, .int 0), (3, .int 12000), (0, .ref (gX Γ 0)), (1, .int x1), (2, .int x2)]) rfl ?_
  refine g_iconst (pc := 7) C (v := 0) dX7_apartBy_7 (by decide) ?_
  refine g_istore0 (pc := 8) C dX7_apartBy_8 (by decide) (lv' := [(5, .int 0), (4, .int 0), (3, .int 12000), (0, .ref (gX Γ 0)), (1, .int x1), (2, .int x2)]) rfl ?_
  exact g_sub [3, 4, 5, 2, 1, 0] rfl (p_X7_apartBy_l10 C M FU x1 x2 12000 0 0 S)
theorem ct_X7_apartBy {Γ : GA} (x1 : Int32) (x2 : Int32) (S : St) : CtI Γ yX7_apartBy cX7_apartBy 7 (some .int) 5 [.ref (gX Γ 0), .int x1, .int x2] S (f_X7_apartBy x1 x2 S) :=
  ctI_of (by decide) (Nat.le_of_ble_eq_true rfl) (fun _ C M => p_X7_apartBy C M x1 x2 S)
set_option maxRecDepth 100000 in
set_option maxHeartbeats 4000000 in
theorem p_X7_close_b80 {Γ : GA} {E : EV} (C : Cx Γ E RX7 cX7_close 5 6 (some .int)) (M : Mx Γ E) (k49 : Int32 → Int32 → Int32 → St → Option (Int32 × St)) (hk49 : ∀ (x1 : Int32) (x2 : Int32) (x3 : Int32) (S : St), G Γ E (QI Γ E) 5 49 [(0, .ref (gX Γ 0)), (1, .int x1), (2, .int x2), (3, .int x3)] [] S (k49 x1 x2 x3 S)) (x1 : Int32) (x2 : Int32) (x3 : Int32) (S : St) : G Γ E (QI Γ E) 5 80 [(0, .ref (gX Γ 0)), (1, .int x1), (2, .int x2), (3, .int x3)] [] S (f_X7_close_b80 k49 x1 x2 x3 S) := by
  rw [f_X7_close_b80]
  refine g_iinc (pc := 80) C (v := (-1)) dX7_close_80 3 rfl (by decide) (by decide) (fun x => [(3, .int x), (0, .ref (gX Γ 0)), (1, .int x1), (2, .int x2)]) (fun _ => rfl) (fun x3_9 => ?_)
  refine g_goto (pc := 83) C 49 dX7_close_83 (by decide) ?_
  exact g_sub [1, 2, 3, 0] rfl (hk49 x1 x2 x3_9 S)
set_option maxRecDepth 100000 in
set_option maxHeartbeats 4000000 in
theorem p_X7_close_l49 {Γ : GA} {E : EV} (C : Cx Γ E RX7 cX7_close 5 6 (some .int)) (M : Mx Γ E) : ∀ (n : Nat) (x1 : Int32) (x2 : Int32) (x3 : Int32) (S : St), G Γ E (QI Γ E) 5 49 [(0, .ref (gX Γ 0)), (1, .int x1), (2, .int x2), (3, .int x3)] [] S (f_X7_close_l49 n x1 x2 x3 S) := by
  intro n
  induction n with
  | zero => intro x1 x2 x3 S; exact g_none
  | succ n ih =>
    intro x1 x2 x3 S
    rw [f_X7_close_l49]
    refine g_iload_n (pc := 49) C dX7_close_49 3 rfl rfl ?_
    refine g_bipush (pc := 50) C (v := 10) dX7_close_50 (by decide) ?_
    refine g_icmp_lt (pc := 52) C 86 dX7_close_52 (by decide) ?_ ?_
    · refine g_iload_n (pc := 86) C dX7_close_86 2 rfl rfl ?_
      refine g_if_ne (pc := 87) C 100 dX7_close_87 (by decide) ?_ ?_
      · refine g_aload_n (pc := 90) C dX7_close_90 0 rfl rfl ?_
        refine g_getR (pc := 91) C lk_X7_56 fr_0_6 dX7_close_91 ?_
        refine g_getI (pc := 94) C lk_X7_184 fi_51_1 dX7_close_94 ?_
        refine g_goto (pc := 97) C 107 dX7_close_97 (by decide) ?_
        exact g_iret C M dX7_close_107
      · refine g_aload_n (pc := 100) C dX7_close_100 0 rfl rfl ?_
        refine g_getR (pc := 101) C lk_X7_56 fr_0_6 dX7_close_101 ?_
        refine g_getI (pc := 104) C lk_X7_178 fi_51_0 dX7_close_104 ?_
        exact g_iret C M dX7_close_107
    · refine g_aload_n (pc := 55) C dX7_close_55 0 rfl rfl ?_
      refine g_iload_n (pc := 56) C dX7_close_56 3 rfl rfl ?_
      refine g_iload_n (pc := 57) C dX7_close_57 1 rfl rfl ?_
      refine g_callVI (pc := 58) (As := [.int x3, .int x1]) (st := []) C lv_X7_223 fo_0 rfl (ct_X7_apartBy x3 x1 S) (by decide) rfl rfl (Nat.le_of_ble_eq_true rfl) dX7_close_58 (fun r_8 S_7 => ?_)
      refine g_istore0 (pc := 61) C dX7_close_61 (by decide) (lv' := [(4, .int r_8), (0, .ref (gX Γ 0)), (1, .int x1), (2, .int x2), (3, .int x3)]) rfl ?_
      refine g_iload (pc := 63) C dX7_close_63 0 rfl ?_
      refine g_iconst (pc := 65) C (v := (-1)) dX7_close_65 (by decide) ?_
      refine g_icmp_eq (pc := 66) C 80 dX7_close_66 (by decide) ?_ ?_
      · exact g_sub [1, 2, 3, 4] rfl (p_X7_close_b80 C M (f_X7_close_l49 n) ih x1 x2 x3 S_7)
      · refine g_aload_n (pc := 69) C dX7_close_69 1 rfl rfl ?_
        refine g_getR (pc := 70) C lk_X7_56 fr_0_6 dX7_close_70 ?_
        refine g_iload (pc := 73) C dX7_close_73 0 rfl ?_
        refine g_iload_n (pc := 75) C dX7_close_75 4 rfl rfl ?_
        refine g_callVI (pc := 76) (As := [.int r_8, .int x3]) (st := []) C lv_X7_202 fo_51 rfl (ct_X0_offer r_8 x3 S_7) (by decide) rfl rfl (Nat.le_of_ble_eq_true rfl) dX7_close_76 (fun r_11 S_10 => ?_)
        refine g_pop (pc := 79) C dX7_close_79 rfl ?_
        exact g_sub [1, 2, 3, 4] rfl (p_X7_close_b80 C M (f_X7_close_l49 n) ih x1 x2 x3 S_10)
set_option maxRecDepth 100000 in
set_option maxHeartbeats 4000000 in
theorem p_X7_close {Γ : GA} {E : EV} (C : Cx Γ E RX7 cX7_close 5 6 (some .int)) (M : Mx Γ E) (x1 : Int32) (x2 : Int32) (S : St) : G Γ E (QI Γ E) 5 0 [(0, .ref (gX Γ 0)), (1, .int x1), (2, .int x2)] [] S (f_X7_close x1 x2 S) := by
  rw [f_X7_close]
  refine g_aload_n (pc := 0) C dX7_close_0 0 rfl rfl ?_
  refine g_getR (pc := 1) C lk_X7_19 fr_0_1 dX7_close_1 ?_
  refine g_getI (pc := 4) C lk_X7_100 fi_3_4 dX7_close_4 ?_
  refine g_if_eq (pc := 7) C 17 dX7_close_7 (by decide) ?_ ?_
  · refine g_bipush (pc := 17) C (v := (-103)) dX7_close_17 (by decide) ?_
    exact g_iret C M dX7_close_19
  · refine g_aload_n (pc := 10) C dX7_close_10 0 rfl rfl ?_
    refine g_getI (pc := 11) C lk_X7_67 fi_0_9 dX7_close_11 ?_
    refine g_if_ne (pc := 14) C 20 dX7_close_14 (by decide) ?_ ?_
    · refine g_bipush (pc := 17) C (v := (-103)) dX7_close_17 (by decide) ?_
      exact g_iret C M dX7_close_19
    · refine g_iload_n (pc := 20) C dX7_close_20 1 rfl rfl ?_
      refine g_callSI (pc := 21) (As := [.int x1]) (st := []) C ls_X7_156 (ct_X7_isSwing x1 S) (by decide) rfl rfl (Nat.le_of_ble_eq_true rfl) dX7_close_21 (fun r_2 S_1 => ?_)
      refine g_if_eq (pc := 24) C 36 dX7_close_24 (by decide) ?_ ?_
      · refine g_bipush (pc := 36) C (v := (-102)) dX7_close_36 (by decide) ?_
        exact g_iret C M dX7_close_38
      · refine g_iload_n (pc := 27) C dX7_close_27 2 rfl rfl ?_
        refine g_iconst (pc := 28) C (v := 0) dX7_close_28 (by decide) ?_
        refine g_iconst (pc := 29) C (v := 1) dX7_close_29 (by decide) ?_
        refine g_callSI (pc := 30) (As := [.int x2, .int 0, .int 1]) (st := []) C ls_X7_137 (ct_X7_isWithin x2 0 1 S_1) (by decide) rfl rfl (Nat.le_of_ble_eq_true rfl) dX7_close_30 (fun r_4 S_3 => ?_)
        refine g_if_ne (pc := 33) C 39 dX7_close_33 (by decide) ?_ ?_
        · refine g_bipush (pc := 36) C (v := (-102)) dX7_close_36 (by decide) ?_
          exact g_iret C M dX7_close_38
        · refine g_aload_n (pc := 39) C dX7_close_39 0 rfl rfl ?_
          refine g_getR (pc := 40) C lk_X7_56 fr_0_6 dX7_close_40 ?_
          refine g_callVV (pc := 43) (As := []) (st := []) C lv_X7_172 fo_51 rfl (ct_X0_clear S_3) (by decide) rfl rfl (Nat.le_of_ble_eq_true rfl) dX7_close_43 (fun r_6 S_5 => ?_)
          refine g_bipush (pc := 46) C (v := 99) dX7_close_46 (by decide) ?_
          refine g_istore_n0 (pc := 48) C dX7_close_48 rfl (by decide) (lv' := [(3, .int 99), (0, .ref (gX Γ 0)), (1, .int x1), (2, .int x2)]) rfl ?_
          exact g_sub [1, 2, 3, 0] rfl (p_X7_close_l49 C M FU x1 x2 99 S_5)
theorem ct_X7_close {Γ : GA} (x1 : Int32) (x2 : Int32) (S : St) : CtI Γ yX7_close cX7_close 5 (some .int) 6 [.ref (gX Γ 0), .int x1, .int x2] S (f_X7_close x1 x2 S) :=
  ctI_of (by decide) (Nat.le_of_ble_eq_true rfl) (fun _ C M => p_X7_close C M x1 x2 S)
