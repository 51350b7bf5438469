set_option maxRecDepth 100000 in
set_option maxHeartbeats 4000000 in
theorem p_X8_isShake {Γ : GA} {E : EV} (C : Cx Γ E RX8 cX8_isShake 1 1 (some .boolean)) (M : Mx Γ E) (x0 : Int32) (S : St) : G Γ E (QI Γ E) 1 0 [(0, .int x0)] [] S (f_X8_isShake x0 S) := by
  rw [f_X8_isShake]
  refine g_iload_n (pc := 0) C dX8_isShake_0 0 rfl rfl ?_
  refine g_i2l (pc := 1) C dX8_isShake_1 ?_
  refine g_lconst (pc := 2) C (v := 0) dX8_isShake_2 (by decide) ?_
  refine g_ldc2 (pc := 3) C kc_X8_144 dX8_isShake_3 ?_
  refine g_callSI (pc := 6) (As := [.long ((x0 : Int32).toInt64), .long 0, .long 9]) (st := []) C ls_X8_89 (ct_X8_in ((x0 : Int32).toInt64) 0 9 S) (by decide) rfl rfl (Nat.le_of_ble_eq_true rfl) dX8_isShake_6 (fun r_2 S_1 => ?_)
  exact g_zret C M dX8_isShake_9
theorem ct_X8_isShake {Γ : GA} (x0 : Int32) (S : St) : CtI Γ yX8_isShake cX8_isShake 1 (some .boolean) 1 [.int x0] S (f_X8_isShake x0 S) :=
  ctI_of (by decide) (Nat.le_of_ble_eq_true rfl) (fun _ C M => p_X8_isShake C M x0 S)
set_option maxRecDepth 100000 in
set_option maxHeartbeats 4000000 in
theorem p_X8_leaving {Γ : GA} {E : EV} (C : Cx Γ E RX8 cX8_leaving 3 1 (some .int)) (M : Mx Γ E) (x1 : Int32) (x2 : Int32) (S : St) : G Γ E (QI Γ E) 3 0 [(0, .ref (gX Γ 55)), (1, .int x1), (2, .int x2)] [] S (f_X8_leaving x1 x2 S) := by
  rw [f_X8_leaving]
  refine g_aload_n (pc := 0) C dX8_leaving_0 0 rfl rfl ?_
  refine g_getR (pc := 1) C lk_X8_46 fr_55_26 dX8_leaving_1 ?_
  refine g_iload_n (pc := 4) C dX8_leaving_4 1 rfl rfl ?_
  refine g_iald (pc := 5) C ai_68 dX8_leaving_5 ?_
  refine g_iconst (pc := 6) C (v := (-1)) dX8_leaving_6 (by decide) ?_
  refine g_icmp_ne (pc := 7) C 12 dX8_leaving_7 (by decide) ?_ ?_
  · refine g_iconst (pc := 10) C (v := 0) dX8_leaving_10 (by decide) ?_
    exact g_iret C M dX8_leaving_11
  · refine g_aload_n (pc := 12) C dX8_leaving_12 0 rfl rfl ?_
    refine g_getR (pc := 13) C lk_X8_46 fr_55_26 dX8_leaving_13 ?_
    refine g_iload_n (pc := 16) C dX8_leaving_16 1 rfl rfl ?_
    refine g_iald (pc := 17) C ai_68 dX8_leaving_17 ?_
    refine g_aload_n (pc := 18) C dX8_leaving_18 0 rfl rfl ?_
    refine g_iload_n (pc := 19) C dX8_leaving_19 1 rfl rfl ?_
    refine g_callVI (pc := 20) (As := [.int x1]) (st := [.int (S 68 (x1 : Int32).toNatClampNeg)]) C lv_X8_177 fo_55 rfl (ct_X8_bearable x1 S) (by decide) rfl rfl (Nat.le_of_ble_eq_true rfl) dX8_leaving_20 (fun r_2 S_1 => ?_)
    refine g_icmp_le (pc := 23) C 31 dX8_leaving_23 (by decide) ?_ ?_
    · refine g_bipush (pc := 31) C (v := 10) dX8_leaving_31 (by decide) ?_
      refine g_aload_n (pc := 33) C dX8_leaving_33 0 rfl rfl ?_
      refine g_getR (pc := 34) C lk_X8_46 fr_55_26 dX8_leaving_34 ?_
      refine g_iload_n (pc := 37) C dX8_leaving_37 1 rfl rfl ?_
      refine g_iald (pc := 38) C ai_68 dX8_leaving_38 ?_
      refine g_imul (pc := 39) C dX8_leaving_39 ?_
      refine g_aload_n (pc := 40) C dX8_leaving_40 0 rfl rfl ?_
      refine g_iload_n (pc := 41) C dX8_leaving_41 1 rfl rfl ?_
      refine g_callVI (pc := 42) (As := [.int x1]) (st := [.int (10 * (S_1 68 (x1 : Int32).toNatClampNeg))]) C lv_X8_177 fo_55 rfl (ct_X8_bearable x1 S_1) (by decide) rfl rfl (Nat.le_of_ble_eq_true rfl) dX8_leaving_42 (fun r_4 S_3 => ?_)
      refine g_idiv (pc := 45) C dX8_leaving_45 ?_
      refine g_iload_n (pc := 46) C dX8_leaving_46 2 rfl rfl ?_
      refine g_imul (pc := 47) C dX8_leaving_47 ?_
      exact g_iret C M dX8_leaving_48
    · refine g_bipush (pc := 26) C (v := 100) dX8_leaving_26 (by decide) ?_
      refine g_goto (pc := 28) C 48 dX8_leaving_28 (by decide) ?_
      exact g_iret C M dX8_leaving_48
theorem ct_X8_leaving {Γ : GA} (x1 : Int32) (x2 : Int32) (S : St) : CtI Γ yX8_leaving cX8_leaving 3 (some .int) 1 [.ref (gX Γ 55), .int x1, .int x2] S (f_X8_leaving x1 x2 S) :=
  ctI_of (by decide) (Nat.le_of_ble_eq_true rfl) (fun _ C M => p_X8_leaving C M x1 x2 S)
set_option maxRecDepth 100000 in
set_option maxHeartbeats 4000000 in
theorem p_X8_staysBy_b77 {Γ : GA} {E : EV} (C : Cx Γ E RX8 cX8_staysBy 10 3 (some .long)) (M : Mx Γ E) (k16 : Int32 → Int32 → Int64 → Int32 → St → Option (Int64 × St)) (hk16 : ∀ (x3 : Int32) (x4 : Int32) (l5 : Int64) (x7 : Int32) (S : St), G Γ E (QL Γ E) 10 16 [(0, .ref (gX Γ 55)), (3, .int x3), (4, .int x4), (5, .long l5), (7, .int x7)] [] S (k16 x3 x4 l5 x7 S)) (x3 : Int32) (x4 : Int32) (x7 : Int32) (s0 : Int64) (s1 : Int64) (S : St) : G Γ E (QL Γ E) 10 77 [(0, .ref (gX Γ 55)), (3, .int x3), (4, .int x4), (7, .int x7)] [.long s0, .long s1] S (f_X8_staysBy_b77 k16 x3 x4 x7 s0 s1 S) := by
  rw [f_X8_staysBy_b77]
  refine g_lmul (pc := 77) C dX8_staysBy_77 ?_
  refine g_lstore (pc := 78) C dX8_staysBy_78 (by decide) (fun x => [(5, .long x), (0, .ref (gX Γ 55)), (3, .int x3), (4, .int x4), (7, .int x7)]) (fun _ => rfl) (fun l5_7 => ?_)
  refine g_iinc (pc := 80) C (v := 1) dX8_staysBy_80 4 rfl (by decide) (by decide) (fun x => [(7, .int x), (5, .long l5_7), (0, .ref (gX Γ 55)), (3, .int x3), (4, .int x4)]) (fun _ => rfl) (fun x7_8 => ?_)
  refine g_goto (pc := 83) C 16 dX8_staysBy_83 (by decide) ?_
  exact g_sub [2, 3, 4, 1, 0] rfl (hk16 x3 x4 l5_7 x7_8 S)
set_option maxRecDepth 100000 in
set_option maxHeartbeats 4000000 in
theorem p_X8_staysBy_b51 {Γ : GA} {E : EV} (C : Cx Γ E RX8 cX8_staysBy 10 3 (some .long)) (M : Mx Γ E) (k16 : Int32 → Int32 → Int64 → Int32 → St → Option (Int64 × St)) (hk16 : ∀ (x3 : Int32) (x4 : Int32) (l5 : Int64) (x7 : Int32) (S : St), G Γ E (QL Γ E) 10 16 [(0, .ref (gX Γ 55)), (3, .int x3), (4, .int x4), (5, .long l5), (7, .int x7)] [] S (k16 x3 x4 l5 x7 S)) (x3 : Int32) (x4 : Int32) (l5 : Int64) (x7 : Int32) (x8 : Int32) (s0 : Int32) (S : St) : G Γ E (QL Γ E) 10 51 [(0, .ref (gX Γ 55)), (3, .int x3), (4, .int x4), (5, .long l5), (7, .int x7), (8, .int x8)] [.int s0] S (f_X8_staysBy_b51 k16 x3 x4 l5 x7 x8 s0 S) := by
  rw [f_X8_staysBy_b51]
  refine g_istore0 (pc := 51) C dX8_staysBy_51 (by decide) (lv' := [(9, .int s0), (0, .ref (gX Γ 55)), (3, .int x3), (4, .int x4), (5, .long l5), (7, .int x7), (8, .int x8)]) rfl ?_
  refine g_lload (pc := 53) C dX8_staysBy_53 4 rfl ?_
  refine g_iload (pc := 55) C dX8_staysBy_55 0 rfl ?_
  refine g_if_eq (pc := 57) C 74 dX8_staysBy_57 (by decide) ?_ ?_
  · refine g_ldc2 (pc := 74) C kc_X8_252 dX8_staysBy_74 ?_
    exact g_sub [1, 2, 3, 5] rfl (p_X8_staysBy_b77 C M k16 hk16 x3 x4 x7 100 l5 S)
  · refine g_bipush (pc := 60) C (v := 100) dX8_staysBy_60 (by decide) ?_
    refine g_aload_n (pc := 62) C dX8_staysBy_62 1 rfl rfl ?_
    refine g_iload (pc := 63) C dX8_staysBy_63 6 rfl ?_
    refine g_iload_n (pc := 65) C dX8_staysBy_65 2 rfl rfl ?_
    refine g_callVI (pc := 66) (As := [.int x8, .int x3]) (st := [.int 100, .long l5]) C lv_X8_249 fo_55 rfl (ct_X8_leaving x8 x3 S) (by decide) rfl rfl (Nat.le_of_ble_eq_true rfl) dX8_staysBy_66 (fun r_10 S_9 => ?_)
    refine g_isub (pc := 69) C dX8_staysBy_69 ?_
    refine g_i2l (pc := 70) C dX8_staysBy_70 ?_
    refine g_goto (pc := 71) C 77 dX8_staysBy_71 (by decide) ?_
    exact g_sub [1, 2, 3, 5] rfl (p_X8_staysBy_b77 C M k16 hk16 x3 x4 x7 (((100 - r_10) : Int32).toInt64) l5 S_9)
set_option maxRecDepth 100000 in
set_option maxHeartbeats 4000000 in
theorem p_X8_staysBy_b50 {Γ : GA} {E : EV} (C : Cx Γ E RX8 cX8_staysBy 10 3 (some .long)) (M : Mx Γ E) (k16 : Int32 → Int32 → Int64 → Int32 → St → Option (Int64 × St)) (hk16 : ∀ (x3 : Int32) (x4 : Int32) (l5 : Int64) (x7 : Int32) (S : St), G Γ E (QL Γ E) 10 16 [(0, .ref (gX Γ 55)), (3, .int x3), (4, .int x4), (5, .long l5), (7, .int x7)] [] S (k16 x3 x4 l5 x7 S)) (x3 : Int32) (x4 : Int32) (l5 : Int64) (x7 : Int32) (x8 : Int32) (S : St) : G Γ E (QL Γ E) 10 50 [(0, .ref (gX Γ 55)), (3, .int x3), (4, .int x4), (5, .long l5), (7, .int x7), (8, .int x8)] [] S (f_X8_staysBy_b50 k16 x3 x4 l5 x7 x8 S) := by
  rw [f_X8_staysBy_b50]
  refine g_iconst (pc := 50) C (v := 0) dX8_staysBy_50 (by decide) ?_
  exact g_sub [0, 1, 2, 3, 4, 5] rfl (p_X8_staysBy_b51 C M k16 hk16 x3 x4 l5 x7 x8 0 S)
set_option maxRecDepth 100000 in
set_option maxHeartbeats 4000000 in
theorem p_X8_staysBy_l16 {Γ : GA} {E : EV} (C : Cx Γ E RX8 cX8_staysBy 10 3 (some .long)) (M : Mx Γ E) : ∀ (n : Nat) (x3 : Int32) (x4 : Int32) (l5 : Int64) (x7 : Int32) (S : St), G Γ E (QL Γ E) 10 16 [(0, .ref (gX Γ 55)), (3, .int x3), (4, .int x4), (5, .long l5), (7, .int x7)] [] S (f_X8_staysBy_l16 n x3 x4 l5 x7 S) := by
  intro n
  induction n with
  | zero => intro x3 x4 l5 x7 S; exact g_none
  | succ n ih =>
    intro x3 x4 l5 x7 S
    rw [f_X8_staysBy_l16]
    refine g_iload (pc := 16) C dX8_staysBy_16 4 rfl ?_
    refine g_iconst (pc := 18) C (v := 4) dX8_staysBy_18 (by decide) ?_
    refine g_icmp_ge (pc := 19) C 86 dX8_staysBy_19 (by decide) ?_ ?_
    · refine g_lload (pc := 86) C dX8_staysBy_86 3 rfl ?_
      exact g_lret C M dX8_staysBy_88
    · refine g_aload_n (pc := 22) C dX8_staysBy_22 0 rfl rfl ?_
      refine g_iload (pc := 23) C dX8_staysBy_23 4 rfl ?_
      refine g_callVI (pc := 25) (As := [.int x7]) (st := []) C lv_X8_198 fo_55 rfl (ct_X8_bendAt x7 S) (by decide) rfl rfl (Nat.le_of_ble_eq_true rfl) dX8_staysBy_25 (fun r_6 S_5 => ?_)
      refine g_istore0 (pc := 28) C dX8_staysBy_28 (by decide) (lv' := [(8, .int r_6), (0, .ref (gX Γ 55)), (3, .int x3), (4, .int x4), (5, .long l5), (7, .int x7)]) rfl ?_
      refine g_iload (pc := 30) C dX8_staysBy_30 0 rfl ?_
      refine g_iconst (pc := 32) C (v := (-1)) dX8_staysBy_32 (by decide) ?_
      refine g_icmp_eq (pc := 33) C 50 dX8_staysBy_33 (by decide) ?_ ?_
      · exact g_sub [1, 2, 3, 4, 5, 0] rfl (p_X8_staysBy_b50 C M (f_X8_staysBy_l16 n) ih x3 x4 l5 x7 r_6 S_5)
      · refine g_iload (pc := 36) C dX8_staysBy_36 3 rfl ?_
        refine g_iload (pc := 38) C dX8_staysBy_38 5 rfl ?_
        refine g_ishr (pc := 40) C dX8_staysBy_40 ?_
        refine g_iconst (pc := 41) C (v := 1) dX8_staysBy_41 (by decide) ?_
        refine g_iand (pc := 42) C dX8_staysBy_42 ?_
        refine g_if_ne (pc := 43) C 50 dX8_staysBy_43 (by decide) ?_ ?_
        · refine g_iconst (pc := 46) C (v := 1) dX8_staysBy_46 (by decide) ?_
          refine g_goto (pc := 47) C 51 dX8_staysBy_47 (by decide) ?_
          exact g_sub [1, 2, 3, 4, 5, 0] rfl (p_X8_staysBy_b51 C M (f_X8_staysBy_l16 n) ih x3 x4 l5 x7 r_6 1 S_5)
        · exact g_sub [1, 2, 3, 4, 5, 0] rfl (p_X8_staysBy_b50 C M (f_X8_staysBy_l16 n) ih x3 x4 l5 x7 r_6 S_5)
set_option maxRecDepth 100000 in
set_option maxHeartbeats 4000000 in
theorem p_X8_staysBy {Γ : GA} {E : EV} (C : Cx Γ E RX8 cX8_staysBy 10 3 (some .long)) (M : Mx Γ E) (x1 : Int32) (x2 : Int32) (x3 : Int32) (x4 : Int32) (S : St) : G Γ E (QL Γ E) 10 0 [(0, .ref (gX Γ 55)), (1, .int x1), (2, .int x2), (3, .int x3), (4, .int x4)] [] S (f_X8_staysBy x1 x2 x3 x4 S) := by
  rw [f_X8_staysBy]
  refine g_aload_n (pc := 0) C dX8_staysBy_0 0 rfl rfl ?_
  refine g_iload_n (pc := 1) C dX8_staysBy_1 1 rfl rfl ?_
  refine g_callVV (pc := 2) (As := [.int x1]) (st := []) C lv_X8_191 fo_55 rfl (ct_X8_take x1 S) (by decide) rfl rfl (Nat.le_of_ble_eq_true rfl) dX8_staysBy_2 (fun r_2 S_1 => ?_)
  refine g_aload_n (pc := 5) C dX8_staysBy_5 0 rfl rfl ?_
  refine g_iload_n (pc := 6) C dX8_staysBy_6 2 rfl rfl ?_
  refine g_callVV (pc := 7) (As := [.int x2]) (st := []) C lv_X8_195 fo_55 rfl (ct_X8_go x2 S_1) (by decide) rfl rfl (Nat.le_of_ble_eq_true rfl) dX8_staysBy_7 (fun r_4 S_3 => ?_)
  refine g_lconst (pc := 10) C (v := 1) dX8_staysBy_10 (by decide) ?_
  refine g_lstore0 (pc := 11) C dX8_staysBy_11 (by decide) (lv' := [(5, .long 1), (0, .ref (gX Γ 55)), (1, .int x1), (2, .int x2), (3, .int x3), (4, .int x4)]) rfl ?_
  refine g_iconst (pc := 13) C (v := 0) dX8_staysBy_13 (by decide) ?_
  refine g_istore0 (pc := 14) C dX8_staysBy_14 (by decide) (lv' := [(7, .int 0), (5, .long 1), (0, .ref (gX Γ 55)), (1, .int x1), (2, .int x2), (3, .int x3), (4, .int x4)]) rfl ?_
  exact g_sub [2, 5, 6, 1, 0] rfl (p_X8_staysBy_l16 C M FU x3 x4 1 0 S_3)
theorem ct_X8_staysBy {Γ : GA} (x1 : Int32) (x2 : Int32) (x3 : Int32) (x4 : Int32) (S : St) : CtL Γ yX8_staysBy cX8_staysBy 10 (some .long) 3 [.ref (gX Γ 55), .int x1, .int x2, .int x3, .int x4] S (f_X8_staysBy x1 x2 x3 x4 S) :=
  ctL_of (by decide) (Nat.le_of_ble_eq_true rfl) (fun _ C M => p_X8_staysBy C M x1 x2 x3 x4 S)
set_option maxRecDepth 100000 in
set_option maxHeartbeats 4000000 in
theorem p_X8_stays_l89 {Γ : GA} {E : EV} (C : Cx Γ E RX8 cX8_stays 16 4 (some .long)) (M : Mx Γ E) : ∀ (n : Nat) (x5 : Int32) (l6 : Int64) (l8 : Int64) (l10 : Int64) (l12 : Int64) (S : St), G Γ E (QL Γ E) 16 89 [(5, .int x5), (6, .long l6), (8, .long l8), (10, .long l10), (12, .long l12)] [] S (f_X8_stays_l89 n x5 l6 l8 l10 l12 S) := by
  intro n
  induction n with
  | zero => intro x5 l6 l8 l10 l12 S; exact g_none
  | succ n ih =>
    intro x5 l6 l8 l10 l12 S
    rw [f_X8_stays_l89]
    refine g_lload (pc := 89) C dX8_stays_89 3 rfl ?_
    refine g_lconst (pc := 91) C (v := 0) dX8_stays_91 (by decide) ?_
    refine g_lcmp (pc := 92) C dX8_stays_92 ?_
    refine g_if_eq (pc := 93) C 114 dX8_stays_93 (by decide) ?_ ?_
    · refine g_iload (pc := 114) C dX8_stays_114 0 rfl ?_
      refine g_if_ne (pc := 116) C 127 dX8_stays_116 (by decide) ?_ ?_
      · refine g_lload (pc := 119) C dX8_stays_119 2 rfl ?_
        refine g_lload (pc := 121) C dX8_stays_121 4 rfl ?_
        refine g_ldiv (pc := 123) C dX8_stays_123 ?_
        refine g_goto (pc := 124) C 132 dX8_stays_124 (by decide) ?_
        exact g_lret C M dX8_stays_132
      · refine g_lload (pc := 127) C dX8_stays_127 1 rfl ?_
        refine g_lload (pc := 129) C dX8_stays_129 4 rfl ?_
        refine g_ldiv (pc := 131) C dX8_stays_131 ?_
        exact g_lret C M dX8_stays_132
    · refine g_lload (pc := 96) C dX8_stays_96 4 rfl ?_
      refine g_lload (pc := 98) C dX8_stays_98 3 rfl ?_
      refine g_lrem (pc := 100) C dX8_stays_100 ?_
      refine g_lstore (pc := 101) C dX8_stays_101 (by decide) (fun x => [(14, .long x), (5, .int x5), (6, .long l6), (8, .long l8), (10, .long l10), (12, .long l12)]) (fun _ => rfl) (fun l14_15 => ?_)
      refine g_lload (pc := 103) C dX8_stays_103 4 rfl ?_
      refine g_lstore0 (pc := 105) C dX8_stays_105 (by decide) (lv' := [(12, .long l10), (14, .long l14_15), (5, .int x5), (6, .long l6), (8, .long l8), (10, .long l10)]) rfl ?_
      refine g_lload (pc := 107) C dX8_stays_107 1 rfl ?_
      refine g_lstore0 (pc := 109) C dX8_stays_109 (by decide) (lv' := [(10, .long l14_15), (12, .long l10), (14, .long l14_15), (5, .int x5), (6, .long l6), (8, .long l8)]) rfl ?_
      refine g_goto (pc := 111) C 89 dX8_stays_111 (by decide) ?_
      exact g_sub [3, 4, 5, 0, 1] rfl (ih x5 l6 l8 l14_15 l10 S)
set_option maxRecDepth 100000 in
set_option maxHeartbeats 4000000 in
theorem p_X8_stays {Γ : GA} {E : EV} (C : Cx Γ E RX8 cX8_stays 16 4 (some .long)) (M : Mx Γ E) (x1 : Int32) (x2 : Int32) (x3 : Int32) (x4 : Int32) (x5 : Int32) (S : St) : G Γ E (QL Γ E) 16 0 [(0, .ref (gX Γ 55)), (1, .int x1), (2, .int x2), (3, .int x3), (4, .int x4), (5, .int x5)] [] S (f_X8_stays x1 x2 x3 x4 x5 S) := by
  rw [f_X8_stays]
  refine g_aload_n (pc := 0) C dX8_stays_0 0 rfl rfl ?_
  refine g_iload_n (pc := 1) C dX8_stays_1 1 rfl rfl ?_
  refine g_callVI (pc := 2) (As := [.int x1]) (st := []) C lv_X8_132 fo_55 rfl (ct_X8_isCart x1 S) (by decide) rfl rfl (Nat.le_of_ble_eq_true rfl) dX8_stays_2 (fun r_2 S_1 => ?_)
  refine g_if_ne (pc := 5) C 12 dX8_stays_5 (by decide) ?_ ?_
  · refine g_ldc2 (pc := 8) C kc_X8_254 dX8_stays_8 ?_
    exact g_lret C M dX8_stays_11
  · refine g_aload_n (pc := 12) C dX8_stays_12 0 rfl rfl ?_
    refine g_callVI (pc := 13) (As := []) (st := []) C lv_X8_182 fo_55 rfl (ct_X8_lacks S_1) (by decide) rfl rfl (Nat.le_of_ble_eq_true rfl) dX8_stays_13 (fun r_4 S_3 => ?_)
    refine g_if_eq (pc := 16) C 23 dX8_stays_16 (by decide) ?_ ?_
    · refine g_iload_n (pc := 23) C dX8_stays_23 2 rfl rfl ?_
      refine g_callSI (pc := 24) (As := [.int x2]) (st := []) C ls_X8_186 (ct_X8_isSwing x2 S_3) (by decide) rfl rfl (Nat.le_of_ble_eq_true rfl) dX8_stays_24 (fun r_6 S_5 => ?_)
      refine g_if_eq (pc := 27) C 61 dX8_stays_27 (by decide) ?_ ?_
      · refine g_ldc2 (pc := 61) C kc_X8_263 dX8_stays_61 ?_
        exact g_lret C M dX8_stays_64
      · refine g_iload_n (pc := 30) C dX8_stays_30 3 rfl rfl ?_
        refine g_callSI (pc := 31) (As := [.int x3]) (st := []) C ls_X8_258 (ct_X8_isShake x3 S_5) (by decide) rfl rfl (Nat.le_of_ble_eq_true rfl) dX8_stays_31 (fun r_8 S_7 => ?_)
        refine g_if_eq (pc := 34) C 61 dX8_stays_34 (by decide) ?_ ?_
        · refine g_ldc2 (pc := 61) C kc_X8_263 dX8_stays_61 ?_
          exact g_lret C M dX8_stays_64
        · refine g_iload (pc := 37) C dX8_stays_37 4 rfl ?_
          refine g_i2l (pc := 39) C dX8_stays_39 ?_
          refine g_lconst (pc := 40) C (v := 0) dX8_stays_40 (by decide) ?_
          refine g_ldc2 (pc := 41) C kc_X8_261 dX8_stays_41 ?_
          refine g_callSI (pc := 44) (As := [.long ((x4 : Int32).toInt64), .long 0, .long 15]) (st := []) C ls_X8_89 (ct_X8_in ((x4 : Int32).toInt64) 0 15 S_7) (by decide) rfl rfl (Nat.le_of_ble_eq_true rfl) dX8_stays_44 (fun r_10 S_9 => ?_)
          refine g_if_eq (pc := 47) C 61 dX8_stays_47 (by decide) ?_ ?_
          · refine g_ldc2 (pc := 61) C kc_X8_263 dX8_stays_61 ?_
            exact g_lret C M dX8_stays_64
          · refine g_iload (pc := 50) C dX8_stays_50 5 rfl ?_
            refine g_i2l (pc := 52) C dX8_stays_52 ?_
            refine g_lconst (pc := 53) C (v := 0) dX8_stays_53 (by decide) ?_
            refine g_lconst (pc := 54) C (v := 1) dX8_stays_54 (by decide) ?_
            refine g_callSI (pc := 55) (As := [.long ((x5 : Int32).toInt64), .long 0, .long 1]) (st := []) C ls_X8_89 (ct_X8_in ((x5 : Int32).toInt64) 0 1 S_9) (by decide) rfl rfl (Nat.le_of_ble_eq_true rfl) dX8_stays_55 (fun r_12 S_11 => ?_)
            refine g_if_ne (pc := 58) C 65 dX8_stays_58 (by decide) ?_ ?_
            · refine g_ldc2 (pc := 61) C kc_X8_263 dX8_stays_61 ?_
              exact g_lret C M dX8_stays_64
            · refine g_ldc2 (pc := 65) C kc_X8_265 dX8_stays_65 ?_
              refine g_lstore0 (pc := 68) C dX8_stays_68 (by decide) (lv' := [(6, .long 100000000), (0, .ref (gX Γ 55)), (1, .int x1), (2, .int x2), (3, .int x3), (4, .int x4), (5, .int x5)]) rfl ?_
              refine g_aload_n (pc := 70) C dX8_stays_70 1 rfl rfl ?_
              refine g_iload_n (pc := 71) C dX8_stays_71 2 rfl rfl ?_
              refine g_iload_n (pc := 72) C dX8_stays_72 3 rfl rfl ?_
              refine g_iload_n (pc := 73) C dX8_stays_73 4 rfl rfl ?_
              refine g_iload (pc := 74) C dX8_stays_74 5 rfl ?_
              refine g_callVL (pc := 76) (As := [.int x1, .int x2, .int x3, .int x4]) (st := []) C lv_X8_267 fo_55 rfl (ct_X8_staysBy x1 x2 x3 x4 S_11) (by decide) rfl rfl (Nat.le_of_ble_eq_true rfl) dX8_stays_76 (fun r_14 S_13 => ?_)
              refine g_lstore0 (pc := 79) C dX8_stays_79 (by decide) (lv' := [(8, .long r_14), (6, .long 100000000), (0, .ref (gX Γ 55)), (1, .int x1), (2, .int x2), (3, .int x3), (4, .int x4), (5, .int x5)]) rfl ?_
              refine g_lload (pc := 81) C dX8_stays_81 0 rfl ?_
              refine g_lstore0 (pc := 83) C dX8_stays_83 (by decide) (lv' := [(10, .long r_14), (8, .long r_14), (6, .long 100000000), (0, .ref (gX Γ 55)), (1, .int x1), (2, .int x2), (3, .int x3), (4, .int x4), (5, .int x5)]) rfl ?_
              refine g_lload (pc := 85) C dX8_stays_85 2 rfl ?_
              refine g_lstore0 (pc := 87) C dX8_stays_87 (by decide) (lv' := [(12, .long 100000000), (10, .long r_14), (8, .long r_14), (6, .long 100000000), (0, .ref (gX Γ 55)), (1, .int x1), (2, .int x2), (3, .int x3), (4, .int x4), (5, .int x5)]) rfl ?_
              exact g_sub [9, 3, 2, 1, 0] rfl (p_X8_stays_l89 C M FU x5 100000000 r_14 r_14 100000000 S_13)
    · refine g_ldc2 (pc := 19) C kc_X8_256 dX8_stays_19 ?_
      exact g_lret C M dX8_stays_22
theorem ct_X8_stays {Γ : GA} (x1 : Int32) (x2 : Int32) (x3 : Int32) (x4 : Int32) (x5 : Int32) (S : St) : CtL Γ yX8_stays cX8_stays 16 (some .long) 4 [.ref (gX Γ 55), .int x1, .int x2, .int x3, .int x4, .int x5] S (f_X8_stays x1 x2 x3 x4 x5 S) :=
  ctL_of (by decide) (Nat.le_of_ble_eq_true rfl) (fun _ C M => p_X8_stays C M x1 x2 x3 x4 x5 S)
set_option maxRecDepth 100000 in
set_option maxHeartbeats 4000000 in
theorem p_X8_bends_b27 {Γ : GA} {E : EV} (C : Cx Γ E RX8 cX8_bends 3 0 (some .int)) (M : Mx Γ E) (k4 : Int32 → Int32 → St → Option (Int32 × St)) (hk4 : ∀ (x1 : Int32) (x2 : Int32) (S : St), G Γ E (QI Γ E) 3 4 [(0, .ref (gX Γ 55)), (1, .int x1), (2, .int x2)] [] S (k4 x1 x2 S)) (x2 : Int32) (s0 : Int32) (s1 : Int32) (S : St) : G Γ E (QI Γ E) 3 27 [(0, .ref (gX Γ 55)), (2, .int x2)] [.int s0, .int s1] S (f_X8_bends_b27 k4 x2 s0 s1 S) := by
  rw [f_X8_bends_b27]
  refine g_iadd (pc := 27) C dX8_bends_27 ?_
  refine g_istore_n (pc := 28) C dX8_bends_28 rfl (by decide) (fun x => [(1, .int x), (0, .ref (gX Γ 55)), (2, .int x2)]) (fun _ => rfl) (fun x1_1 => ?_)
  refine g_iinc (pc := 29) C (v := 1) dX8_bends_29 2 rfl (by decide) (by decide) (fun x => [(2, .int x), (1, .int x1_1), (0, .ref (gX Γ 55))]) (fun _ => rfl) (fun x2_2 => ?_)
  refine g_goto (pc := 32) C 4 dX8_bends_32 (by decide) ?_
  exact g_sub [2, 1, 0] rfl (hk4 x1_1 x2_2 S)
set_option maxRecDepth 100000 in
set_option maxHeartbeats 4000000 in
theorem p_X8_bends_l4 {Γ : GA} {E : EV} (C : Cx Γ E RX8 cX8_bends 3 0 (some .int)) (M : Mx Γ E) : ∀ (n : Nat) (x1 : Int32) (x2 : Int32) (S : St), G Γ E (QI Γ E) 3 4 [(0, .ref (gX Γ 55)), (1, .int x1), (2, .int x2)] [] S (f_X8_bends_l4 n x1 x2 S) := by
  intro n
  induction n with
  | zero => intro x1 x2 S; exact g_none
  | succ n ih =>
    intro x1 x2 S
    rw [f_X8_bends_l4]
    refine g_iload_n (pc := 4) C dX8_bends_4 2 rfl rfl ?_
    refine g_aload_n (pc := 5) C dX8_bends_5 0 rfl rfl ?_
    refine g_getI (pc := 6) C lk_X8_116 fi_55_6 dX8_bends_6 ?_
    refine g_icmp_ge (pc := 9) C 35 dX8_bends_9 (by decide) ?_ ?_
    · refine g_iload_n (pc := 35) C dX8_bends_35 1 rfl rfl ?_
      exact g_iret C M dX8_bends_36
    · refine g_iload_n (pc := 12) C dX8_bends_12 1 rfl rfl ?_
      refine g_aload_n (pc := 13) C dX8_bends_13 0 rfl rfl ?_
      refine g_getR (pc := 14) C lk_X8_19 fr_55_9 dX8_bends_14 ?_
      refine g_iload_n (pc := 17) C dX8_bends_17 2 rfl rfl ?_
      refine g_iald (pc := 18) C ai_59 dX8_bends_18 ?_
      refine g_if_le (pc := 19) C 26 dX8_bends_19 (by decide) ?_ ?_
      · refine g_iconst (pc := 26) C (v := 0) dX8_bends_26 (by decide) ?_
        exact g_sub [0, 2] rfl (p_X8_bends_b27 C M (f_X8_bends_l4 n) ih x2 0 x1 S)
      · refine g_iconst (pc := 22) C (v := 1) dX8_bends_22 (by decide) ?_
        refine g_goto (pc := 23) C 27 dX8_bends_23 (by decide) ?_
        exact g_sub [0, 2] rfl (p_X8_bends_b27 C M (f_X8_bends_l4 n) ih x2 1 x1 S)
set_option maxRecDepth 100000 in
set_option maxHeartbeats 4000000 in
theorem p_X8_bends {Γ : GA} {E : EV} (C : Cx Γ E RX8 cX8_bends 3 0 (some .int)) (M : Mx Γ E) (S : St) : G Γ E (QI Γ E) 3 0 [(0, .ref (gX Γ 55))] [] S (f_X8_bends S) := by
  rw [f_X8_bends]
  refine g_iconst (pc := 0) C (v := 0) dX8_bends_0 (by decide) ?_
  refine g_istore_n0 (pc := 1) C dX8_bends_1 rfl (by decide) (lv' := [(1, .int 0), (0, .ref (gX Γ 55))]) rfl ?_
  refine g_iconst (pc := 2) C (v := 0) dX8_bends_2 (by decide) ?_
  refine g_istore_n0 (pc := 3) C dX8_bends_3 rfl (by decide) (lv' := [(2, .int 0), (1, .int 0), (0, .ref (gX Γ 55))]) rfl ?_
  exact g_sub [2, 1, 0] rfl (p_X8_bends_l4 C M FU 0 0 S)
theorem ct_X8_bends {Γ : GA} (S : St) : CtI Γ yX8_bends cX8_bends 3 (some .int) 0 [.ref (gX Γ 55)] S (f_X8_bends S) :=
  ctI_of (by decide) (Nat.le_of_ble_eq_true rfl) (fun _ C M => p_X8_bends C M  S)
set_option maxRecDepth 100000 in
set_option maxHeartbeats 4000000 in
theorem p_X8_straw_b181 {Γ : GA} {E : EV} (C : Cx Γ E RX8 cX8_straw 12 4 (some .int)) (M : Mx Γ E) (k74 : Int32 → Int32 → Int32 → Int32 → Int32 → Int64 → Int32 → St → Option (Int32 × St)) (hk74 : ∀ (x1 : Int32) (x2 : Int32) (x3 : Int32) (x4 : Int32) (x5 : Int32) (l6 : Int64) (x8 : Int32) (S : St), G Γ E (QI Γ E) 12 74 [(0, .ref (gX Γ 55)), (1, .int x1), (2, .int x2), (3, .int x3), (4, .int x4), (5, .int x5), (6, .long l6), (8, .int x8)] [] S (k74 x1 x2 x3 x4 x5 l6 x8 S)) (x1 : Int32) (x2 : Int32) (x3 : Int32) (x4 : Int32) (x5 : Int32) (l6 : Int64) (x8 : Int32) (S : St) : G Γ E (QI Γ E) 12 181 [(0, .ref (gX Γ 55)), (1, .int x1), (2, .int x2), (3, .int x3), (4, .int x4), (5, .int x5), (6, .long l6), (8, .int x8)] [] S (f_X8_straw_b181 k74 x1 x2 x3 x4 x5 l6 x8 S) := by
  rw [f_X8_straw_b181]
  refine g_iinc (pc := 181) C (v := 1) dX8_straw_181 7 rfl (by decide) (by decide) (fun x => [(8, .int x), (0, .ref (gX Γ 55)), (1, .int x1), (2, .int x2), (3, .int x3), (4, .int x4), (5, .int x5), (6, .long l6)]) (fun _ => rfl) (fun x8_17 => ?_)
  refine g_goto (pc := 184) C 74 dX8_straw_184 (by decide) ?_
  exact g_sub [1, 2, 3, 4, 5, 6, 7, 0] rfl (hk74 x1 x2 x3 x4 x5 l6 x8_17 S)
set_option maxRecDepth 100000 in
set_option maxHeartbeats 4000000 in
theorem p_X8_straw_b179 {Γ : GA} {E : EV} (C : Cx Γ E RX8 cX8_straw 12 4 (some .int)) (M : Mx Γ E) (k74 : Int32 → Int32 → Int32 → Int32 → Int32 → Int64 → Int32 → St → Option (Int32 × St)) (hk74 : ∀ (x1 : Int32) (x2 : Int32) (x3 : Int32) (x4 : Int32) (x5 : Int32) (l6 : Int64) (x8 : Int32) (S : St), G Γ E (QI Γ E) 12 74 [(0, .ref (gX Γ 55)), (1, .int x1), (2, .int x2), (3, .int x3), (4, .int x4), (5, .int x5), (6, .long l6), (8, .int x8)] [] S (k74 x1 x2 x3 x4 x5 l6 x8 S)) (x1 : Int32) (x2 : Int32) (x3 : Int32) (x4 : Int32) (x5 : Int32) (x8 : Int32) (s0 : Int64) (S : St) : G Γ E (QI Γ E) 12 179 [(0, .ref (gX Γ 55)), (1, .int x1), (2, .int x2), (3, .int x3), (4, .int x4), (5, .int x5), (8, .int x8)] [.long s0] S (f_X8_straw_b179 k74 x1 x2 x3 x4 x5 x8 s0 S) := by
  rw [f_X8_straw_b179]
  refine g_lstore0 (pc := 179) C dX8_straw_179 (by decide) (lv' := [(6, .long s0), (0, .ref (gX Γ 55)), (1, .int x1), (2, .int x2), (3, .int x3), (4, .int x4), (5, .int x5), (8, .int x8)]) rfl ?_
  exact g_sub [1, 2, 3, 4, 5, 6, 0, 7] rfl (p_X8_straw_b181 C M k74 hk74 x1 x2 x3 x4 x5 s0 x8 S)
set_option maxRecDepth 100000 in
set_option maxHeartbeats 4000000 in
theorem p_X8_straw_b162 {Γ : GA} {E : EV} (C : Cx Γ E RX8 cX8_straw 12 4 (some .int)) (M : Mx Γ E) (k74 : Int32 → Int32 → Int32 → Int32 → Int32 → Int64 → Int32 → St → Option (Int32 × St)) (hk74 : ∀ (x1 : Int32) (x2 : Int32) (x3 : Int32) (x4 : Int32) (x5 : Int32) (l6 : Int64) (x8 : Int32) (S : St), G Γ E (QI Γ E) 12 74 [(0, .ref (gX Γ 55)), (1, .int x1), (2, .int x2), (3, .int x3), (4, .int x4), (5, .int x5), (6, .long l6), (8, .int x8)] [] S (k74 x1 x2 x3 x4 x5 l6 x8 S)) (x1 : Int32) (x2 : Int32) (x3 : Int32) (x4 : Int32) (l6 : Int64) (x8 : Int32) (l10 : Int64) (s0 : Int32) (S : St) : G Γ E (QI Γ E) 12 162 [(0, .ref (gX Γ 55)), (1, .int x1), (2, .int x2), (3, .int x3), (4, .int x4), (6, .long l6), (8, .int x8), (10, .long l10)] [.int s0] S (f_X8_straw_b162 k74 x1 x2 x3 x4 l6 x8 l10 s0 S) := by
  rw [f_X8_straw_b162]
  refine g_istore0 (pc := 162) C dX8_straw_162 (by decide) (lv' := [(5, .int s0), (0, .ref (gX Γ 55)), (1, .int x1), (2, .int x2), (3, .int x3), (4, .int x4), (6, .long l6), (8, .int x8), (10, .long l10)]) rfl ?_
  refine g_lload (pc := 164) C dX8_straw_164 8 rfl ?_
  refine g_lload (pc := 166) C dX8_straw_166 6 rfl ?_
  refine g_lcmp (pc := 168) C dX8_straw_168 ?_
  refine g_if_le (pc := 169) C 177 dX8_straw_169 (by decide) ?_ ?_
  · refine g_lload (pc := 177) C dX8_straw_177 6 rfl ?_
    exact g_sub [1, 2, 3, 4, 5, 0, 7] rfl (p_X8_straw_b179 C M k74 hk74 x1 x2 x3 x4 s0 x8 l6 S)
  · refine g_lload (pc := 172) C dX8_straw_172 8 rfl ?_
    refine g_goto (pc := 174) C 179 dX8_straw_174 (by decide) ?_
    exact g_sub [1, 2, 3, 4, 5, 0, 7] rfl (p_X8_straw_b179 C M k74 hk74 x1 x2 x3 x4 s0 x8 l10 S)
set_option maxRecDepth 100000 in
set_option maxHeartbeats 4000000 in
theorem p_X8_straw_b136 {Γ : GA} {E : EV} (C : Cx Γ E RX8 cX8_straw 12 4 (some .int)) (M : Mx Γ E) (k74 : Int32 → Int32 → Int32 → Int32 → Int32 → Int64 → Int32 → St → Option (Int32 × St)) (hk74 : ∀ (x1 : Int32) (x2 : Int32) (x3 : Int32) (x4 : Int32) (x5 : Int32) (l6 : Int64) (x8 : Int32) (S : St), G Γ E (QI Γ E) 12 74 [(0, .ref (gX Γ 55)), (1, .int x1), (2, .int x2), (3, .int x3), (4, .int x4), (5, .int x5), (6, .long l6), (8, .int x8)] [] S (k74 x1 x2 x3 x4 x5 l6 x8 S)) (x1 : Int32) (x2 : Int32) (x3 : Int32) (x4 : Int32) (x5 : Int32) (l6 : Int64) (x8 : Int32) (S : St) : G Γ E (QI Γ E) 12 136 [(0, .ref (gX Γ 55)), (1, .int x1), (2, .int x2), (3, .int x3), (4, .int x4), (5, .int x5), (6, .long l6), (8, .int x8)] [] S (f_X8_straw_b136 k74 x1 x2 x3 x4 x5 l6 x8 S) := by
  rw [f_X8_straw_b136]
  refine g_aload_n (pc := 136) C dX8_straw_136 0 rfl rfl ?_
  refine g_iload_n (pc := 137) C dX8_straw_137 1 rfl rfl ?_
  refine g_iload_n (pc := 138) C dX8_straw_138 2 rfl rfl ?_
  refine g_iload_n (pc := 139) C dX8_straw_139 3 rfl rfl ?_
  refine g_iload (pc := 140) C dX8_straw_140 7 rfl ?_
  refine g_callVL (pc := 142) (As := [.int x1, .int x2, .int x3, .int x8]) (st := []) C lv_X8_267 fo_55 rfl (ct_X8_staysBy x1 x2 x3 x8 S) (by decide) rfl rfl (Nat.le_of_ble_eq_true rfl) dX8_straw_142 (fun r_16 S_15 => ?_)
  refine g_lstore0 (pc := 145) C dX8_straw_145 (by decide) (lv' := [(10, .long r_16), (0, .ref (gX Γ 55)), (1, .int x1), (2, .int x2), (3, .int x3), (4, .int x4), (5, .int x5), (6, .long l6), (8, .int x8)]) rfl ?_
  refine g_lload (pc := 147) C dX8_straw_147 0 rfl ?_
  refine g_lload (pc := 149) C dX8_straw_149 7 rfl ?_
  refine g_lcmp (pc := 151) C dX8_straw_151 ?_
  refine g_if_le (pc := 152) C 160 dX8_straw_152 (by decide) ?_ ?_
  · refine g_iload (pc := 160) C dX8_straw_160 6 rfl ?_
    exact g_sub [1, 2, 3, 4, 5, 7, 8, 0] rfl (p_X8_straw_b162 C M k74 hk74 x1 x2 x3 x4 l6 x8 r_16 x5 S_15)
  · refine g_iload (pc := 155) C dX8_straw_155 8 rfl ?_
    refine g_goto (pc := 157) C 162 dX8_straw_157 (by decide) ?_
    exact g_sub [1, 2, 3, 4, 5, 7, 8, 0] rfl (p_X8_straw_b162 C M k74 hk74 x1 x2 x3 x4 l6 x8 r_16 x8 S_15)
set_option maxRecDepth 100000 in
set_option maxHeartbeats 4000000 in
theorem p_X8_straw_l87 {Γ : GA} {E : EV} (C : Cx Γ E RX8 cX8_straw 12 4 (some .int)) (M : Mx Γ E) (k74 : Int32 → Int32 → Int32 → Int32 → Int32 → Int64 → Int32 → St → Option (Int32 × St)) (hk74 : ∀ (x1 : Int32) (x2 : Int32) (x3 : Int32) (x4 : Int32) (x5 : Int32) (l6 : Int64) (x8 : Int32) (S : St), G Γ E (QI Γ E) 12 74 [(0, .ref (gX Γ 55)), (1, .int x1), (2, .int x2), (3, .int x3), (4, .int x4), (5, .int x5), (6, .long l6), (8, .int x8)] [] S (k74 x1 x2 x3 x4 x5 l6 x8 S)) : ∀ (n : Nat) (x1 : Int32) (x2 : Int32) (x3 : Int32) (x4 : Int32) (x5 : Int32) (l6 : Int64) (x8 : Int32) (x9 : Int32) (x10 : Int32) (S : St), G Γ E (QI Γ E) 12 87 [(0, .ref (gX Γ 55)), (1, .int x1), (2, .int x2), (3, .int x3), (4, .int x4), (5, .int x5), (6, .long l6), (8, .int x8), (9, .int x9), (10, .int x10)] [] S (f_X8_straw_l87 k74 n x1 x2 x3 x4 x5 l6 x8 x9 x10 S) := by
  intro n
  induction n with
  | zero => intro x1 x2 x3 x4 x5 l6 x8 x9 x10 S; exact g_none
  | succ n ih =>
    intro x1 x2 x3 x4 x5 l6 x8 x9 x10 S
    rw [f_X8_straw_l87]
    refine g_iload (pc := 87) C dX8_straw_87 9 rfl ?_
    refine g_iconst (pc := 89) C (v := 4) dX8_straw_89 (by decide) ?_
    refine g_icmp_ge (pc := 90) C 111 dX8_straw_90 (by decide) ?_ ?_
    · refine g_iload (pc := 111) C dX8_straw_111 8 rfl ?_
      refine g_iload (pc := 113) C dX8_straw_113 4 rfl ?_
      refine g_icmp_ne (pc := 115) C 181 dX8_straw_115 (by decide) ?_ ?_
      · refine g_aload_n (pc := 118) C dX8_straw_118 0 rfl rfl ?_
        refine g_callVI (pc := 119) (As := []) (st := []) C lv_X8_271 fo_55 rfl (ct_X8_bends S) (by decide) rfl rfl (Nat.le_of_ble_eq_true rfl) dX8_straw_119 (fun r_14 S_13 => ?_)
        refine g_iconst (pc := 122) C (v := 3) dX8_straw_122 (by decide) ?_
        refine g_icmp_gt (pc := 123) C 136 dX8_straw_123 (by decide) ?_ ?_
        · exact g_sub [0, 1, 2, 3, 4, 5, 6, 7] rfl (p_X8_straw_b136 C M k74 hk74 x1 x2 x3 x4 x5 l6 x8 S_13)
        · refine g_iload (pc := 126) C dX8_straw_126 7 rfl ?_
          refine g_aload_n (pc := 128) C dX8_straw_128 0 rfl rfl ?_
          refine g_callVI (pc := 129) (As := []) (st := [.int x8]) C lv_X8_271 fo_55 rfl (ct_X8_bends S_13) (by decide) rfl rfl (Nat.le_of_ble_eq_true rfl) dX8_straw_129 (fun r_19 S_18 => ?_)
          refine g_ishr (pc := 132) C dX8_straw_132 ?_
          refine g_if_ne (pc := 133) C 181 dX8_straw_133 (by decide) ?_ ?_
          · exact g_sub [0, 1, 2, 3, 4, 5, 6, 7] rfl (p_X8_straw_b136 C M k74 hk74 x1 x2 x3 x4 x5 l6 x8 S_18)
          · exact g_sub [0, 1, 2, 3, 4, 5, 6, 7] rfl (p_X8_straw_b181 C M k74 hk74 x1 x2 x3 x4 x5 l6 x8 S_18)
      · exact g_sub [0, 1, 2, 3, 4, 5, 6, 7] rfl (p_X8_straw_b181 C M k74 hk74 x1 x2 x3 x4 x5 l6 x8 S)
    · refine g_iload (pc := 93) C dX8_straw_93 8 rfl ?_
      refine g_iload (pc := 95) C dX8_straw_95 7 rfl ?_
      refine g_iload (pc := 97) C dX8_straw_97 9 rfl ?_
      refine g_ishr (pc := 99) C dX8_straw_99 ?_
      refine g_iconst (pc := 100) C (v := 1) dX8_straw_100 (by decide) ?_
      refine g_iand (pc := 101) C dX8_straw_101 ?_
      refine g_iadd (pc := 102) C dX8_straw_102 ?_
      refine g_istore (pc := 103) C dX8_straw_103 (by decide) (fun x => [(9, .int x), (0, .ref (gX Γ 55)), (1, .int x1), (2, .int x2), (3, .int x3), (4, .int x4), (5, .int x5), (6, .long l6), (8, .int x8), (10, .int x10)]) (fun _ => rfl) (fun x9_20 => ?_)
      refine g_iinc (pc := 105) C (v := 1) dX8_straw_105 9 rfl (by decide) (by decide) (fun x => [(10, .int x), (9, .int x9_20), (0, .ref (gX Γ 55)), (1, .int x1), (2, .int x2), (3, .int x3), (4, .int x4), (5, .int x5), (6, .long l6), (8, .int x8)]) (fun _ => rfl) (fun x10_21 => ?_)
      refine g_goto (pc := 108) C 87 dX8_straw_108 (by decide) ?_
      exact g_sub [2, 3, 4, 5, 6, 7, 8, 9, 1, 0] rfl (ih x1 x2 x3 x4 x5 l6 x8 x9_20 x10_21 S)
set_option maxRecDepth 100000 in
set_option maxHeartbeats 4000000 in
theorem p_X8_straw_l74 {Γ : GA} {E : EV} (C : Cx Γ E RX8 cX8_straw 12 4 (some .int)) (M : Mx Γ E) : ∀ (n : Nat) (x1 : Int32) (x2 : Int32) (x3 : Int32) (x4 : Int32) (x5 : Int32) (l6 : Int64) (x8 : Int32) (S : St), G Γ E (QI Γ E) 12 74 [(0, .ref (gX Γ 55)), (1, .int x1), (2, .int x2), (3, .int x3), (4, .int x4), (5, .int x5), (6, .long l6), (8, .int x8)] [] S (f_X8_straw_l74 n x1 x2 x3 x4 x5 l6 x8 S) := by
  intro n
  induction n with
  | zero => intro x1 x2 x3 x4 x5 l6 x8 S; exact g_none
  | succ n ih =>
    intro x1 x2 x3 x4 x5 l6 x8 S
    rw [f_X8_straw_l74]
    refine g_iload (pc := 74) C dX8_straw_74 7 rfl ?_
    refine g_bipush (pc := 76) C (v := 16) dX8_straw_76 (by decide) ?_
    refine g_icmp_ge (pc := 78) C 187 dX8_straw_78 (by decide) ?_ ?_
    · refine g_iload (pc := 187) C dX8_straw_187 5 rfl ?_
      exact g_iret C M dX8_straw_189
    · refine g_iconst (pc := 81) C (v := 0) dX8_straw_81 (by decide) ?_
      refine g_istore0 (pc := 82) C dX8_straw_82 (by decide) (lv' := [(9, .int 0), (0, .ref (gX Γ 55)), (1, .int x1), (2, .int x2), (3, .int x3), (4, .int x4), (5, .int x5), (6, .long l6), (8, .int x8)]) rfl ?_
      refine g_iconst (pc := 84) C (v := 0) dX8_straw_84 (by decide) ?_
      refine g_istore0 (pc := 85) C dX8_straw_85 (by decide) (lv' := [(10, .int 0), (9, .int 0), (0, .ref (gX Γ 55)), (1, .int x1), (2, .int x2), (3, .int x3), (4, .int x4), (5, .int x5), (6, .long l6), (8, .int x8)]) rfl ?_
      exact g_sub [2, 3, 4, 5, 6, 7, 8, 9, 1, 0] rfl (p_X8_straw_l87 C M (f_X8_straw_l74 n) ih FU x1 x2 x3 x4 x5 l6 x8 0 0 S)
set_option maxRecDepth 100000 in
set_option maxHeartbeats 4000000 in
theorem p_X8_straw {Γ : GA} {E : EV} (C : Cx Γ E RX8 cX8_straw 12 4 (some .int)) (M : Mx Γ E) (x1 : Int32) (x2 : Int32) (x3 : Int32) (x4 : Int32) (S : St) : G Γ E (QI Γ E) 12 0 [(0, .ref (gX Γ 55)), (1, .int x1), (2, .int x2), (3, .int x3), (4, .int x4)] [] S (f_X8_straw x1 x2 x3 x4 S) := by
  rw [f_X8_straw]
  refine g_aload_n (pc := 0) C dX8_straw_0 0 rfl rfl ?_
  refine g_iload_n (pc := 1) C dX8_straw_1 1 rfl rfl ?_
  refine g_callVI (pc := 2) (As := [.int x1]) (st := []) C lv_X8_132 fo_55 rfl (ct_X8_isCart x1 S) (by decide) rfl rfl (Nat.le_of_ble_eq_true rfl) dX8_straw_2 (fun r_2 S_1 => ?_)
  refine g_if_ne (pc := 5) C 11 dX8_straw_5 (by decide) ?_ ?_
  · refine g_bipush (pc := 8) C (v := (-101)) dX8_straw_8 (by decide) ?_
    exact g_iret C M dX8_straw_10
  · refine g_aload_n (pc := 11) C dX8_straw_11 0 rfl rfl ?_
    refine g_callVI (pc := 12) (As := []) (st := []) C lv_X8_182 fo_55 rfl (ct_X8_lacks S_1) (by decide) rfl rfl (Nat.le_of_ble_eq_true rfl) dX8_straw_12 (fun r_4 S_3 => ?_)
    refine g_if_eq (pc := 15) C 21 dX8_straw_15 (by decide) ?_ ?_
    · refine g_iload_n (pc := 21) C dX8_straw_21 2 rfl rfl ?_
      refine g_callSI (pc := 22) (As := [.int x2]) (st := []) C ls_X8_186 (ct_X8_isSwing x2 S_3) (by decide) rfl rfl (Nat.le_of_ble_eq_true rfl) dX8_straw_22 (fun r_6 S_5 => ?_)
      refine g_if_eq (pc := 25) C 48 dX8_straw_25 (by decide) ?_ ?_
      · refine g_bipush (pc := 48) C (v := (-102)) dX8_straw_48 (by decide) ?_
        exact g_iret C M dX8_straw_50
      · refine g_iload_n (pc := 28) C dX8_straw_28 3 rfl rfl ?_
        refine g_callSI (pc := 29) (As := [.int x3]) (st := []) C ls_X8_258 (ct_X8_isShake x3 S_5) (by decide) rfl rfl (Nat.le_of_ble_eq_true rfl) dX8_straw_29 (fun r_8 S_7 => ?_)
        refine g_if_eq (pc := 32) C 48 dX8_straw_32 (by decide) ?_ ?_
        · refine g_bipush (pc := 48) C (v := (-102)) dX8_straw_48 (by decide) ?_
          exact g_iret C M dX8_straw_50
        · refine g_iload (pc := 35) C dX8_straw_35 4 rfl ?_
          refine g_i2l (pc := 37) C dX8_straw_37 ?_
          refine g_lconst (pc := 38) C (v := 1) dX8_straw_38 (by decide) ?_
          refine g_ldc2 (pc := 39) C kc_X8_201 dX8_straw_39 ?_
          refine g_callSI (pc := 42) (As := [.long ((x4 : Int32).toInt64), .long 1, .long 4]) (st := []) C ls_X8_89 (ct_X8_in ((x4 : Int32).toInt64) 1 4 S_7) (by decide) rfl rfl (Nat.le_of_ble_eq_true rfl) dX8_straw_42 (fun r_10 S_9 => ?_)
          refine g_if_ne (pc := 45) C 51 dX8_straw_45 (by decide) ?_ ?_
          · refine g_bipush (pc := 48) C (v := (-102)) dX8_straw_48 (by decide) ?_
            exact g_iret C M dX8_straw_50
          · refine g_aload_n (pc := 51) C dX8_straw_51 0 rfl rfl ?_
            refine g_callVI (pc := 52) (As := []) (st := []) C lv_X8_271 fo_55 rfl (ct_X8_bends S_9) (by decide) rfl rfl (Nat.le_of_ble_eq_true rfl) dX8_straw_52 (fun r_12 S_11 => ?_)
            refine g_iload (pc := 55) C dX8_straw_55 4 rfl ?_
            refine g_icmp_ge (pc := 57) C 63 dX8_straw_57 (by decide) ?_ ?_
            · refine g_iconst (pc := 63) C (v := (-1)) dX8_straw_63 (by decide) ?_
              refine g_istore0 (pc := 64) C dX8_straw_64 (by decide) (lv' := [(5, .int (-1)), (0, .ref (gX Γ 55)), (1, .int x1), (2, .int x2), (3, .int x3), (4, .int x4)]) rfl ?_
              refine g_ldc2 (pc := 66) C kc_X8_274 dX8_straw_66 ?_
              refine g_lstore0 (pc := 69) C dX8_straw_69 (by decide) (lv' := [(6, .long (-1)), (5, .int (-1)), (0, .ref (gX Γ 55)), (1, .int x1), (2, .int x2), (3, .int x3), (4, .int x4)]) rfl ?_
              refine g_iconst (pc := 71) C (v := 0) dX8_straw_71 (by decide) ?_
              refine g_istore0 (pc := 72) C dX8_straw_72 (by decide) (lv' := [(8, .int 0), (6, .long (-1)), (5, .int (-1)), (0, .ref (gX Γ 55)), (1, .int x1), (2, .int x2), (3, .int x3), (4, .int x4)]) rfl ?_
              exact g_sub [3, 4, 5, 6, 7, 2, 1, 0] rfl (p_X8_straw_l74 C M FU x1 x2 x3 x4 (-1) (-1) 0 S_11)
            · refine g_bipush (pc := 60) C (v := (-103)) dX8_straw_60 (by decide) ?_
              exact g_iret C M dX8_straw_62
    · refine g_bipush (pc := 18) C (v := (-103)) dX8_straw_18 (by decide) ?_
      exact g_iret C M dX8_straw_20
theorem ct_X8_straw {Γ : GA} (x1 : Int32) (x2 : Int32) (x3 : Int32) (x4 : Int32) (S : St) : CtI Γ yX8_straw cX8_straw 12 (some .int) 4 [.ref (gX Γ 55), .int x1, .int x2, .int x3, .int x4] S (f_X8_straw x1 x2 x3 x4 S) :=
  ctI_of (by decide) (Nat.le_of_ble_eq_true rfl) (fun _ C M => p_X8_straw C M x1 x2 x3 x4 S)
set_option maxRecDepth 100000 in
set_option maxHeartbeats 4000000 in
theorem p_X8_image_l64 {Γ : GA} {E : EV} (C : Cx Γ E RX8 cX8_image 2 1 (some .int)) (M : Mx Γ E) : ∀ (n : Nat) (x1 : Int32) (S : St), G Γ E (QI Γ E) 2 64 [(0, .ref (gX Γ 55)), (1, .int x1)] [] S (f_X8_image_l64 n x1 S) := by
  intro n
  induction n with
  | zero => intro x1 S; exact g_none
  | succ n ih =>
    intro x1 S
    rw [f_X8_image_l64]
    refine g_iload_n (pc := 64) C dX8_image_64 1 rfl rfl ?_
    refine g_bipush (pc := 65) C (v := 24) dX8_image_65 (by decide) ?_
    refine g_icmp_ge (pc := 67) C 88 dX8_image_67 (by decide) ?_ ?_
    · refine g_aload_n (pc := 88) C dX8_image_88 0 rfl rfl ?_
      refine g_aload_n (pc := 89) C dX8_image_89 0 rfl rfl ?_
      refine g_getI (pc := 90) C lk_X8_67 fi_55_16 dX8_image_90 ?_
      refine g_putI (pc := 93) C lp_X8_276 fi_55_33 dX8_image_93 (fun S_3 => ?_)
      refine g_aload_n (pc := 96) C dX8_image_96 0 rfl rfl ?_
      refine g_aload_n (pc := 97) C dX8_image_97 0 rfl rfl ?_
      refine g_getI (pc := 98) C lk_X8_122 fi_55_12 dX8_image_98 ?_
      refine g_putI (pc := 101) C lp_X8_279 fi_55_34 dX8_image_101 (fun S_4 => ?_)
      refine g_aload_n (pc := 104) C dX8_image_104 0 rfl rfl ?_
      refine g_aload_n (pc := 105) C dX8_image_105 0 rfl rfl ?_
      refine g_getI (pc := 106) C lk_X8_215 fi_55_29 dX8_image_106 ?_
      refine g_putI (pc := 109) C lp_X8_282 fi_55_35 dX8_image_109 (fun S_5 => ?_)
      refine g_aload_n (pc := 112) C dX8_image_112 0 rfl rfl ?_
      refine g_aload_n (pc := 113) C dX8_image_113 0 rfl rfl ?_
      refine g_getI (pc := 114) C lk_X8_119 fi_55_7 dX8_image_114 ?_
      refine g_putI (pc := 117) C lp_X8_71 fi_55_32 dX8_image_117 (fun S_6 => ?_)
      refine g_aload_n (pc := 120) C dX8_image_120 0 rfl rfl ?_
      refine g_getI (pc := 121) C lk_X8_122 fi_55_12 dX8_image_121 ?_
      exact g_iret C M dX8_image_124
    · refine g_aload_n (pc := 70) C dX8_image_70 0 rfl rfl ?_
      refine g_getR (pc := 71) C lk_X8_64 fr_55_38 dX8_image_71 ?_
      refine g_iload_n (pc := 74) C dX8_image_74 1 rfl rfl ?_
      refine g_aload_n (pc := 75) C dX8_image_75 0 rfl rfl ?_
      refine g_getR (pc := 76) C lk_X8_52 fr_55_30 dX8_image_76 ?_
      refine g_iload_n (pc := 79) C dX8_image_79 1 rfl rfl ?_
      refine g_iald (pc := 80) C ai_70 dX8_image_80 ?_
      refine g_iast (pc := 81) C ai_74 dX8_image_81 (fun S_7 => ?_)
      refine g_iinc (pc := 82) C (v := 1) dX8_image_82 1 rfl (by decide) (by decide) (fun x => [(1, .int x), (0, .ref (gX Γ 55))]) (fun _ => rfl) (fun x1_8 => ?_)
      refine g_goto (pc := 85) C 64 dX8_image_85 (by decide) ?_
      exact g_sub [1, 0] rfl (ih x1_8 S_7)
set_option maxRecDepth 100000 in
set_option maxHeartbeats 4000000 in
theorem p_X8_image_l38 {Γ : GA} {E : EV} (C : Cx Γ E RX8 cX8_image 2 1 (some .int)) (M : Mx Γ E) : ∀ (n : Nat) (x1 : Int32) (S : St), G Γ E (QI Γ E) 2 38 [(0, .ref (gX Γ 55)), (1, .int x1)] [] S (f_X8_image_l38 n x1 S) := by
  intro n
  induction n with
  | zero => intro x1 S; exact g_none
  | succ n ih =>
    intro x1 S
    rw [f_X8_image_l38]
    refine g_iload_n (pc := 38) C dX8_image_38 1 rfl rfl ?_
    refine g_bipush (pc := 39) C (v := 8) dX8_image_39 (by decide) ?_
    refine g_icmp_ge (pc := 41) C 62 dX8_image_41 (by decide) ?_ ?_
    · refine g_iconst (pc := 62) C (v := 0) dX8_image_62 (by decide) ?_
      refine g_istore_n0 (pc := 63) C dX8_image_63 rfl (by decide) (lv' := [(1, .int 0), (0, .ref (gX Γ 55))]) rfl ?_
      exact g_sub [1, 0] rfl (p_X8_image_l64 C M FU 0 S)
    · refine g_aload_n (pc := 44) C dX8_image_44 0 rfl rfl ?_
      refine g_getR (pc := 45) C lk_X8_61 fr_55_37 dX8_image_45 ?_
      refine g_iload_n (pc := 48) C dX8_image_48 1 rfl rfl ?_
      refine g_aload_n (pc := 49) C dX8_image_49 0 rfl rfl ?_
      refine g_getR (pc := 50) C lk_X8_28 fr_55_13 dX8_image_50 ?_
      refine g_iload_n (pc := 53) C dX8_image_53 1 rfl rfl ?_
      refine g_iald (pc := 54) C ai_62 dX8_image_54 ?_
      refine g_iast (pc := 55) C ai_73 dX8_image_55 (fun S_9 => ?_)
      refine g_iinc (pc := 56) C (v := 1) dX8_image_56 1 rfl (by decide) (by decide) (fun x => [(1, .int x), (0, .ref (gX Γ 55))]) (fun _ => rfl) (fun x1_10 => ?_)
      refine g_goto (pc := 59) C 38 dX8_image_59 (by decide) ?_
      exact g_sub [1, 0] rfl (ih x1_10 S_9)
set_option maxRecDepth 100000 in
set_option maxHeartbeats 4000000 in
theorem p_X8_image_l12 {Γ : GA} {E : EV} (C : Cx Γ E RX8 cX8_image 2 1 (some .int)) (M : Mx Γ E) : ∀ (n : Nat) (x1 : Int32) (S : St), G Γ E (QI Γ E) 2 12 [(0, .ref (gX Γ 55)), (1, .int x1)] [] S (f_X8_image_l12 n x1 S) := by
  intro n
  induction n with
  | zero => intro x1 S; exact g_none
  | succ n ih =>
    intro x1 S
    rw [f_X8_image_l12]
    refine g_iload_n (pc := 12) C dX8_image_12 1 rfl rfl ?_
    refine g_bipush (pc := 13) C (v := 12) dX8_image_13 (by decide) ?_
    refine g_icmp_ge (pc := 15) C 36 dX8_image_15 (by decide) ?_ ?_
    · refine g_iconst (pc := 36) C (v := 0) dX8_image_36 (by decide) ?_
      refine g_istore_n0 (pc := 37) C dX8_image_37 rfl (by decide) (lv' := [(1, .int 0), (0, .ref (gX Γ 55))]) rfl ?_
      exact g_sub [1, 0] rfl (p_X8_image_l38 C M FU 0 S)
    · refine g_aload_n (pc := 18) C dX8_image_18 0 rfl rfl ?_
      refine g_getR (pc := 19) C lk_X8_58 fr_55_36 dX8_image_19 ?_
      refine g_iload_n (pc := 22) C dX8_image_22 1 rfl rfl ?_
      refine g_aload_n (pc := 23) C dX8_image_23 0 rfl rfl ?_
      refine g_getR (pc := 24) C lk_X8_25 fr_55_11 dX8_image_24 ?_
      refine g_iload_n (pc := 27) C dX8_image_27 1 rfl rfl ?_
      refine g_iald (pc := 28) C ai_61 dX8_image_28 ?_
      refine g_iast (pc := 29) C ai_72 dX8_image_29 (fun S_11 => ?_)
      refine g_iinc (pc := 30) C (v := 1) dX8_image_30 1 rfl (by decide) (by decide) (fun x => [(1, .int x), (0, .ref (gX Γ 55))]) (fun _ => rfl) (fun x1_12 => ?_)
      refine g_goto (pc := 33) C 12 dX8_image_33 (by decide) ?_
      exact g_sub [1, 0] rfl (ih x1_12 S_11)
set_option maxRecDepth 100000 in
set_option maxHeartbeats 4000000 in
theorem p_X8_image {Γ : GA} {E : EV} (C : Cx Γ E RX8 cX8_image 2 1 (some .int)) (M : Mx Γ E) (S : St) : G Γ E (QI Γ E) 2 0 [(0, .ref (gX Γ 55))] [] S (f_X8_image S) := by
  rw [f_X8_image]
  refine g_aload_n (pc := 0) C dX8_image_0 0 rfl rfl ?_
  refine g_callVI (pc := 1) (As := []) (st := []) C lv_X8_182 fo_55 rfl (ct_X8_lacks S) (by decide) rfl rfl (Nat.le_of_ble_eq_true rfl) dX8_image_1 (fun r_2 S_1 => ?_)
  refine g_if_eq (pc := 4) C 10 dX8_image_4 (by decide) ?_ ?_
  · refine g_iconst (pc := 10) C (v := 0) dX8_image_10 (by decide) ?_
    refine g_istore_n0 (pc := 11) C dX8_image_11 rfl (by decide) (lv' := [(1, .int 0), (0, .ref (gX Γ 55))]) rfl ?_
    exact g_sub [1, 0] rfl (p_X8_image_l12 C M FU 0 S_1)
  · refine g_bipush (pc := 7) C (v := (-103)) dX8_image_7 (by decide) ?_
    exact g_iret C M dX8_image_9
theorem ct_X8_image {Γ : GA} (S : St) : CtI Γ yX8_image cX8_image 2 (some .int) 1 [.ref (gX Γ 55)] S (f_X8_image S) :=
  ctI_of (by decide) (Nat.le_of_ble_eq_true rfl) (fun _ C M => p_X8_image C M  S)
set_option maxRecDepth 100000 in
set_option maxHeartbeats 4000000 in
theorem p_X8_restore_l70 {Γ : GA} {E : EV} (C : Cx Γ E RX8 cX8_restore 2 0 (some .int)) (M : Mx Γ E) : ∀ (n : Nat) (x1 : Int32) (S : St), G Γ E (QI Γ E) 2 70 [(0, .ref (gX Γ 55)), (1, .int x1)] [] S (f_X8_restore_l70 n x1 S) := by
  intro n
  induction n with
  | zero => intro x1 S; exact g_none
  | succ n ih =>
    intro x1 S
    rw [f_X8_restore_l70]
    refine g_iload_n (pc := 70) C dX8_restore_70 1 rfl rfl ?_
    refine g_bipush (pc := 71) C (v := 24) dX8_restore_71 (by decide) ?_
    refine g_icmp_ge (pc := 73) C 94 dX8_restore_73 (by decide) ?_ ?_
    · refine g_aload_n (pc := 94) C dX8_restore_94 0 rfl rfl ?_
      refine g_aload_n (pc := 95) C dX8_restore_95 0 rfl rfl ?_
      refine g_getI (pc := 96) C lk_X8_276 fi_55_33 dX8_restore_96 ?_
      refine g_putI (pc := 99) C lp_X8_67 fi_55_16 dX8_restore_99 (fun S_1 => ?_)
      refine g_aload_n (pc := 102) C dX8_restore_102 0 rfl rfl ?_
      refine g_aload_n (pc := 103) C dX8_restore_103 0 rfl rfl ?_
      refine g_getI (pc := 104) C lk_X8_282 fi_55_35 dX8_restore_104 ?_
      refine g_putI (pc := 107) C lp_X8_215 fi_55_29 dX8_restore_107 (fun S_2 => ?_)
      refine g_aload_n (pc := 110) C dX8_restore_110 0 rfl rfl ?_
      refine g_getI (pc := 111) C lk_X8_122 fi_55_12 dX8_restore_111 ?_
      exact g_iret C M dX8_restore_114
    · refine g_aload_n (pc := 76) C dX8_restore_76 0 rfl rfl ?_
      refine g_getR (pc := 77) C lk_X8_52 fr_55_30 dX8_restore_77 ?_
      refine g_iload_n (pc := 80) C dX8_restore_80 1 rfl rfl ?_
      refine g_aload_n (pc := 81) C dX8_restore_81 0 rfl rfl ?_
      refine g_getR (pc := 82) C lk_X8_64 fr_55_38 dX8_restore_82 ?_
      refine g_iload_n (pc := 85) C dX8_restore_85 1 rfl rfl ?_
      refine g_iald (pc := 86) C ai_74 dX8_restore_86 ?_
      refine g_iast (pc := 87) C ai_70 dX8_restore_87 (fun S_3 => ?_)
      refine g_iinc (pc := 88) C (v := 1) dX8_restore_88 1 rfl (by decide) (by decide) (fun x => [(1, .int x), (0, .ref (gX Γ 55))]) (fun _ => rfl) (fun x1_4 => ?_)
      refine g_goto (pc := 91) C 70 dX8_restore_91 (by decide) ?_
      exact g_sub [1, 0] rfl (ih x1_4 S_3)
set_option maxRecDepth 100000 in
set_option maxHeartbeats 4000000 in
theorem p_X8_restore_l42 {Γ : GA} {E : EV} (C : Cx Γ E RX8 cX8_restore 2 0 (some .int)) (M : Mx Γ E) : ∀ (n : Nat) (x1 : Int32) (S : St), G Γ E (QI Γ E) 2 42 [(0, .ref (gX Γ 55)), (1, .int x1)] [] S (f_X8_restore_l42 n x1 S) := by
  intro n
  induction n with
  | zero => intro x1 S; exact g_none
  | succ n ih =>
    intro x1 S
    rw [f_X8_restore_l42]
    refine g_iload_n (pc := 42) C dX8_restore_42 1 rfl rfl ?_
    refine g_aload_n (pc := 43) C dX8_restore_43 0 rfl rfl ?_
    refine g_getI (pc := 44) C lk_X8_279 fi_55_34 dX8_restore_44 ?_
    refine g_icmp_ge (pc := 47) C 68 dX8_restore_47 (by decide) ?_ ?_
    · refine g_iconst (pc := 68) C (v := 0) dX8_restore_68 (by decide) ?_
      refine g_istore_n0 (pc := 69) C dX8_restore_69 rfl (by decide) (lv' := [(1, .int 0), (0, .ref (gX Γ 55))]) rfl ?_
      exact g_sub [1, 0] rfl (p_X8_restore_l70 C M FU 0 S)
    · refine g_aload_n (pc := 50) C dX8_restore_50 0 rfl rfl ?_
      refine g_getR (pc := 51) C lk_X8_28 fr_55_13 dX8_restore_51 ?_
      refine g_iload_n (pc := 54) C dX8_restore_54 1 rfl rfl ?_
      refine g_aload_n (pc := 55) C dX8_restore_55 0 rfl rfl ?_
      refine g_getR (pc := 56) C lk_X8_61 fr_55_37 dX8_restore_56 ?_
      refine g_iload_n (pc := 59) C dX8_restore_59 1 rfl rfl ?_
      refine g_iald (pc := 60) C ai_73 dX8_restore_60 ?_
      refine g_iast (pc := 61) C ai_62 dX8_restore_61 (fun S_5 => ?_)
      refine g_iinc (pc := 62) C (v := 1) dX8_restore_62 1 rfl (by decide) (by decide) (fun x => [(1, .int x), (0, .ref (gX Γ 55))]) (fun _ => rfl) (fun x1_6 => ?_)
      refine g_goto (pc := 65) C 42 dX8_restore_65 (by decide) ?_
      exact g_sub [1, 0] rfl (ih x1_6 S_5)
set_option maxRecDepth 100000 in
set_option maxHeartbeats 4000000 in
theorem p_X8_restore_l16 {Γ : GA} {E : EV} (C : Cx Γ E RX8 cX8_restore 2 0 (some .int)) (M : Mx Γ E) : ∀ (n : Nat) (x1 : Int32) (S : St), G Γ E (QI Γ E) 2 16 [(0, .ref (gX Γ 55)), (1, .int x1)] [] S (f_X8_restore_l16 n x1 S) := by
  intro n
  induction n with
  | zero => intro x1 S; exact g_none
  | succ n ih =>
    intro x1 S
    rw [f_X8_restore_l16]
    refine g_iload_n (pc := 16) C dX8_restore_16 1 rfl rfl ?_
    refine g_bipush (pc := 17) C (v := 12) dX8_restore_17 (by decide) ?_
    refine g_icmp_ge (pc := 19) C 40 dX8_restore_19 (by decide) ?_ ?_
    · refine g_iconst (pc := 40) C (v := 0) dX8_restore_40 (by decide) ?_
      refine g_istore_n0 (pc := 41) C dX8_restore_41 rfl (by decide) (lv' := [(1, .int 0), (0, .ref (gX Γ 55))]) rfl ?_
      exact g_sub [1, 0] rfl (p_X8_restore_l42 C M FU 0 S)
    · refine g_aload_n (pc := 22) C dX8_restore_22 0 rfl rfl ?_
      refine g_getR (pc := 23) C lk_X8_25 fr_55_11 dX8_restore_23 ?_
      refine g_iload_n (pc := 26) C dX8_restore_26 1 rfl rfl ?_
      refine g_aload_n (pc := 27) C dX8_restore_27 0 rfl rfl ?_
      refine g_getR (pc := 28) C lk_X8_58 fr_55_36 dX8_restore_28 ?_
      refine g_iload_n (pc := 31) C dX8_restore_31 1 rfl rfl ?_
      refine g_iald (pc := 32) C ai_72 dX8_restore_32 ?_
      refine g_iast (pc := 33) C ai_61 dX8_restore_33 (fun S_7 => ?_)
      refine g_iinc (pc := 34) C (v := 1) dX8_restore_34 1 rfl (by decide) (by decide) (fun x => [(1, .int x), (0, .ref (gX Γ 55))]) (fun _ => rfl) (fun x1_8 => ?_)
      refine g_goto (pc := 37) C 16 dX8_restore_37 (by decide) ?_
      exact g_sub [1, 0] rfl (ih x1_8 S_7)
set_option maxRecDepth 100000 in
set_option maxHeartbeats 4000000 in
theorem p_X8_restore {Γ : GA} {E : EV} (C : Cx Γ E RX8 cX8_restore 2 0 (some .int)) (M : Mx Γ E) (S : St) : G Γ E (QI Γ E) 2 0 [(0, .ref (gX Γ 55))] [] S (f_X8_restore S) := by
  rw [f_X8_restore]
  refine g_aload_n (pc := 0) C dX8_restore_0 0 rfl rfl ?_
  refine g_getI (pc := 1) C lk_X8_71 fi_55_32 dX8_restore_1 ?_
  refine g_aload_n (pc := 4) C dX8_restore_4 0 rfl rfl ?_
  refine g_getI (pc := 5) C lk_X8_119 fi_55_7 dX8_restore_5 ?_
  refine g_icmp_eq (pc := 8) C 14 dX8_restore_8 (by decide) ?_ ?_
  · refine g_iconst (pc := 14) C (v := 0) dX8_restore_14 (by decide) ?_
    refine g_istore_n0 (pc := 15) C dX8_restore_15 rfl (by decide) (lv' := [(1, .int 0), (0, .ref (gX Γ 55))]) rfl ?_
    exact g_sub [1, 0] rfl (p_X8_restore_l16 C M FU 0 S)
  · refine g_bipush (pc := 11) C (v := (-103)) dX8_restore_11 (by decide) ?_
    exact g_iret C M dX8_restore_13
theorem ct_X8_restore {Γ : GA} (S : St) : CtI Γ yX8_restore cX8_restore 2 (some .int) 0 [.ref (gX Γ 55)] S (f_X8_restore S) :=
  ctI_of (by decide) (Nat.le_of_ble_eq_true rfl) (fun _ C M => p_X8_restore C M  S)
set_option maxRecDepth 100000 in
set_option maxHeartbeats 4000000 in
theorem p_X8_countOf {Γ : GA} {E : EV} (C : Cx Γ E RX8 cX8_countOf 2 1 (some .int)) (M : Mx Γ E) (x1 : Int32) (S : St) : G Γ E (QI Γ E) 2 0 [(0, .ref (gX Γ 55)), (1, .int x1)] [] S (f_X8_countOf x1 S) := by
  rw [f_X8_countOf]
  refine g_iload_n (pc := 0) C dX8_countOf_0 1 rfl rfl ?_
  refine g_tsw (res := none) (pc := 1) C 0 44 0 dX8_countOf_1 (by show ¬ ((0 : Int) ≤ _ ∧ _ < (0 : Int)); omega) (by decide) rfl (by decide) ?_ (fun hs_1 => ?_)
  · refine g_aload_n (pc := 44) C dX8_countOf_44 0 rfl rfl ?_
    refine g_getI (pc := 45) C lk_X8_116 fi_55_6 dX8_countOf_45 ?_
    exact g_iret C M dX8_countOf_48
  refine g_tsw (res := none) (pc := 1) C 1 49 1 dX8_countOf_1 hs_1 (by decide) rfl (by decide) ?_ (fun hs_4 => ?_)
  · refine g_aload_n (pc := 49) C dX8_countOf_49 0 rfl rfl ?_
    refine g_callVI (pc := 50) (As := []) (st := []) C lv_X8_271 fo_55 rfl (ct_X8_bends S) (by decide) rfl rfl (Nat.le_of_ble_eq_true rfl) dX8_countOf_50 (fun r_3 S_2 => ?_)
    exact g_iret C M dX8_countOf_53
  refine g_tsw (res := none) (pc := 1) C 2 54 2 dX8_countOf_1 hs_4 (by decide) rfl (by decide) ?_ (fun hs_5 => ?_)
  · refine g_aload_n (pc := 54) C dX8_countOf_54 0 rfl rfl ?_
    refine g_getI (pc := 55) C lk_X8_122 fi_55_12 dX8_countOf_55 ?_
    exact g_iret C M dX8_countOf_58
  refine g_tsw (res := none) (pc := 1) C 3 59 3 dX8_countOf_1 hs_5 (by decide) rfl (by decide) ?_ (fun hs_6 => ?_)
  · refine g_aload_n (pc := 59) C dX8_countOf_59 0 rfl rfl ?_
    refine g_getI (pc := 60) C lk_X8_215 fi_55_29 dX8_countOf_60 ?_
    exact g_iret C M dX8_countOf_63
  refine g_tsw (res := none) (pc := 1) C 4 64 4 dX8_countOf_1 hs_6 (by decide) rfl (by decide) ?_ (fun hs_7 => ?_)
  · refine g_aload_n (pc := 64) C dX8_countOf_64 0 rfl rfl ?_
    refine g_getI (pc := 65) C lk_X8_76 fi_55_1 dX8_countOf_65 ?_
    exact g_iret C M dX8_countOf_68
  refine g_tsw (res := none) (pc := 1) C 5 69 5 dX8_countOf_1 hs_7 (by decide) rfl (by decide) ?_ (fun hs_8 => ?_)
  · refine g_aload_n (pc := 69) C dX8_countOf_69 0 rfl rfl ?_
    refine g_getI (pc := 70) C lk_X8_119 fi_55_7 dX8_countOf_70 ?_
    exact g_iret C M dX8_countOf_73
  refine g_tsw (res := none) (pc := 1) C 6 74 6 dX8_countOf_1 hs_8 (by decide) rfl (by decide) ?_ (fun hs_9 => ?_)
  · refine g_aload_n (pc := 74) C dX8_countOf_74 0 rfl rfl ?_
    refine g_getI (pc := 75) C lk_X8_67 fi_55_16 dX8_countOf_75 ?_
    exact g_iret C M dX8_countOf_78
  refine g_tsd (pc := 1) C (k := 6) 79 dX8_countOf_1 hs_9 rfl (by decide) ?_
  refine g_bipush (pc := 79) C (v := (-102)) dX8_countOf_79 (by decide) ?_
  exact g_iret C M dX8_countOf_81
theorem ct_X8_countOf {Γ : GA} (x1 : Int32) (S : St) : CtI Γ yX8_countOf cX8_countOf 2 (some .int) 1 [.ref (gX Γ 55), .int x1] S (f_X8_countOf x1 S) :=
  ctI_of (by decide) (Nat.le_of_ble_eq_true rfl) (fun _ C M => p_X8_countOf C M x1 S)
set_option maxRecDepth 100000 in
set_option maxHeartbeats 4000000 in
theorem p_X8_count {Γ : GA} {E : EV} (C : Cx Γ E RX8 cX8_count 2 2 (some .int)) (M : Mx Γ E) (x1 : Int32) (S : St) : G Γ E (QI Γ E) 2 0 [(0, .ref (gX Γ 55)), (1, .int x1)] [] S (f_X8_count x1 S) := by
  rw [f_X8_count]
  refine g_aload_n (pc := 0) C dX8_count_0 0 rfl rfl ?_
  refine g_iload_n (pc := 1) C dX8_count_1 1 rfl rfl ?_
  refine g_callVI (pc := 2) (As := [.int x1]) (st := []) C lv_X8_285 fo_55 rfl (ct_X8_countOf x1 S) (by decide) rfl rfl (Nat.le_of_ble_eq_true rfl) dX8_count_2 (fun r_2 S_1 => ?_)
  exact g_iret C M dX8_count_5
theorem ct_X8_count {Γ : GA} (x1 : Int32) (S : St) : CtI Γ yX8_count cX8_count 2 (some .int) 2 [.ref (gX Γ 55), .int x1] S (f_X8_count x1 S) :=
  ctI_of (by decide) (Nat.le_of_ble_eq_true rfl) (fun _ C M => p_X8_count C M x1 S)
set_option maxRecDepth 100000 in
set_option maxHeartbeats 4000000 in
theorem p_X8_say {Γ : GA} {E : EV} (C : Cx Γ E RX8 cX8_say 3 0 none) (M : Mx Γ E) (l1 : Int64) (S : St) : G Γ E (QV Γ E) 3 0 [(0, .ref (gX Γ 55)), (1, .long l1)] [] S (f_X8_say l1 S) := by
  rw [f_X8_say]
  refine g_aload_n (pc := 0) C dX8_say_0 0 rfl rfl ?_
  refine g_ldc2 (pc := 1) C kc_X8_288 dX8_say_1 ?_
  refine g_aload_n (pc := 4) C dX8_say_4 0 rfl rfl ?_
  refine g_getL (pc := 5) C lk_X8_290 fl_55_39 dX8_say_5 ?_
  refine g_lmul (pc := 8) C dX8_say_8 ?_
  refine g_lload_n (pc := 9) C dX8_say_9 1 rfl rfl ?_
  refine g_ladd (pc := 10) C dX8_say_10 ?_
  refine g_putL (pc := 11) C lp_X8_290 fl_55_39 dX8_say_11 (fun S_1 => ?_)
  exact g_vret C M dX8_say_14
theorem ct_X8_say {Γ : GA} (l1 : Int64) (S : St) : CtV Γ yX8_say cX8_say 3 none 0 [.ref (gX Γ 55), .long l1] S (f_X8_say l1 S) :=
  ctV_of (by decide) (Nat.le_of_ble_eq_true rfl) (fun _ C M => p_X8_say C M l1 S)
set_option maxRecDepth 100000 in
set_option maxHeartbeats 4000000 in
theorem p_X8_sayCart_l24 {Γ : GA} {E : EV} (C : Cx Γ E RX8 cX8_sayCart 3 3 none) (M : Mx Γ E) : ∀ (n : Nat) (x1 : Int32) (x2 : Int32) (S : St), G Γ E (QV Γ E) 3 24 [(0, .ref (gX Γ 55)), (1, .int x1), (2, .int x2)] [] S (f_X8_sayCart_l24 n x1 x2 S) := by
  intro n
  induction n with
  | zero => intro x1 x2 S; exact g_none
  | succ n ih =>
    intro x1 x2 S
    rw [f_X8_sayCart_l24]
    refine g_iload_n (pc := 24) C dX8_sayCart_24 2 rfl rfl ?_
    refine g_iconst (pc := 25) C (v := 2) dX8_sayCart_25 (by decide) ?_
    refine g_aload_n (pc := 26) C dX8_sayCart_26 0 rfl rfl ?_
    refine g_getR (pc := 27) C lk_X8_31 fr_55_14 dX8_sayCart_27 ?_
    refine g_iload_n (pc := 30) C dX8_sayCart_30 1 rfl rfl ?_
    refine g_iald (pc := 31) C ai_63 dX8_sayCart_31 ?_
    refine g_imul (pc := 32) C dX8_sayCart_32 ?_
    refine g_icmp_ge (pc := 33) C 58 dX8_sayCart_33 (by decide) ?_ ?_
    · refine g_aload_n (pc := 58) C dX8_sayCart_58 0 rfl rfl ?_
      refine g_aload_n (pc := 59) C dX8_sayCart_59 0 rfl rfl ?_
      refine g_iload_n (pc := 60) C dX8_sayCart_60 1 rfl rfl ?_
      refine g_sipush (pc := 61) C (v := 400) dX8_sayCart_61 (by decide) ?_
      refine g_iconst (pc := 64) C (v := 0) dX8_sayCart_64 (by decide) ?_
      refine g_callVI (pc := 65) (As := [.int x1, .int 400, .int 0]) (st := [.ref (gX Γ 55)]) C lv_X8_212 fo_55 rfl (ct_X8_farthestBy x1 400 0 S) (by decide) rfl rfl (Nat.le_of_ble_eq_true rfl) dX8_sayCart_65 (fun r_6 S_5 => ?_)
      refine g_i2l (pc := 68) C dX8_sayCart_68 ?_
      refine g_callVV (pc := 69) (As := [.long ((r_6 : Int32).toInt64)]) (st := []) C lv_X8_294 fo_55 rfl (ct_X8_say ((r_6 : Int32).toInt64) S_5) (by decide) rfl rfl (Nat.le_of_ble_eq_true rfl) dX8_sayCart_69 (fun r_8 S_7 => ?_)
      refine g_aload_n (pc := 72) C dX8_sayCart_72 0 rfl rfl ?_
      refine g_callVI (pc := 73) (As := []) (st := []) C lv_X8_182 fo_55 rfl (ct_X8_lacks S_7) (by decide) rfl rfl (Nat.le_of_ble_eq_true rfl) dX8_sayCart_73 (fun r_10 S_9 => ?_)
      refine g_if_ne (pc := 76) C 126 dX8_sayCart_76 (by decide) ?_ ?_
      · refine g_aload_n (pc := 79) C dX8_sayCart_79 0 rfl rfl ?_
        refine g_iload_n (pc := 80) C dX8_sayCart_80 1 rfl rfl ?_
        refine g_callVV (pc := 81) (As := [.int x1]) (st := []) C lv_X8_191 fo_55 rfl (ct_X8_take x1 S_9) (by decide) rfl rfl (Nat.le_of_ble_eq_true rfl) dX8_sayCart_81 (fun r_12 S_11 => ?_)
        refine g_aload_n (pc := 84) C dX8_sayCart_84 0 rfl rfl ?_
        refine g_bipush (pc := 85) C (v := 100) dX8_sayCart_85 (by decide) ?_
        refine g_callVV (pc := 87) (As := [.int 100]) (st := []) C lv_X8_195 fo_55 rfl (ct_X8_go 100 S_11) (by decide) rfl rfl (Nat.le_of_ble_eq_true rfl) dX8_sayCart_87 (fun r_14 S_13 => ?_)
        refine g_aload_n (pc := 90) C dX8_sayCart_90 0 rfl rfl ?_
        refine g_aload_n (pc := 91) C dX8_sayCart_91 0 rfl rfl ?_
        refine g_getI (pc := 92) C lk_X8_165 fi_55_22 dX8_sayCart_92 ?_
        refine g_i2l (pc := 95) C dX8_sayCart_95 ?_
        refine g_callVV (pc := 96) (As := [.long (((S_13 55 22) : Int32).toInt64)]) (st := []) C lv_X8_294 fo_55 rfl (ct_X8_say (((S_13 55 22) : Int32).toInt64) S_13) (by decide) rfl rfl (Nat.le_of_ble_eq_true rfl) dX8_sayCart_96 (fun r_16 S_15 => ?_)
        refine g_aload_n (pc := 99) C dX8_sayCart_99 0 rfl rfl ?_
        refine g_aload_n (pc := 100) C dX8_sayCart_100 0 rfl rfl ?_
        refine g_getI (pc := 101) C lk_X8_168 fi_55_23 dX8_sayCart_101 ?_
        refine g_i2l (pc := 104) C dX8_sayCart_104 ?_
        refine g_callVV (pc := 105) (As := [.long (((S_15 55 23) : Int32).toInt64)]) (st := []) C lv_X8_294 fo_55 rfl (ct_X8_say (((S_15 55 23) : Int32).toInt64) S_15) (by decide) rfl rfl (Nat.le_of_ble_eq_true rfl) dX8_sayCart_105 (fun r_18 S_17 => ?_)
        refine g_aload_n (pc := 108) C dX8_sayCart_108 0 rfl rfl ?_
        refine g_aload_n (pc := 109) C dX8_sayCart_109 0 rfl rfl ?_
        refine g_getI (pc := 110) C lk_X8_162 fi_55_24 dX8_sayCart_110 ?_
        refine g_i2l (pc := 113) C dX8_sayCart_113 ?_
        refine g_callVV (pc := 114) (As := [.long (((S_17 55 24) : Int32).toInt64)]) (st := []) C lv_X8_294 fo_55 rfl (ct_X8_say (((S_17 55 24) : Int32).toInt64) S_17) (by decide) rfl rfl (Nat.le_of_ble_eq_true rfl) dX8_sayCart_114 (fun r_20 S_19 => ?_)
        refine g_aload_n (pc := 117) C dX8_sayCart_117 0 rfl rfl ?_
        refine g_aload_n (pc := 118) C dX8_sayCart_118 0 rfl rfl ?_
        refine g_getI (pc := 119) C lk_X8_152 fi_55_25 dX8_sayCart_119 ?_
        refine g_i2l (pc := 122) C dX8_sayCart_122 ?_
        refine g_callVV (pc := 123) (As := [.long (((S_19 55 25) : Int32).toInt64)]) (st := []) C lv_X8_294 fo_55 rfl (ct_X8_say (((S_19 55 25) : Int32).toInt64) S_19) (by decide) rfl rfl (Nat.le_of_ble_eq_true rfl) dX8_sayCart_123 (fun r_22 S_21 => ?_)
        exact g_vret C M dX8_sayCart_126
      · exact g_vret C M dX8_sayCart_126
    · refine g_aload_n (pc := 36) C dX8_sayCart_36 0 rfl rfl ?_
      refine g_aload_n (pc := 37) C dX8_sayCart_37 0 rfl rfl ?_
      refine g_getR (pc := 38) C lk_X8_34 fr_55_15 dX8_sayCart_38 ?_
      refine g_bipush (pc := 41) C (v := 10) dX8_sayCart_41 (by decide) ?_
      refine g_iload_n (pc := 43) C dX8_sayCart_43 1 rfl rfl ?_
      refine g_imul (pc := 44) C dX8_sayCart_44 ?_
      refine g_iload_n (pc := 45) C dX8_sayCart_45 2 rfl rfl ?_
      refine g_iadd (pc := 46) C dX8_sayCart_46 ?_
      refine g_iald (pc := 47) C ai_64 dX8_sayCart_47 ?_
      refine g_i2l (pc := 48) C dX8_sayCart_48 ?_
      refine g_callVV (pc := 49) (As := [.long (((S 64 (((10 * x1) + x2) : Int32).toNatClampNeg) : Int32).toInt64)]) (st := []) C lv_X8_294 fo_55 rfl (ct_X8_say (((S 64 (((10 * x1) + x2) : Int32).toNatClampNeg) : Int32).toInt64) S) (by decide) rfl rfl (Nat.le_of_ble_eq_true rfl) dX8_sayCart_49 (fun r_24 S_23 => ?_)
      refine g_iinc (pc := 52) C (v := 1) dX8_sayCart_52 2 rfl (by decide) (by decide) (fun x => [(2, .int x), (0, .ref (gX Γ 55)), (1, .int x1)]) (fun _ => rfl) (fun x2_25 => ?_)
      refine g_goto (pc := 55) C 24 dX8_sayCart_55 (by decide) ?_
      exact g_sub [1, 2, 0] rfl (ih x1 x2_25 S_23)
set_option maxRecDepth 100000 in
set_option maxHeartbeats 4000000 in
theorem p_X8_sayCart {Γ : GA} {E : EV} (C : Cx Γ E RX8 cX8_sayCart 3 3 none) (M : Mx Γ E) (x1 : Int32) (S : St) : G Γ E (QV Γ E) 3 0 [(0, .ref (gX Γ 55)), (1, .int x1)] [] S (f_X8_sayCart x1 S) := by
  rw [f_X8_sayCart]
  refine g_aload_n (pc := 0) C dX8_sayCart_0 0 rfl rfl ?_
  refine g_aload_n (pc := 1) C dX8_sayCart_1 0 rfl rfl ?_
  refine g_getR (pc := 2) C lk_X8_28 fr_55_13 dX8_sayCart_2 ?_
  refine g_iload_n (pc := 5) C dX8_sayCart_5 1 rfl rfl ?_
  refine g_iald (pc := 6) C ai_62 dX8_sayCart_6 ?_
  refine g_i2l (pc := 7) C dX8_sayCart_7 ?_
  refine g_callVV (pc := 8) (As := [.long (((S 62 (x1 : Int32).toNatClampNeg) : Int32).toInt64)]) (st := []) C lv_X8_294 fo_55 rfl (ct_X8_say (((S 62 (x1 : Int32).toNatClampNeg) : Int32).toInt64) S) (by decide) rfl rfl (Nat.le_of_ble_eq_true rfl) dX8_sayCart_8 (fun r_2 S_1 => ?_)
  refine g_aload_n (pc := 11) C dX8_sayCart_11 0 rfl rfl ?_
  refine g_aload_n (pc := 12) C dX8_sayCart_12 0 rfl rfl ?_
  refine g_getR (pc := 13) C lk_X8_31 fr_55_14 dX8_sayCart_13 ?_
  refine g_iload_n (pc := 16) C dX8_sayCart_16 1 rfl rfl ?_
  refine g_iald (pc := 17) C ai_63 dX8_sayCart_17 ?_
  refine g_i2l (pc := 18) C dX8_sayCart_18 ?_
  refine g_callVV (pc := 19) (As := [.long (((S_1 63 (x1 : Int32).toNatClampNeg) : Int32).toInt64)]) (st := []) C lv_X8_294 fo_55 rfl (ct_X8_say (((S_1 63 (x1 : Int32).toNatClampNeg) : Int32).toInt64) S_1) (by decide) rfl rfl (Nat.le_of_ble_eq_true rfl) dX8_sayCart_19 (fun r_4 S_3 => ?_)
  refine g_iconst (pc := 22) C (v := 0) dX8_sayCart_22 (by decide) ?_
  refine g_istore_n0 (pc := 23) C dX8_sayCart_23 rfl (by decide) (lv' := [(2, .int 0), (0, .ref (gX Γ 55)), (1, .int x1)]) rfl ?_
  exact g_sub [1, 2, 0] rfl (p_X8_sayCart_l24 C M FU x1 0 S_3)
theorem ct_X8_sayCart {Γ : GA} (x1 : Int32) (S : St) : CtV Γ yX8_sayCart cX8_sayCart 3 none 3 [.ref (gX Γ 55), .int x1] S (f_X8_sayCart x1 S) :=
  ctV_of (by decide) (Nat.le_of_ble_eq_true rfl) (fun _ C M => p_X8_sayCart C M x1 S)
set_option maxRecDepth 100000 in
set_option maxHeartbeats 4000000 in
theorem p_X8_digest_l135 {Γ : GA} {E : EV} (C : Cx Γ E RX8 cX8_digest 3 4 (some .long)) (M : Mx Γ E) : ∀ (n : Nat) (x1 : Int32) (S : St), G Γ E (QL Γ E) 3 135 [(0, .ref (gX Γ 55)), (1, .int x1)] [] S (f_X8_digest_l135 n x1 S) := by
  intro n
  induction n with
  | zero => intro x1 S; exact g_none
  | succ n ih =>
    intro x1 S
    rw [f_X8_digest_l135]
    refine g_iload_n (pc := 135) C dX8_digest_135 1 rfl rfl ?_
    refine g_bipush (pc := 136) C (v := 7) dX8_digest_136 (by decide) ?_
    refine g_icmp_ge (pc := 138) C 157 dX8_digest_138 (by decide) ?_ ?_
    · refine g_aload_n (pc := 157) C dX8_digest_157 0 rfl rfl ?_
      refine g_getL (pc := 158) C lk_X8_290 fl_55_39 dX8_digest_158 ?_
      exact g_lret C M dX8_digest_161
    · refine g_aload_n (pc := 141) C dX8_digest_141 0 rfl rfl ?_
      refine g_aload_n (pc := 142) C dX8_digest_142 0 rfl rfl ?_
      refine g_iload_n (pc := 143) C dX8_digest_143 1 rfl rfl ?_
      refine g_callVI (pc := 144) (As := [.int x1]) (st := [.ref (gX Γ 55)]) C lv_X8_285 fo_55 rfl (ct_X8_countOf x1 S) (by decide) rfl rfl (Nat.le_of_ble_eq_true rfl) dX8_digest_144 (fun r_7 S_6 => ?_)
      refine g_i2l (pc := 147) C dX8_digest_147 ?_
      refine g_callVV (pc := 148) (As := [.long ((r_7 : Int32).toInt64)]) (st := []) C lv_X8_294 fo_55 rfl (ct_X8_say ((r_7 : Int32).toInt64) S_6) (by decide) rfl rfl (Nat.le_of_ble_eq_true rfl) dX8_digest_148 (fun r_9 S_8 => ?_)
      refine g_iinc (pc := 151) C (v := 1) dX8_digest_151 1 rfl (by decide) (by decide) (fun x => [(1, .int x), (0, .ref (gX Γ 55))]) (fun _ => rfl) (fun x1_10 => ?_)
      refine g_goto (pc := 154) C 135 dX8_digest_154 (by decide) ?_
      exact g_sub [1, 0] rfl (ih x1_10 S_8)
set_option maxRecDepth 100000 in
set_option maxHeartbeats 4000000 in
theorem p_X8_digest_l108 {Γ : GA} {E : EV} (C : Cx Γ E RX8 cX8_digest 3 4 (some .long)) (M : Mx Γ E) : ∀ (n : Nat) (x1 : Int32) (S : St), G Γ E (QL Γ E) 3 108 [(0, .ref (gX Γ 55)), (1, .int x1)] [] S (f_X8_digest_l108 n x1 S) := by
  intro n
  induction n with
  | zero => intro x1 S; exact g_none
  | succ n ih =>
    intro x1 S
    rw [f_X8_digest_l108]
    refine g_iload_n (pc := 108) C dX8_digest_108 1 rfl rfl ?_
    refine g_aload_n (pc := 109) C dX8_digest_109 0 rfl rfl ?_
    refine g_getI (pc := 110) C lk_X8_76 fi_55_1 dX8_digest_110 ?_
    refine g_icmp_ge (pc := 113) C 133 dX8_digest_113 (by decide) ?_ ?_
    · refine g_iconst (pc := 133) C (v := 0) dX8_digest_133 (by decide) ?_
      refine g_istore_n0 (pc := 134) C dX8_digest_134 rfl (by decide) (lv' := [(1, .int 0), (0, .ref (gX Γ 55))]) rfl ?_
      exact g_sub [1, 0] rfl (p_X8_digest_l135 C M FU 0 S)
    · refine g_aload_n (pc := 116) C dX8_digest_116 0 rfl rfl ?_
      refine g_aload_n (pc := 117) C dX8_digest_117 0 rfl rfl ?_
      refine g_getR (pc := 118) C lk_X8_7 fr_55_0 dX8_digest_118 ?_
      refine g_iload_n (pc := 121) C dX8_digest_121 1 rfl rfl ?_
      refine g_iald (pc := 122) C ai_56 dX8_digest_122 ?_
      refine g_i2l (pc := 123) C dX8_digest_123 ?_
      refine g_callVV (pc := 124) (As := [.long (((S 56 (x1 : Int32).toNatClampNeg) : Int32).toInt64)]) (st := []) C lv_X8_294 fo_55 rfl (ct_X8_say (((S 56 (x1 : Int32).toNatClampNeg) : Int32).toInt64) S) (by decide) rfl rfl (Nat.le_of_ble_eq_true rfl) dX8_digest_124 (fun r_12 S_11 => ?_)
      refine g_iinc (pc := 127) C (v := 1) dX8_digest_127 1 rfl (by decide) (by decide) (fun x => [(1, .int x), (0, .ref (gX Γ 55))]) (fun _ => rfl) (fun x1_13 => ?_)
      refine g_goto (pc := 130) C 108 dX8_digest_130 (by decide) ?_
      exact g_sub [1, 0] rfl (ih x1_13 S_11)
set_option maxRecDepth 100000 in
set_option maxHeartbeats 4000000 in
theorem p_X8_digest_l70 {Γ : GA} {E : EV} (C : Cx Γ E RX8 cX8_digest 3 4 (some .long)) (M : Mx Γ E) : ∀ (n : Nat) (x1 : Int32) (S : St), G Γ E (QL Γ E) 3 70 [(0, .ref (gX Γ 55)), (1, .int x1)] [] S (f_X8_digest_l70 n x1 S) := by
  intro n
  induction n with
  | zero => intro x1 S; exact g_none
  | succ n ih =>
    intro x1 S
    rw [f_X8_digest_l70]
    refine g_iload_n (pc := 70) C dX8_digest_70 1 rfl rfl ?_
    refine g_iconst (pc := 71) C (v := 3) dX8_digest_71 (by decide) ?_
    refine g_aload_n (pc := 72) C dX8_digest_72 0 rfl rfl ?_
    refine g_getI (pc := 73) C lk_X8_215 fi_55_29 dX8_digest_73 ?_
    refine g_imul (pc := 76) C dX8_digest_76 ?_
    refine g_icmp_ge (pc := 77) C 97 dX8_digest_77 (by decide) ?_ ?_
    · refine g_aload_n (pc := 97) C dX8_digest_97 0 rfl rfl ?_
      refine g_aload_n (pc := 98) C dX8_digest_98 0 rfl rfl ?_
      refine g_callVI (pc := 99) (As := []) (st := [.ref (gX Γ 55)]) C lv_X8_218 fo_55 rfl (ct_X8_rubsNow S) (by decide) rfl rfl (Nat.le_of_ble_eq_true rfl) dX8_digest_99 (fun r_3 S_2 => ?_)
      refine g_i2l (pc := 102) C dX8_digest_102 ?_
      refine g_callVV (pc := 103) (As := [.long ((r_3 : Int32).toInt64)]) (st := []) C lv_X8_294 fo_55 rfl (ct_X8_say ((r_3 : Int32).toInt64) S_2) (by decide) rfl rfl (Nat.le_of_ble_eq_true rfl) dX8_digest_103 (fun r_5 S_4 => ?_)
      refine g_iconst (pc := 106) C (v := 0) dX8_digest_106 (by decide) ?_
      refine g_istore_n0 (pc := 107) C dX8_digest_107 rfl (by decide) (lv' := [(1, .int 0), (0, .ref (gX Γ 55))]) rfl ?_
      exact g_sub [1, 0] rfl (p_X8_digest_l108 C M FU 0 S_4)
    · refine g_aload_n (pc := 80) C dX8_digest_80 0 rfl rfl ?_
      refine g_aload_n (pc := 81) C dX8_digest_81 0 rfl rfl ?_
      refine g_getR (pc := 82) C lk_X8_52 fr_55_30 dX8_digest_82 ?_
      refine g_iload_n (pc := 85) C dX8_digest_85 1 rfl rfl ?_
      refine g_iald (pc := 86) C ai_70 dX8_digest_86 ?_
      refine g_i2l (pc := 87) C dX8_digest_87 ?_
      refine g_callVV (pc := 88) (As := [.long (((S 70 (x1 : Int32).toNatClampNeg) : Int32).toInt64)]) (st := []) C lv_X8_294 fo_55 rfl (ct_X8_say (((S 70 (x1 : Int32).toNatClampNeg) : Int32).toInt64) S) (by decide) rfl rfl (Nat.le_of_ble_eq_true rfl) dX8_digest_88 (fun r_15 S_14 => ?_)
      refine g_iinc (pc := 91) C (v := 1) dX8_digest_91 1 rfl (by decide) (by decide) (fun x => [(1, .int x), (0, .ref (gX Γ 55))]) (fun _ => rfl) (fun x1_16 => ?_)
      refine g_goto (pc := 94) C 70 dX8_digest_94 (by decide) ?_
      exact g_sub [1, 0] rfl (ih x1_16 S_14)
set_option maxRecDepth 100000 in
set_option maxHeartbeats 4000000 in
theorem p_X8_digest_l49 {Γ : GA} {E : EV} (C : Cx Γ E RX8 cX8_digest 3 4 (some .long)) (M : Mx Γ E) : ∀ (n : Nat) (x1 : Int32) (S : St), G Γ E (QL Γ E) 3 49 [(0, .ref (gX Γ 55)), (1, .int x1)] [] S (f_X8_digest_l49 n x1 S) := by
  intro n
  induction n with
  | zero => intro x1 S; exact g_none
  | succ n ih =>
    intro x1 S
    rw [f_X8_digest_l49]
    refine g_iload_n (pc := 49) C dX8_digest_49 1 rfl rfl ?_
    refine g_aload_n (pc := 50) C dX8_digest_50 0 rfl rfl ?_
    refine g_getI (pc := 51) C lk_X8_122 fi_55_12 dX8_digest_51 ?_
    refine g_icmp_ge (pc := 54) C 68 dX8_digest_54 (by decide) ?_ ?_
    · refine g_iconst (pc := 68) C (v := 0) dX8_digest_68 (by decide) ?_
      refine g_istore_n0 (pc := 69) C dX8_digest_69 rfl (by decide) (lv' := [(1, .int 0), (0, .ref (gX Γ 55))]) rfl ?_
      exact g_sub [1, 0] rfl (p_X8_digest_l70 C M FU 0 S)
    · refine g_aload_n (pc := 57) C dX8_digest_57 0 rfl rfl ?_
      refine g_iload_n (pc := 58) C dX8_digest_58 1 rfl rfl ?_
      refine g_callVV (pc := 59) (As := [.int x1]) (st := []) C lv_X8_300 fo_55 rfl (ct_X8_sayCart x1 S) (by decide) rfl rfl (Nat.le_of_ble_eq_true rfl) dX8_digest_59 (fun r_18 S_17 => ?_)
      refine g_iinc (pc := 62) C (v := 1) dX8_digest_62 1 rfl (by decide) (by decide) (fun x => [(1, .int x), (0, .ref (gX Γ 55))]) (fun _ => rfl) (fun x1_19 => ?_)
      refine g_goto (pc := 65) C 49 dX8_digest_65 (by decide) ?_
      exact g_sub [1, 0] rfl (ih x1_19 S_17)
set_option maxRecDepth 100000 in
set_option maxHeartbeats 4000000 in
theorem p_X8_digest_l19 {Γ : GA} {E : EV} (C : Cx Γ E RX8 cX8_digest 3 4 (some .long)) (M : Mx Γ E) (k9 : Int32 → St → Option (Int64 × St)) (hk9 : ∀ (x1 : Int32) (S : St), G Γ E (QL Γ E) 3 9 [(0, .ref (gX Γ 55)), (1, .int x1)] [] S (k9 x1 S)) : ∀ (n : Nat) (x1 : Int32) (x2 : Int32) (S : St), G Γ E (QL Γ E) 3 19 [(0, .ref (gX Γ 55)), (1, .int x1), (2, .int x2)] [] S (f_X8_digest_l19 k9 n x1 x2 S) := by
  intro n
  induction n with
  | zero => intro x1 x2 S; exact g_none
  | succ n ih =>
    intro x1 x2 S
    rw [f_X8_digest_l19]
    refine g_iload_n (pc := 19) C dX8_digest_19 2 rfl rfl ?_
    refine g_iconst (pc := 20) C (v := 4) dX8_digest_20 (by decide) ?_
    refine g_icmp_ge (pc := 21) C 41 dX8_digest_21 (by decide) ?_ ?_
    · refine g_iinc (pc := 41) C (v := 1) dX8_digest_41 1 rfl (by decide) (by decide) (fun x => [(1, .int x), (0, .ref (gX Γ 55)), (2, .int x2)]) (fun _ => rfl) (fun x1_20 => ?_)
      refine g_goto (pc := 44) C 9 dX8_digest_44 (by decide) ?_
      exact g_sub [1, 0] rfl (hk9 x1_20 S)
    · refine g_aload_n (pc := 24) C dX8_digest_24 0 rfl rfl ?_
      refine g_aload_n (pc := 25) C dX8_digest_25 0 rfl rfl ?_
      refine g_iload_n (pc := 26) C dX8_digest_26 1 rfl rfl ?_
      refine g_iload_n (pc := 27) C dX8_digest_27 2 rfl rfl ?_
      refine g_callVI (pc := 28) (As := [.int x1, .int x2]) (st := [.ref (gX Γ 55)]) C lv_X8_128 fo_55 rfl (ct_X8_cellOf x1 x2 S) (by decide) rfl rfl (Nat.le_of_ble_eq_true rfl) dX8_digest_28 (fun r_22 S_21 => ?_)
      refine g_i2l (pc := 31) C dX8_digest_31 ?_
      refine g_callVV (pc := 32) (As := [.long ((r_22 : Int32).toInt64)]) (st := []) C lv_X8_294 fo_55 rfl (ct_X8_say ((r_22 : Int32).toInt64) S_21) (by decide) rfl rfl (Nat.le_of_ble_eq_true rfl) dX8_digest_32 (fun r_24 S_23 => ?_)
      refine g_iinc (pc := 35) C (v := 1) dX8_digest_35 2 rfl (by decide) (by decide) (fun x => [(2, .int x), (0, .ref (gX Γ 55)), (1, .int x1)]) (fun _ => rfl) (fun x2_25 => ?_)
      refine g_goto (pc := 38) C 19 dX8_digest_38 (by decide) ?_
      exact g_sub [1, 2, 0] rfl (ih x1 x2_25 S_23)
set_option maxRecDepth 100000 in
set_option maxHeartbeats 4000000 in
theorem p_X8_digest_l9 {Γ : GA} {E : EV} (C : Cx Γ E RX8 cX8_digest 3 4 (some .long)) (M : Mx Γ E) : ∀ (n : Nat) (x1 : Int32) (S : St), G Γ E (QL Γ E) 3 9 [(0, .ref (gX Γ 55)), (1, .int x1)] [] S (f_X8_digest_l9 n x1 S) := by
  intro n
  induction n with
  | zero => intro x1 S; exact g_none
  | succ n ih =>
    intro x1 S
    rw [f_X8_digest_l9]
    refine g_iload_n (pc := 9) C dX8_digest_9 1 rfl rfl ?_
    refine g_aload_n (pc := 10) C dX8_digest_10 0 rfl rfl ?_
    refine g_getI (pc := 11) C lk_X8_116 fi_55_6 dX8_digest_11 ?_
    refine g_icmp_ge (pc := 14) C 47 dX8_digest_14 (by decide) ?_ ?_
    · refine g_iconst (pc := 47) C (v := 0) dX8_digest_47 (by decide) ?_
      refine g_istore_n0 (pc := 48) C dX8_digest_48 rfl (by decide) (lv' := [(1, .int 0), (0, .ref (gX Γ 55))]) rfl ?_
      exact g_sub [1, 0] rfl (p_X8_digest_l49 C M FU 0 S)
    · refine g_iconst (pc := 17) C (v := 0) dX8_digest_17 (by decide) ?_
      refine g_istore_n0 (pc := 18) C dX8_digest_18 rfl (by decide) (lv' := [(2, .int 0), (0, .ref (gX Γ 55)), (1, .int x1)]) rfl ?_
      exact g_sub [1, 2, 0] rfl (p_X8_digest_l19 C M (f_X8_digest_l9 n) ih FU x1 0 S)
set_option maxRecDepth 100000 in
set_option maxHeartbeats 4000000 in
theorem p_X8_digest {Γ : GA} {E : EV} (C : Cx Γ E RX8 cX8_digest 3 4 (some .long)) (M : Mx Γ E) (S : St) : G Γ E (QL Γ E) 3 0 [(0, .ref (gX Γ 55))] [] S (f_X8_digest S) := by
  rw [f_X8_digest]
  refine g_aload_n (pc := 0) C dX8_digest_0 0 rfl rfl ?_
  refine g_ldc2 (pc := 1) C kc_X8_298 dX8_digest_1 ?_
  refine g_putL (pc := 4) C lp_X8_290 fl_55_39 dX8_digest_4 (fun S_1 => ?_)
  refine g_iconst (pc := 7) C (v := 0) dX8_digest_7 (by decide) ?_
  refine g_istore_n0 (pc := 8) C dX8_digest_8 rfl (by decide) (lv' := [(1, .int 0), (0, .ref (gX Γ 55))]) rfl ?_
  exact g_sub [1, 0] rfl (p_X8_digest_l9 C M FU 0 S_1)
theorem ct_X8_digest {Γ : GA} (S : St) : CtL Γ yX8_digest cX8_digest 3 (some .long) 4 [.ref (gX Γ 55)] S (f_X8_digest S) :=
  ctL_of (by decide) (Nat.le_of_ble_eq_true rfl) (fun _ C M => p_X8_digest C M  S)
