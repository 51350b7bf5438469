set_option maxRecDepth 100000 in
set_option maxHeartbeats 4000000 in
theorem p_X2_copy40 {Γ : GA} {E : EV} (C : Cx Γ E RX2 cX2_copy 2 1 none) (M : Mx Γ E) (S : St) : G Γ E (QV Γ E) 2 0 [(0, .ref (gX Γ 40)), (1, .ref (gX Γ 33))] [] S (f_X2_copy40 S) := by
  rw [f_X2_copy40]
  refine g_aload_n (pc := 0) C dX2_copy_0 1 rfl rfl ?_
  refine g_getR (pc := 1) C lk_X2_9 fr_33_0 dX2_copy_1 ?_
  refine g_iconst (pc := 4) C (v := 0) dX2_copy_4 (by decide) ?_
  refine g_aload_n (pc := 5) C dX2_copy_5 0 rfl rfl ?_
  refine g_getR (pc := 6) C lk_X2_9 fr_40_0 dX2_copy_6 ?_
  refine g_iconst (pc := 9) C (v := 0) dX2_copy_9 (by decide) ?_
  refine g_bipush (pc := 10) C (v := 8) dX2_copy_10 (by decide) ?_
  refine g_copy (pc := 12) C ai_34 ai_41 kw_X2_25 kw_ac1 kw_ac2 kw_ac3 (by decide) (by decide) (by decide) (by decide) (by decide) (Nat.le_of_ble_eq_true rfl) dX2_copy_12 (fun S_1 => ?_)
  refine g_aload_n (pc := 15) C dX2_copy_15 1 rfl rfl ?_
  refine g_getR (pc := 16) C lk_X2_15 fr_33_1 dX2_copy_16 ?_
  refine g_iconst (pc := 19) C (v := 0) dX2_copy_19 (by decide) ?_
  refine g_aload_n (pc := 20) C dX2_copy_20 0 rfl rfl ?_
  refine g_getR (pc := 21) C lk_X2_15 fr_40_1 dX2_copy_21 ?_
  refine g_iconst (pc := 24) C (v := 0) dX2_copy_24 (by decide) ?_
  refine g_bipush (pc := 25) C (v := 8) dX2_copy_25 (by decide) ?_
  refine g_copy (pc := 27) C ai_35 ai_42 kw_X2_25 kw_ac1 kw_ac2 kw_ac3 (by decide) (by decide) (by decide) (by decide) (by decide) (Nat.le_of_ble_eq_true rfl) dX2_copy_27 (fun S_2 => ?_)
  refine g_aload_n (pc := 30) C dX2_copy_30 1 rfl rfl ?_
  refine g_getR (pc := 31) C lk_X2_18 fr_33_2 dX2_copy_31 ?_
  refine g_iconst (pc := 34) C (v := 0) dX2_copy_34 (by decide) ?_
  refine g_aload_n (pc := 35) C dX2_copy_35 0 rfl rfl ?_
  refine g_getR (pc := 36) C lk_X2_18 fr_40_2 dX2_copy_36 ?_
  refine g_iconst (pc := 39) C (v := 0) dX2_copy_39 (by decide) ?_
  refine g_bipush (pc := 40) C (v := 8) dX2_copy_40 (by decide) ?_
  refine g_copy (pc := 42) C ai_36 ai_43 kw_X2_25 kw_ac1 kw_ac2 kw_ac3 (by decide) (by decide) (by decide) (by decide) (by decide) (Nat.le_of_ble_eq_true rfl) dX2_copy_42 (fun S_3 => ?_)
  refine g_aload_n (pc := 45) C dX2_copy_45 0 rfl rfl ?_
  refine g_aload_n (pc := 46) C dX2_copy_46 1 rfl rfl ?_
  refine g_getI (pc := 47) C lk_X2_21 fi_33_3 dX2_copy_47 ?_
  refine g_putI (pc := 50) C lp_X2_21 fi_40_3 dX2_copy_50 (fun S_4 => ?_)
  exact g_vret C M dX2_copy_53
theorem ct_X2_copy40 {Γ : GA} (S : St) : CtV Γ yX2_copy cX2_copy 2 none 1 [.ref (gX Γ 40), .ref (gX Γ 33)] S (f_X2_copy40 S) :=
  ctV_of (by decide) (Nat.le_of_ble_eq_true rfl) (fun _ C M => p_X2_copy40 C M  S)
set_option maxRecDepth 100000 in
set_option maxHeartbeats 4000000 in
theorem p_X7_image_l51 {Γ : GA} {E : EV} (C : Cx Γ E RX7 cX7_image 2 2 (some .int)) (M : Mx Γ E) : ∀ (n : Nat) (x1 : Int32) (S : St), G Γ E (QI Γ E) 2 51 [(0, .ref (gX Γ 0)), (1, .int x1)] [] S (f_X7_image_l51 n x1 S) := by
  intro n
  induction n with
  | zero => intro x1 S; exact g_none
  | succ n ih =>
    intro x1 S
    rw [f_X7_image_l51]
    refine g_iload_n (pc := 51) C dX7_image_51 1 rfl rfl ?_
    refine g_aload_n (pc := 52) C dX7_image_52 0 rfl rfl ?_
    refine g_getI (pc := 53) C lk_X7_67 fi_0_9 dX7_image_53 ?_
    refine g_icmp_ge (pc := 56) C 83 dX7_image_56 (by decide) ?_ ?_
    · refine g_aload_n (pc := 83) C dX7_image_83 0 rfl rfl ?_
      refine g_getR (pc := 84) C lk_X7_19 fr_0_1 dX7_image_84 ?_
      refine g_getR (pc := 87) C lk_X7_118 fr_3_3 dX7_image_87 ?_
      refine g_iconst (pc := 90) C (v := 0) dX7_image_90 (by decide) ?_
      refine g_aload_n (pc := 91) C dX7_image_91 0 rfl rfl ?_
      refine g_getR (pc := 92) C lk_X7_40 fr_0_4 dX7_image_92 ?_
      refine g_getR (pc := 95) C lk_X7_297 fr_37_1 dX7_image_95 ?_
      refine g_iconst (pc := 98) C (v := 0) dX7_image_98 (by decide) ?_
      refine g_bipush (pc := 99) C (v := 12) dX7_image_99 (by decide) ?_
      refine g_copy (pc := 101) C ai_7 ai_39 kw_X7_298 kw_ac1 kw_ac2 kw_ac3 (by decide) (by decide) (by decide) (by decide) (by decide) (Nat.le_of_ble_eq_true rfl) dX7_image_101 (fun S_4 => ?_)
      refine g_aload_n (pc := 104) C dX7_image_104 0 rfl rfl ?_
      refine g_getR (pc := 105) C lk_X7_40 fr_0_4 dX7_image_105 ?_
      refine g_getR (pc := 108) C lk_X7_304 fr_37_2 dX7_image_108 ?_
      refine g_aload_n (pc := 111) C dX7_image_111 0 rfl rfl ?_
      refine g_getR (pc := 112) C lk_X7_33 fr_0_3 dX7_image_112 ?_
      refine g_callVV (pc := 115) (As := [.ref (gX Γ 33)]) (st := []) C lv_X7_305 fo_40 rfl (ct_X2_copy40 S_4) (by decide) rfl rfl (Nat.le_of_ble_eq_true rfl) dX7_image_115 (fun r_6 S_5 => ?_)
      refine g_aload_n (pc := 118) C dX7_image_118 0 rfl rfl ?_
      refine g_getI (pc := 119) C lk_X7_67 fi_0_9 dX7_image_119 ?_
      exact g_iret C M dX7_image_122
    · refine g_aload_n (pc := 59) C dX7_image_59 0 rfl rfl ?_
      refine g_getR (pc := 60) C lk_X7_40 fr_0_4 dX7_image_60 ?_
      refine g_getR (pc := 63) C lk_X7_294 fr_37_0 dX7_image_63 ?_
      refine g_iload_n (pc := 66) C dX7_image_66 1 rfl rfl ?_
      refine g_aload_n (pc := 67) C dX7_image_67 0 rfl rfl ?_
      refine g_getR (pc := 68) C lk_X7_25 fr_0_2 dX7_image_68 ?_
      refine g_iload_n (pc := 71) C dX7_image_71 1 rfl rfl ?_
      refine g_aald (pc := 72) C aq_8 dX7_image_72 (fun hj_7 => ?_)
      refine g_getI (pc := 73) C lk_X7_123 (fiC_3 _ hj_7) dX7_image_73 ?_
      refine g_iast (pc := 76) C ai_38 dX7_image_76 (fun S_8 => ?_)
      refine g_iinc (pc := 77) C (v := 1) dX7_image_77 1 rfl (by decide) (by decide) (fun x => [(1, .int x), (0, .ref (gX Γ 0))]) (fun _ => rfl) (fun x1_9 => ?_)
      refine g_goto (pc := 80) C 51 dX7_image_80 (by decide) ?_
      exact g_sub [1, 0] rfl (ih x1_9 S_8)
set_option maxRecDepth 100000 in
set_option maxHeartbeats 4000000 in
theorem p_X7_image {Γ : GA} {E : EV} (C : Cx Γ E RX7 cX7_image 2 2 (some .int)) (M : Mx Γ E) (S : St) : G Γ E (QI Γ E) 2 0 [(0, .ref (gX Γ 0))] [] S (f_X7_image S) := by
  rw [f_X7_image]
  refine g_aload_n (pc := 0) C dX7_image_0 0 rfl rfl ?_
  refine g_getR (pc := 1) C lk_X7_19 fr_0_1 dX7_image_1 ?_
  refine g_getI (pc := 4) C lk_X7_100 fi_3_4 dX7_image_4 ?_
  refine g_if_ne (pc := 7) C 13 dX7_image_7 (by decide) ?_ ?_
  · refine g_bipush (pc := 10) C (v := (-103)) dX7_image_10 (by decide) ?_
    exact g_iret C M dX7_image_12
  · refine g_aload_n (pc := 13) C dX7_image_13 0 rfl rfl ?_
    refine g_getR (pc := 14) C lk_X7_40 fr_0_4 dX7_image_14 ?_
    refine g_aload_n (pc := 17) C dX7_image_17 0 rfl rfl ?_
    refine g_getR (pc := 18) C lk_X7_19 fr_0_1 dX7_image_18 ?_
    refine g_getI (pc := 21) C lk_X7_286 fi_3_5 dX7_image_21 ?_
    refine g_putI (pc := 24) C lp_X7_289 fi_37_5 dX7_image_24 (fun S_1 => ?_)
    refine g_aload_n (pc := 27) C dX7_image_27 0 rfl rfl ?_
    refine g_getR (pc := 28) C lk_X7_40 fr_0_4 dX7_image_28 ?_
    refine g_aload_n (pc := 31) C dX7_image_31 0 rfl rfl ?_
    refine g_getI (pc := 32) C lk_X7_71 fi_0_10 dX7_image_32 ?_
    refine g_putI (pc := 35) C lp_X7_292 fi_37_4 dX7_image_35 (fun S_2 => ?_)
    refine g_aload_n (pc := 38) C dX7_image_38 0 rfl rfl ?_
    refine g_getR (pc := 39) C lk_X7_40 fr_0_4 dX7_image_39 ?_
    refine g_aload_n (pc := 42) C dX7_image_42 0 rfl rfl ?_
    refine g_getI (pc := 43) C lk_X7_67 fi_0_9 dX7_image_43 ?_
    refine g_putI (pc := 46) C lp_X7_293 fi_37_3 dX7_image_46 (fun S_3 => ?_)
    refine g_iconst (pc := 49) C (v := 0) dX7_image_49 (by decide) ?_
    refine g_istore_n0 (pc := 50) C dX7_image_50 rfl (by decide) (lv' := [(1, .int 0), (0, .ref (gX Γ 0))]) rfl ?_
    exact g_sub [1, 0] rfl (p_X7_image_l51 C M FU 0 S_3)
theorem ct_X7_image {Γ : GA} (S : St) : CtI Γ yX7_image cX7_image 2 (some .int) 2 [.ref (gX Γ 0)] S (f_X7_image S) :=
  ctI_of (by decide) (Nat.le_of_ble_eq_true rfl) (fun _ C M => p_X7_image C M  S)
set_option maxRecDepth 100000 in
set_option maxHeartbeats 4000000 in
theorem p_X2_copy33 {Γ : GA} {E : EV} (C : Cx Γ E RX2 cX2_copy 2 1 none) (M : Mx Γ E) (S : St) : G Γ E (QV Γ E) 2 0 [(0, .ref (gX Γ 33)), (1, .ref (gX Γ 40))] [] S (f_X2_copy33 S) := by
  rw [f_X2_copy33]
  refine g_aload_n (pc := 0) C dX2_copy_0 1 rfl rfl ?_
  refine g_getR (pc := 1) C lk_X2_9 fr_40_0 dX2_copy_1 ?_
  refine g_iconst (pc := 4) C (v := 0) dX2_copy_4 (by decide) ?_
  refine g_aload_n (pc := 5) C dX2_copy_5 0 rfl rfl ?_
  refine g_getR (pc := 6) C lk_X2_9 fr_33_0 dX2_copy_6 ?_
  refine g_iconst (pc := 9) C (v := 0) dX2_copy_9 (by decide) ?_
  refine g_bipush (pc := 10) C (v := 8) dX2_copy_10 (by decide) ?_
  refine g_copy (pc := 12) C ai_41 ai_34 kw_X2_25 kw_ac1 kw_ac2 kw_ac3 (by decide) (by decide) (by decide) (by decide) (by decide) (Nat.le_of_ble_eq_true rfl) dX2_copy_12 (fun S_1 => ?_)
  refine g_aload_n (pc := 15) C dX2_copy_15 1 rfl rfl ?_
  refine g_getR (pc := 16) C lk_X2_15 fr_40_1 dX2_copy_16 ?_
  refine g_iconst (pc := 19) C (v := 0) dX2_copy_19 (by decide) ?_
  refine g_aload_n (pc := 20) C dX2_copy_20 0 rfl rfl ?_
  refine g_getR (pc := 21) C lk_X2_15 fr_33_1 dX2_copy_21 ?_
  refine g_iconst (pc := 24) C (v := 0) dX2_copy_24 (by decide) ?_
  refine g_bipush (pc := 25) C (v := 8) dX2_copy_25 (by decide) ?_
  refine g_copy (pc := 27) C ai_42 ai_35 kw_X2_25 kw_ac1 kw_ac2 kw_ac3 (by decide) (by decide) (by decide) (by decide) (by decide) (Nat.le_of_ble_eq_true rfl) dX2_copy_27 (fun S_2 => ?_)
  refine g_aload_n (pc := 30) C dX2_copy_30 1 rfl rfl ?_
  refine g_getR (pc := 31) C lk_X2_18 fr_40_2 dX2_copy_31 ?_
  refine g_iconst (pc := 34) C (v := 0) dX2_copy_34 (by decide) ?_
  refine g_aload_n (pc := 35) C dX2_copy_35 0 rfl rfl ?_
  refine g_getR (pc := 36) C lk_X2_18 fr_33_2 dX2_copy_36 ?_
  refine g_iconst (pc := 39) C (v := 0) dX2_copy_39 (by decide) ?_
  refine g_bipush (pc := 40) C (v := 8) dX2_copy_40 (by decide) ?_
  refine g_copy (pc := 42) C ai_43 ai_36 kw_X2_25 kw_ac1 kw_ac2 kw_ac3 (by decide) (by decide) (by decide) (by decide) (by decide) (Nat.le_of_ble_eq_true rfl) dX2_copy_42 (fun S_3 => ?_)
  refine g_aload_n (pc := 45) C dX2_copy_45 0 rfl rfl ?_
  refine g_aload_n (pc := 46) C dX2_copy_46 1 rfl rfl ?_
  refine g_getI (pc := 47) C lk_X2_21 fi_40_3 dX2_copy_47 ?_
  refine g_putI (pc := 50) C lp_X2_21 fi_33_3 dX2_copy_50 (fun S_4 => ?_)
  exact g_vret C M dX2_copy_53
theorem ct_X2_copy33 {Γ : GA} (S : St) : CtV Γ yX2_copy cX2_copy 2 none 1 [.ref (gX Γ 33), .ref (gX Γ 40)] S (f_X2_copy33 S) :=
  ctV_of (by decide) (Nat.le_of_ble_eq_true rfl) (fun _ C M => p_X2_copy33 C M  S)
set_option maxRecDepth 100000 in
set_option maxHeartbeats 4000000 in
theorem p_X7_restore_l43 {Γ : GA} {E : EV} (C : Cx Γ E RX7 cX7_restore 2 2 (some .int)) (M : Mx Γ E) : ∀ (n : Nat) (x1 : Int32) (S : St), G Γ E (QI Γ E) 2 43 [(0, .ref (gX Γ 0)), (1, .int x1)] [] S (f_X7_restore_l43 n x1 S) := by
  intro n
  induction n with
  | zero => intro x1 S; exact g_none
  | succ n ih =>
    intro x1 S
    rw [f_X7_restore_l43]
    refine g_iload_n (pc := 43) C dX7_restore_43 1 rfl rfl ?_
    refine g_aload_n (pc := 44) C dX7_restore_44 0 rfl rfl ?_
    refine g_getR (pc := 45) C lk_X7_40 fr_0_4 dX7_restore_45 ?_
    refine g_getI (pc := 48) C lk_X7_293 fi_37_3 dX7_restore_48 ?_
    refine g_icmp_ge (pc := 51) C 78 dX7_restore_51 (by decide) ?_ ?_
    · refine g_aload_n (pc := 78) C dX7_restore_78 0 rfl rfl ?_
      refine g_getR (pc := 79) C lk_X7_40 fr_0_4 dX7_restore_79 ?_
      refine g_getR (pc := 82) C lk_X7_297 fr_37_1 dX7_restore_82 ?_
      refine g_iconst (pc := 85) C (v := 0) dX7_restore_85 (by decide) ?_
      refine g_aload_n (pc := 86) C dX7_restore_86 0 rfl rfl ?_
      refine g_getR (pc := 87) C lk_X7_19 fr_0_1 dX7_restore_87 ?_
      refine g_getR (pc := 90) C lk_X7_118 fr_3_3 dX7_restore_90 ?_
      refine g_iconst (pc := 93) C (v := 0) dX7_restore_93 (by decide) ?_
      refine g_bipush (pc := 94) C (v := 12) dX7_restore_94 (by decide) ?_
      refine g_copy (pc := 96) C ai_39 ai_7 kw_X7_298 kw_ac1 kw_ac2 kw_ac3 (by decide) (by decide) (by decide) (by decide) (by decide) (Nat.le_of_ble_eq_true rfl) dX7_restore_96 (fun S_2 => ?_)
      refine g_aload_n (pc := 99) C dX7_restore_99 0 rfl rfl ?_
      refine g_getR (pc := 100) C lk_X7_33 fr_0_3 dX7_restore_100 ?_
      refine g_aload_n (pc := 103) C dX7_restore_103 0 rfl rfl ?_
      refine g_getR (pc := 104) C lk_X7_40 fr_0_4 dX7_restore_104 ?_
      refine g_getR (pc := 107) C lk_X7_304 fr_37_2 dX7_restore_107 ?_
      refine g_callVV (pc := 110) (As := [.ref (gX Γ 40)]) (st := []) C lv_X7_305 fo_33 rfl (ct_X2_copy33 S_2) (by decide) rfl rfl (Nat.le_of_ble_eq_true rfl) dX7_restore_110 (fun r_4 S_3 => ?_)
      refine g_aload_n (pc := 113) C dX7_restore_113 0 rfl rfl ?_
      refine g_getI (pc := 114) C lk_X7_67 fi_0_9 dX7_restore_114 ?_
      exact g_iret C M dX7_restore_117
    · refine g_aload_n (pc := 54) C dX7_restore_54 0 rfl rfl ?_
      refine g_getR (pc := 55) C lk_X7_25 fr_0_2 dX7_restore_55 ?_
      refine g_iload_n (pc := 58) C dX7_restore_58 1 rfl rfl ?_
      refine g_aald (pc := 59) C aq_8 dX7_restore_59 (fun hj_5 => ?_)
      refine g_aload_n (pc := 60) C dX7_restore_60 0 rfl rfl ?_
      refine g_getR (pc := 61) C lk_X7_40 fr_0_4 dX7_restore_61 ?_
      refine g_getR (pc := 64) C lk_X7_294 fr_37_0 dX7_restore_64 ?_
      refine g_iload_n (pc := 67) C dX7_restore_67 1 rfl rfl ?_
      refine g_iald (pc := 68) C ai_38 dX7_restore_68 ?_
      refine g_putI (pc := 69) C lp_X7_123 (fiC_3 _ hj_5) dX7_restore_69 (fun S_6 => ?_)
      refine g_iinc (pc := 72) C (v := 1) dX7_restore_72 1 rfl (by decide) (by decide) (fun x => [(1, .int x), (0, .ref (gX Γ 0))]) (fun _ => rfl) (fun x1_7 => ?_)
      refine g_goto (pc := 75) C 43 dX7_restore_75 (by decide) ?_
      exact g_sub [1, 0] rfl (ih x1_7 S_6)
set_option maxRecDepth 100000 in
set_option maxHeartbeats 4000000 in
theorem p_X7_restore {Γ : GA} {E : EV} (C : Cx Γ E RX7 cX7_restore 2 2 (some .int)) (M : Mx Γ E) (S : St) : G Γ E (QI Γ E) 2 0 [(0, .ref (gX Γ 0))] [] S (f_X7_restore S) := by
  rw [f_X7_restore]
  refine g_aload_n (pc := 0) C dX7_restore_0 0 rfl rfl ?_
  refine g_getR (pc := 1) C lk_X7_40 fr_0_4 dX7_restore_1 ?_
  refine g_getI (pc := 4) C lk_X7_289 fi_37_5 dX7_restore_4 ?_
  refine g_if_eq (pc := 7) C 27 dX7_restore_7 (by decide) ?_ ?_
  · refine g_bipush (pc := 27) C (v := (-103)) dX7_restore_27 (by decide) ?_
    exact g_iret C M dX7_restore_29
  · refine g_aload_n (pc := 10) C dX7_restore_10 0 rfl rfl ?_
    refine g_getR (pc := 11) C lk_X7_40 fr_0_4 dX7_restore_11 ?_
    refine g_getI (pc := 14) C lk_X7_289 fi_37_5 dX7_restore_14 ?_
    refine g_aload_n (pc := 17) C dX7_restore_17 0 rfl rfl ?_
    refine g_getR (pc := 18) C lk_X7_19 fr_0_1 dX7_restore_18 ?_
    refine g_getI (pc := 21) C lk_X7_286 fi_3_5 dX7_restore_21 ?_
    refine g_icmp_eq (pc := 24) C 30 dX7_restore_24 (by decide) ?_ ?_
    · refine g_aload_n (pc := 30) C dX7_restore_30 0 rfl rfl ?_
      refine g_aload_n (pc := 31) C dX7_restore_31 0 rfl rfl ?_
      refine g_getR (pc := 32) C lk_X7_40 fr_0_4 dX7_restore_32 ?_
      refine g_getI (pc := 35) C lk_X7_292 fi_37_4 dX7_restore_35 ?_
      refine g_putI (pc := 38) C lp_X7_71 fi_0_10 dX7_restore_38 (fun S_1 => ?_)
      refine g_iconst (pc := 41) C (v := 0) dX7_restore_41 (by decide) ?_
      refine g_istore_n0 (pc := 42) C dX7_restore_42 rfl (by decide) (lv' := [(1, .int 0), (0, .ref (gX Γ 0))]) rfl ?_
      exact g_sub [1, 0] rfl (p_X7_restore_l43 C M FU 0 S_1)
    · refine g_bipush (pc := 27) C (v := (-103)) dX7_restore_27 (by decide) ?_
      exact g_iret C M dX7_restore_29
theorem ct_X7_restore {Γ : GA} (S : St) : CtI Γ yX7_restore cX7_restore 2 (some .int) 2 [.ref (gX Γ 0)] S (f_X7_restore S) :=
  ctI_of (by decide) (Nat.le_of_ble_eq_true rfl) (fun _ C M => p_X7_restore C M  S)
set_option maxRecDepth 100000 in
set_option maxHeartbeats 4000000 in
theorem p_X7_count {Γ : GA} {E : EV} (C : Cx Γ E RX7 cX7_count 2 1 (some .int)) (M : Mx Γ E) (x1 : Int32) (S : St) : G Γ E (QI Γ E) 2 0 [(0, .ref (gX Γ 0)), (1, .int x1)] [] S (f_X7_count x1 S) := by
  rw [f_X7_count]
  refine g_iload_n (pc := 0) C dX7_count_0 1 rfl rfl ?_
  refine g_tsw (res := none) (pc := 1) C 0 44 0 dX7_count_1 (by show ¬ ((0 : Int) ≤ _ ∧ _ < (0 : Int)); omega) (by decide) rfl (by decide) ?_ (fun hs_1 => ?_)
  · refine g_aload_n (pc := 44) C dX7_count_44 0 rfl rfl ?_
    refine g_getR (pc := 45) C lk_X7_19 fr_0_1 dX7_count_45 ?_
    refine g_getI (pc := 48) C lk_X7_100 fi_3_4 dX7_count_48 ?_
    exact g_iret C M dX7_count_51
  refine g_tsw (res := none) (pc := 1) C 1 52 1 dX7_count_1 hs_1 (by decide) rfl (by decide) ?_ (fun hs_4 => ?_)
  · refine g_aload_n (pc := 52) C dX7_count_52 0 rfl rfl ?_
    refine g_getR (pc := 53) C lk_X7_19 fr_0_1 dX7_count_53 ?_
    refine g_callVI (pc := 56) (As := []) (st := []) C lv_X7_271 fo_3 rfl (ct_X3_bends S) (by decide) rfl rfl (Nat.le_of_ble_eq_true rfl) dX7_count_56 (fun r_3 S_2 => ?_)
    exact g_iret C M dX7_count_59
  refine g_tsw (res := none) (pc := 1) C 2 60 2 dX7_count_1 hs_4 (by decide) rfl (by decide) ?_ (fun hs_5 => ?_)
  · refine g_aload_n (pc := 60) C dX7_count_60 0 rfl rfl ?_
    refine g_getI (pc := 61) C lk_X7_67 fi_0_9 dX7_count_61 ?_
    exact g_iret C M dX7_count_64
  refine g_tsw (res := none) (pc := 1) C 3 65 3 dX7_count_1 hs_5 (by decide) rfl (by decide) ?_ (fun hs_6 => ?_)
  · refine g_aload_n (pc := 65) C dX7_count_65 0 rfl rfl ?_
    refine g_getR (pc := 66) C lk_X7_33 fr_0_3 dX7_count_66 ?_
    refine g_getI (pc := 69) C lk_X7_229 fi_33_3 dX7_count_69 ?_
    exact g_iret C M dX7_count_72
  refine g_tsw (res := none) (pc := 1) C 4 73 4 dX7_count_1 hs_6 (by decide) rfl (by decide) ?_ (fun hs_7 => ?_)
  · refine g_aload_n (pc := 73) C dX7_count_73 0 rfl rfl ?_
    refine g_getR (pc := 74) C lk_X7_12 fr_0_0 dX7_count_74 ?_
    refine g_getI (pc := 77) C lk_X7_78 fi_1_1 dX7_count_77 ?_
    exact g_iret C M dX7_count_80
  refine g_tsw (res := none) (pc := 1) C 5 81 5 dX7_count_1 hs_7 (by decide) rfl (by decide) ?_ (fun hs_8 => ?_)
  · refine g_aload_n (pc := 81) C dX7_count_81 0 rfl rfl ?_
    refine g_getR (pc := 82) C lk_X7_19 fr_0_1 dX7_count_82 ?_
    refine g_getI (pc := 85) C lk_X7_286 fi_3_5 dX7_count_85 ?_
    exact g_iret C M dX7_count_88
  refine g_tsw (res := none) (pc := 1) C 6 89 6 dX7_count_1 hs_8 (by decide) rfl (by decide) ?_ (fun hs_9 => ?_)
  · refine g_aload_n (pc := 89) C dX7_count_89 0 rfl rfl ?_
    refine g_getI (pc := 90) C lk_X7_71 fi_0_10 dX7_count_90 ?_
    exact g_iret C M dX7_count_93
  refine g_tsd (pc := 1) C (k := 6) 94 dX7_count_1 hs_9 rfl (by decide) ?_
  refine g_bipush (pc := 94) C (v := (-102)) dX7_count_94 (by decide) ?_
  exact g_iret C M dX7_count_96
theorem ct_X7_count {Γ : GA} (x1 : Int32) (S : St) : CtI Γ yX7_count cX7_count 2 (some .int) 1 [.ref (gX Γ 0), .int x1] S (f_X7_count x1 S) :=
  ctI_of (by decide) (Nat.le_of_ble_eq_true rfl) (fun _ C M => p_X7_count C M x1 S)
set_option maxRecDepth 100000 in
set_option maxHeartbeats 4000000 in
theorem p_X7_mixed {Γ : GA} {E : EV} (C : Cx Γ E RX7 cX7_mixed 3 0 (some .long)) (M : Mx Γ E) (l0 : Int64) (x2 : Int32) (S : St) : G Γ E (QL Γ E) 3 0 [(0, .long l0), (2, .int x2)] [] S (f_X7_mixed l0 x2 S) := by
  rw [f_X7_mixed]
  refine g_ldc2 (pc := 0) C kc_X7_369 dX7_mixed_0 ?_
  refine g_lload_n (pc := 3) C dX7_mixed_3 0 rfl rfl ?_
  refine g_lmul (pc := 4) C dX7_mixed_4 ?_
  refine g_iload_n (pc := 5) C dX7_mixed_5 1 rfl rfl ?_
  refine g_i2l (pc := 6) C dX7_mixed_6 ?_
  refine g_ladd (pc := 7) C dX7_mixed_7 ?_
  exact g_lret C M dX7_mixed_8
theorem ct_X7_mixed {Γ : GA} (l0 : Int64) (x2 : Int32) (S : St) : CtL Γ yX7_mixed cX7_mixed 3 (some .long) 0 [.long l0, .int x2] S (f_X7_mixed l0 x2 S) :=
  ctL_of (by decide) (Nat.le_of_ble_eq_true rfl) (fun _ C M => p_X7_mixed C M l0 x2 S)
set_option maxRecDepth 100000 in
set_option maxHeartbeats 4000000 in
theorem p_X7_mixedCart_l119 {Γ : GA} {E : EV} (C : Cx Γ E RX7 cX7_mixedCart 7 5 (some .long)) (M : Mx Γ E) : ∀ (n : Nat) (l4 : Int64) (x6 : Int32) (S : St), G Γ E (QL Γ E) 7 119 [(0, .ref (gX Γ 0)), (4, .long l4), (6, .int x6)] [] S (f_X7_mixedCart_l119 n l4 x6 S) := by
  intro n
  induction n with
  | zero => intro l4 x6 S; exact g_none
  | succ n ih =>
    intro l4 x6 S
    rw [f_X7_mixedCart_l119]
    refine g_iload (pc := 119) C dX7_mixedCart_119 2 rfl ?_
    refine g_iconst (pc := 121) C (v := 3) dX7_mixedCart_121 (by decide) ?_
    refine g_icmp_gt (pc := 122) C 147 dX7_mixedCart_122 (by decide) ?_ ?_
    · refine g_lload (pc := 147) C dX7_mixedCart_147 1 rfl ?_
      exact g_lret C M dX7_mixedCart_149
    · refine g_lload (pc := 125) C dX7_mixedCart_125 1 rfl ?_
      refine g_aload_n (pc := 127) C dX7_mixedCart_127 0 rfl rfl ?_
      refine g_getR (pc := 128) C lk_X7_49 fr_0_5 dX7_mixedCart_128 ?_
      refine g_iload (pc := 131) C dX7_mixedCart_131 2 rfl ?_
      refine g_callVI (pc := 133) (As := [.int x6]) (st := [.long l4]) C lv_X7_152 fo_44 rfl (ct_X6_tell x6 S) (by decide) rfl rfl (Nat.le_of_ble_eq_true rfl) dX7_mixedCart_133 (fun r_15 S_14 => ?_)
      refine g_callSL (pc := 136) (As := [.long l4, .int r_15]) (st := []) C ls_X7_314 (ct_X7_mixed l4 r_15 S_14) (by decide) rfl rfl (Nat.le_of_ble_eq_true rfl) dX7_mixedCart_136 (fun r_17 S_16 => ?_)
      refine g_lstore0 (pc := 139) C dX7_mixedCart_139 (by decide) (lv' := [(4, .long r_17), (0, .ref (gX Γ 0)), (6, .int x6)]) rfl ?_
      refine g_iinc (pc := 141) C (v := 1) dX7_mixedCart_141 2 rfl (by decide) (by decide) (fun x => [(6, .int x), (4, .long r_17), (0, .ref (gX Γ 0))]) (fun _ => rfl) (fun x6_18 => ?_)
      refine g_goto (pc := 144) C 119 dX7_mixedCart_144 (by decide) ?_
      exact g_sub [2, 1, 0] rfl (ih r_17 x6_18 S_16)
set_option maxRecDepth 100000 in
set_option maxHeartbeats 4000000 in
theorem p_X7_mixedCart_l30 {Γ : GA} {E : EV} (C : Cx Γ E RX7 cX7_mixedCart 7 5 (some .long)) (M : Mx Γ E) : ∀ (n : Nat) (x3 : Int32) (l4 : Int64) (x6 : Int32) (S : St), G Γ E (QL Γ E) 7 30 [(0, .ref (gX Γ 0)), (3, .int x3), (4, .long l4), (6, .int x6)] [] S (f_X7_mixedCart_l30 n x3 l4 x6 S) := by
  intro n
  induction n with
  | zero => intro x3 l4 x6 S; exact g_none
  | succ n ih =>
    intro x3 l4 x6 S
    rw [f_X7_mixedCart_l30]
    refine g_iload (pc := 30) C dX7_mixedCart_30 3 rfl ?_
    refine g_aload_n (pc := 32) C dX7_mixedCart_32 0 rfl rfl ?_
    refine g_getR (pc := 33) C lk_X7_25 fr_0_2 dX7_mixedCart_33 ?_
    refine g_iload_n (pc := 36) C dX7_mixedCart_36 1 rfl rfl ?_
    refine g_aald (pc := 37) C aq_8 dX7_mixedCart_37 (fun hj_7 => ?_)
    refine g_getI (pc := 38) C lk_X7_126 (fiC_2 _ hj_7) dX7_mixedCart_38 ?_
    refine g_icmp_ge (pc := 41) C 84 dX7_mixedCart_41 (by decide) ?_ ?_
    · refine g_lload (pc := 84) C dX7_mixedCart_84 2 rfl ?_
      refine g_aload_n (pc := 86) C dX7_mixedCart_86 0 rfl rfl ?_
      refine g_iload_n (pc := 87) C dX7_mixedCart_87 1 rfl rfl ?_
      refine g_sipush (pc := 88) C (v := 400) dX7_mixedCart_88 (by decide) ?_
      refine g_callVI (pc := 91) (As := [.int x3, .int 400]) (st := [.long l4]) C lv_X7_226 fo_0 rfl (ct_X7_flatCells x3 400 S) (by decide) rfl rfl (Nat.le_of_ble_eq_true rfl) dX7_mixedCart_91 (fun r_9 S_8 => ?_)
      refine g_callSL (pc := 94) (As := [.long l4, .int r_9]) (st := []) C ls_X7_314 (ct_X7_mixed l4 r_9 S_8) (by decide) rfl rfl (Nat.le_of_ble_eq_true rfl) dX7_mixedCart_94 (fun r_11 S_10 => ?_)
      refine g_lstore0 (pc := 97) C dX7_mixedCart_97 (by decide) (lv' := [(4, .long r_11), (0, .ref (gX Γ 0)), (3, .int x3), (6, .int x6)]) rfl ?_
      refine g_aload_n (pc := 99) C dX7_mixedCart_99 1 rfl rfl ?_
      refine g_getR (pc := 100) C lk_X7_19 fr_0_1 dX7_mixedCart_100 ?_
      refine g_getI (pc := 103) C lk_X7_100 fi_3_4 dX7_mixedCart_103 ?_
      refine g_if_le (pc := 106) C 147 dX7_mixedCart_106 (by decide) ?_ ?_
      · refine g_lload (pc := 147) C dX7_mixedCart_147 0 rfl ?_
        exact g_lret C M dX7_mixedCart_149
      · refine g_aload_n (pc := 109) C dX7_mixedCart_109 1 rfl rfl ?_
        refine g_iload_n (pc := 110) C dX7_mixedCart_110 2 rfl rfl ?_
        refine g_bipush (pc := 111) C (v := 100) dX7_mixedCart_111 (by decide) ?_
        refine g_callVV (pc := 113) (As := [.int x3, .int 100]) (st := []) C lv_X7_148 fo_0 rfl (ct_X7_goDown x3 100 S_10) (by decide) rfl rfl (Nat.le_of_ble_eq_true rfl) dX7_mixedCart_113 (fun r_13 S_12 => ?_)
        refine g_iconst (pc := 116) C (v := 0) dX7_mixedCart_116 (by decide) ?_
        refine g_istore0 (pc := 117) C dX7_mixedCart_117 (by decide) (lv' := [(6, .int 0), (4, .long r_11), (0, .ref (gX Γ 0)), (3, .int x3)]) rfl ?_
        exact g_sub [2, 1, 0] rfl (p_X7_mixedCart_l119 C M FU r_11 0 S_12)
    · refine g_lload (pc := 44) C dX7_mixedCart_44 2 rfl ?_
      refine g_aload_n (pc := 46) C dX7_mixedCart_46 0 rfl rfl ?_
      refine g_getR (pc := 47) C lk_X7_25 fr_0_2 dX7_mixedCart_47 ?_
      refine g_iload_n (pc := 50) C dX7_mixedCart_50 1 rfl rfl ?_
      refine g_aald (pc := 51) C aq_8 dX7_mixedCart_51 (fun hj_19 => ?_)
      refine g_getR (pc := 52) C lk_X7_131 (frC_0 _ hj_19) dX7_mixedCart_52 ?_
      refine g_iload (pc := 55) C dX7_mixedCart_55 3 rfl ?_
      refine g_iald (pc := 57) C (aiC_1 _ hj_19) dX7_mixedCart_57 ?_
      refine g_callSL (pc := 58) (As := [.long l4, .int (S (9 + 3 * (x3 : Int32).toNatClampNeg + 1) (x6 : Int32).toNatClampNeg)]) (st := []) C ls_X7_314 (ct_X7_mixed l4 (S (9 + 3 * (x3 : Int32).toNatClampNeg + 1) (x6 : Int32).toNatClampNeg) S) (by decide) rfl rfl (Nat.le_of_ble_eq_true rfl) dX7_mixedCart_58 (fun r_21 S_20 => ?_)
      refine g_aload_n (pc := 61) C dX7_mixedCart_61 0 rfl rfl ?_
      refine g_getR (pc := 62) C lk_X7_25 fr_0_2 dX7_mixedCart_62 ?_
      refine g_iload_n (pc := 65) C dX7_mixedCart_65 1 rfl rfl ?_
      refine g_aald (pc := 66) C aq_8 dX7_mixedCart_66 (fun hj_22 => ?_)
      refine g_getR (pc := 67) C lk_X7_134 (frC_1 _ hj_22) dX7_mixedCart_67 ?_
      refine g_iload (pc := 70) C dX7_mixedCart_70 3 rfl ?_
      refine g_iald (pc := 72) C (aiC_2 _ hj_22) dX7_mixedCart_72 ?_
      refine g_callSL (pc := 73) (As := [.long r_21, .int (S_20 (9 + 3 * (x3 : Int32).toNatClampNeg + 2) (x6 : Int32).toNatClampNeg)]) (st := []) C ls_X7_314 (ct_X7_mixed r_21 (S_20 (9 + 3 * (x3 : Int32).toNatClampNeg + 2) (x6 : Int32).toNatClampNeg) S_20) (by decide) rfl rfl (Nat.le_of_ble_eq_true rfl) dX7_mixedCart_73 (fun r_24 S_23 => ?_)
      refine g_lstore0 (pc := 76) C dX7_mixedCart_76 (by decide) (lv' := [(4, .long r_24), (0, .ref (gX Γ 0)), (3, .int x3), (6, .int x6)]) rfl ?_
      refine g_iinc (pc := 78) C (v := 1) dX7_mixedCart_78 3 rfl (by decide) (by decide) (fun x => [(6, .int x), (4, .long r_24), (0, .ref (gX Γ 0)), (3, .int x3)]) (fun _ => rfl) (fun x6_25 => ?_)
      refine g_goto (pc := 81) C 30 dX7_mixedCart_81 (by decide) ?_
      exact g_sub [2, 3, 1, 0] rfl (ih x3 r_24 x6_25 S_23)
set_option maxRecDepth 100000 in
set_option maxHeartbeats 4000000 in
theorem p_X7_mixedCart {Γ : GA} {E : EV} (C : Cx Γ E RX7 cX7_mixedCart 7 5 (some .long)) (M : Mx Γ E) (l1 : Int64) (x3 : Int32) (S : St) : G Γ E (QL Γ E) 7 0 [(0, .ref (gX Γ 0)), (1, .long l1), (3, .int x3)] [] S (f_X7_mixedCart l1 x3 S) := by
  rw [f_X7_mixedCart]
  refine g_lload_n (pc := 0) C dX7_mixedCart_0 1 rfl rfl ?_
  refine g_aload_n (pc := 1) C dX7_mixedCart_1 0 rfl rfl ?_
  refine g_getR (pc := 2) C lk_X7_25 fr_0_2 dX7_mixedCart_2 ?_
  refine g_iload_n (pc := 5) C dX7_mixedCart_5 2 rfl rfl ?_
  refine g_aald (pc := 6) C aq_8 dX7_mixedCart_6 (fun hj_1 => ?_)
  refine g_getI (pc := 7) C lk_X7_123 (fiC_3 _ hj_1) dX7_mixedCart_7 ?_
  refine g_callSL (pc := 10) (As := [.long l1, .int (S (9 + 3 * (x3 : Int32).toNatClampNeg) 3)]) (st := []) C ls_X7_314 (ct_X7_mixed l1 (S (9 + 3 * (x3 : Int32).toNatClampNeg) 3) S) (by decide) rfl rfl (Nat.le_of_ble_eq_true rfl) dX7_mixedCart_10 (fun r_3 S_2 => ?_)
  refine g_aload_n (pc := 13) C dX7_mixedCart_13 0 rfl rfl ?_
  refine g_getR (pc := 14) C lk_X7_25 fr_0_2 dX7_mixedCart_14 ?_
  refine g_iload_n (pc := 17) C dX7_mixedCart_17 2 rfl rfl ?_
  refine g_aald (pc := 18) C aq_8 dX7_mixedCart_18 (fun hj_4 => ?_)
  refine g_getI (pc := 19) C lk_X7_126 (fiC_2 _ hj_4) dX7_mixedCart_19 ?_
  refine g_callSL (pc := 22) (As := [.long r_3, .int (S_2 (9 + 3 * (x3 : Int32).toNatClampNeg) 2)]) (st := []) C ls_X7_314 (ct_X7_mixed r_3 (S_2 (9 + 3 * (x3 : Int32).toNatClampNeg) 2) S_2) (by decide) rfl rfl (Nat.le_of_ble_eq_true rfl) dX7_mixedCart_22 (fun r_6 S_5 => ?_)
  refine g_lstore0 (pc := 25) C dX7_mixedCart_25 (by decide) (lv' := [(4, .long r_6), (0, .ref (gX Γ 0)), (1, .long l1), (3, .int x3)]) rfl ?_
  refine g_iconst (pc := 27) C (v := 0) dX7_mixedCart_27 (by decide) ?_
  refine g_istore0 (pc := 28) C dX7_mixedCart_28 (by decide) (lv' := [(6, .int 0), (4, .long r_6), (0, .ref (gX Γ 0)), (1, .long l1), (3, .int x3)]) rfl ?_
  exact g_sub [2, 4, 1, 0] rfl (p_X7_mixedCart_l30 C M FU x3 r_6 0 S_5)
theorem ct_X7_mixedCart {Γ : GA} (l1 : Int64) (x3 : Int32) (S : St) : CtL Γ yX7_mixedCart cX7_mixedCart 7 (some .long) 5 [.ref (gX Γ 0), .long l1, .int x3] S (f_X7_mixedCart l1 x3 S) :=
  ctL_of (by decide) (Nat.le_of_ble_eq_true rfl) (fun _ C M => p_X7_mixedCart C M l1 x3 S)
set_option maxRecDepth 100000 in
set_option maxHeartbeats 4000000 in
theorem p_X7_digest_l178 {Γ : GA} {E : EV} (C : Cx Γ E RX7 cX7_digest 5 6 (some .long)) (M : Mx Γ E) : ∀ (n : Nat) (l1 : Int64) (x3 : Int32) (S : St), G Γ E (QL Γ E) 5 178 [(0, .ref (gX Γ 0)), (1, .long l1), (3, .int x3)] [] S (f_X7_digest_l178 n l1 x3 S) := by
  intro n
  induction n with
  | zero => intro l1 x3 S; exact g_none
  | succ n ih =>
    intro l1 x3 S
    rw [f_X7_digest_l178]
    refine g_iload_n (pc := 178) C dX7_digest_178 2 rfl rfl ?_
    refine g_bipush (pc := 179) C (v := 6) dX7_digest_179 (by decide) ?_
    refine g_icmp_gt (pc := 181) C 200 dX7_digest_181 (by decide) ?_ ?_
    · refine g_lload_n (pc := 200) C dX7_digest_200 1 rfl rfl ?_
      exact g_lret C M dX7_digest_201
    · refine g_lload_n (pc := 184) C dX7_digest_184 1 rfl rfl ?_
      refine g_aload_n (pc := 185) C dX7_digest_185 0 rfl rfl ?_
      refine g_iload_n (pc := 186) C dX7_digest_186 2 rfl rfl ?_
      refine g_callVI (pc := 187) (As := [.int x3]) (st := [.long l1]) C lv_X7_336 fo_0 rfl (ct_X7_count x3 S) (by decide) rfl rfl (Nat.le_of_ble_eq_true rfl) dX7_digest_187 (fun r_6 S_5 => ?_)
      refine g_callSL (pc := 190) (As := [.long l1, .int r_6]) (st := []) C ls_X7_314 (ct_X7_mixed l1 r_6 S_5) (by decide) rfl rfl (Nat.le_of_ble_eq_true rfl) dX7_digest_190 (fun r_8 S_7 => ?_)
      refine g_lstore_n0 (pc := 193) C dX7_digest_193 rfl (by decide) (lv' := [(1, .long r_8), (0, .ref (gX Γ 0)), (3, .int x3)]) rfl ?_
      refine g_iinc (pc := 194) C (v := 1) dX7_digest_194 2 rfl (by decide) (by decide) (fun x => [(3, .int x), (1, .long r_8), (0, .ref (gX Γ 0))]) (fun _ => rfl) (fun x3_9 => ?_)
      refine g_goto (pc := 197) C 178 dX7_digest_197 (by decide) ?_
      exact g_sub [2, 1, 0] rfl (ih r_8 x3_9 S_7)
set_option maxRecDepth 100000 in
set_option maxHeartbeats 4000000 in
theorem p_X7_digest_l145 {Γ : GA} {E : EV} (C : Cx Γ E RX7 cX7_digest 5 6 (some .long)) (M : Mx Γ E) : ∀ (n : Nat) (l1 : Int64) (x3 : Int32) (S : St), G Γ E (QL Γ E) 5 145 [(0, .ref (gX Γ 0)), (1, .long l1), (3, .int x3)] [] S (f_X7_digest_l145 n l1 x3 S) := by
  intro n
  induction n with
  | zero => intro l1 x3 S; exact g_none
  | succ n ih =>
    intro l1 x3 S
    rw [f_X7_digest_l145]
    refine g_iload_n (pc := 145) C dX7_digest_145 2 rfl rfl ?_
    refine g_aload_n (pc := 146) C dX7_digest_146 0 rfl rfl ?_
    refine g_getR (pc := 147) C lk_X7_12 fr_0_0 dX7_digest_147 ?_
    refine g_getI (pc := 150) C lk_X7_78 fi_1_1 dX7_digest_150 ?_
    refine g_icmp_ge (pc := 153) C 176 dX7_digest_153 (by decide) ?_ ?_
    · refine g_iconst (pc := 176) C (v := 0) dX7_digest_176 (by decide) ?_
      refine g_istore_n0 (pc := 177) C dX7_digest_177 rfl (by decide) (lv' := [(3, .int 0), (0, .ref (gX Γ 0)), (1, .long l1)]) rfl ?_
      exact g_sub [1, 2, 0] rfl (p_X7_digest_l178 C M FU l1 0 S)
    · refine g_lload_n (pc := 156) C dX7_digest_156 1 rfl rfl ?_
      refine g_aload_n (pc := 157) C dX7_digest_157 0 rfl rfl ?_
      refine g_getR (pc := 158) C lk_X7_12 fr_0_0 dX7_digest_158 ?_
      refine g_getR (pc := 161) C lk_X7_333 fr_1_0 dX7_digest_161 ?_
      refine g_iload_n (pc := 164) C dX7_digest_164 2 rfl rfl ?_
      refine g_iald (pc := 165) C ai_2 dX7_digest_165 ?_
      refine g_callSL (pc := 166) (As := [.long l1, .int (S 2 (x3 : Int32).toNatClampNeg)]) (st := []) C ls_X7_314 (ct_X7_mixed l1 (S 2 (x3 : Int32).toNatClampNeg) S) (by decide) rfl rfl (Nat.le_of_ble_eq_true rfl) dX7_digest_166 (fun r_11 S_10 => ?_)
      refine g_lstore_n0 (pc := 169) C dX7_digest_169 rfl (by decide) (lv' := [(1, .long r_11), (0, .ref (gX Γ 0)), (3, .int x3)]) rfl ?_
      refine g_iinc (pc := 170) C (v := 1) dX7_digest_170 2 rfl (by decide) (by decide) (fun x => [(3, .int x), (1, .long r_11), (0, .ref (gX Γ 0))]) (fun _ => rfl) (fun x3_12 => ?_)
      refine g_goto (pc := 173) C 145 dX7_digest_173 (by decide) ?_
      exact g_sub [2, 1, 0] rfl (ih r_11 x3_12 S_10)
set_option maxRecDepth 100000 in
set_option maxHeartbeats 4000000 in
theorem p_X7_digest_l75 {Γ : GA} {E : EV} (C : Cx Γ E RX7 cX7_digest 5 6 (some .long)) (M : Mx Γ E) : ∀ (n : Nat) (l1 : Int64) (x3 : Int32) (S : St), G Γ E (QL Γ E) 5 75 [(0, .ref (gX Γ 0)), (1, .long l1), (3, .int x3)] [] S (f_X7_digest_l75 n l1 x3 S) := by
  intro n
  induction n with
  | zero => intro l1 x3 S; exact g_none
  | succ n ih =>
    intro l1 x3 S
    rw [f_X7_digest_l75]
    refine g_iload_n (pc := 75) C dX7_digest_75 2 rfl rfl ?_
    refine g_aload_n (pc := 76) C dX7_digest_76 0 rfl rfl ?_
    refine g_getR (pc := 77) C lk_X7_33 fr_0_3 dX7_digest_77 ?_
    refine g_getI (pc := 80) C lk_X7_229 fi_33_3 dX7_digest_80 ?_
    refine g_icmp_ge (pc := 83) C 134 dX7_digest_83 (by decide) ?_ ?_
    · refine g_lload_n (pc := 134) C dX7_digest_134 1 rfl rfl ?_
      refine g_aload_n (pc := 135) C dX7_digest_135 0 rfl rfl ?_
      refine g_callVI (pc := 136) (As := []) (st := [.long l1]) C lv_X7_330 fo_0 rfl (ct_X7_rubs S) (by decide) rfl rfl (Nat.le_of_ble_eq_true rfl) dX7_digest_136 (fun r_2 S_1 => ?_)
      refine g_callSL (pc := 139) (As := [.long l1, .int r_2]) (st := []) C ls_X7_314 (ct_X7_mixed l1 r_2 S_1) (by decide) rfl rfl (Nat.le_of_ble_eq_true rfl) dX7_digest_139 (fun r_4 S_3 => ?_)
      refine g_lstore_n0 (pc := 142) C dX7_digest_142 rfl (by decide) (lv' := [(1, .long r_4), (0, .ref (gX Γ 0)), (3, .int x3)]) rfl ?_
      refine g_iconst (pc := 143) C (v := 0) dX7_digest_143 (by decide) ?_
      refine g_istore_n0 (pc := 144) C dX7_digest_144 rfl (by decide) (lv' := [(3, .int 0), (1, .long r_4), (0, .ref (gX Γ 0))]) rfl ?_
      exact g_sub [2, 1, 0] rfl (p_X7_digest_l145 C M FU r_4 0 S_3)
    · refine g_lload_n (pc := 86) C dX7_digest_86 1 rfl rfl ?_
      refine g_aload_n (pc := 87) C dX7_digest_87 0 rfl rfl ?_
      refine g_getR (pc := 88) C lk_X7_33 fr_0_3 dX7_digest_88 ?_
      refine g_getR (pc := 91) C lk_X7_321 fr_33_0 dX7_digest_91 ?_
      refine g_iload_n (pc := 94) C dX7_digest_94 2 rfl rfl ?_
      refine g_iald (pc := 95) C ai_34 dX7_digest_95 ?_
      refine g_callSL (pc := 96) (As := [.long l1, .int (S 34 (x3 : Int32).toNatClampNeg)]) (st := []) C ls_X7_314 (ct_X7_mixed l1 (S 34 (x3 : Int32).toNatClampNeg) S) (by decide) rfl rfl (Nat.le_of_ble_eq_true rfl) dX7_digest_96 (fun r_14 S_13 => ?_)
      refine g_lstore_n0 (pc := 99) C dX7_digest_99 rfl (by decide) (lv' := [(1, .long r_14), (0, .ref (gX Γ 0)), (3, .int x3)]) rfl ?_
      refine g_lload_n (pc := 100) C dX7_digest_100 0 rfl rfl ?_
      refine g_aload_n (pc := 101) C dX7_digest_101 1 rfl rfl ?_
      refine g_getR (pc := 102) C lk_X7_33 fr_0_3 dX7_digest_102 ?_
      refine g_getR (pc := 105) C lk_X7_324 fr_33_1 dX7_digest_105 ?_
      refine g_iload_n (pc := 108) C dX7_digest_108 2 rfl rfl ?_
      refine g_iald (pc := 109) C ai_35 dX7_digest_109 ?_
      refine g_callSL (pc := 110) (As := [.long r_14, .int (S_13 35 (x3 : Int32).toNatClampNeg)]) (st := []) C ls_X7_314 (ct_X7_mixed r_14 (S_13 35 (x3 : Int32).toNatClampNeg) S_13) (by decide) rfl rfl (Nat.le_of_ble_eq_true rfl) dX7_digest_110 (fun r_16 S_15 => ?_)
      refine g_lstore_n0 (pc := 113) C dX7_digest_113 rfl (by decide) (lv' := [(1, .long r_16), (0, .ref (gX Γ 0)), (3, .int x3)]) rfl ?_
      refine g_lload_n (pc := 114) C dX7_digest_114 0 rfl rfl ?_
      refine g_aload_n (pc := 115) C dX7_digest_115 1 rfl rfl ?_
      refine g_getR (pc := 116) C lk_X7_33 fr_0_3 dX7_digest_116 ?_
      refine g_getR (pc := 119) C lk_X7_327 fr_33_2 dX7_digest_119 ?_
      refine g_iload_n (pc := 122) C dX7_digest_122 2 rfl rfl ?_
      refine g_iald (pc := 123) C ai_36 dX7_digest_123 ?_
      refine g_callSL (pc := 124) (As := [.long r_16, .int (S_15 36 (x3 : Int32).toNatClampNeg)]) (st := []) C ls_X7_314 (ct_X7_mixed r_16 (S_15 36 (x3 : Int32).toNatClampNeg) S_15) (by decide) rfl rfl (Nat.le_of_ble_eq_true rfl) dX7_digest_124 (fun r_18 S_17 => ?_)
      refine g_lstore_n0 (pc := 127) C dX7_digest_127 rfl (by decide) (lv' := [(1, .long r_18), (0, .ref (gX Γ 0)), (3, .int x3)]) rfl ?_
      refine g_iinc (pc := 128) C (v := 1) dX7_digest_128 2 rfl (by decide) (by decide) (fun x => [(3, .int x), (1, .long r_18), (0, .ref (gX Γ 0))]) (fun _ => rfl) (fun x3_19 => ?_)
      refine g_goto (pc := 131) C 75 dX7_digest_131 (by decide) ?_
      exact g_sub [2, 1, 0] rfl (ih r_18 x3_19 S_17)
set_option maxRecDepth 100000 in
set_option maxHeartbeats 4000000 in
theorem p_X7_digest_l52 {Γ : GA} {E : EV} (C : Cx Γ E RX7 cX7_digest 5 6 (some .long)) (M : Mx Γ E) : ∀ (n : Nat) (l1 : Int64) (x3 : Int32) (S : St), G Γ E (QL Γ E) 5 52 [(0, .ref (gX Γ 0)), (1, .long l1), (3, .int x3)] [] S (f_X7_digest_l52 n l1 x3 S) := by
  intro n
  induction n with
  | zero => intro l1 x3 S; exact g_none
  | succ n ih =>
    intro l1 x3 S
    rw [f_X7_digest_l52]
    refine g_iload_n (pc := 52) C dX7_digest_52 2 rfl rfl ?_
    refine g_aload_n (pc := 53) C dX7_digest_53 0 rfl rfl ?_
    refine g_getI (pc := 54) C lk_X7_67 fi_0_9 dX7_digest_54 ?_
    refine g_icmp_ge (pc := 57) C 73 dX7_digest_57 (by decide) ?_ ?_
    · refine g_iconst (pc := 73) C (v := 0) dX7_digest_73 (by decide) ?_
      refine g_istore_n0 (pc := 74) C dX7_digest_74 rfl (by decide) (lv' := [(3, .int 0), (0, .ref (gX Γ 0)), (1, .long l1)]) rfl ?_
      exact g_sub [1, 2, 0] rfl (p_X7_digest_l75 C M FU l1 0 S)
    · refine g_aload_n (pc := 60) C dX7_digest_60 0 rfl rfl ?_
      refine g_lload_n (pc := 61) C dX7_digest_61 1 rfl rfl ?_
      refine g_iload_n (pc := 62) C dX7_digest_62 2 rfl rfl ?_
      refine g_callVL (pc := 63) (As := [.long l1, .int x3]) (st := []) C lv_X7_318 fo_0 rfl (ct_X7_mixedCart l1 x3 S) (by decide) rfl rfl (Nat.le_of_ble_eq_true rfl) dX7_digest_63 (fun r_21 S_20 => ?_)
      refine g_lstore_n0 (pc := 66) C dX7_digest_66 rfl (by decide) (lv' := [(1, .long r_21), (0, .ref (gX Γ 0)), (3, .int x3)]) rfl ?_
      refine g_iinc (pc := 67) C (v := 1) dX7_digest_67 2 rfl (by decide) (by decide) (fun x => [(3, .int x), (1, .long r_21), (0, .ref (gX Γ 0))]) (fun _ => rfl) (fun x3_22 => ?_)
      refine g_goto (pc := 70) C 52 dX7_digest_70 (by decide) ?_
      exact g_sub [2, 1, 0] rfl (ih r_21 x3_22 S_20)
set_option maxRecDepth 100000 in
set_option maxHeartbeats 4000000 in
theorem p_X7_digest_l20 {Γ : GA} {E : EV} (C : Cx Γ E RX7 cX7_digest 5 6 (some .long)) (M : Mx Γ E) (k6 : Int64 → Int32 → St → Option (Int64 × St)) (hk6 : ∀ (l1 : Int64) (x3 : Int32) (S : St), G Γ E (QL Γ E) 5 6 [(0, .ref (gX Γ 0)), (1, .long l1), (3, .int x3)] [] S (k6 l1 x3 S)) : ∀ (n : Nat) (l1 : Int64) (x3 : Int32) (x4 : Int32) (S : St), G Γ E (QL Γ E) 5 20 [(0, .ref (gX Γ 0)), (1, .long l1), (3, .int x3), (4, .int x4)] [] S (f_X7_digest_l20 k6 n l1 x3 x4 S) := by
  intro n
  induction n with
  | zero => intro l1 x3 x4 S; exact g_none
  | succ n ih =>
    intro l1 x3 x4 S
    rw [f_X7_digest_l20]
    refine g_iload (pc := 20) C dX7_digest_20 3 rfl ?_
    refine g_iconst (pc := 22) C (v := 3) dX7_digest_22 (by decide) ?_
    refine g_icmp_gt (pc := 23) C 44 dX7_digest_23 (by decide) ?_ ?_
    · refine g_iinc (pc := 44) C (v := 1) dX7_digest_44 2 rfl (by decide) (by decide) (fun x => [(3, .int x), (0, .ref (gX Γ 0)), (1, .long l1), (4, .int x4)]) (fun _ => rfl) (fun x3_23 => ?_)
      refine g_goto (pc := 47) C 6 dX7_digest_47 (by decide) ?_
      exact g_sub [1, 2, 0] rfl (hk6 l1 x3_23 S)
    · refine g_lload_n (pc := 26) C dX7_digest_26 1 rfl rfl ?_
      refine g_aload_n (pc := 27) C dX7_digest_27 0 rfl rfl ?_
      refine g_iload_n (pc := 28) C dX7_digest_28 2 rfl rfl ?_
      refine g_iload (pc := 29) C dX7_digest_29 3 rfl ?_
      refine g_callVI (pc := 31) (As := [.int x3, .int x4]) (st := [.long l1]) C lv_X7_311 fo_0 rfl (ct_X7_cell x3 x4 S) (by decide) rfl rfl (Nat.le_of_ble_eq_true rfl) dX7_digest_31 (fun r_25 S_24 => ?_)
      refine g_callSL (pc := 34) (As := [.long l1, .int r_25]) (st := []) C ls_X7_314 (ct_X7_mixed l1 r_25 S_24) (by decide) rfl rfl (Nat.le_of_ble_eq_true rfl) dX7_digest_34 (fun r_27 S_26 => ?_)
      refine g_lstore_n0 (pc := 37) C dX7_digest_37 rfl (by decide) (lv' := [(1, .long r_27), (0, .ref (gX Γ 0)), (3, .int x3), (4, .int x4)]) rfl ?_
      refine g_iinc (pc := 38) C (v := 1) dX7_digest_38 3 rfl (by decide) (by decide) (fun x => [(4, .int x), (1, .long r_27), (0, .ref (gX Γ 0)), (3, .int x3)]) (fun _ => rfl) (fun x4_28 => ?_)
      refine g_goto (pc := 41) C 20 dX7_digest_41 (by decide) ?_
      exact g_sub [2, 1, 3, 0] rfl (ih r_27 x3 x4_28 S_26)
set_option maxRecDepth 100000 in
set_option maxHeartbeats 4000000 in
theorem p_X7_digest_l6 {Γ : GA} {E : EV} (C : Cx Γ E RX7 cX7_digest 5 6 (some .long)) (M : Mx Γ E) : ∀ (n : Nat) (l1 : Int64) (x3 : Int32) (S : St), G Γ E (QL Γ E) 5 6 [(0, .ref (gX Γ 0)), (1, .long l1), (3, .int x3)] [] S (f_X7_digest_l6 n l1 x3 S) := by
  intro n
  induction n with
  | zero => intro l1 x3 S; exact g_none
  | succ n ih =>
    intro l1 x3 S
    rw [f_X7_digest_l6]
    refine g_iload_n (pc := 6) C dX7_digest_6 2 rfl rfl ?_
    refine g_aload_n (pc := 7) C dX7_digest_7 0 rfl rfl ?_
    refine g_getR (pc := 8) C lk_X7_19 fr_0_1 dX7_digest_8 ?_
    refine g_getI (pc := 11) C lk_X7_100 fi_3_4 dX7_digest_11 ?_
    refine g_icmp_ge (pc := 14) C 50 dX7_digest_14 (by decide) ?_ ?_
    · refine g_iconst (pc := 50) C (v := 0) dX7_digest_50 (by decide) ?_
      refine g_istore_n0 (pc := 51) C dX7_digest_51 rfl (by decide) (lv' := [(3, .int 0), (0, .ref (gX Γ 0)), (1, .long l1)]) rfl ?_
      exact g_sub [1, 2, 0] rfl (p_X7_digest_l52 C M FU l1 0 S)
    · refine g_iconst (pc := 17) C (v := 0) dX7_digest_17 (by decide) ?_
      refine g_istore0 (pc := 18) C dX7_digest_18 (by decide) (lv' := [(4, .int 0), (0, .ref (gX Γ 0)), (1, .long l1), (3, .int x3)]) rfl ?_
      exact g_sub [1, 2, 3, 0] rfl (p_X7_digest_l20 C M (f_X7_digest_l6 n) ih FU l1 x3 0 S)
set_option maxRecDepth 100000 in
set_option maxHeartbeats 4000000 in
theorem p_X7_digest {Γ : GA} {E : EV} (C : Cx Γ E RX7 cX7_digest 5 6 (some .long)) (M : Mx Γ E) (S : St) : G Γ E (QL Γ E) 5 0 [(0, .ref (gX Γ 0))] [] S (f_X7_digest S) := by
  rw [f_X7_digest]
  refine g_ldc2 (pc := 0) C kc_X7_309 dX7_digest_0 ?_
  refine g_lstore_n0 (pc := 3) C dX7_digest_3 rfl (by decide) (lv' := [(1, .long 491), (0, .ref (gX Γ 0))]) rfl ?_
  refine g_iconst (pc := 4) C (v := 0) dX7_digest_4 (by decide) ?_
  refine g_istore_n0 (pc := 5) C dX7_digest_5 rfl (by decide) (lv' := [(3, .int 0), (1, .long 491), (0, .ref (gX Γ 0))]) rfl ?_
  exact g_sub [2, 1, 0] rfl (p_X7_digest_l6 C M FU 491 0 S)
theorem ct_X7_digest {Γ : GA} (S : St) : CtL Γ yX7_digest cX7_digest 5 (some .long) 6 [.ref (gX Γ 0)] S (f_X7_digest S) :=
  ctL_of (by decide) (Nat.le_of_ble_eq_true rfl) (fun _ C M => p_X7_digest C M  S)
set_option maxRecDepth 100000 in
set_option maxHeartbeats 4000000 in
theorem p_X8_letters_l108 {Γ : GA} {E : EV} (C : Cx Γ E RX8 cX8_letters 9 0 (some .int)) (M : Mx Γ E) : ∀ (n : Nat) (l1 : Int64) (x3 : Int32) (x7 : Int32) (S : St), G Γ E (QI Γ E) 9 108 [(0, .ref (gX Γ 55)), (1, .long l1), (3, .int x3), (7, .int x7)] [] S (f_X8_letters_l108 n l1 x3 x7 S) := by
  intro n
  induction n with
  | zero => intro l1 x3 x7 S; exact g_none
  | succ n ih =>
    intro l1 x3 x7 S
    rw [f_X8_letters_l108]
    refine g_iload (pc := 108) C dX8_letters_108 3 rfl ?_
    refine g_iload_n (pc := 110) C dX8_letters_110 2 rfl rfl ?_
    refine g_icmp_ge (pc := 111) C 151 dX8_letters_111 (by decide) ?_ ?_
    · refine g_aload_n (pc := 151) C dX8_letters_151 0 rfl rfl ?_
      refine g_getI (pc := 152) C lk_X8_76 fi_55_1 dX8_letters_152 ?_
      exact g_iret C M dX8_letters_155
    · refine g_aload_n (pc := 114) C dX8_letters_114 0 rfl rfl ?_
      refine g_getR (pc := 115) C lk_X8_7 fr_55_0 dX8_letters_115 ?_
      refine g_aload_n (pc := 118) C dX8_letters_118 0 rfl rfl ?_
      refine g_getI (pc := 119) C lk_X8_76 fi_55_1 dX8_letters_119 ?_
      refine g_lload_n (pc := 122) C dX8_letters_122 1 rfl rfl ?_
      refine g_bipush (pc := 123) C (v := 8) dX8_letters_123 (by decide) ?_
      refine g_iload (pc := 125) C dX8_letters_125 3 rfl ?_
      refine g_imul (pc := 127) C dX8_letters_127 ?_
      refine g_lushr (pc := 128) C dX8_letters_128 ?_
      refine g_ldc2 (pc := 129) C kc_X8_74 dX8_letters_129 ?_
      refine g_land (pc := 132) C dX8_letters_132 ?_
      refine g_l2i (pc := 133) C dX8_letters_133 ?_
      refine g_iast (pc := 134) C ai_56 dX8_letters_134 (fun S_1 => ?_)
      refine g_aload_n (pc := 135) C dX8_letters_135 0 rfl rfl ?_
      refine g_dup (pc := 136) C dX8_letters_136 rfl ?_
      refine g_getI (pc := 137) C lk_X8_76 fi_55_1 dX8_letters_137 ?_
      refine g_iconst (pc := 140) C (v := 1) dX8_letters_140 (by decide) ?_
      refine g_iadd (pc := 141) C dX8_letters_141 ?_
      refine g_putI (pc := 142) C lp_X8_76 fi_55_1 dX8_letters_142 (fun S_2 => ?_)
      refine g_iinc (pc := 145) C (v := 1) dX8_letters_145 3 rfl (by decide) (by decide) (fun x => [(7, .int x), (0, .ref (gX Γ 55)), (1, .long l1), (3, .int x3)]) (fun _ => rfl) (fun x7_3 => ?_)
      refine g_goto (pc := 148) C 108 dX8_letters_148 (by decide) ?_
      exact g_sub [1, 2, 3, 0] rfl (ih l1 x3 x7_3 S_2)
set_option maxRecDepth 100000 in
set_option maxHeartbeats 4000000 in
theorem p_X8_letters_b75 {Γ : GA} {E : EV} (C : Cx Γ E RX8 cX8_letters 9 0 (some .int)) (M : Mx Γ E) (k11 : Int64 → Int32 → Int32 → Int64 → Int32 → St → Option (Int32 × St)) (hk11 : ∀ (l1 : Int64) (x3 : Int32) (x4 : Int32) (l5 : Int64) (x7 : Int32) (S : St), G Γ E (QI Γ E) 9 11 [(0, .ref (gX Γ 55)), (1, .long l1), (3, .int x3), (4, .int x4), (5, .long l5), (7, .int x7)] [] S (k11 l1 x3 x4 l5 x7 S)) (l1 : Int64) (x4 : Int32) (l5 : Int64) (x7 : Int32) (s0 : Int32) (s1 : Int32) (S : St) : G Γ E (QI Γ E) 9 75 [(0, .ref (gX Γ 55)), (1, .long l1), (4, .int x4), (5, .long l5), (7, .int x7)] [.int s0, .int s1] S (f_X8_letters_b75 k11 l1 x4 l5 x7 s0 s1 S) := by
  rw [f_X8_letters_b75]
  refine g_iadd (pc := 75) C dX8_letters_75 ?_
  refine g_istore_n (pc := 76) C dX8_letters_76 rfl (by decide) (fun x => [(3, .int x), (0, .ref (gX Γ 55)), (1, .long l1), (4, .int x4), (5, .long l5), (7, .int x7)]) (fun _ => rfl) (fun x3_6 => ?_)
  refine g_iinc (pc := 77) C (v := 1) dX8_letters_77 5 rfl (by decide) (by decide) (fun x => [(7, .int x), (3, .int x3_6), (0, .ref (gX Γ 55)), (1, .long l1), (4, .int x4), (5, .long l5)]) (fun _ => rfl) (fun x7_7 => ?_)
  refine g_goto (pc := 80) C 11 dX8_letters_80 (by decide) ?_
  exact g_sub [2, 3, 1, 4, 5, 0] rfl (hk11 l1 x3_6 x4 l5 x7_7 S)
set_option maxRecDepth 100000 in
set_option maxHeartbeats 4000000 in
theorem p_X8_letters_b62 {Γ : GA} {E : EV} (C : Cx Γ E RX8 cX8_letters 9 0 (some .int)) (M : Mx Γ E) (k11 : Int64 → Int32 → Int32 → Int64 → Int32 → St → Option (Int32 × St)) (hk11 : ∀ (l1 : Int64) (x3 : Int32) (x4 : Int32) (l5 : Int64) (x7 : Int32) (S : St), G Γ E (QI Γ E) 9 11 [(0, .ref (gX Γ 55)), (1, .long l1), (3, .int x3), (4, .int x4), (5, .long l5), (7, .int x7)] [] S (k11 l1 x3 x4 l5 x7 S)) (l1 : Int64) (x3 : Int32) (l5 : Int64) (x7 : Int32) (x8 : Int32) (s0 : Int32) (S : St) : G Γ E (QI Γ E) 9 62 [(0, .ref (gX Γ 55)), (1, .long l1), (3, .int x3), (5, .long l5), (7, .int x7), (8, .int x8)] [.int s0] S (f_X8_letters_b62 k11 l1 x3 l5 x7 x8 s0 S) := by
  rw [f_X8_letters_b62]
  refine g_istore0 (pc := 62) C dX8_letters_62 (by decide) (lv' := [(4, .int s0), (0, .ref (gX Γ 55)), (1, .long l1), (3, .int x3), (5, .long l5), (7, .int x7), (8, .int x8)]) rfl ?_
  refine g_iload_n (pc := 64) C dX8_letters_64 3 rfl rfl ?_
  refine g_iload (pc := 65) C dX8_letters_65 6 rfl ?_
  refine g_if_le (pc := 67) C 74 dX8_letters_67 (by decide) ?_ ?_
  · refine g_iconst (pc := 74) C (v := 0) dX8_letters_74 (by decide) ?_
    exact g_sub [1, 2, 0, 4, 5] rfl (p_X8_letters_b75 C M k11 hk11 l1 s0 l5 x7 0 x3 S)
  · refine g_iconst (pc := 70) C (v := 1) dX8_letters_70 (by decide) ?_
    refine g_goto (pc := 71) C 75 dX8_letters_71 (by decide) ?_
    exact g_sub [1, 2, 0, 4, 5] rfl (p_X8_letters_b75 C M k11 hk11 l1 s0 l5 x7 1 x3 S)
set_option maxRecDepth 100000 in
set_option maxHeartbeats 4000000 in
theorem p_X8_letters_b61 {Γ : GA} {E : EV} (C : Cx Γ E RX8 cX8_letters 9 0 (some .int)) (M : Mx Γ E) (k11 : Int64 → Int32 → Int32 → Int64 → Int32 → St → Option (Int32 × St)) (hk11 : ∀ (l1 : Int64) (x3 : Int32) (x4 : Int32) (l5 : Int64) (x7 : Int32) (S : St), G Γ E (QI Γ E) 9 11 [(0, .ref (gX Γ 55)), (1, .long l1), (3, .int x3), (4, .int x4), (5, .long l5), (7, .int x7)] [] S (k11 l1 x3 x4 l5 x7 S)) (l1 : Int64) (x3 : Int32) (l5 : Int64) (x7 : Int32) (x8 : Int32) (S : St) : G Γ E (QI Γ E) 9 61 [(0, .ref (gX Γ 55)), (1, .long l1), (3, .int x3), (5, .long l5), (7, .int x7), (8, .int x8)] [] S (f_X8_letters_b61 k11 l1 x3 l5 x7 x8 S) := by
  rw [f_X8_letters_b61]
  refine g_iconst (pc := 61) C (v := 0) dX8_letters_61 (by decide) ?_
  exact g_sub [0, 1, 2, 3, 4, 5] rfl (p_X8_letters_b62 C M k11 hk11 l1 x3 l5 x7 x8 0 S)
set_option maxRecDepth 100000 in
set_option maxHeartbeats 4000000 in
theorem p_X8_letters_b57 {Γ : GA} {E : EV} (C : Cx Γ E RX8 cX8_letters 9 0 (some .int)) (M : Mx Γ E) (k11 : Int64 → Int32 → Int32 → Int64 → Int32 → St → Option (Int32 × St)) (hk11 : ∀ (l1 : Int64) (x3 : Int32) (x4 : Int32) (l5 : Int64) (x7 : Int32) (S : St), G Γ E (QI Γ E) 9 11 [(0, .ref (gX Γ 55)), (1, .long l1), (3, .int x3), (4, .int x4), (5, .long l5), (7, .int x7)] [] S (k11 l1 x3 x4 l5 x7 S)) (l1 : Int64) (x3 : Int32) (l5 : Int64) (x7 : Int32) (x8 : Int32) (S : St) : G Γ E (QI Γ E) 9 57 [(0, .ref (gX Γ 55)), (1, .long l1), (3, .int x3), (5, .long l5), (7, .int x7), (8, .int x8)] [] S (f_X8_letters_b57 k11 l1 x3 l5 x7 x8 S) := by
  rw [f_X8_letters_b57]
  refine g_iconst (pc := 57) C (v := 1) dX8_letters_57 (by decide) ?_
  refine g_goto (pc := 58) C 62 dX8_letters_58 (by decide) ?_
  exact g_sub [0, 1, 2, 3, 4, 5] rfl (p_X8_letters_b62 C M k11 hk11 l1 x3 l5 x7 x8 1 S)
set_option maxRecDepth 100000 in
set_option maxHeartbeats 4000000 in
theorem p_X8_letters_l11 {Γ : GA} {E : EV} (C : Cx Γ E RX8 cX8_letters 9 0 (some .int)) (M : Mx Γ E) : ∀ (n : Nat) (l1 : Int64) (x3 : Int32) (x4 : Int32) (l5 : Int64) (x7 : Int32) (S : St), G Γ E (QI Γ E) 9 11 [(0, .ref (gX Γ 55)), (1, .long l1), (3, .int x3), (4, .int x4), (5, .long l5), (7, .int x7)] [] S (f_X8_letters_l11 n l1 x3 x4 l5 x7 S) := by
  intro n
  induction n with
  | zero => intro l1 x3 x4 l5 x7 S; exact g_none
  | succ n ih =>
    intro l1 x3 x4 l5 x7 S
    rw [f_X8_letters_l11]
    refine g_iload (pc := 11) C dX8_letters_11 5 rfl ?_
    refine g_bipush (pc := 13) C (v := 8) dX8_letters_13 (by decide) ?_
    refine g_icmp_ge (pc := 15) C 83 dX8_letters_15 (by decide) ?_ ?_
    · refine g_iload (pc := 83) C dX8_letters_83 3 rfl ?_
      refine g_if_ne (pc := 85) C 91 dX8_letters_85 (by decide) ?_ ?_
      · refine g_bipush (pc := 88) C (v := (-102)) dX8_letters_88 (by decide) ?_
        exact g_iret C M dX8_letters_90
      · refine g_aload_n (pc := 91) C dX8_letters_91 0 rfl rfl ?_
        refine g_getI (pc := 92) C lk_X8_76 fi_55_1 dX8_letters_92 ?_
        refine g_iload_n (pc := 95) C dX8_letters_95 2 rfl rfl ?_
        refine g_iadd (pc := 96) C dX8_letters_96 ?_
        refine g_bipush (pc := 97) C (v := 50) dX8_letters_97 (by decide) ?_
        refine g_icmp_le (pc := 99) C 105 dX8_letters_99 (by decide) ?_ ?_
        · refine g_iconst (pc := 105) C (v := 0) dX8_letters_105 (by decide) ?_
          refine g_istore0 (pc := 106) C dX8_letters_106 (by decide) (lv' := [(7, .int 0), (0, .ref (gX Γ 55)), (1, .long l1), (3, .int x3), (4, .int x4), (5, .long l5)]) rfl ?_
          exact g_sub [1, 2, 3, 0] rfl (p_X8_letters_l108 C M FU l1 x3 0 S)
        · refine g_bipush (pc := 102) C (v := (-104)) dX8_letters_102 (by decide) ?_
          exact g_iret C M dX8_letters_104
    · refine g_lload (pc := 18) C dX8_letters_18 4 rfl ?_
      refine g_ldc2 (pc := 20) C kc_X8_74 dX8_letters_20 ?_
      refine g_land (pc := 23) C dX8_letters_23 ?_
      refine g_l2i (pc := 24) C dX8_letters_24 ?_
      refine g_istore (pc := 25) C dX8_letters_25 (by decide) (fun x => [(8, .int x), (0, .ref (gX Γ 55)), (1, .long l1), (3, .int x3), (4, .int x4), (5, .long l5), (7, .int x7)]) (fun _ => rfl) (fun x8_4 => ?_)
      refine g_lload (pc := 27) C dX8_letters_27 5 rfl ?_
      refine g_bipush (pc := 29) C (v := 8) dX8_letters_29 (by decide) ?_
      refine g_lushr (pc := 31) C dX8_letters_31 ?_
      refine g_lstore (pc := 32) C dX8_letters_32 (by decide) (fun x => [(5, .long x), (8, .int x8_4), (0, .ref (gX Γ 55)), (1, .long l1), (3, .int x3), (4, .int x4), (7, .int x7)]) (fun _ => rfl) (fun l5_5 => ?_)
      refine g_iload (pc := 34) C dX8_letters_34 5 rfl ?_
      refine g_if_eq (pc := 36) C 61 dX8_letters_36 (by decide) ?_ ?_
      · exact g_sub [2, 3, 4, 0, 6, 1] rfl (p_X8_letters_b61 C M (f_X8_letters_l11 n) ih l1 x3 l5_5 x7 x8_4 S)
      · refine g_iload (pc := 39) C dX8_letters_39 1 rfl ?_
        refine g_bipush (pc := 41) C (v := 126) dX8_letters_41 (by decide) ?_
        refine g_icmp_gt (pc := 43) C 61 dX8_letters_43 (by decide) ?_ ?_
        · exact g_sub [2, 3, 4, 0, 6, 1] rfl (p_X8_letters_b61 C M (f_X8_letters_l11 n) ih l1 x3 l5_5 x7 x8_4 S)
        · refine g_iload (pc := 46) C dX8_letters_46 1 rfl ?_
          refine g_if_eq (pc := 48) C 57 dX8_letters_48 (by decide) ?_ ?_
          · exact g_sub [2, 3, 4, 0, 6, 1] rfl (p_X8_letters_b57 C M (f_X8_letters_l11 n) ih l1 x3 l5_5 x7 x8_4 S)
          · refine g_iload_n (pc := 51) C dX8_letters_51 4 rfl rfl ?_
            refine g_iload (pc := 52) C dX8_letters_52 6 rfl ?_
            refine g_icmp_ne (pc := 54) C 61 dX8_letters_54 (by decide) ?_ ?_
            · exact g_sub [2, 3, 4, 0, 6, 1] rfl (p_X8_letters_b57 C M (f_X8_letters_l11 n) ih l1 x3 l5_5 x7 x8_4 S)
            · exact g_sub [2, 3, 4, 0, 6, 1] rfl (p_X8_letters_b61 C M (f_X8_letters_l11 n) ih l1 x3 l5_5 x7 x8_4 S)
set_option maxRecDepth 100000 in
set_option maxHeartbeats 4000000 in
theorem p_X8_letters {Γ : GA} {E : EV} (C : Cx Γ E RX8 cX8_letters 9 0 (some .int)) (M : Mx Γ E) (l1 : Int64) (S : St) : G Γ E (QI Γ E) 9 0 [(0, .ref (gX Γ 55)), (1, .long l1)] [] S (f_X8_letters l1 S) := by
  rw [f_X8_letters]
  refine g_iconst (pc := 0) C (v := 0) dX8_letters_0 (by decide) ?_
  refine g_istore_n0 (pc := 1) C dX8_letters_1 rfl (by decide) (lv' := [(3, .int 0), (0, .ref (gX Γ 55)), (1, .long l1)]) rfl ?_
  refine g_iconst (pc := 2) C (v := 1) dX8_letters_2 (by decide) ?_
  refine g_istore0 (pc := 3) C dX8_letters_3 (by decide) (lv' := [(4, .int 1), (3, .int 0), (0, .ref (gX Γ 55)), (1, .long l1)]) rfl ?_
  refine g_lload_n (pc := 5) C dX8_letters_5 3 rfl rfl ?_
  refine g_lstore0 (pc := 6) C dX8_letters_6 (by decide) (lv' := [(5, .long l1), (4, .int 1), (3, .int 0), (0, .ref (gX Γ 55)), (1, .long l1)]) rfl ?_
  refine g_iconst (pc := 8) C (v := 0) dX8_letters_8 (by decide) ?_
  refine g_istore0 (pc := 9) C dX8_letters_9 (by decide) (lv' := [(7, .int 0), (5, .long l1), (4, .int 1), (3, .int 0), (0, .ref (gX Γ 55)), (1, .long l1)]) rfl ?_
  exact g_sub [4, 5, 3, 2, 1, 0] rfl (p_X8_letters_l11 C M FU l1 0 1 l1 0 S)
theorem ct_X8_letters {Γ : GA} (l1 : Int64) (S : St) : CtI Γ yX8_letters cX8_letters 9 (some .int) 0 [.ref (gX Γ 55), .long l1] S (f_X8_letters l1 S) :=
  ctI_of (by decide) (Nat.le_of_ble_eq_true rfl) (fun _ C M => p_X8_letters C M l1 S)
set_option maxRecDepth 100000 in
set_option maxHeartbeats 4000000 in
theorem p_X8_blank {Γ : GA} {E : EV} (C : Cx Γ E RX8 cX8_blank 2 0 (some .int)) (M : Mx Γ E) (S : St) : G Γ E (QI Γ E) 2 0 [(0, .ref (gX Γ 55))] [] S (f_X8_blank S) := by
  rw [f_X8_blank]
  refine g_aload_n (pc := 0) C dX8_blank_0 0 rfl rfl ?_
  refine g_getI (pc := 1) C lk_X8_76 fi_55_1 dX8_blank_1 ?_
  refine g_istore_n (pc := 4) C dX8_blank_4 rfl (by decide) (fun x => [(1, .int x), (0, .ref (gX Γ 55))]) (fun _ => rfl) (fun x1_1 => ?_)
  refine g_aload_n (pc := 5) C dX8_blank_5 1 rfl rfl ?_
  refine g_iconst (pc := 6) C (v := 0) dX8_blank_6 (by decide) ?_
  refine g_putI (pc := 7) C lp_X8_76 fi_55_1 dX8_blank_7 (fun S_2 => ?_)
  refine g_iload_n (pc := 10) C dX8_blank_10 0 rfl rfl ?_
  exact g_iret C M dX8_blank_11
theorem ct_X8_blank {Γ : GA} (S : St) : CtI Γ yX8_blank cX8_blank 2 (some .int) 0 [.ref (gX Γ 55)] S (f_X8_blank S) :=
  ctI_of (by decide) (Nat.le_of_ble_eq_true rfl) (fun _ C M => p_X8_blank C M  S)
set_option maxRecDepth 100000 in
set_option maxHeartbeats 4000000 in
theorem p_X8_in {Γ : GA} {E : EV} (C : Cx Γ E RX8 cX8_in 6 0 (some .boolean)) (M : Mx Γ E) (l0 : Int64) (l2 : Int64) (l4 : Int64) (S : St) : G Γ E (QI Γ E) 6 0 [(0, .long l0), (2, .long l2), (4, .long l4)] [] S (f_X8_in l0 l2 l4 S) := by
  rw [f_X8_in]
  refine g_lload_n (pc := 0) C dX8_in_0 0 rfl rfl ?_
  refine g_lload_n (pc := 1) C dX8_in_1 1 rfl rfl ?_
  refine g_lcmp (pc := 2) C dX8_in_2 ?_
  refine g_if_lt (pc := 3) C 17 dX8_in_3 (by decide) ?_ ?_
  · refine g_iconst (pc := 17) C (v := 0) dX8_in_17 (by decide) ?_
    exact g_zret1 C M rfl dX8_in_18
  · refine g_lload_n (pc := 6) C dX8_in_6 0 rfl rfl ?_
    refine g_lload (pc := 7) C dX8_in_7 2 rfl ?_
    refine g_lcmp (pc := 9) C dX8_in_9 ?_
    refine g_if_gt (pc := 10) C 17 dX8_in_10 (by decide) ?_ ?_
    · refine g_iconst (pc := 17) C (v := 0) dX8_in_17 (by decide) ?_
      exact g_zret1 C M rfl dX8_in_18
    · refine g_iconst (pc := 13) C (v := 1) dX8_in_13 (by decide) ?_
      refine g_goto (pc := 14) C 18 dX8_in_14 (by decide) ?_
      exact g_zret1 C M rfl dX8_in_18
theorem ct_X8_in {Γ : GA} (l0 : Int64) (l2 : Int64) (l4 : Int64) (S : St) : CtI Γ yX8_in cX8_in 6 (some .boolean) 0 [.long l0, .long l2, .long l4] S (f_X8_in l0 l2 l4 S) :=
  ctI_of (by decide) (Nat.le_of_ble_eq_true rfl) (fun _ C M => p_X8_in C M l0 l2 l4 S)
set_option maxRecDepth 100000 in
set_option maxHeartbeats 4000000 in
theorem p_X8_goNext {Γ : GA} {E : EV} (C : Cx Γ E RX8 cX8_goNext 3 0 (some .boolean)) (M : Mx Γ E) (x1 : Int32) (x2 : Int32) (S : St) : G Γ E (QI Γ E) 3 0 [(0, .ref (gX Γ 55)), (1, .int x1), (2, .int x2)] [] S (f_X8_goNext x1 x2 S) := by
  rw [f_X8_goNext]
  refine g_aload_n (pc := 0) C dX8_goNext_0 0 rfl rfl ?_
  refine g_dup (pc := 1) C dX8_goNext_1 rfl ?_
  refine g_getI (pc := 2) C lk_X8_79 fi_55_3 dX8_goNext_2 ?_
  refine g_iconst (pc := 5) C (v := 1) dX8_goNext_5 (by decide) ?_
  refine g_iadd (pc := 6) C dX8_goNext_6 ?_
  refine g_putI (pc := 7) C lp_X8_79 fi_55_3 dX8_goNext_7 (fun S_1 => ?_)
  refine g_aload_n (pc := 10) C dX8_goNext_10 0 rfl rfl ?_
  refine g_iconst (pc := 11) C (v := 0) dX8_goNext_11 (by decide) ?_
  refine g_putI (pc := 12) C lp_X8_82 fi_55_2 dX8_goNext_12 (fun S_2 => ?_)
  refine g_iload_n (pc := 15) C dX8_goNext_15 1 rfl rfl ?_
  refine g_bipush (pc := 16) C (v := 44) dX8_goNext_16 (by decide) ?_
  refine g_icmp_ne (pc := 18) C 33 dX8_goNext_18 (by decide) ?_ ?_
  · refine g_aload_n (pc := 21) C dX8_goNext_21 0 rfl rfl ?_
    refine g_getI (pc := 22) C lk_X8_79 fi_55_3 dX8_goNext_22 ?_
    refine g_iload_n (pc := 25) C dX8_goNext_25 2 rfl rfl ?_
    refine g_icmp_gt (pc := 26) C 33 dX8_goNext_26 (by decide) ?_ ?_
    · refine g_iconst (pc := 33) C (v := 0) dX8_goNext_33 (by decide) ?_
      exact g_zret1 C M rfl dX8_goNext_34
    · refine g_iconst (pc := 29) C (v := 1) dX8_goNext_29 (by decide) ?_
      refine g_goto (pc := 30) C 34 dX8_goNext_30 (by decide) ?_
      exact g_zret1 C M rfl dX8_goNext_34
  · refine g_iconst (pc := 33) C (v := 0) dX8_goNext_33 (by decide) ?_
    exact g_zret1 C M rfl dX8_goNext_34
theorem ct_X8_goNext {Γ : GA} (x1 : Int32) (x2 : Int32) (S : St) : CtI Γ yX8_goNext cX8_goNext 3 (some .boolean) 0 [.ref (gX Γ 55), .int x1, .int x2] S (f_X8_goNext x1 x2 S) :=
  ctI_of (by decide) (Nat.le_of_ble_eq_true rfl) (fun _ C M => p_X8_goNext C M x1 x2 S)
set_option maxRecDepth 100000 in
set_option maxHeartbeats 4000000 in
theorem p_X8_goHill {Γ : GA} {E : EV} (C : Cx Γ E RX8 cX8_goHill 3 1 (some .boolean)) (M : Mx Γ E) (x1 : Int32) (S : St) : G Γ E (QI Γ E) 3 0 [(0, .ref (gX Γ 55)), (1, .int x1)] [] S (f_X8_goHill x1 S) := by
  rw [f_X8_goHill]
  refine g_iconst (pc := 0) C (v := 3) dX8_goHill_0 (by decide) ?_
  refine g_aload_n (pc := 1) C dX8_goHill_1 0 rfl rfl ?_
  refine g_getI (pc := 2) C lk_X8_79 fi_55_3 dX8_goHill_2 ?_
  refine g_imul (pc := 5) C dX8_goHill_5 ?_
  refine g_istore_n (pc := 6) C dX8_goHill_6 rfl (by decide) (fun x => [(2, .int x), (0, .ref (gX Γ 55)), (1, .int x1)]) (fun _ => rfl) (fun x2_1 => ?_)
  refine g_aload_n (pc := 7) C dX8_goHill_7 1 rfl rfl ?_
  refine g_getI (pc := 8) C lk_X8_82 fi_55_2 dX8_goHill_8 ?_
  refine g_tsw (res := none) (pc := 11) C 0 36 0 dX8_goHill_11 (by show ¬ ((0 : Int) ≤ _ ∧ _ < (0 : Int)); omega) (by decide) rfl (by decide) ?_ (fun hs_8 => ?_)
  · refine g_aload_n (pc := 36) C dX8_goHill_36 1 rfl rfl ?_
    refine g_getR (pc := 37) C lk_X8_13 fr_55_5 dX8_goHill_37 ?_
    refine g_iload_n (pc := 40) C dX8_goHill_40 0 rfl rfl ?_
    refine g_iload_n (pc := 41) C dX8_goHill_41 2 rfl rfl ?_
    refine g_bipush (pc := 42) C (v := 48) dX8_goHill_42 (by decide) ?_
    refine g_isub (pc := 44) C dX8_goHill_44 ?_
    refine g_iast (pc := 45) C ai_57 dX8_goHill_45 (fun S_2 => ?_)
    refine g_aload_n (pc := 46) C dX8_goHill_46 1 rfl rfl ?_
    refine g_getR (pc := 47) C lk_X8_13 fr_55_5 dX8_goHill_47 ?_
    refine g_iload_n (pc := 50) C dX8_goHill_50 0 rfl rfl ?_
    refine g_iconst (pc := 51) C (v := 1) dX8_goHill_51 (by decide) ?_
    refine g_iadd (pc := 52) C dX8_goHill_52 ?_
    refine g_iconst (pc := 53) C (v := 0) dX8_goHill_53 (by decide) ?_
    refine g_iast (pc := 54) C ai_57 dX8_goHill_54 (fun S_3 => ?_)
    refine g_aload_n (pc := 55) C dX8_goHill_55 1 rfl rfl ?_
    refine g_getR (pc := 56) C lk_X8_13 fr_55_5 dX8_goHill_56 ?_
    refine g_iload_n (pc := 59) C dX8_goHill_59 0 rfl rfl ?_
    refine g_iconst (pc := 60) C (v := 2) dX8_goHill_60 (by decide) ?_
    refine g_iadd (pc := 61) C dX8_goHill_61 ?_
    refine g_iconst (pc := 62) C (v := 0) dX8_goHill_62 (by decide) ?_
    refine g_iast (pc := 63) C ai_57 dX8_goHill_63 (fun S_4 => ?_)
    refine g_aload_n (pc := 64) C dX8_goHill_64 1 rfl rfl ?_
    refine g_iconst (pc := 65) C (v := 1) dX8_goHill_65 (by decide) ?_
    refine g_putI (pc := 66) C lp_X8_82 fi_55_2 dX8_goHill_66 (fun S_5 => ?_)
    refine g_iload_n (pc := 69) C dX8_goHill_69 2 rfl rfl ?_
    refine g_i2l (pc := 70) C dX8_goHill_70 ?_
    refine g_ldc2 (pc := 71) C kc_X8_85 dX8_goHill_71 ?_
    refine g_ldc2 (pc := 74) C kc_X8_87 dX8_goHill_74 ?_
    refine g_callSI (pc := 77) (As := [.long ((x1 : Int32).toInt64), .long 48, .long 57]) (st := []) C ls_X8_89 (ct_X8_in ((x1 : Int32).toInt64) 48 57 S_5) (by decide) rfl rfl (Nat.le_of_ble_eq_true rfl) dX8_goHill_77 (fun r_7 S_6 => ?_)
    exact g_zret C M dX8_goHill_80
  refine g_tsw (res := none) (pc := 11) C 1 81 1 dX8_goHill_11 hs_8 (by decide) rfl (by decide) ?_ (fun hs_14 => ?_)
  · refine g_iload_n (pc := 81) C dX8_goHill_81 2 rfl rfl ?_
    refine g_bipush (pc := 82) C (v := 98) dX8_goHill_82 (by decide) ?_
    refine g_icmp_ne (pc := 84) C 94 dX8_goHill_84 (by decide) ?_ ?_
    · refine g_aload_n (pc := 87) C dX8_goHill_87 1 rfl rfl ?_
      refine g_iconst (pc := 88) C (v := 2) dX8_goHill_88 (by decide) ?_
      refine g_putI (pc := 89) C lp_X8_82 fi_55_2 dX8_goHill_89 (fun S_9 => ?_)
      refine g_iconst (pc := 92) C (v := 1) dX8_goHill_92 (by decide) ?_
      exact g_zret1 C M rfl dX8_goHill_93
    · refine g_iload_n (pc := 94) C dX8_goHill_94 2 rfl rfl ?_
      refine g_bipush (pc := 95) C (v := 117) dX8_goHill_95 (by decide) ?_
      refine g_icmp_ne (pc := 97) C 116 dX8_goHill_97 (by decide) ?_ ?_
      · refine g_aload_n (pc := 100) C dX8_goHill_100 1 rfl rfl ?_
        refine g_getR (pc := 101) C lk_X8_13 fr_55_5 dX8_goHill_101 ?_
        refine g_iload_n (pc := 104) C dX8_goHill_104 0 rfl rfl ?_
        refine g_iconst (pc := 105) C (v := 2) dX8_goHill_105 (by decide) ?_
        refine g_iadd (pc := 106) C dX8_goHill_106 ?_
        refine g_iconst (pc := 107) C (v := 1) dX8_goHill_107 (by decide) ?_
        refine g_iast (pc := 108) C ai_57 dX8_goHill_108 (fun S_10 => ?_)
        refine g_aload_n (pc := 109) C dX8_goHill_109 1 rfl rfl ?_
        refine g_iconst (pc := 110) C (v := 3) dX8_goHill_110 (by decide) ?_
        refine g_putI (pc := 111) C lp_X8_82 fi_55_2 dX8_goHill_111 (fun S_11 => ?_)
        refine g_iconst (pc := 114) C (v := 1) dX8_goHill_114 (by decide) ?_
        exact g_zret1 C M rfl dX8_goHill_115
      · refine g_aload_n (pc := 116) C dX8_goHill_116 1 rfl rfl ?_
        refine g_iload_n (pc := 117) C dX8_goHill_117 2 rfl rfl ?_
        refine g_bipush (pc := 118) C (v := 11) dX8_goHill_118 (by decide) ?_
        refine g_callVI (pc := 120) (As := [.int x1, .int 11]) (st := []) C lv_X8_93 fo_55 rfl (ct_X8_goNext x1 11 S) (by decide) rfl rfl (Nat.le_of_ble_eq_true rfl) dX8_goHill_120 (fun r_13 S_12 => ?_)
        exact g_zret C M dX8_goHill_123
  refine g_tsw (res := none) (pc := 11) C 2 124 2 dX8_goHill_11 hs_14 (by decide) rfl (by decide) ?_ (fun hs_19 => ?_)
  · refine g_aload_n (pc := 124) C dX8_goHill_124 1 rfl rfl ?_
    refine g_getR (pc := 125) C lk_X8_13 fr_55_5 dX8_goHill_125 ?_
    refine g_iload_n (pc := 128) C dX8_goHill_128 0 rfl rfl ?_
    refine g_iconst (pc := 129) C (v := 1) dX8_goHill_129 (by decide) ?_
    refine g_iadd (pc := 130) C dX8_goHill_130 ?_
    refine g_iload_n (pc := 131) C dX8_goHill_131 2 rfl rfl ?_
    refine g_bipush (pc := 132) C (v := 48) dX8_goHill_132 (by decide) ?_
    refine g_isub (pc := 134) C dX8_goHill_134 ?_
    refine g_iast (pc := 135) C ai_57 dX8_goHill_135 (fun S_15 => ?_)
    refine g_aload_n (pc := 136) C dX8_goHill_136 1 rfl rfl ?_
    refine g_iconst (pc := 137) C (v := 3) dX8_goHill_137 (by decide) ?_
    refine g_putI (pc := 138) C lp_X8_82 fi_55_2 dX8_goHill_138 (fun S_16 => ?_)
    refine g_iload_n (pc := 141) C dX8_goHill_141 2 rfl rfl ?_
    refine g_i2l (pc := 142) C dX8_goHill_142 ?_
    refine g_ldc2 (pc := 143) C kc_X8_97 dX8_goHill_143 ?_
    refine g_ldc2 (pc := 146) C kc_X8_87 dX8_goHill_146 ?_
    refine g_callSI (pc := 149) (As := [.long ((x1 : Int32).toInt64), .long 49, .long 57]) (st := []) C ls_X8_89 (ct_X8_in ((x1 : Int32).toInt64) 49 57 S_16) (by decide) rfl rfl (Nat.le_of_ble_eq_true rfl) dX8_goHill_149 (fun r_18 S_17 => ?_)
    exact g_zret C M dX8_goHill_152
  refine g_tsd (pc := 11) C (k := 2) 153 dX8_goHill_11 hs_19 rfl (by decide) ?_
  refine g_aload_n (pc := 153) C dX8_goHill_153 1 rfl rfl ?_
  refine g_iload_n (pc := 154) C dX8_goHill_154 2 rfl rfl ?_
  refine g_bipush (pc := 155) C (v := 11) dX8_goHill_155 (by decide) ?_
  refine g_callVI (pc := 157) (As := [.int x1, .int 11]) (st := []) C lv_X8_93 fo_55 rfl (ct_X8_goNext x1 11 S) (by decide) rfl rfl (Nat.le_of_ble_eq_true rfl) dX8_goHill_157 (fun r_21 S_20 => ?_)
  exact g_zret C M dX8_goHill_160
theorem ct_X8_goHill {Γ : GA} (x1 : Int32) (S : St) : CtI Γ yX8_goHill cX8_goHill 3 (some .boolean) 1 [.ref (gX Γ 55), .int x1] S (f_X8_goHill x1 S) :=
  ctI_of (by decide) (Nat.le_of_ble_eq_true rfl) (fun _ C M => p_X8_goHill C M x1 S)
set_option maxRecDepth 100000 in
set_option maxHeartbeats 4000000 in
theorem p_X8_kindOf {Γ : GA} {E : EV} (C : Cx Γ E RX8 cX8_kindOf 1 0 (some .int)) (M : Mx Γ E) (x0 : Int32) (S : St) : G Γ E (QI Γ E) 1 0 [(0, .int x0)] [] S (f_X8_kindOf x0 S) := by
  rw [f_X8_kindOf]
  refine g_iload_n (pc := 0) C dX8_kindOf_0 0 rfl rfl ?_
  refine g_bipush (pc := 1) C (v := 108) dX8_kindOf_1 (by decide) ?_
  refine g_icmp_ne (pc := 3) C 10 dX8_kindOf_3 (by decide) ?_ ?_
  · refine g_iconst (pc := 6) C (v := 0) dX8_kindOf_6 (by decide) ?_
    refine g_goto (pc := 7) C 61 dX8_kindOf_7 (by decide) ?_
    exact g_iret C M dX8_kindOf_61
  · refine g_iload_n (pc := 10) C dX8_kindOf_10 0 rfl rfl ?_
    refine g_bipush (pc := 11) C (v := 114) dX8_kindOf_11 (by decide) ?_
    refine g_icmp_ne (pc := 13) C 20 dX8_kindOf_13 (by decide) ?_ ?_
    · refine g_iconst (pc := 16) C (v := 1) dX8_kindOf_16 (by decide) ?_
      refine g_goto (pc := 17) C 61 dX8_kindOf_17 (by decide) ?_
      exact g_iret C M dX8_kindOf_61
    · refine g_iload_n (pc := 20) C dX8_kindOf_20 0 rfl rfl ?_
      refine g_bipush (pc := 21) C (v := 116) dX8_kindOf_21 (by decide) ?_
      refine g_icmp_ne (pc := 23) C 30 dX8_kindOf_23 (by decide) ?_ ?_
      · refine g_iconst (pc := 26) C (v := 2) dX8_kindOf_26 (by decide) ?_
        refine g_goto (pc := 27) C 61 dX8_kindOf_27 (by decide) ?_
        exact g_iret C M dX8_kindOf_61
      · refine g_iload_n (pc := 30) C dX8_kindOf_30 0 rfl rfl ?_
        refine g_bipush (pc := 31) C (v := 97) dX8_kindOf_31 (by decide) ?_
        refine g_icmp_ne (pc := 33) C 40 dX8_kindOf_33 (by decide) ?_ ?_
        · refine g_iconst (pc := 36) C (v := 3) dX8_kindOf_36 (by decide) ?_
          refine g_goto (pc := 37) C 61 dX8_kindOf_37 (by decide) ?_
          exact g_iret C M dX8_kindOf_61
        · refine g_iload_n (pc := 40) C dX8_kindOf_40 0 rfl rfl ?_
          refine g_bipush (pc := 41) C (v := 117) dX8_kindOf_41 (by decide) ?_
          refine g_icmp_ne (pc := 43) C 50 dX8_kindOf_43 (by decide) ?_ ?_
          · refine g_iconst (pc := 46) C (v := 4) dX8_kindOf_46 (by decide) ?_
            refine g_goto (pc := 47) C 61 dX8_kindOf_47 (by decide) ?_
            exact g_iret C M dX8_kindOf_61
          · refine g_iload_n (pc := 50) C dX8_kindOf_50 0 rfl rfl ?_
            refine g_bipush (pc := 51) C (v := 115) dX8_kindOf_51 (by decide) ?_
            refine g_icmp_ne (pc := 53) C 60 dX8_kindOf_53 (by decide) ?_ ?_
            · refine g_iconst (pc := 56) C (v := 5) dX8_kindOf_56 (by decide) ?_
              refine g_goto (pc := 57) C 61 dX8_kindOf_57 (by decide) ?_
              exact g_iret C M dX8_kindOf_61
            · refine g_iconst (pc := 60) C (v := (-1)) dX8_kindOf_60 (by decide) ?_
              exact g_iret C M dX8_kindOf_61
theorem ct_X8_kindOf {Γ : GA} (x0 : Int32) (S : St) : CtI Γ yX8_kindOf cX8_kindOf 1 (some .int) 0 [.int x0] S (f_X8_kindOf x0 S) :=
  ctI_of (by decide) (Nat.le_of_ble_eq_true rfl) (fun _ C M => p_X8_kindOf C M x0 S)
set_option maxRecDepth 100000 in
set_option maxHeartbeats 4000000 in
theorem p_X8_goCart {Γ : GA} {E : EV} (C : Cx Γ E RX8 cX8_goCart 3 1 (some .boolean)) (M : Mx Γ E) (x1 : Int32) (S : St) : G Γ E (QI Γ E) 3 0 [(0, .ref (gX Γ 55)), (1, .int x1)] [] S (f_X8_goCart x1 S) := by
  rw [f_X8_goCart]
  refine g_aload_n (pc := 0) C dX8_goCart_0 0 rfl rfl ?_
  refine g_getI (pc := 1) C lk_X8_82 fi_55_2 dX8_goCart_1 ?_
  refine g_istore_n (pc := 4) C dX8_goCart_4 rfl (by decide) (fun x => [(2, .int x), (0, .ref (gX Γ 55)), (1, .int x1)]) (fun _ => rfl) (fun x2_1 => ?_)
  refine g_aload_n (pc := 5) C dX8_goCart_5 1 rfl rfl ?_
  refine g_dup (pc := 6) C dX8_goCart_6 rfl ?_
  refine g_getI (pc := 7) C lk_X8_82 fi_55_2 dX8_goCart_7 ?_
  refine g_iconst (pc := 10) C (v := 1) dX8_goCart_10 (by decide) ?_
  refine g_iadd (pc := 11) C dX8_goCart_11 ?_
  refine g_putI (pc := 12) C lp_X8_82 fi_55_2 dX8_goCart_12 (fun S_2 => ?_)
  refine g_iload_n (pc := 15) C dX8_goCart_15 0 rfl rfl ?_
  refine g_tsw (res := none) (pc := 16) C 0 52 0 dX8_goCart_16 (by show ¬ ((0 : Int) ≤ _ ∧ _ < (0 : Int)); omega) (by decide) rfl (by decide) ?_ (fun hs_3 => ?_)
  · refine g_iload_n (pc := 52) C dX8_goCart_52 2 rfl rfl ?_
    refine g_bipush (pc := 53) C (v := 119) dX8_goCart_53 (by decide) ?_
    refine g_icmp_ne (pc := 55) C 62 dX8_goCart_55 (by decide) ?_ ?_
    · refine g_iconst (pc := 58) C (v := 1) dX8_goCart_58 (by decide) ?_
      refine g_goto (pc := 59) C 63 dX8_goCart_59 (by decide) ?_
      exact g_zret1 C M rfl dX8_goCart_63
    · refine g_iconst (pc := 62) C (v := 0) dX8_goCart_62 (by decide) ?_
      exact g_zret1 C M rfl dX8_goCart_63
  refine g_tsw (res := none) (pc := 16) C 1 64 1 dX8_goCart_16 hs_3 (by decide) rfl (by decide) ?_ (fun hs_7 => ?_)
  · refine g_aload_n (pc := 64) C dX8_goCart_64 1 rfl rfl ?_
    refine g_bipush (pc := 65) C (v := 10) dX8_goCart_65 (by decide) ?_
    refine g_iload_n (pc := 67) C dX8_goCart_67 2 rfl rfl ?_
    refine g_bipush (pc := 68) C (v := 48) dX8_goCart_68 (by decide) ?_
    refine g_isub (pc := 70) C dX8_goCart_70 ?_
    refine g_imul (pc := 71) C dX8_goCart_71 ?_
    refine g_putI (pc := 72) C lp_X8_99 fi_55_4 dX8_goCart_72 (fun S_4 => ?_)
    refine g_iload_n (pc := 75) C dX8_goCart_75 2 rfl rfl ?_
    refine g_i2l (pc := 76) C dX8_goCart_76 ?_
    refine g_ldc2 (pc := 77) C kc_X8_97 dX8_goCart_77 ?_
    refine g_ldc2 (pc := 80) C kc_X8_87 dX8_goCart_80 ?_
    refine g_callSI (pc := 83) (As := [.long ((x1 : Int32).toInt64), .long 49, .long 57]) (st := []) C ls_X8_89 (ct_X8_in ((x1 : Int32).toInt64) 49 57 S_4) (by decide) rfl rfl (Nat.le_of_ble_eq_true rfl) dX8_goCart_83 (fun r_6 S_5 => ?_)
    exact g_zret C M dX8_goCart_86
  refine g_tsw (res := none) (pc := 16) C 2 87 2 dX8_goCart_16 hs_7 (by decide) rfl (by decide) ?_ (fun hs_11 => ?_)
  · refine g_aload_n (pc := 87) C dX8_goCart_87 1 rfl rfl ?_
    refine g_dup (pc := 88) C dX8_goCart_88 rfl ?_
    refine g_getI (pc := 89) C lk_X8_99 fi_55_4 dX8_goCart_89 ?_
    refine g_iload_n (pc := 92) C dX8_goCart_92 2 rfl rfl ?_
    refine g_bipush (pc := 93) C (v := 48) dX8_goCart_93 (by decide) ?_
    refine g_isub (pc := 95) C dX8_goCart_95 ?_
    refine g_iadd (pc := 96) C dX8_goCart_96 ?_
    refine g_putI (pc := 97) C lp_X8_99 fi_55_4 dX8_goCart_97 (fun S_8 => ?_)
    refine g_iload_n (pc := 100) C dX8_goCart_100 2 rfl rfl ?_
    refine g_i2l (pc := 101) C dX8_goCart_101 ?_
    refine g_ldc2 (pc := 102) C kc_X8_85 dX8_goCart_102 ?_
    refine g_ldc2 (pc := 105) C kc_X8_87 dX8_goCart_105 ?_
    refine g_callSI (pc := 108) (As := [.long ((x1 : Int32).toInt64), .long 48, .long 57]) (st := []) C ls_X8_89 (ct_X8_in ((x1 : Int32).toInt64) 48 57 S_8) (by decide) rfl rfl (Nat.le_of_ble_eq_true rfl) dX8_goCart_108 (fun r_10 S_9 => ?_)
    exact g_zret C M dX8_goCart_111
  refine g_tsw (res := none) (pc := 16) C 3 112 3 dX8_goCart_16 hs_11 (by decide) rfl (by decide) ?_ (fun hs_12 => ?_)
  · refine g_iload_n (pc := 112) C dX8_goCart_112 2 rfl rfl ?_
    refine g_bipush (pc := 113) C (v := 44) dX8_goCart_113 (by decide) ?_
    refine g_icmp_ne (pc := 115) C 130 dX8_goCart_115 (by decide) ?_ ?_
    · refine g_aload_n (pc := 118) C dX8_goCart_118 1 rfl rfl ?_
      refine g_getI (pc := 119) C lk_X8_79 fi_55_3 dX8_goCart_119 ?_
      refine g_iconst (pc := 122) C (v := 5) dX8_goCart_122 (by decide) ?_
      refine g_icmp_ge (pc := 123) C 130 dX8_goCart_123 (by decide) ?_ ?_
      · refine g_iconst (pc := 130) C (v := 0) dX8_goCart_130 (by decide) ?_
        exact g_zret1 C M rfl dX8_goCart_131
      · refine g_iconst (pc := 126) C (v := 1) dX8_goCart_126 (by decide) ?_
        refine g_goto (pc := 127) C 131 dX8_goCart_127 (by decide) ?_
        exact g_zret1 C M rfl dX8_goCart_131
    · refine g_iconst (pc := 130) C (v := 0) dX8_goCart_130 (by decide) ?_
      exact g_zret1 C M rfl dX8_goCart_131
  refine g_tsw (res := none) (pc := 16) C 4 132 4 dX8_goCart_16 hs_12 (by decide) rfl (by decide) ?_ (fun hs_18 => ?_)
  · refine g_aload_n (pc := 132) C dX8_goCart_132 1 rfl rfl ?_
    refine g_getR (pc := 133) C lk_X8_13 fr_55_5 dX8_goCart_133 ?_
    refine g_iconst (pc := 136) C (v := 2) dX8_goCart_136 (by decide) ?_
    refine g_aload_n (pc := 137) C dX8_goCart_137 1 rfl rfl ?_
    refine g_getI (pc := 138) C lk_X8_79 fi_55_3 dX8_goCart_138 ?_
    refine g_imul (pc := 141) C dX8_goCart_141 ?_
    refine g_iload_n (pc := 142) C dX8_goCart_142 2 rfl rfl ?_
    refine g_callSI (pc := 143) (As := [.int x1]) (st := [.int (2 * (S_2 55 3)), .ref (gX Γ 57)]) C ls_X8_102 (ct_X8_kindOf x1 S_2) (by decide) rfl rfl (Nat.le_of_ble_eq_true rfl) dX8_goCart_143 (fun r_14 S_13 => ?_)
    refine g_iast (pc := 146) C ai_57 dX8_goCart_146 (fun S_15 => ?_)
    refine g_iload_n (pc := 147) C dX8_goCart_147 2 rfl rfl ?_
    refine g_callSI (pc := 148) (As := [.int x1]) (st := []) C ls_X8_102 (ct_X8_kindOf x1 S_15) (by decide) rfl rfl (Nat.le_of_ble_eq_true rfl) dX8_goCart_148 (fun r_17 S_16 => ?_)
    refine g_iconst (pc := 151) C (v := (-1)) dX8_goCart_151 (by decide) ?_
    refine g_icmp_eq (pc := 152) C 159 dX8_goCart_152 (by decide) ?_ ?_
    · refine g_iconst (pc := 159) C (v := 0) dX8_goCart_159 (by decide) ?_
      exact g_zret1 C M rfl dX8_goCart_160
    · refine g_iconst (pc := 155) C (v := 1) dX8_goCart_155 (by decide) ?_
      refine g_goto (pc := 156) C 160 dX8_goCart_156 (by decide) ?_
      exact g_zret1 C M rfl dX8_goCart_160
  refine g_tsd (pc := 16) C (k := 4) 161 dX8_goCart_16 hs_18 rfl (by decide) ?_
  refine g_aload_n (pc := 161) C dX8_goCart_161 1 rfl rfl ?_
  refine g_getR (pc := 162) C lk_X8_13 fr_55_5 dX8_goCart_162 ?_
  refine g_iconst (pc := 165) C (v := 2) dX8_goCart_165 (by decide) ?_
  refine g_aload_n (pc := 166) C dX8_goCart_166 1 rfl rfl ?_
  refine g_getI (pc := 167) C lk_X8_79 fi_55_3 dX8_goCart_167 ?_
  refine g_imul (pc := 170) C dX8_goCart_170 ?_
  refine g_iconst (pc := 171) C (v := 1) dX8_goCart_171 (by decide) ?_
  refine g_iadd (pc := 172) C dX8_goCart_172 ?_
  refine g_iload_n (pc := 173) C dX8_goCart_173 2 rfl rfl ?_
  refine g_bipush (pc := 174) C (v := 48) dX8_goCart_174 (by decide) ?_
  refine g_isub (pc := 176) C dX8_goCart_176 ?_
  refine g_iast (pc := 177) C ai_57 dX8_goCart_177 (fun S_19 => ?_)
  refine g_aload_n (pc := 178) C dX8_goCart_178 1 rfl rfl ?_
  refine g_dup (pc := 179) C dX8_goCart_179 rfl ?_
  refine g_getI (pc := 180) C lk_X8_79 fi_55_3 dX8_goCart_180 ?_
  refine g_iconst (pc := 183) C (v := 1) dX8_goCart_183 (by decide) ?_
  refine g_iadd (pc := 184) C dX8_goCart_184 ?_
  refine g_putI (pc := 185) C lp_X8_79 fi_55_3 dX8_goCart_185 (fun S_20 => ?_)
  refine g_aload_n (pc := 188) C dX8_goCart_188 1 rfl rfl ?_
  refine g_iconst (pc := 189) C (v := 3) dX8_goCart_189 (by decide) ?_
  refine g_putI (pc := 190) C lp_X8_82 fi_55_2 dX8_goCart_190 (fun S_21 => ?_)
  refine g_iload_n (pc := 193) C dX8_goCart_193 2 rfl rfl ?_
  refine g_i2l (pc := 194) C dX8_goCart_194 ?_
  refine g_ldc2 (pc := 195) C kc_X8_97 dX8_goCart_195 ?_
  refine g_ldc2 (pc := 198) C kc_X8_87 dX8_goCart_198 ?_
  refine g_callSI (pc := 201) (As := [.long ((x1 : Int32).toInt64), .long 49, .long 57]) (st := []) C ls_X8_89 (ct_X8_in ((x1 : Int32).toInt64) 49 57 S_21) (by decide) rfl rfl (Nat.le_of_ble_eq_true rfl) dX8_goCart_201 (fun r_23 S_22 => ?_)
  exact g_zret C M dX8_goCart_204
theorem ct_X8_goCart {Γ : GA} (x1 : Int32) (S : St) : CtI Γ yX8_goCart cX8_goCart 3 (some .boolean) 1 [.ref (gX Γ 55), .int x1] S (f_X8_goCart x1 S) :=
  ctI_of (by decide) (Nat.le_of_ble_eq_true rfl) (fun _ C M => p_X8_goCart C M x1 S)
set_option maxRecDepth 100000 in
set_option maxHeartbeats 4000000 in
theorem p_X8_faultOf_b53 {Γ : GA} {E : EV} (C : Cx Γ E RX8 cX8_faultOf 3 2 (some .int)) (M : Mx Γ E) (k12 : Int32 → Int32 → St → Option (Int32 × St)) (hk12 : ∀ (x1 : Int32) (x2 : Int32) (S : St), G Γ E (QI Γ E) 3 12 [(0, .ref (gX Γ 55)), (1, .int x1), (2, .int x2)] [] S (k12 x1 x2 S)) (x1 : Int32) (x2 : Int32) (S : St) : G Γ E (QI Γ E) 3 53 [(0, .ref (gX Γ 55)), (1, .int x1), (2, .int x2)] [] S (f_X8_faultOf_b53 k12 x1 x2 S) := by
  rw [f_X8_faultOf_b53]
  refine g_iinc (pc := 53) C (v := 1) dX8_faultOf_53 2 rfl (by decide) (by decide) (fun x => [(2, .int x), (0, .ref (gX Γ 55)), (1, .int x1)]) (fun _ => rfl) (fun x2_5 => ?_)
  refine g_goto (pc := 56) C 12 dX8_faultOf_56 (by decide) ?_
  exact g_sub [1, 2, 0] rfl (hk12 x1 x2_5 S)
set_option maxRecDepth 100000 in
set_option maxHeartbeats 4000000 in
theorem p_X8_faultOf_l12 {Γ : GA} {E : EV} (C : Cx Γ E RX8 cX8_faultOf 3 2 (some .int)) (M : Mx Γ E) : ∀ (n : Nat) (x1 : Int32) (x2 : Int32) (S : St), G Γ E (QI Γ E) 3 12 [(0, .ref (gX Γ 55)), (1, .int x1), (2, .int x2)] [] S (f_X8_faultOf_l12 n x1 x2 S) := by
  intro n
  induction n with
  | zero => intro x1 x2 S; exact g_none
  | succ n ih =>
    intro x1 x2 S
    rw [f_X8_faultOf_l12]
    refine g_iload_n (pc := 12) C dX8_faultOf_12 2 rfl rfl ?_
    refine g_aload_n (pc := 13) C dX8_faultOf_13 0 rfl rfl ?_
    refine g_getI (pc := 14) C lk_X8_76 fi_55_1 dX8_faultOf_14 ?_
    refine g_icmp_ge (pc := 17) C 59 dX8_faultOf_17 (by decide) ?_ ?_
    · refine g_iload_n (pc := 59) C dX8_faultOf_59 2 rfl rfl ?_
      exact g_iret C M dX8_faultOf_60
    · refine g_iload_n (pc := 20) C dX8_faultOf_20 1 rfl rfl ?_
      refine g_if_ne (pc := 21) C 40 dX8_faultOf_21 (by decide) ?_ ?_
      · refine g_aload_n (pc := 24) C dX8_faultOf_24 0 rfl rfl ?_
        refine g_aload_n (pc := 25) C dX8_faultOf_25 0 rfl rfl ?_
        refine g_getR (pc := 26) C lk_X8_7 fr_55_0 dX8_faultOf_26 ?_
        refine g_iload_n (pc := 29) C dX8_faultOf_29 2 rfl rfl ?_
        refine g_iald (pc := 30) C ai_56 dX8_faultOf_30 ?_
        refine g_callVI (pc := 31) (As := [.int (S 56 (x2 : Int32).toNatClampNeg)]) (st := []) C lv_X8_106 fo_55 rfl (ct_X8_goHill (S 56 (x2 : Int32).toNatClampNeg) S) (by decide) rfl rfl (Nat.le_of_ble_eq_true rfl) dX8_faultOf_31 (fun r_4 S_3 => ?_)
        refine g_if_eq (pc := 34) C 59 dX8_faultOf_34 (by decide) ?_ ?_
        · refine g_iload_n (pc := 59) C dX8_faultOf_59 2 rfl rfl ?_
          exact g_iret C M dX8_faultOf_60
        · refine g_goto (pc := 37) C 53 dX8_faultOf_37 (by decide) ?_
          exact g_sub [0, 1, 2] rfl (p_X8_faultOf_b53 C M (f_X8_faultOf_l12 n) ih x1 x2 S_3)
      · refine g_aload_n (pc := 40) C dX8_faultOf_40 0 rfl rfl ?_
        refine g_aload_n (pc := 41) C dX8_faultOf_41 0 rfl rfl ?_
        refine g_getR (pc := 42) C lk_X8_7 fr_55_0 dX8_faultOf_42 ?_
        refine g_iload_n (pc := 45) C dX8_faultOf_45 2 rfl rfl ?_
        refine g_iald (pc := 46) C ai_56 dX8_faultOf_46 ?_
        refine g_callVI (pc := 47) (As := [.int (S 56 (x2 : Int32).toNatClampNeg)]) (st := []) C lv_X8_110 fo_55 rfl (ct_X8_goCart (S 56 (x2 : Int32).toNatClampNeg) S) (by decide) rfl rfl (Nat.le_of_ble_eq_true rfl) dX8_faultOf_47 (fun r_7 S_6 => ?_)
        refine g_if_eq (pc := 50) C 59 dX8_faultOf_50 (by decide) ?_ ?_
        · refine g_iload_n (pc := 59) C dX8_faultOf_59 2 rfl rfl ?_
          exact g_iret C M dX8_faultOf_60
        · exact g_sub [0, 1, 2] rfl (p_X8_faultOf_b53 C M (f_X8_faultOf_l12 n) ih x1 x2 S_6)
set_option maxRecDepth 100000 in
set_option maxHeartbeats 4000000 in
theorem p_X8_faultOf {Γ : GA} {E : EV} (C : Cx Γ E RX8 cX8_faultOf 3 2 (some .int)) (M : Mx Γ E) (x1 : Int32) (S : St) : G Γ E (QI Γ E) 3 0 [(0, .ref (gX Γ 55)), (1, .int x1)] [] S (f_X8_faultOf x1 S) := by
  rw [f_X8_faultOf]
  refine g_aload_n (pc := 0) C dX8_faultOf_0 0 rfl rfl ?_
  refine g_iconst (pc := 1) C (v := 0) dX8_faultOf_1 (by decide) ?_
  refine g_putI (pc := 2) C lp_X8_82 fi_55_2 dX8_faultOf_2 (fun S_1 => ?_)
  refine g_aload_n (pc := 5) C dX8_faultOf_5 0 rfl rfl ?_
  refine g_iconst (pc := 6) C (v := 0) dX8_faultOf_6 (by decide) ?_
  refine g_putI (pc := 7) C lp_X8_79 fi_55_3 dX8_faultOf_7 (fun S_2 => ?_)
  refine g_iconst (pc := 10) C (v := 0) dX8_faultOf_10 (by decide) ?_
  refine g_istore_n0 (pc := 11) C dX8_faultOf_11 rfl (by decide) (lv' := [(2, .int 0), (0, .ref (gX Γ 55)), (1, .int x1)]) rfl ?_
  exact g_sub [1, 2, 0] rfl (p_X8_faultOf_l12 C M FU x1 0 S_2)
theorem ct_X8_faultOf {Γ : GA} (x1 : Int32) (S : St) : CtI Γ yX8_faultOf cX8_faultOf 3 (some .int) 2 [.ref (gX Γ 55), .int x1] S (f_X8_faultOf x1 S) :=
  ctI_of (by decide) (Nat.le_of_ble_eq_true rfl) (fun _ C M => p_X8_faultOf C M x1 S)
set_option maxRecDepth 100000 in
set_option maxHeartbeats 4000000 in
theorem p_X8_fault {Γ : GA} {E : EV} (C : Cx Γ E RX8 cX8_fault 2 3 (some .int)) (M : Mx Γ E) (x1 : Int32) (S : St) : G Γ E (QI Γ E) 2 0 [(0, .ref (gX Γ 55)), (1, .int x1)] [] S (f_X8_fault x1 S) := by
  rw [f_X8_fault]
  refine g_iload_n (pc := 0) C dX8_fault_0 1 rfl rfl ?_
  refine g_i2l (pc := 1) C dX8_fault_1 ?_
  refine g_lconst (pc := 2) C (v := 0) dX8_fault_2 (by decide) ?_
  refine g_lconst (pc := 3) C (v := 1) dX8_fault_3 (by decide) ?_
  refine g_callSI (pc := 4) (As := [.long ((x1 : Int32).toInt64), .long 0, .long 1]) (st := []) C ls_X8_89 (ct_X8_in ((x1 : Int32).toInt64) 0 1 S) (by decide) rfl rfl (Nat.le_of_ble_eq_true rfl) dX8_fault_4 (fun r_2 S_1 => ?_)
  refine g_if_eq (pc := 7) C 18 dX8_fault_7 (by decide) ?_ ?_
  · refine g_bipush (pc := 18) C (v := (-102)) dX8_fault_18 (by decide) ?_
    exact g_iret C M dX8_fault_20
  · refine g_aload_n (pc := 10) C dX8_fault_10 0 rfl rfl ?_
    refine g_iload_n (pc := 11) C dX8_fault_11 1 rfl rfl ?_
    refine g_callVI (pc := 12) (As := [.int x1]) (st := []) C lv_X8_113 fo_55 rfl (ct_X8_faultOf x1 S_1) (by decide) rfl rfl (Nat.le_of_ble_eq_true rfl) dX8_fault_12 (fun r_4 S_3 => ?_)
    refine g_goto (pc := 15) C 20 dX8_fault_15 (by decide) ?_
    exact g_iret C M dX8_fault_20
theorem ct_X8_fault {Γ : GA} (x1 : Int32) (S : St) : CtI Γ yX8_fault cX8_fault 2 (some .int) 3 [.ref (gX Γ 55), .int x1] S (f_X8_fault x1 S) :=
  ctI_of (by decide) (Nat.le_of_ble_eq_true rfl) (fun _ C M => p_X8_fault C M x1 S)
set_option maxRecDepth 100000 in
set_option maxHeartbeats 4000000 in
theorem p_X8_hill_l51 {Γ : GA} {E : EV} (C : Cx Γ E RX8 cX8_hill 2 3 (some .int)) (M : Mx Γ E) : ∀ (n : Nat) (x1 : Int32) (S : St), G Γ E (QI Γ E) 2 51 [(0, .ref (gX Γ 55)), (1, .int x1)] [] S (f_X8_hill_l51 n x1 S) := by
  intro n
  induction n with
  | zero => intro x1 S; exact g_none
  | succ n ih =>
    intro x1 S
    rw [f_X8_hill_l51]
    refine g_iload_n (pc := 51) C dX8_hill_51 1 rfl rfl ?_
    refine g_aload_n (pc := 52) C dX8_hill_52 0 rfl rfl ?_
    refine g_getI (pc := 53) C lk_X8_116 fi_55_6 dX8_hill_53 ?_
    refine g_icmp_ge (pc := 56) C 118 dX8_hill_56 (by decide) ?_ ?_
    · refine g_aload_n (pc := 118) C dX8_hill_118 0 rfl rfl ?_
      refine g_dup (pc := 119) C dX8_hill_119 rfl ?_
      refine g_getI (pc := 120) C lk_X8_119 fi_55_7 dX8_hill_120 ?_
      refine g_iconst (pc := 123) C (v := 1) dX8_hill_123 (by decide) ?_
      refine g_iadd (pc := 124) C dX8_hill_124 ?_
      refine g_putI (pc := 125) C lp_X8_119 fi_55_7 dX8_hill_125 (fun S_4 => ?_)
      refine g_aload_n (pc := 128) C dX8_hill_128 0 rfl rfl ?_
      refine g_iconst (pc := 129) C (v := 0) dX8_hill_129 (by decide) ?_
      refine g_putI (pc := 130) C lp_X8_76 fi_55_1 dX8_hill_130 (fun S_5 => ?_)
      refine g_aload_n (pc := 133) C dX8_hill_133 0 rfl rfl ?_
      refine g_getI (pc := 134) C lk_X8_116 fi_55_6 dX8_hill_134 ?_
      exact g_iret C M dX8_hill_137
    · refine g_aload_n (pc := 59) C dX8_hill_59 0 rfl rfl ?_
      refine g_getR (pc := 60) C lk_X8_16 fr_55_8 dX8_hill_60 ?_
      refine g_iload_n (pc := 63) C dX8_hill_63 1 rfl rfl ?_
      refine g_aload_n (pc := 64) C dX8_hill_64 0 rfl rfl ?_
      refine g_getR (pc := 65) C lk_X8_13 fr_55_5 dX8_hill_65 ?_
      refine g_iconst (pc := 68) C (v := 3) dX8_hill_68 (by decide) ?_
      refine g_iload_n (pc := 69) C dX8_hill_69 1 rfl rfl ?_
      refine g_imul (pc := 70) C dX8_hill_70 ?_
      refine g_iald (pc := 71) C ai_57 dX8_hill_71 ?_
      refine g_iast (pc := 72) C ai_58 dX8_hill_72 (fun S_6 => ?_)
      refine g_aload_n (pc := 73) C dX8_hill_73 0 rfl rfl ?_
      refine g_getR (pc := 74) C lk_X8_19 fr_55_9 dX8_hill_74 ?_
      refine g_iload_n (pc := 77) C dX8_hill_77 1 rfl rfl ?_
      refine g_aload_n (pc := 78) C dX8_hill_78 0 rfl rfl ?_
      refine g_getR (pc := 79) C lk_X8_13 fr_55_5 dX8_hill_79 ?_
      refine g_iconst (pc := 82) C (v := 3) dX8_hill_82 (by decide) ?_
      refine g_iload_n (pc := 83) C dX8_hill_83 1 rfl rfl ?_
      refine g_imul (pc := 84) C dX8_hill_84 ?_
      refine g_iconst (pc := 85) C (v := 1) dX8_hill_85 (by decide) ?_
      refine g_iadd (pc := 86) C dX8_hill_86 ?_
      refine g_iald (pc := 87) C ai_57 dX8_hill_87 ?_
      refine g_iast (pc := 88) C ai_59 dX8_hill_88 (fun S_7 => ?_)
      refine g_aload_n (pc := 89) C dX8_hill_89 0 rfl rfl ?_
      refine g_getR (pc := 90) C lk_X8_22 fr_55_10 dX8_hill_90 ?_
      refine g_iload_n (pc := 93) C dX8_hill_93 1 rfl rfl ?_
      refine g_aload_n (pc := 94) C dX8_hill_94 0 rfl rfl ?_
      refine g_getR (pc := 95) C lk_X8_13 fr_55_5 dX8_hill_95 ?_
      refine g_iconst (pc := 98) C (v := 3) dX8_hill_98 (by decide) ?_
      refine g_iload_n (pc := 99) C dX8_hill_99 1 rfl rfl ?_
      refine g_imul (pc := 100) C dX8_hill_100 ?_
      refine g_iconst (pc := 101) C (v := 2) dX8_hill_101 (by decide) ?_
      refine g_iadd (pc := 102) C dX8_hill_102 ?_
      refine g_iald (pc := 103) C ai_57 dX8_hill_103 ?_
      refine g_iast (pc := 104) C ai_60 dX8_hill_104 (fun S_8 => ?_)
      refine g_aload_n (pc := 105) C dX8_hill_105 0 rfl rfl ?_
      refine g_getR (pc := 106) C lk_X8_25 fr_55_11 dX8_hill_106 ?_
      refine g_iload_n (pc := 109) C dX8_hill_109 1 rfl rfl ?_
      refine g_iconst (pc := 110) C (v := 0) dX8_hill_110 (by decide) ?_
      refine g_iast (pc := 111) C ai_61 dX8_hill_111 (fun S_9 => ?_)
      refine g_iinc (pc := 112) C (v := 1) dX8_hill_112 1 rfl (by decide) (by decide) (fun x => [(1, .int x), (0, .ref (gX Γ 55))]) (fun _ => rfl) (fun x1_10 => ?_)
      refine g_goto (pc := 115) C 51 dX8_hill_115 (by decide) ?_
      exact g_sub [1, 0] rfl (ih x1_10 S_9)
set_option maxRecDepth 100000 in
set_option maxHeartbeats 4000000 in
theorem p_X8_hill_b28 {Γ : GA} {E : EV} (C : Cx Γ E RX8 cX8_hill 2 3 (some .int)) (M : Mx Γ E) (S : St) : G Γ E (QI Γ E) 2 28 [(0, .ref (gX Γ 55))] [] S (f_X8_hill_b28 S) := by
  rw [f_X8_hill_b28]
  refine g_aload_n (pc := 28) C dX8_hill_28 0 rfl rfl ?_
  refine g_getI (pc := 29) C lk_X8_79 fi_55_3 dX8_hill_29 ?_
  refine g_iconst (pc := 32) C (v := 1) dX8_hill_32 (by decide) ?_
  refine g_icmp_ge (pc := 33) C 39 dX8_hill_33 (by decide) ?_ ?_
  · refine g_aload_n (pc := 39) C dX8_hill_39 0 rfl rfl ?_
    refine g_aload_n (pc := 40) C dX8_hill_40 0 rfl rfl ?_
    refine g_getI (pc := 41) C lk_X8_79 fi_55_3 dX8_hill_41 ?_
    refine g_iconst (pc := 44) C (v := 1) dX8_hill_44 (by decide) ?_
    refine g_iadd (pc := 45) C dX8_hill_45 ?_
    refine g_putI (pc := 46) C lp_X8_116 fi_55_6 dX8_hill_46 (fun S_3 => ?_)
    refine g_iconst (pc := 49) C (v := 0) dX8_hill_49 (by decide) ?_
    refine g_istore_n0 (pc := 50) C dX8_hill_50 rfl (by decide) (lv' := [(1, .int 0), (0, .ref (gX Γ 55))]) rfl ?_
    exact g_sub [1, 0] rfl (p_X8_hill_l51 C M FU 0 S_3)
  · refine g_bipush (pc := 36) C (v := (-103)) dX8_hill_36 (by decide) ?_
    exact g_iret C M dX8_hill_38
set_option maxRecDepth 100000 in
set_option maxHeartbeats 4000000 in
theorem p_X8_hill {Γ : GA} {E : EV} (C : Cx Γ E RX8 cX8_hill 2 3 (some .int)) (M : Mx Γ E) (S : St) : G Γ E (QI Γ E) 2 0 [(0, .ref (gX Γ 55))] [] S (f_X8_hill S) := by
  rw [f_X8_hill]
  refine g_aload_n (pc := 0) C dX8_hill_0 0 rfl rfl ?_
  refine g_iconst (pc := 1) C (v := 0) dX8_hill_1 (by decide) ?_
  refine g_callVI (pc := 2) (As := [.int 0]) (st := []) C lv_X8_113 fo_55 rfl (ct_X8_faultOf 0 S) (by decide) rfl rfl (Nat.le_of_ble_eq_true rfl) dX8_hill_2 (fun r_2 S_1 => ?_)
  refine g_aload_n (pc := 5) C dX8_hill_5 0 rfl rfl ?_
  refine g_getI (pc := 6) C lk_X8_76 fi_55_1 dX8_hill_6 ?_
  refine g_icmp_lt (pc := 9) C 36 dX8_hill_9 (by decide) ?_ ?_
  · refine g_bipush (pc := 36) C (v := (-103)) dX8_hill_36 (by decide) ?_
    exact g_iret C M dX8_hill_38
  · refine g_aload_n (pc := 12) C dX8_hill_12 0 rfl rfl ?_
    refine g_getI (pc := 13) C lk_X8_82 fi_55_2 dX8_hill_13 ?_
    refine g_iconst (pc := 16) C (v := 1) dX8_hill_16 (by decide) ?_
    refine g_icmp_eq (pc := 17) C 28 dX8_hill_17 (by decide) ?_ ?_
    · exact g_sub [0] rfl (p_X8_hill_b28 C M S_1)
    · refine g_aload_n (pc := 20) C dX8_hill_20 0 rfl rfl ?_
      refine g_getI (pc := 21) C lk_X8_82 fi_55_2 dX8_hill_21 ?_
      refine g_iconst (pc := 24) C (v := 3) dX8_hill_24 (by decide) ?_
      refine g_icmp_ne (pc := 25) C 36 dX8_hill_25 (by decide) ?_ ?_
      · exact g_sub [0] rfl (p_X8_hill_b28 C M S_1)
      · refine g_bipush (pc := 36) C (v := (-103)) dX8_hill_36 (by decide) ?_
        exact g_iret C M dX8_hill_38
theorem ct_X8_hill {Γ : GA} (S : St) : CtI Γ yX8_hill cX8_hill 2 (some .int) 3 [.ref (gX Γ 55)] S (f_X8_hill S) :=
  ctI_of (by decide) (Nat.le_of_ble_eq_true rfl) (fun _ C M => p_X8_hill C M  S)
set_option maxRecDepth 100000 in
set_option maxHeartbeats 4000000 in
theorem p_X8_cart_l63 {Γ : GA} {E : EV} (C : Cx Γ E RX8 cX8_cart 2 3 (some .int)) (M : Mx Γ E) : ∀ (n : Nat) (x1 : Int32) (S : St), G Γ E (QI Γ E) 2 63 [(0, .ref (gX Γ 55)), (1, .int x1)] [] S (f_X8_cart_l63 n x1 S) := by
  intro n
  induction n with
  | zero => intro x1 S; exact g_none
  | succ n ih =>
    intro x1 S
    rw [f_X8_cart_l63]
    refine g_iload_n (pc := 63) C dX8_cart_63 1 rfl rfl ?_
    refine g_bipush (pc := 64) C (v := 10) dX8_cart_64 (by decide) ?_
    refine g_icmp_ge (pc := 66) C 95 dX8_cart_66 (by decide) ?_ ?_
    · refine g_aload_n (pc := 95) C dX8_cart_95 0 rfl rfl ?_
      refine g_dup (pc := 96) C dX8_cart_96 rfl ?_
      refine g_getI (pc := 97) C lk_X8_122 fi_55_12 dX8_cart_97 ?_
      refine g_iconst (pc := 100) C (v := 1) dX8_cart_100 (by decide) ?_
      refine g_iadd (pc := 101) C dX8_cart_101 ?_
      refine g_putI (pc := 102) C lp_X8_122 fi_55_12 dX8_cart_102 (fun S_5 => ?_)
      refine g_aload_n (pc := 105) C dX8_cart_105 0 rfl rfl ?_
      refine g_iconst (pc := 106) C (v := 0) dX8_cart_106 (by decide) ?_
      refine g_putI (pc := 107) C lp_X8_76 fi_55_1 dX8_cart_107 (fun S_6 => ?_)
      refine g_aload_n (pc := 110) C dX8_cart_110 0 rfl rfl ?_
      refine g_getI (pc := 111) C lk_X8_122 fi_55_12 dX8_cart_111 ?_
      refine g_iconst (pc := 114) C (v := 1) dX8_cart_114 (by decide) ?_
      refine g_isub (pc := 115) C dX8_cart_115 ?_
      exact g_iret C M dX8_cart_116
    · refine g_aload_n (pc := 69) C dX8_cart_69 0 rfl rfl ?_
      refine g_getR (pc := 70) C lk_X8_34 fr_55_15 dX8_cart_70 ?_
      refine g_bipush (pc := 73) C (v := 10) dX8_cart_73 (by decide) ?_
      refine g_aload_n (pc := 75) C dX8_cart_75 0 rfl rfl ?_
      refine g_getI (pc := 76) C lk_X8_122 fi_55_12 dX8_cart_76 ?_
      refine g_imul (pc := 79) C dX8_cart_79 ?_
      refine g_iload_n (pc := 80) C dX8_cart_80 1 rfl rfl ?_
      refine g_iadd (pc := 81) C dX8_cart_81 ?_
      refine g_aload_n (pc := 82) C dX8_cart_82 0 rfl rfl ?_
      refine g_getR (pc := 83) C lk_X8_13 fr_55_5 dX8_cart_83 ?_
      refine g_iload_n (pc := 86) C dX8_cart_86 1 rfl rfl ?_
      refine g_iald (pc := 87) C ai_57 dX8_cart_87 ?_
      refine g_iast (pc := 88) C ai_64 dX8_cart_88 (fun S_7 => ?_)
      refine g_iinc (pc := 89) C (v := 1) dX8_cart_89 1 rfl (by decide) (by decide) (fun x => [(1, .int x), (0, .ref (gX Γ 55))]) (fun _ => rfl) (fun x1_8 => ?_)
      refine g_goto (pc := 92) C 63 dX8_cart_92 (by decide) ?_
      exact g_sub [1, 0] rfl (ih x1_8 S_7)
set_option maxRecDepth 100000 in
set_option maxHeartbeats 4000000 in
theorem p_X8_cart {Γ : GA} {E : EV} (C : Cx Γ E RX8 cX8_cart 2 3 (some .int)) (M : Mx Γ E) (S : St) : G Γ E (QI Γ E) 2 0 [(0, .ref (gX Γ 55))] [] S (f_X8_cart S) := by
  rw [f_X8_cart]
  refine g_aload_n (pc := 0) C dX8_cart_0 0 rfl rfl ?_
  refine g_iconst (pc := 1) C (v := 1) dX8_cart_1 (by decide) ?_
  refine g_callVI (pc := 2) (As := [.int 1]) (st := []) C lv_X8_113 fo_55 rfl (ct_X8_faultOf 1 S) (by decide) rfl rfl (Nat.le_of_ble_eq_true rfl) dX8_cart_2 (fun r_2 S_1 => ?_)
  refine g_aload_n (pc := 5) C dX8_cart_5 0 rfl rfl ?_
  refine g_getI (pc := 6) C lk_X8_76 fi_55_1 dX8_cart_6 ?_
  refine g_icmp_lt (pc := 9) C 20 dX8_cart_9 (by decide) ?_ ?_
  · refine g_bipush (pc := 20) C (v := (-103)) dX8_cart_20 (by decide) ?_
    exact g_iret C M dX8_cart_22
  · refine g_aload_n (pc := 12) C dX8_cart_12 0 rfl rfl ?_
    refine g_getI (pc := 13) C lk_X8_82 fi_55_2 dX8_cart_13 ?_
    refine g_iconst (pc := 16) C (v := 3) dX8_cart_16 (by decide) ?_
    refine g_icmp_eq (pc := 17) C 23 dX8_cart_17 (by decide) ?_ ?_
    · refine g_aload_n (pc := 23) C dX8_cart_23 0 rfl rfl ?_
      refine g_getI (pc := 24) C lk_X8_122 fi_55_12 dX8_cart_24 ?_
      refine g_bipush (pc := 27) C (v := 8) dX8_cart_27 (by decide) ?_
      refine g_icmp_ne (pc := 29) C 35 dX8_cart_29 (by decide) ?_ ?_
      · refine g_bipush (pc := 32) C (v := (-104)) dX8_cart_32 (by decide) ?_
        exact g_iret C M dX8_cart_34
      · refine g_aload_n (pc := 35) C dX8_cart_35 0 rfl rfl ?_
        refine g_getR (pc := 36) C lk_X8_28 fr_55_13 dX8_cart_36 ?_
        refine g_aload_n (pc := 39) C dX8_cart_39 0 rfl rfl ?_
        refine g_getI (pc := 40) C lk_X8_122 fi_55_12 dX8_cart_40 ?_
        refine g_aload_n (pc := 43) C dX8_cart_43 0 rfl rfl ?_
        refine g_getI (pc := 44) C lk_X8_99 fi_55_4 dX8_cart_44 ?_
        refine g_iast (pc := 47) C ai_62 dX8_cart_47 (fun S_3 => ?_)
        refine g_aload_n (pc := 48) C dX8_cart_48 0 rfl rfl ?_
        refine g_getR (pc := 49) C lk_X8_31 fr_55_14 dX8_cart_49 ?_
        refine g_aload_n (pc := 52) C dX8_cart_52 0 rfl rfl ?_
        refine g_getI (pc := 53) C lk_X8_122 fi_55_12 dX8_cart_53 ?_
        refine g_aload_n (pc := 56) C dX8_cart_56 0 rfl rfl ?_
        refine g_getI (pc := 57) C lk_X8_79 fi_55_3 dX8_cart_57 ?_
        refine g_iast (pc := 60) C ai_63 dX8_cart_60 (fun S_4 => ?_)
        refine g_iconst (pc := 61) C (v := 0) dX8_cart_61 (by decide) ?_
        refine g_istore_n0 (pc := 62) C dX8_cart_62 rfl (by decide) (lv' := [(1, .int 0), (0, .ref (gX Γ 55))]) rfl ?_
        exact g_sub [1, 0] rfl (p_X8_cart_l63 C M FU 0 S_4)
    · refine g_bipush (pc := 20) C (v := (-103)) dX8_cart_20 (by decide) ?_
      exact g_iret C M dX8_cart_22
theorem ct_X8_cart {Γ : GA} (S : St) : CtI Γ yX8_cart cX8_cart 2 (some .int) 3 [.ref (gX Γ 55)] S (f_X8_cart S) :=
  ctI_of (by decide) (Nat.le_of_ble_eq_true rfl) (fun _ C M => p_X8_cart C M  S)
