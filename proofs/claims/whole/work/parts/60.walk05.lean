set_option maxRecDepth 100000 in
set_option maxHeartbeats 4000000 in
theorem p_X8_isCell {Γ : GA} {E : EV} (C : Cx Γ E RX8 cX8_isCell 2 1 (some .boolean)) (M : Mx Γ E) (x1 : Int32) (S : St) : G Γ E (QI Γ E) 2 0 [(0, .ref (gX Γ 55)), (1, .int x1)] [] S (f_X8_isCell x1 S) := by
  rw [f_X8_isCell]
  refine g_iload_n (pc := 0) C dX8_isCell_0 1 rfl rfl ?_
  refine g_i2l (pc := 1) C dX8_isCell_1 ?_
  refine g_lconst (pc := 2) C (v := 0) dX8_isCell_2 (by decide) ?_
  refine g_aload_n (pc := 3) C dX8_isCell_3 0 rfl rfl ?_
  refine g_getI (pc := 4) C lk_X8_116 fi_55_6 dX8_isCell_4 ?_
  refine g_iconst (pc := 7) C (v := 1) dX8_isCell_7 (by decide) ?_
  refine g_isub (pc := 8) C dX8_isCell_8 ?_
  refine g_i2l (pc := 9) C dX8_isCell_9 ?_
  refine g_callSI (pc := 10) (As := [.long ((x1 : Int32).toInt64), .long 0, .long ((((S 55 6) - 1) : Int32).toInt64)]) (st := []) C ls_X8_89 (ct_X8_in ((x1 : Int32).toInt64) 0 ((((S 55 6) - 1) : Int32).toInt64) S) (by decide) rfl rfl (Nat.le_of_ble_eq_true rfl) dX8_isCell_10 (fun r_2 S_1 => ?_)
  exact g_zret C M dX8_isCell_13
theorem ct_X8_isCell {Γ : GA} (x1 : Int32) (S : St) : CtI Γ yX8_isCell cX8_isCell 2 (some .boolean) 1 [.ref (gX Γ 55), .int x1] S (f_X8_isCell x1 S) :=
  ctI_of (by decide) (Nat.le_of_ble_eq_true rfl) (fun _ C M => p_X8_isCell C M x1 S)
set_option maxRecDepth 100000 in
set_option maxHeartbeats 4000000 in
theorem p_X8_cellOf {Γ : GA} {E : EV} (C : Cx Γ E RX8 cX8_cellOf 3 0 (some .int)) (M : Mx Γ E) (x1 : Int32) (x2 : Int32) (S : St) : G Γ E (QI Γ E) 3 0 [(0, .ref (gX Γ 55)), (1, .int x1), (2, .int x2)] [] S (f_X8_cellOf x1 x2 S) := by
  rw [f_X8_cellOf]
  refine g_iload_n (pc := 0) C dX8_cellOf_0 2 rfl rfl ?_
  refine g_tsw (res := none) (pc := 1) C 0 32 0 dX8_cellOf_1 (by show ¬ ((0 : Int) ≤ _ ∧ _ < (0 : Int)); omega) (by decide) rfl (by decide) ?_ (fun hs_1 => ?_)
  · refine g_aload_n (pc := 32) C dX8_cellOf_32 0 rfl rfl ?_
    refine g_getR (pc := 33) C lk_X8_16 fr_55_8 dX8_cellOf_33 ?_
    refine g_iload_n (pc := 36) C dX8_cellOf_36 1 rfl rfl ?_
    refine g_iald (pc := 37) C ai_58 dX8_cellOf_37 ?_
    exact g_iret C M dX8_cellOf_38
  refine g_tsw (res := none) (pc := 1) C 1 39 1 dX8_cellOf_1 hs_1 (by decide) rfl (by decide) ?_ (fun hs_2 => ?_)
  · refine g_aload_n (pc := 39) C dX8_cellOf_39 0 rfl rfl ?_
    refine g_getR (pc := 40) C lk_X8_19 fr_55_9 dX8_cellOf_40 ?_
    refine g_iload_n (pc := 43) C dX8_cellOf_43 1 rfl rfl ?_
    refine g_iald (pc := 44) C ai_59 dX8_cellOf_44 ?_
    exact g_iret C M dX8_cellOf_45
  refine g_tsw (res := none) (pc := 1) C 2 46 2 dX8_cellOf_1 hs_2 (by decide) rfl (by decide) ?_ (fun hs_3 => ?_)
  · refine g_aload_n (pc := 46) C dX8_cellOf_46 0 rfl rfl ?_
    refine g_getR (pc := 47) C lk_X8_22 fr_55_10 dX8_cellOf_47 ?_
    refine g_iload_n (pc := 50) C dX8_cellOf_50 1 rfl rfl ?_
    refine g_iald (pc := 51) C ai_60 dX8_cellOf_51 ?_
    exact g_iret C M dX8_cellOf_52
  refine g_tsw (res := none) (pc := 1) C 3 53 3 dX8_cellOf_1 hs_3 (by decide) rfl (by decide) ?_ (fun hs_4 => ?_)
  · refine g_aload_n (pc := 53) C dX8_cellOf_53 0 rfl rfl ?_
    refine g_getR (pc := 54) C lk_X8_25 fr_55_11 dX8_cellOf_54 ?_
    refine g_iload_n (pc := 57) C dX8_cellOf_57 1 rfl rfl ?_
    refine g_iald (pc := 58) C ai_61 dX8_cellOf_58 ?_
    exact g_iret C M dX8_cellOf_59
  refine g_tsd (pc := 1) C (k := 3) 60 dX8_cellOf_1 hs_4 rfl (by decide) ?_
  refine g_bipush (pc := 60) C (v := (-102)) dX8_cellOf_60 (by decide) ?_
  exact g_iret C M dX8_cellOf_62
theorem ct_X8_cellOf {Γ : GA} (x1 : Int32) (x2 : Int32) (S : St) : CtI Γ yX8_cellOf cX8_cellOf 3 (some .int) 0 [.ref (gX Γ 55), .int x1, .int x2] S (f_X8_cellOf x1 x2 S) :=
  ctI_of (by decide) (Nat.le_of_ble_eq_true rfl) (fun _ C M => p_X8_cellOf C M x1 x2 S)
set_option maxRecDepth 100000 in
set_option maxHeartbeats 4000000 in
theorem p_X8_cell {Γ : GA} {E : EV} (C : Cx Γ E RX8 cX8_cell 3 2 (some .int)) (M : Mx Γ E) (x1 : Int32) (x2 : Int32) (S : St) : G Γ E (QI Γ E) 3 0 [(0, .ref (gX Γ 55)), (1, .int x1), (2, .int x2)] [] S (f_X8_cell x1 x2 S) := by
  rw [f_X8_cell]
  refine g_aload_n (pc := 0) C dX8_cell_0 0 rfl rfl ?_
  refine g_iload_n (pc := 1) C dX8_cell_1 1 rfl rfl ?_
  refine g_callVI (pc := 2) (As := [.int x1]) (st := []) C lv_X8_125 fo_55 rfl (ct_X8_isCell x1 S) (by decide) rfl rfl (Nat.le_of_ble_eq_true rfl) dX8_cell_2 (fun r_2 S_1 => ?_)
  refine g_if_eq (pc := 5) C 17 dX8_cell_5 (by decide) ?_ ?_
  · refine g_bipush (pc := 17) C (v := (-101)) dX8_cell_17 (by decide) ?_
    exact g_iret C M dX8_cell_19
  · refine g_aload_n (pc := 8) C dX8_cell_8 0 rfl rfl ?_
    refine g_iload_n (pc := 9) C dX8_cell_9 1 rfl rfl ?_
    refine g_iload_n (pc := 10) C dX8_cell_10 2 rfl rfl ?_
    refine g_callVI (pc := 11) (As := [.int x1, .int x2]) (st := []) C lv_X8_128 fo_55 rfl (ct_X8_cellOf x1 x2 S_1) (by decide) rfl rfl (Nat.le_of_ble_eq_true rfl) dX8_cell_11 (fun r_4 S_3 => ?_)
    refine g_goto (pc := 14) C 19 dX8_cell_14 (by decide) ?_
    exact g_iret C M dX8_cell_19
theorem ct_X8_cell {Γ : GA} (x1 : Int32) (x2 : Int32) (S : St) : CtI Γ yX8_cell cX8_cell 3 (some .int) 2 [.ref (gX Γ 55), .int x1, .int x2] S (f_X8_cell x1 x2 S) :=
  ctI_of (by decide) (Nat.le_of_ble_eq_true rfl) (fun _ C M => p_X8_cell C M x1 x2 S)
set_option maxRecDepth 100000 in
set_option maxHeartbeats 4000000 in
theorem p_X8_isCart {Γ : GA} {E : EV} (C : Cx Γ E RX8 cX8_isCart 2 1 (some .boolean)) (M : Mx Γ E) (x1 : Int32) (S : St) : G Γ E (QI Γ E) 2 0 [(0, .ref (gX Γ 55)), (1, .int x1)] [] S (f_X8_isCart x1 S) := by
  rw [f_X8_isCart]
  refine g_iload_n (pc := 0) C dX8_isCart_0 1 rfl rfl ?_
  refine g_i2l (pc := 1) C dX8_isCart_1 ?_
  refine g_lconst (pc := 2) C (v := 0) dX8_isCart_2 (by decide) ?_
  refine g_aload_n (pc := 3) C dX8_isCart_3 0 rfl rfl ?_
  refine g_getI (pc := 4) C lk_X8_122 fi_55_12 dX8_isCart_4 ?_
  refine g_iconst (pc := 7) C (v := 1) dX8_isCart_7 (by decide) ?_
  refine g_isub (pc := 8) C dX8_isCart_8 ?_
  refine g_i2l (pc := 9) C dX8_isCart_9 ?_
  refine g_callSI (pc := 10) (As := [.long ((x1 : Int32).toInt64), .long 0, .long ((((S 55 12) - 1) : Int32).toInt64)]) (st := []) C ls_X8_89 (ct_X8_in ((x1 : Int32).toInt64) 0 ((((S 55 12) - 1) : Int32).toInt64) S) (by decide) rfl rfl (Nat.le_of_ble_eq_true rfl) dX8_isCart_10 (fun r_2 S_1 => ?_)
  exact g_zret C M dX8_isCart_13
theorem ct_X8_isCart {Γ : GA} (x1 : Int32) (S : St) : CtI Γ yX8_isCart cX8_isCart 2 (some .boolean) 1 [.ref (gX Γ 55), .int x1] S (f_X8_isCart x1 S) :=
  ctI_of (by decide) (Nat.le_of_ble_eq_true rfl) (fun _ C M => p_X8_isCart C M x1 S)
set_option maxRecDepth 100000 in
set_option maxHeartbeats 4000000 in
theorem p_X8_about {Γ : GA} {E : EV} (C : Cx Γ E RX8 cX8_about 3 2 (some .int)) (M : Mx Γ E) (x1 : Int32) (x2 : Int32) (S : St) : G Γ E (QI Γ E) 3 0 [(0, .ref (gX Γ 55)), (1, .int x1), (2, .int x2)] [] S (f_X8_about x1 x2 S) := by
  rw [f_X8_about]
  refine g_aload_n (pc := 0) C dX8_about_0 0 rfl rfl ?_
  refine g_iload_n (pc := 1) C dX8_about_1 1 rfl rfl ?_
  refine g_callVI (pc := 2) (As := [.int x1]) (st := []) C lv_X8_132 fo_55 rfl (ct_X8_isCart x1 S) (by decide) rfl rfl (Nat.le_of_ble_eq_true rfl) dX8_about_2 (fun r_2 S_1 => ?_)
  refine g_if_ne (pc := 5) C 11 dX8_about_5 (by decide) ?_ ?_
  · refine g_bipush (pc := 8) C (v := (-101)) dX8_about_8 (by decide) ?_
    exact g_iret C M dX8_about_10
  · refine g_iload_n (pc := 11) C dX8_about_11 2 rfl rfl ?_
    refine g_if_ne (pc := 12) C 24 dX8_about_12 (by decide) ?_ ?_
    · refine g_aload_n (pc := 15) C dX8_about_15 0 rfl rfl ?_
      refine g_getR (pc := 16) C lk_X8_28 fr_55_13 dX8_about_16 ?_
      refine g_iload_n (pc := 19) C dX8_about_19 1 rfl rfl ?_
      refine g_iald (pc := 20) C ai_62 dX8_about_20 ?_
      refine g_goto (pc := 21) C 40 dX8_about_21 (by decide) ?_
      exact g_iret C M dX8_about_40
    · refine g_iload_n (pc := 24) C dX8_about_24 2 rfl rfl ?_
      refine g_iconst (pc := 25) C (v := 1) dX8_about_25 (by decide) ?_
      refine g_icmp_ne (pc := 26) C 38 dX8_about_26 (by decide) ?_ ?_
      · refine g_aload_n (pc := 29) C dX8_about_29 0 rfl rfl ?_
        refine g_getR (pc := 30) C lk_X8_31 fr_55_14 dX8_about_30 ?_
        refine g_iload_n (pc := 33) C dX8_about_33 1 rfl rfl ?_
        refine g_iald (pc := 34) C ai_63 dX8_about_34 ?_
        refine g_goto (pc := 35) C 40 dX8_about_35 (by decide) ?_
        exact g_iret C M dX8_about_40
      · refine g_bipush (pc := 38) C (v := (-102)) dX8_about_38 (by decide) ?_
        exact g_iret C M dX8_about_40
theorem ct_X8_about {Γ : GA} (x1 : Int32) (x2 : Int32) (S : St) : CtI Γ yX8_about cX8_about 3 (some .int) 2 [.ref (gX Γ 55), .int x1, .int x2] S (f_X8_about x1 x2 S) :=
  ctI_of (by decide) (Nat.le_of_ble_eq_true rfl) (fun _ C M => p_X8_about C M x1 x2 S)
set_option maxRecDepth 100000 in
set_option maxHeartbeats 4000000 in
theorem p_X8_isLoss {Γ : GA} {E : EV} (C : Cx Γ E RX8 cX8_isLoss 3 2 (some .boolean)) (M : Mx Γ E) (x1 : Int32) (x2 : Int32) (S : St) : G Γ E (QI Γ E) 3 0 [(0, .ref (gX Γ 55)), (1, .int x1), (2, .int x2)] [] S (f_X8_isLoss x1 x2 S) := by
  rw [f_X8_isLoss]
  refine g_aload_n (pc := 0) C dX8_isLoss_0 0 rfl rfl ?_
  refine g_iload_n (pc := 1) C dX8_isLoss_1 1 rfl rfl ?_
  refine g_callVI (pc := 2) (As := [.int x1]) (st := []) C lv_X8_132 fo_55 rfl (ct_X8_isCart x1 S) (by decide) rfl rfl (Nat.le_of_ble_eq_true rfl) dX8_isLoss_2 (fun r_2 S_1 => ?_)
  refine g_if_eq (pc := 5) C 30 dX8_isLoss_5 (by decide) ?_ ?_
  · refine g_iconst (pc := 30) C (v := 0) dX8_isLoss_30 (by decide) ?_
    exact g_zret1 C M rfl dX8_isLoss_31
  · refine g_iload_n (pc := 8) C dX8_isLoss_8 2 rfl rfl ?_
    refine g_i2l (pc := 9) C dX8_isLoss_9 ?_
    refine g_lconst (pc := 10) C (v := 0) dX8_isLoss_10 (by decide) ?_
    refine g_aload_n (pc := 11) C dX8_isLoss_11 0 rfl rfl ?_
    refine g_getR (pc := 12) C lk_X8_31 fr_55_14 dX8_isLoss_12 ?_
    refine g_iload_n (pc := 15) C dX8_isLoss_15 1 rfl rfl ?_
    refine g_iald (pc := 16) C ai_63 dX8_isLoss_16 ?_
    refine g_iconst (pc := 17) C (v := 1) dX8_isLoss_17 (by decide) ?_
    refine g_isub (pc := 18) C dX8_isLoss_18 ?_
    refine g_i2l (pc := 19) C dX8_isLoss_19 ?_
    refine g_callSI (pc := 20) (As := [.long ((x2 : Int32).toInt64), .long 0, .long ((((S_1 63 (x1 : Int32).toNatClampNeg) - 1) : Int32).toInt64)]) (st := []) C ls_X8_89 (ct_X8_in ((x2 : Int32).toInt64) 0 ((((S_1 63 (x1 : Int32).toNatClampNeg) - 1) : Int32).toInt64) S_1) (by decide) rfl rfl (Nat.le_of_ble_eq_true rfl) dX8_isLoss_20 (fun r_4 S_3 => ?_)
    refine g_if_eq (pc := 23) C 30 dX8_isLoss_23 (by decide) ?_ ?_
    · refine g_iconst (pc := 30) C (v := 0) dX8_isLoss_30 (by decide) ?_
      exact g_zret1 C M rfl dX8_isLoss_31
    · refine g_iconst (pc := 26) C (v := 1) dX8_isLoss_26 (by decide) ?_
      refine g_goto (pc := 27) C 31 dX8_isLoss_27 (by decide) ?_
      exact g_zret1 C M rfl dX8_isLoss_31
theorem ct_X8_isLoss {Γ : GA} (x1 : Int32) (x2 : Int32) (S : St) : CtI Γ yX8_isLoss cX8_isLoss 3 (some .boolean) 2 [.ref (gX Γ 55), .int x1, .int x2] S (f_X8_isLoss x1 x2 S) :=
  ctI_of (by decide) (Nat.le_of_ble_eq_true rfl) (fun _ C M => p_X8_isLoss C M x1 x2 S)
set_option maxRecDepth 100000 in
set_option maxHeartbeats 4000000 in
theorem p_X8_loss {Γ : GA} {E : EV} (C : Cx Γ E RX8 cX8_loss 4 3 (some .int)) (M : Mx Γ E) (x1 : Int32) (x2 : Int32) (x3 : Int32) (S : St) : G Γ E (QI Γ E) 4 0 [(0, .ref (gX Γ 55)), (1, .int x1), (2, .int x2), (3, .int x3)] [] S (f_X8_loss x1 x2 x3 S) := by
  rw [f_X8_loss]
  refine g_aload_n (pc := 0) C dX8_loss_0 0 rfl rfl ?_
  refine g_iload_n (pc := 1) C dX8_loss_1 1 rfl rfl ?_
  refine g_iload_n (pc := 2) C dX8_loss_2 2 rfl rfl ?_
  refine g_callVI (pc := 3) (As := [.int x1, .int x2]) (st := []) C lv_X8_135 fo_55 rfl (ct_X8_isLoss x1 x2 S) (by decide) rfl rfl (Nat.le_of_ble_eq_true rfl) dX8_loss_3 (fun r_2 S_1 => ?_)
  refine g_if_ne (pc := 6) C 12 dX8_loss_6 (by decide) ?_ ?_
  · refine g_bipush (pc := 9) C (v := (-101)) dX8_loss_9 (by decide) ?_
    exact g_iret C M dX8_loss_11
  · refine g_iload_n (pc := 12) C dX8_loss_12 3 rfl rfl ?_
    refine g_i2l (pc := 13) C dX8_loss_13 ?_
    refine g_lconst (pc := 14) C (v := 0) dX8_loss_14 (by decide) ?_
    refine g_lconst (pc := 15) C (v := 1) dX8_loss_15 (by decide) ?_
    refine g_callSI (pc := 16) (As := [.long ((x3 : Int32).toInt64), .long 0, .long 1]) (st := []) C ls_X8_89 (ct_X8_in ((x3 : Int32).toInt64) 0 1 S_1) (by decide) rfl rfl (Nat.le_of_ble_eq_true rfl) dX8_loss_16 (fun r_4 S_3 => ?_)
    refine g_if_eq (pc := 19) C 40 dX8_loss_19 (by decide) ?_ ?_
    · refine g_bipush (pc := 40) C (v := (-102)) dX8_loss_40 (by decide) ?_
      exact g_iret C M dX8_loss_42
    · refine g_aload_n (pc := 22) C dX8_loss_22 0 rfl rfl ?_
      refine g_getR (pc := 23) C lk_X8_34 fr_55_15 dX8_loss_23 ?_
      refine g_bipush (pc := 26) C (v := 10) dX8_loss_26 (by decide) ?_
      refine g_iload_n (pc := 28) C dX8_loss_28 1 rfl rfl ?_
      refine g_imul (pc := 29) C dX8_loss_29 ?_
      refine g_iconst (pc := 30) C (v := 2) dX8_loss_30 (by decide) ?_
      refine g_iload_n (pc := 31) C dX8_loss_31 2 rfl rfl ?_
      refine g_imul (pc := 32) C dX8_loss_32 ?_
      refine g_iadd (pc := 33) C dX8_loss_33 ?_
      refine g_iload_n (pc := 34) C dX8_loss_34 3 rfl rfl ?_
      refine g_iadd (pc := 35) C dX8_loss_35 ?_
      refine g_iald (pc := 36) C ai_64 dX8_loss_36 ?_
      refine g_goto (pc := 37) C 42 dX8_loss_37 (by decide) ?_
      exact g_iret C M dX8_loss_42
theorem ct_X8_loss {Γ : GA} (x1 : Int32) (x2 : Int32) (x3 : Int32) (S : St) : CtI Γ yX8_loss cX8_loss 4 (some .int) 3 [.ref (gX Γ 55), .int x1, .int x2, .int x3] S (f_X8_loss x1 x2 x3 S) :=
  ctI_of (by decide) (Nat.le_of_ble_eq_true rfl) (fun _ C M => p_X8_loss C M x1 x2 x3 S)
set_option maxRecDepth 100000 in
set_option maxHeartbeats 4000000 in
theorem p_X8_as_b68 {Γ : GA} {E : EV} (C : Cx Γ E RX8 cX8_as 6 3 (some .int)) (M : Mx Γ E) (x2 : Int32) (s0 : Int32) (S : St) : G Γ E (QI Γ E) 6 68 [(2, .int x2)] [.int s0] S (f_X8_as_b68 x2 s0 S) := by
  rw [f_X8_as_b68]
  refine g_istore0 (pc := 68) C dX8_as_68 (by decide) (lv' := [(5, .int s0), (2, .int x2)]) rfl ?_
  refine g_iload (pc := 70) C dX8_as_70 0 rfl ?_
  refine g_if_eq (pc := 72) C 79 dX8_as_72 (by decide) ?_ ?_
  · refine g_iconst (pc := 79) C (v := (-1)) dX8_as_79 (by decide) ?_
    exact g_iret C M dX8_as_80
  · refine g_iload_n (pc := 75) C dX8_as_75 1 rfl rfl ?_
    refine g_goto (pc := 76) C 80 dX8_as_76 (by decide) ?_
    exact g_iret C M dX8_as_80
set_option maxRecDepth 100000 in
set_option maxHeartbeats 4000000 in
theorem p_X8_as_b63 {Γ : GA} {E : EV} (C : Cx Γ E RX8 cX8_as 6 3 (some .int)) (M : Mx Γ E) (x2 : Int32) (S : St) : G Γ E (QI Γ E) 6 63 [(2, .int x2)] [] S (f_X8_as_b63 x2 S) := by
  rw [f_X8_as_b63]
  refine g_iconst (pc := 63) C (v := 1) dX8_as_63 (by decide) ?_
  refine g_goto (pc := 64) C 68 dX8_as_64 (by decide) ?_
  exact g_sub [0] rfl (p_X8_as_b68 C M x2 1 S)
set_option maxRecDepth 100000 in
set_option maxHeartbeats 4000000 in
theorem p_X8_as_b67 {Γ : GA} {E : EV} (C : Cx Γ E RX8 cX8_as 6 3 (some .int)) (M : Mx Γ E) (x2 : Int32) (S : St) : G Γ E (QI Γ E) 6 67 [(2, .int x2)] [] S (f_X8_as_b67 x2 S) := by
  rw [f_X8_as_b67]
  refine g_iconst (pc := 67) C (v := 0) dX8_as_67 (by decide) ?_
  exact g_sub [0] rfl (p_X8_as_b68 C M x2 0 S)
set_option maxRecDepth 100000 in
set_option maxHeartbeats 4000000 in
theorem p_X8_as {Γ : GA} {E : EV} (C : Cx Γ E RX8 cX8_as 6 3 (some .int)) (M : Mx Γ E) (x1 : Int32) (x2 : Int32) (x3 : Int32) (S : St) : G Γ E (QI Γ E) 6 0 [(0, .ref (gX Γ 55)), (1, .int x1), (2, .int x2), (3, .int x3)] [] S (f_X8_as x1 x2 x3 S) := by
  rw [f_X8_as]
  refine g_aload_n (pc := 0) C dX8_as_0 0 rfl rfl ?_
  refine g_iload_n (pc := 1) C dX8_as_1 1 rfl rfl ?_
  refine g_iload_n (pc := 2) C dX8_as_2 2 rfl rfl ?_
  refine g_callVI (pc := 3) (As := [.int x1, .int x2]) (st := []) C lv_X8_135 fo_55 rfl (ct_X8_isLoss x1 x2 S) (by decide) rfl rfl (Nat.le_of_ble_eq_true rfl) dX8_as_3 (fun r_2 S_1 => ?_)
  refine g_if_ne (pc := 6) C 12 dX8_as_6 (by decide) ?_ ?_
  · refine g_bipush (pc := 9) C (v := (-101)) dX8_as_9 (by decide) ?_
    exact g_iret C M dX8_as_11
  · refine g_iload_n (pc := 12) C dX8_as_12 3 rfl rfl ?_
    refine g_i2l (pc := 13) C dX8_as_13 ?_
    refine g_lconst (pc := 14) C (v := 0) dX8_as_14 (by decide) ?_
    refine g_ldc2 (pc := 15) C kc_X8_138 dX8_as_15 ?_
    refine g_callSI (pc := 18) (As := [.long ((x3 : Int32).toInt64), .long 0, .long 5]) (st := []) C ls_X8_89 (ct_X8_in ((x3 : Int32).toInt64) 0 5 S_1) (by decide) rfl rfl (Nat.le_of_ble_eq_true rfl) dX8_as_18 (fun r_4 S_3 => ?_)
    refine g_if_ne (pc := 21) C 27 dX8_as_21 (by decide) ?_ ?_
    · refine g_bipush (pc := 24) C (v := (-102)) dX8_as_24 (by decide) ?_
      exact g_iret C M dX8_as_26
    · refine g_aload_n (pc := 27) C dX8_as_27 0 rfl rfl ?_
      refine g_getR (pc := 28) C lk_X8_34 fr_55_15 dX8_as_28 ?_
      refine g_bipush (pc := 31) C (v := 10) dX8_as_31 (by decide) ?_
      refine g_iload_n (pc := 33) C dX8_as_33 1 rfl rfl ?_
      refine g_imul (pc := 34) C dX8_as_34 ?_
      refine g_iconst (pc := 35) C (v := 2) dX8_as_35 (by decide) ?_
      refine g_iload_n (pc := 36) C dX8_as_36 2 rfl rfl ?_
      refine g_imul (pc := 37) C dX8_as_37 ?_
      refine g_iadd (pc := 38) C dX8_as_38 ?_
      refine g_iald (pc := 39) C ai_64 dX8_as_39 ?_
      refine g_istore (pc := 40) C dX8_as_40 (by decide) (fun x => [(4, .int x), (0, .ref (gX Γ 55)), (1, .int x1), (2, .int x2), (3, .int x3)]) (fun _ => rfl) (fun x4_5 => ?_)
      refine g_iload_n (pc := 42) C dX8_as_42 4 rfl rfl ?_
      refine g_if_eq (pc := 43) C 63 dX8_as_43 (by decide) ?_ ?_
      · exact g_sub [3] rfl (p_X8_as_b63 C M x2 S_3)
      · refine g_iload_n (pc := 46) C dX8_as_46 4 rfl rfl ?_
        refine g_iload (pc := 47) C dX8_as_47 0 rfl ?_
        refine g_icmp_eq (pc := 49) C 63 dX8_as_49 (by decide) ?_ ?_
        · exact g_sub [3] rfl (p_X8_as_b63 C M x2 S_3)
        · refine g_iload_n (pc := 52) C dX8_as_52 4 rfl rfl ?_
          refine g_iconst (pc := 53) C (v := 1) dX8_as_53 (by decide) ?_
          refine g_icmp_ne (pc := 54) C 67 dX8_as_54 (by decide) ?_ ?_
          · refine g_iload (pc := 57) C dX8_as_57 0 rfl ?_
            refine g_iconst (pc := 59) C (v := 2) dX8_as_59 (by decide) ?_
            refine g_icmp_ne (pc := 60) C 67 dX8_as_60 (by decide) ?_ ?_
            · exact g_sub [3] rfl (p_X8_as_b63 C M x2 S_3)
            · exact g_sub [3] rfl (p_X8_as_b67 C M x2 S_3)
          · exact g_sub [3] rfl (p_X8_as_b67 C M x2 S_3)
theorem ct_X8_as {Γ : GA} (x1 : Int32) (x2 : Int32) (x3 : Int32) (S : St) : CtI Γ yX8_as cX8_as 6 (some .int) 3 [.ref (gX Γ 55), .int x1, .int x2, .int x3] S (f_X8_as x1 x2 x3 S) :=
  ctI_of (by decide) (Nat.le_of_ble_eq_true rfl) (fun _ C M => p_X8_as C M x1 x2 x3 S)
set_option maxRecDepth 100000 in
set_option maxHeartbeats 4000000 in
theorem p_X8_weigh {Γ : GA} {E : EV} (C : Cx Γ E RX8 cX8_weigh 4 2 (some .int)) (M : Mx Γ E) (x1 : Int32) (x2 : Int32) (S : St) : G Γ E (QI Γ E) 4 0 [(0, .ref (gX Γ 55)), (1, .int x1), (2, .int x2)] [] S (f_X8_weigh x1 x2 S) := by
  rw [f_X8_weigh]
  refine g_aload_n (pc := 0) C dX8_weigh_0 0 rfl rfl ?_
  refine g_iload_n (pc := 1) C dX8_weigh_1 1 rfl rfl ?_
  refine g_callVI (pc := 2) (As := [.int x1]) (st := []) C lv_X8_132 fo_55 rfl (ct_X8_isCart x1 S) (by decide) rfl rfl (Nat.le_of_ble_eq_true rfl) dX8_weigh_2 (fun r_2 S_1 => ?_)
  refine g_if_ne (pc := 5) C 11 dX8_weigh_5 (by decide) ?_ ?_
  · refine g_bipush (pc := 8) C (v := (-101)) dX8_weigh_8 (by decide) ?_
    exact g_iret C M dX8_weigh_10
  · refine g_iload_n (pc := 11) C dX8_weigh_11 2 rfl rfl ?_
    refine g_i2l (pc := 12) C dX8_weigh_12 ?_
    refine g_ldc2 (pc := 13) C kc_X8_140 dX8_weigh_13 ?_
    refine g_ldc2 (pc := 16) C kc_X8_142 dX8_weigh_16 ?_
    refine g_callSI (pc := 19) (As := [.long ((x2 : Int32).toInt64), .long 10, .long 99]) (st := []) C ls_X8_89 (ct_X8_in ((x2 : Int32).toInt64) 10 99 S_1) (by decide) rfl rfl (Nat.le_of_ble_eq_true rfl) dX8_weigh_19 (fun r_4 S_3 => ?_)
    refine g_if_ne (pc := 22) C 28 dX8_weigh_22 (by decide) ?_ ?_
    · refine g_bipush (pc := 25) C (v := (-102)) dX8_weigh_25 (by decide) ?_
      exact g_iret C M dX8_weigh_27
    · refine g_aload_n (pc := 28) C dX8_weigh_28 0 rfl rfl ?_
      refine g_getR (pc := 29) C lk_X8_28 fr_55_13 dX8_weigh_29 ?_
      refine g_iload_n (pc := 32) C dX8_weigh_32 1 rfl rfl ?_
      refine g_iald (pc := 33) C ai_62 dX8_weigh_33 ?_
      refine g_istore_n (pc := 34) C dX8_weigh_34 rfl (by decide) (fun x => [(3, .int x), (0, .ref (gX Γ 55)), (1, .int x1), (2, .int x2)]) (fun _ => rfl) (fun x3_5 => ?_)
      refine g_aload_n (pc := 35) C dX8_weigh_35 1 rfl rfl ?_
      refine g_getR (pc := 36) C lk_X8_28 fr_55_13 dX8_weigh_36 ?_
      refine g_iload_n (pc := 39) C dX8_weigh_39 2 rfl rfl ?_
      refine g_iload_n (pc := 40) C dX8_weigh_40 3 rfl rfl ?_
      refine g_iast (pc := 41) C ai_62 dX8_weigh_41 (fun S_6 => ?_)
      refine g_iload_n (pc := 42) C dX8_weigh_42 0 rfl rfl ?_
      exact g_iret C M dX8_weigh_43
theorem ct_X8_weigh {Γ : GA} (x1 : Int32) (x2 : Int32) (S : St) : CtI Γ yX8_weigh cX8_weigh 4 (some .int) 2 [.ref (gX Γ 55), .int x1, .int x2] S (f_X8_weigh x1 x2 S) :=
  ctI_of (by decide) (Nat.le_of_ble_eq_true rfl) (fun _ C M => p_X8_weigh C M x1 x2 S)
set_option maxRecDepth 100000 in
set_option maxHeartbeats 4000000 in
theorem p_X8_grip {Γ : GA} {E : EV} (C : Cx Γ E RX8 cX8_grip 3 1 (some .int)) (M : Mx Γ E) (x1 : Int32) (S : St) : G Γ E (QI Γ E) 3 0 [(0, .ref (gX Γ 55)), (1, .int x1)] [] S (f_X8_grip x1 S) := by
  rw [f_X8_grip]
  refine g_iload_n (pc := 0) C dX8_grip_0 1 rfl rfl ?_
  refine g_i2l (pc := 1) C dX8_grip_1 ?_
  refine g_lconst (pc := 2) C (v := 1) dX8_grip_2 (by decide) ?_
  refine g_ldc2 (pc := 3) C kc_X8_142 dX8_grip_3 ?_
  refine g_callSI (pc := 6) (As := [.long ((x1 : Int32).toInt64), .long 1, .long 99]) (st := []) C ls_X8_89 (ct_X8_in ((x1 : Int32).toInt64) 1 99 S) (by decide) rfl rfl (Nat.le_of_ble_eq_true rfl) dX8_grip_6 (fun r_2 S_1 => ?_)
  refine g_if_ne (pc := 9) C 15 dX8_grip_9 (by decide) ?_ ?_
  · refine g_bipush (pc := 12) C (v := (-102)) dX8_grip_12 (by decide) ?_
    exact g_iret C M dX8_grip_14
  · refine g_aload_n (pc := 15) C dX8_grip_15 0 rfl rfl ?_
    refine g_getI (pc := 16) C lk_X8_67 fi_55_16 dX8_grip_16 ?_
    refine g_istore_n (pc := 19) C dX8_grip_19 rfl (by decide) (fun x => [(2, .int x), (0, .ref (gX Γ 55)), (1, .int x1)]) (fun _ => rfl) (fun x2_3 => ?_)
    refine g_aload_n (pc := 20) C dX8_grip_20 1 rfl rfl ?_
    refine g_iload_n (pc := 21) C dX8_grip_21 2 rfl rfl ?_
    refine g_putI (pc := 22) C lp_X8_67 fi_55_16 dX8_grip_22 (fun S_4 => ?_)
    refine g_iload_n (pc := 25) C dX8_grip_25 0 rfl rfl ?_
    exact g_iret C M dX8_grip_26
theorem ct_X8_grip {Γ : GA} (x1 : Int32) (S : St) : CtI Γ yX8_grip cX8_grip 3 (some .int) 1 [.ref (gX Γ 55), .int x1] S (f_X8_grip x1 S) :=
  ctI_of (by decide) (Nat.le_of_ble_eq_true rfl) (fun _ C M => p_X8_grip C M x1 S)
set_option maxRecDepth 100000 in
set_option maxHeartbeats 4000000 in
theorem p_X8_brake {Γ : GA} {E : EV} (C : Cx Γ E RX8 cX8_brake 4 2 (some .int)) (M : Mx Γ E) (x1 : Int32) (x2 : Int32) (S : St) : G Γ E (QI Γ E) 4 0 [(0, .ref (gX Γ 55)), (1, .int x1), (2, .int x2)] [] S (f_X8_brake x1 x2 S) := by
  rw [f_X8_brake]
  refine g_aload_n (pc := 0) C dX8_brake_0 0 rfl rfl ?_
  refine g_iload_n (pc := 1) C dX8_brake_1 1 rfl rfl ?_
  refine g_callVI (pc := 2) (As := [.int x1]) (st := []) C lv_X8_125 fo_55 rfl (ct_X8_isCell x1 S) (by decide) rfl rfl (Nat.le_of_ble_eq_true rfl) dX8_brake_2 (fun r_2 S_1 => ?_)
  refine g_if_ne (pc := 5) C 11 dX8_brake_5 (by decide) ?_ ?_
  · refine g_bipush (pc := 8) C (v := (-101)) dX8_brake_8 (by decide) ?_
    exact g_iret C M dX8_brake_10
  · refine g_iload_n (pc := 11) C dX8_brake_11 2 rfl rfl ?_
    refine g_i2l (pc := 12) C dX8_brake_12 ?_
    refine g_lconst (pc := 13) C (v := 0) dX8_brake_13 (by decide) ?_
    refine g_ldc2 (pc := 14) C kc_X8_144 dX8_brake_14 ?_
    refine g_callSI (pc := 17) (As := [.long ((x2 : Int32).toInt64), .long 0, .long 9]) (st := []) C ls_X8_89 (ct_X8_in ((x2 : Int32).toInt64) 0 9 S_1) (by decide) rfl rfl (Nat.le_of_ble_eq_true rfl) dX8_brake_17 (fun r_4 S_3 => ?_)
    refine g_if_ne (pc := 20) C 26 dX8_brake_20 (by decide) ?_ ?_
    · refine g_bipush (pc := 23) C (v := (-102)) dX8_brake_23 (by decide) ?_
      exact g_iret C M dX8_brake_25
    · refine g_aload_n (pc := 26) C dX8_brake_26 0 rfl rfl ?_
      refine g_getR (pc := 27) C lk_X8_25 fr_55_11 dX8_brake_27 ?_
      refine g_iload_n (pc := 30) C dX8_brake_30 1 rfl rfl ?_
      refine g_iald (pc := 31) C ai_61 dX8_brake_31 ?_
      refine g_istore_n (pc := 32) C dX8_brake_32 rfl (by decide) (fun x => [(3, .int x), (0, .ref (gX Γ 55)), (1, .int x1), (2, .int x2)]) (fun _ => rfl) (fun x3_5 => ?_)
      refine g_aload_n (pc := 33) C dX8_brake_33 1 rfl rfl ?_
      refine g_getR (pc := 34) C lk_X8_25 fr_55_11 dX8_brake_34 ?_
      refine g_iload_n (pc := 37) C dX8_brake_37 2 rfl rfl ?_
      refine g_iload_n (pc := 38) C dX8_brake_38 3 rfl rfl ?_
      refine g_iast (pc := 39) C ai_61 dX8_brake_39 (fun S_6 => ?_)
      refine g_iload_n (pc := 40) C dX8_brake_40 0 rfl rfl ?_
      exact g_iret C M dX8_brake_41
theorem ct_X8_brake {Γ : GA} (x1 : Int32) (x2 : Int32) (S : St) : CtI Γ yX8_brake cX8_brake 4 (some .int) 2 [.ref (gX Γ 55), .int x1, .int x2] S (f_X8_brake x1 x2 S) :=
  ctI_of (by decide) (Nat.le_of_ble_eq_true rfl) (fun _ C M => p_X8_brake C M x1 x2 S)
set_option maxRecDepth 100000 in
set_option maxHeartbeats 4000000 in
theorem p_X8_lacks {Γ : GA} {E : EV} (C : Cx Γ E RX8 cX8_lacks 1 0 (some .boolean)) (M : Mx Γ E) (S : St) : G Γ E (QI Γ E) 1 0 [(0, .ref (gX Γ 55))] [] S (f_X8_lacks S) := by
  rw [f_X8_lacks]
  refine g_aload_n (pc := 0) C dX8_lacks_0 0 rfl rfl ?_
  refine g_getI (pc := 1) C lk_X8_116 fi_55_6 dX8_lacks_1 ?_
  refine g_if_ne (pc := 4) C 11 dX8_lacks_4 (by decide) ?_ ?_
  · refine g_iconst (pc := 7) C (v := 1) dX8_lacks_7 (by decide) ?_
    refine g_goto (pc := 8) C 12 dX8_lacks_8 (by decide) ?_
    exact g_zret1 C M rfl dX8_lacks_12
  · refine g_iconst (pc := 11) C (v := 0) dX8_lacks_11 (by decide) ?_
    exact g_zret1 C M rfl dX8_lacks_12
theorem ct_X8_lacks {Γ : GA} (S : St) : CtI Γ yX8_lacks cX8_lacks 1 (some .boolean) 0 [.ref (gX Γ 55)] S (f_X8_lacks S) :=
  ctI_of (by decide) (Nat.le_of_ble_eq_true rfl) (fun _ C M => p_X8_lacks C M  S)
set_option maxRecDepth 100000 in
set_option maxHeartbeats 4000000 in
theorem p_X8_isSwing {Γ : GA} {E : EV} (C : Cx Γ E RX8 cX8_isSwing 1 1 (some .boolean)) (M : Mx Γ E) (x0 : Int32) (S : St) : G Γ E (QI Γ E) 1 0 [(0, .int x0)] [] S (f_X8_isSwing x0 S) := by
  rw [f_X8_isSwing]
  refine g_iload_n (pc := 0) C dX8_isSwing_0 0 rfl rfl ?_
  refine g_i2l (pc := 1) C dX8_isSwing_1 ?_
  refine g_lconst (pc := 2) C (v := 0) dX8_isSwing_2 (by decide) ?_
  refine g_ldc2 (pc := 3) C kc_X8_180 dX8_isSwing_3 ?_
  refine g_callSI (pc := 6) (As := [.long ((x0 : Int32).toInt64), .long 0, .long 9999]) (st := []) C ls_X8_89 (ct_X8_in ((x0 : Int32).toInt64) 0 9999 S) (by decide) rfl rfl (Nat.le_of_ble_eq_true rfl) dX8_isSwing_6 (fun r_2 S_1 => ?_)
  exact g_zret C M dX8_isSwing_9
theorem ct_X8_isSwing {Γ : GA} (x0 : Int32) (S : St) : CtI Γ yX8_isSwing cX8_isSwing 1 (some .boolean) 1 [.int x0] S (f_X8_isSwing x0 S) :=
  ctI_of (by decide) (Nat.le_of_ble_eq_true rfl) (fun _ C M => p_X8_isSwing C M x0 S)
set_option maxRecDepth 100000 in
set_option maxHeartbeats 4000000 in
theorem p_X8_take_l78 {Γ : GA} {E : EV} (C : Cx Γ E RX8 cX8_take 3 0 none) (M : Mx Γ E) : ∀ (n : Nat) (x2 : Int32) (S : St), G Γ E (QV Γ E) 3 78 [(0, .ref (gX Γ 55)), (2, .int x2)] [] S (f_X8_take_l78 n x2 S) := by
  intro n
  induction n with
  | zero => intro x2 S; exact g_none
  | succ n ih =>
    intro x2 S
    rw [f_X8_take_l78]
    refine g_iload_n (pc := 78) C dX8_take_78 1 rfl rfl ?_
    refine g_bipush (pc := 79) C (v := 12) dX8_take_79 (by decide) ?_
    refine g_icmp_ge (pc := 81) C 102 dX8_take_81 (by decide) ?_ ?_
    · exact g_vret C M dX8_take_102
    · refine g_aload_n (pc := 84) C dX8_take_84 0 rfl rfl ?_
      refine g_getR (pc := 85) C lk_X8_43 fr_55_21 dX8_take_85 ?_
      refine g_iload_n (pc := 88) C dX8_take_88 1 rfl rfl ?_
      refine g_aload_n (pc := 89) C dX8_take_89 0 rfl rfl ?_
      refine g_getR (pc := 90) C lk_X8_25 fr_55_11 dX8_take_90 ?_
      refine g_iload_n (pc := 93) C dX8_take_93 1 rfl rfl ?_
      refine g_iald (pc := 94) C ai_61 dX8_take_94 ?_
      refine g_iast (pc := 95) C ai_67 dX8_take_95 (fun S_3 => ?_)
      refine g_iinc (pc := 96) C (v := 1) dX8_take_96 1 rfl (by decide) (by decide) (fun x => [(2, .int x), (0, .ref (gX Γ 55))]) (fun _ => rfl) (fun x2_4 => ?_)
      refine g_goto (pc := 99) C 78 dX8_take_99 (by decide) ?_
      exact g_sub [1, 0] rfl (ih x2_4 S_3)
set_option maxRecDepth 100000 in
set_option maxHeartbeats 4000000 in
theorem p_X8_take_l22 {Γ : GA} {E : EV} (C : Cx Γ E RX8 cX8_take 3 0 none) (M : Mx Γ E) : ∀ (n : Nat) (x1 : Int32) (x2 : Int32) (S : St), G Γ E (QV Γ E) 3 22 [(0, .ref (gX Γ 55)), (1, .int x1), (2, .int x2)] [] S (f_X8_take_l22 n x1 x2 S) := by
  intro n
  induction n with
  | zero => intro x1 x2 S; exact g_none
  | succ n ih =>
    intro x1 x2 S
    rw [f_X8_take_l22]
    refine g_iload_n (pc := 22) C dX8_take_22 2 rfl rfl ?_
    refine g_aload_n (pc := 23) C dX8_take_23 0 rfl rfl ?_
    refine g_getI (pc := 24) C lk_X8_149 fi_55_18 dX8_take_24 ?_
    refine g_icmp_ge (pc := 27) C 76 dX8_take_27 (by decide) ?_ ?_
    · refine g_iconst (pc := 76) C (v := 0) dX8_take_76 (by decide) ?_
      refine g_istore_n0 (pc := 77) C dX8_take_77 rfl (by decide) (lv' := [(2, .int 0), (0, .ref (gX Γ 55)), (1, .int x1)]) rfl ?_
      exact g_sub [1, 0] rfl (p_X8_take_l78 C M FU 0 S)
    · refine g_aload_n (pc := 30) C dX8_take_30 0 rfl rfl ?_
      refine g_getR (pc := 31) C lk_X8_37 fr_55_19 dX8_take_31 ?_
      refine g_iload_n (pc := 34) C dX8_take_34 2 rfl rfl ?_
      refine g_aload_n (pc := 35) C dX8_take_35 0 rfl rfl ?_
      refine g_getR (pc := 36) C lk_X8_34 fr_55_15 dX8_take_36 ?_
      refine g_bipush (pc := 39) C (v := 10) dX8_take_39 (by decide) ?_
      refine g_iload_n (pc := 41) C dX8_take_41 1 rfl rfl ?_
      refine g_imul (pc := 42) C dX8_take_42 ?_
      refine g_iconst (pc := 43) C (v := 2) dX8_take_43 (by decide) ?_
      refine g_iload_n (pc := 44) C dX8_take_44 2 rfl rfl ?_
      refine g_imul (pc := 45) C dX8_take_45 ?_
      refine g_iadd (pc := 46) C dX8_take_46 ?_
      refine g_iald (pc := 47) C ai_64 dX8_take_47 ?_
      refine g_iast (pc := 48) C ai_65 dX8_take_48 (fun S_5 => ?_)
      refine g_aload_n (pc := 49) C dX8_take_49 0 rfl rfl ?_
      refine g_getR (pc := 50) C lk_X8_40 fr_55_20 dX8_take_50 ?_
      refine g_iload_n (pc := 53) C dX8_take_53 2 rfl rfl ?_
      refine g_aload_n (pc := 54) C dX8_take_54 0 rfl rfl ?_
      refine g_getR (pc := 55) C lk_X8_34 fr_55_15 dX8_take_55 ?_
      refine g_bipush (pc := 58) C (v := 10) dX8_take_58 (by decide) ?_
      refine g_iload_n (pc := 60) C dX8_take_60 1 rfl rfl ?_
      refine g_imul (pc := 61) C dX8_take_61 ?_
      refine g_iconst (pc := 62) C (v := 2) dX8_take_62 (by decide) ?_
      refine g_iload_n (pc := 63) C dX8_take_63 2 rfl rfl ?_
      refine g_imul (pc := 64) C dX8_take_64 ?_
      refine g_iadd (pc := 65) C dX8_take_65 ?_
      refine g_iconst (pc := 66) C (v := 1) dX8_take_66 (by decide) ?_
      refine g_iadd (pc := 67) C dX8_take_67 ?_
      refine g_iald (pc := 68) C ai_64 dX8_take_68 ?_
      refine g_iast (pc := 69) C ai_66 dX8_take_69 (fun S_6 => ?_)
      refine g_iinc (pc := 70) C (v := 1) dX8_take_70 2 rfl (by decide) (by decide) (fun x => [(2, .int x), (0, .ref (gX Γ 55)), (1, .int x1)]) (fun _ => rfl) (fun x2_7 => ?_)
      refine g_goto (pc := 73) C 22 dX8_take_73 (by decide) ?_
      exact g_sub [1, 2, 0] rfl (ih x1 x2_7 S_6)
set_option maxRecDepth 100000 in
set_option maxHeartbeats 4000000 in
theorem p_X8_take {Γ : GA} {E : EV} (C : Cx Γ E RX8 cX8_take 3 0 none) (M : Mx Γ E) (x1 : Int32) (S : St) : G Γ E (QV Γ E) 3 0 [(0, .ref (gX Γ 55)), (1, .int x1)] [] S (f_X8_take x1 S) := by
  rw [f_X8_take]
  refine g_aload_n (pc := 0) C dX8_take_0 0 rfl rfl ?_
  refine g_aload_n (pc := 1) C dX8_take_1 0 rfl rfl ?_
  refine g_getR (pc := 2) C lk_X8_28 fr_55_13 dX8_take_2 ?_
  refine g_iload_n (pc := 5) C dX8_take_5 1 rfl rfl ?_
  refine g_iald (pc := 6) C ai_62 dX8_take_6 ?_
  refine g_putI (pc := 7) C lp_X8_146 fi_55_17 dX8_take_7 (fun S_1 => ?_)
  refine g_aload_n (pc := 10) C dX8_take_10 0 rfl rfl ?_
  refine g_aload_n (pc := 11) C dX8_take_11 0 rfl rfl ?_
  refine g_getR (pc := 12) C lk_X8_31 fr_55_14 dX8_take_12 ?_
  refine g_iload_n (pc := 15) C dX8_take_15 1 rfl rfl ?_
  refine g_iald (pc := 16) C ai_63 dX8_take_16 ?_
  refine g_putI (pc := 17) C lp_X8_149 fi_55_18 dX8_take_17 (fun S_2 => ?_)
  refine g_iconst (pc := 20) C (v := 0) dX8_take_20 (by decide) ?_
  refine g_istore_n0 (pc := 21) C dX8_take_21 rfl (by decide) (lv' := [(2, .int 0), (0, .ref (gX Γ 55)), (1, .int x1)]) rfl ?_
  exact g_sub [1, 2, 0] rfl (p_X8_take_l22 C M FU x1 0 S_2)
theorem ct_X8_take {Γ : GA} (x1 : Int32) (S : St) : CtV Γ yX8_take cX8_take 3 none 0 [.ref (gX Γ 55), .int x1] S (f_X8_take x1 S) :=
  ctV_of (by decide) (Nat.le_of_ble_eq_true rfl) (fun _ C M => p_X8_take C M x1 S)
set_option maxRecDepth 100000 in
set_option maxHeartbeats 4000000 in
theorem p_X8_takes {Γ : GA} {E : EV} (C : Cx Γ E RX8 cX8_takes 7 0 (some .int)) (M : Mx Γ E) (x1 : Int32) (x2 : Int32) (x3 : Int32) (x4 : Int32) (x5 : Int32) (S : St) : G Γ E (QI Γ E) 7 0 [(0, .ref (gX Γ 55)), (1, .int x1), (2, .int x2), (3, .int x3), (4, .int x4), (5, .int x5)] [] S (f_X8_takes x1 x2 x3 x4 x5 S) := by
  rw [f_X8_takes]
  refine g_aload_n (pc := 0) C dX8_takes_0 0 rfl rfl ?_
  refine g_getR (pc := 1) C lk_X8_40 fr_55_20 dX8_takes_1 ?_
  refine g_iload_n (pc := 4) C dX8_takes_4 1 rfl rfl ?_
  refine g_iald (pc := 5) C ai_66 dX8_takes_5 ?_
  refine g_istore (pc := 6) C dX8_takes_6 (by decide) (fun x => [(6, .int x), (0, .ref (gX Γ 55)), (1, .int x1), (2, .int x2), (3, .int x3), (4, .int x4), (5, .int x5)]) (fun _ => rfl) (fun x6_1 => ?_)
  refine g_aload_n (pc := 8) C dX8_takes_8 1 rfl rfl ?_
  refine g_getR (pc := 9) C lk_X8_37 fr_55_19 dX8_takes_9 ?_
  refine g_iload_n (pc := 12) C dX8_takes_12 2 rfl rfl ?_
  refine g_iald (pc := 13) C ai_65 dX8_takes_13 ?_
  refine g_tsw (res := none) (pc := 14) C 0 48 0 dX8_takes_14 (by show ¬ ((0 : Int) ≤ _ ∧ _ < (0 : Int)); omega) (by decide) rfl (by decide) ?_ (fun hs_2 => ?_)
  · refine g_iload (pc := 48) C dX8_takes_48 0 rfl ?_
    exact g_iret C M dX8_takes_50
  refine g_tsw (res := none) (pc := 14) C 1 51 1 dX8_takes_14 hs_2 (by decide) rfl (by decide) ?_ (fun hs_3 => ?_)
  · refine g_iconst (pc := 51) C (v := 2) dX8_takes_51 (by decide) ?_
    refine g_iload (pc := 52) C dX8_takes_52 0 rfl ?_
    refine g_imul (pc := 54) C dX8_takes_54 ?_
    exact g_iret C M dX8_takes_55
  refine g_tsw (res := none) (pc := 14) C 2 56 2 dX8_takes_14 hs_3 (by decide) rfl (by decide) ?_ (fun hs_4 => ?_)
  · refine g_iload (pc := 56) C dX8_takes_56 0 rfl ?_
    refine g_iload (pc := 58) C dX8_takes_58 0 rfl ?_
    refine g_iload (pc := 60) C dX8_takes_60 5 rfl ?_
    refine g_imul (pc := 62) C dX8_takes_62 ?_
    refine g_iadd (pc := 63) C dX8_takes_63 ?_
    exact g_iret C M dX8_takes_64
  refine g_tsw (res := none) (pc := 14) C 3 65 3 dX8_takes_14 hs_4 (by decide) rfl (by decide) ?_ (fun hs_5 => ?_)
  · refine g_iload_n (pc := 65) C dX8_takes_65 3 rfl rfl ?_
    refine g_iload (pc := 66) C dX8_takes_66 0 rfl ?_
    refine g_imul (pc := 68) C dX8_takes_68 ?_
    refine g_bipush (pc := 69) C (v := 10) dX8_takes_69 (by decide) ?_
    refine g_aload_n (pc := 71) C dX8_takes_71 1 rfl rfl ?_
    refine g_getI (pc := 72) C lk_X8_146 fi_55_17 dX8_takes_72 ?_
    refine g_imul (pc := 75) C dX8_takes_75 ?_
    refine g_idiv (pc := 76) C dX8_takes_76 ?_
    exact g_iret C M dX8_takes_77
  refine g_tsw (res := none) (pc := 14) C 4 78 4 dX8_takes_14 hs_5 (by decide) rfl (by decide) ?_ (fun hs_6 => ?_)
  · refine g_iload (pc := 78) C dX8_takes_78 6 rfl ?_
    refine g_iconst (pc := 80) C (v := 1) dX8_takes_80 (by decide) ?_
    refine g_icmp_ne (pc := 81) C 94 dX8_takes_81 (by decide) ?_ ?_
    · refine g_iload_n (pc := 84) C dX8_takes_84 3 rfl rfl ?_
      refine g_iload (pc := 85) C dX8_takes_85 0 rfl ?_
      refine g_imul (pc := 87) C dX8_takes_87 ?_
      refine g_bipush (pc := 88) C (v := 40) dX8_takes_88 (by decide) ?_
      refine g_idiv (pc := 90) C dX8_takes_90 ?_
      refine g_goto (pc := 91) C 95 dX8_takes_91 (by decide) ?_
      exact g_iret C M dX8_takes_95
    · refine g_iconst (pc := 94) C (v := 0) dX8_takes_94 (by decide) ?_
      exact g_iret C M dX8_takes_95
  refine g_tsd (pc := 14) C (k := 4) 96 dX8_takes_14 hs_6 rfl (by decide) ?_
  refine g_iload (pc := 96) C dX8_takes_96 0 rfl ?_
  refine g_iload_n (pc := 98) C dX8_takes_98 4 rfl rfl ?_
  refine g_imul (pc := 99) C dX8_takes_99 ?_
  exact g_iret C M dX8_takes_100
theorem ct_X8_takes {Γ : GA} (x1 : Int32) (x2 : Int32) (x3 : Int32) (x4 : Int32) (x5 : Int32) (S : St) : CtI Γ yX8_takes cX8_takes 7 (some .int) 0 [.ref (gX Γ 55), .int x1, .int x2, .int x3, .int x4, .int x5] S (f_X8_takes x1 x2 x3 x4 x5 S) :=
  ctI_of (by decide) (Nat.le_of_ble_eq_true rfl) (fun _ C M => p_X8_takes C M x1 x2 x3 x4 x5 S)
set_option maxRecDepth 100000 in
set_option maxHeartbeats 4000000 in
theorem p_X8_goCell_b98 {Γ : GA} {E : EV} (C : Cx Γ E RX8 cX8_goCell 6 1 (some .int)) (M : Mx Γ E) (x3 : Int32) (s0 : Int32) (S : St) : G Γ E (QI Γ E) 6 98 [(0, .ref (gX Γ 55)), (3, .int x3)] [.int s0] S (f_X8_goCell_b98 x3 s0 S) := by
  rw [f_X8_goCell_b98]
  refine g_istore0 (pc := 98) C dX8_goCell_98 (by decide) (lv' := [(4, .int s0), (0, .ref (gX Γ 55)), (3, .int x3)]) rfl ?_
  refine g_aload_n (pc := 100) C dX8_goCell_100 1 rfl rfl ?_
  refine g_dup (pc := 101) C dX8_goCell_101 rfl ?_
  refine g_getI (pc := 102) C lk_X8_159 fi_55_28 dX8_goCell_102 ?_
  refine g_iload (pc := 105) C dX8_goCell_105 0 rfl ?_
  refine g_iadd (pc := 107) C dX8_goCell_107 ?_
  refine g_putI (pc := 108) C lp_X8_159 fi_55_28 dX8_goCell_108 (fun S_2 => ?_)
  refine g_iload_n (pc := 111) C dX8_goCell_111 2 rfl rfl ?_
  refine g_iload (pc := 112) C dX8_goCell_112 0 rfl ?_
  refine g_isub (pc := 114) C dX8_goCell_114 ?_
  exact g_iret C M dX8_goCell_115
set_option maxRecDepth 100000 in
set_option maxHeartbeats 4000000 in
theorem p_X8_goCell_l20 {Γ : GA} {E : EV} (C : Cx Γ E RX8 cX8_goCell 6 1 (some .int)) (M : Mx Γ E) : ∀ (n : Nat) (x1 : Int32) (x2 : Int32) (x3 : Int32) (x4 : Int32) (S : St), G Γ E (QI Γ E) 6 20 [(0, .ref (gX Γ 55)), (1, .int x1), (2, .int x2), (3, .int x3), (4, .int x4)] [] S (f_X8_goCell_l20 n x1 x2 x3 x4 S) := by
  intro n
  induction n with
  | zero => intro x1 x2 x3 x4 S; exact g_none
  | succ n ih =>
    intro x1 x2 x3 x4 S
    rw [f_X8_goCell_l20]
    refine g_iload (pc := 20) C dX8_goCell_20 4 rfl ?_
    refine g_aload_n (pc := 22) C dX8_goCell_22 0 rfl rfl ?_
    refine g_getI (pc := 23) C lk_X8_149 fi_55_18 dX8_goCell_23 ?_
    refine g_icmp_ge (pc := 26) C 79 dX8_goCell_26 (by decide) ?_ ?_
    · refine g_iload_n (pc := 79) C dX8_goCell_79 3 rfl rfl ?_
      refine g_if_le (pc := 80) C 97 dX8_goCell_80 (by decide) ?_ ?_
      · refine g_iconst (pc := 97) C (v := 0) dX8_goCell_97 (by decide) ?_
        exact g_sub [0, 3] rfl (p_X8_goCell_b98 C M x3 0 S)
      · refine g_iload_n (pc := 83) C dX8_goCell_83 3 rfl rfl ?_
        refine g_aload_n (pc := 84) C dX8_goCell_84 0 rfl rfl ?_
        refine g_getR (pc := 85) C lk_X8_43 fr_55_21 dX8_goCell_85 ?_
        refine g_iload_n (pc := 88) C dX8_goCell_88 1 rfl rfl ?_
        refine g_iald (pc := 89) C ai_67 dX8_goCell_89 ?_
        refine g_imul (pc := 90) C dX8_goCell_90 ?_
        refine g_bipush (pc := 91) C (v := 10) dX8_goCell_91 (by decide) ?_
        refine g_idiv (pc := 93) C dX8_goCell_93 ?_
        refine g_goto (pc := 94) C 98 dX8_goCell_94 (by decide) ?_
        exact g_sub [0, 3] rfl (p_X8_goCell_b98 C M x3 ((x3 * (S 67 (x1 : Int32).toNatClampNeg)) / 10) S)
    · refine g_aload_n (pc := 29) C dX8_goCell_29 0 rfl rfl ?_
      refine g_iload (pc := 30) C dX8_goCell_30 4 rfl ?_
      refine g_iload_n (pc := 32) C dX8_goCell_32 2 rfl rfl ?_
      refine g_aload_n (pc := 33) C dX8_goCell_33 0 rfl rfl ?_
      refine g_getR (pc := 34) C lk_X8_16 fr_55_8 dX8_goCell_34 ?_
      refine g_iload_n (pc := 37) C dX8_goCell_37 1 rfl rfl ?_
      refine g_iald (pc := 38) C ai_58 dX8_goCell_38 ?_
      refine g_aload_n (pc := 39) C dX8_goCell_39 0 rfl rfl ?_
      refine g_getR (pc := 40) C lk_X8_19 fr_55_9 dX8_goCell_40 ?_
      refine g_iload_n (pc := 43) C dX8_goCell_43 1 rfl rfl ?_
      refine g_iald (pc := 44) C ai_59 dX8_goCell_44 ?_
      refine g_aload_n (pc := 45) C dX8_goCell_45 0 rfl rfl ?_
      refine g_getR (pc := 46) C lk_X8_22 fr_55_10 dX8_goCell_46 ?_
      refine g_iload_n (pc := 49) C dX8_goCell_49 1 rfl rfl ?_
      refine g_iald (pc := 50) C ai_60 dX8_goCell_50 ?_
      refine g_callVI (pc := 51) (As := [.int x4, .int x2, .int (S 58 (x1 : Int32).toNatClampNeg), .int (S 59 (x1 : Int32).toNatClampNeg), .int (S 60 (x1 : Int32).toNatClampNeg)]) (st := []) C lv_X8_155 fo_55 rfl (ct_X8_takes x4 x2 (S 58 (x1 : Int32).toNatClampNeg) (S 59 (x1 : Int32).toNatClampNeg) (S 60 (x1 : Int32).toNatClampNeg) S) (by decide) rfl rfl (Nat.le_of_ble_eq_true rfl) dX8_goCell_51 (fun r_4 S_3 => ?_)
      refine g_istore0 (pc := 54) C dX8_goCell_54 (by decide) (lv' := [(5, .int r_4), (0, .ref (gX Γ 55)), (1, .int x1), (2, .int x2), (3, .int x3), (4, .int x4)]) rfl ?_
      refine g_aload_n (pc := 56) C dX8_goCell_56 1 rfl rfl ?_
      refine g_getR (pc := 57) C lk_X8_49 fr_55_27 dX8_goCell_57 ?_
      refine g_iload (pc := 60) C dX8_goCell_60 5 rfl ?_
      refine g_dup2 (pc := 62) C dX8_goCell_62 rfl rfl ?_
      refine g_iald (pc := 63) C ai_69 dX8_goCell_63 ?_
      refine g_iload (pc := 64) C dX8_goCell_64 0 rfl ?_
      refine g_iadd (pc := 66) C dX8_goCell_66 ?_
      refine g_iast (pc := 67) C ai_69 dX8_goCell_67 (fun S_5 => ?_)
      refine g_iload_n (pc := 68) C dX8_goCell_68 4 rfl rfl ?_
      refine g_iload (pc := 69) C dX8_goCell_69 0 rfl ?_
      refine g_isub (pc := 71) C dX8_goCell_71 ?_
      refine g_istore_n (pc := 72) C dX8_goCell_72 rfl (by decide) (fun x => [(3, .int x), (5, .int r_4), (0, .ref (gX Γ 55)), (1, .int x1), (2, .int x2), (4, .int x4)]) (fun _ => rfl) (fun x3_6 => ?_)
      refine g_iinc (pc := 73) C (v := 1) dX8_goCell_73 5 rfl (by decide) (by decide) (fun x => [(4, .int x), (3, .int x3_6), (5, .int r_4), (0, .ref (gX Γ 55)), (1, .int x1), (2, .int x2)]) (fun _ => rfl) (fun x4_7 => ?_)
      refine g_goto (pc := 76) C 20 dX8_goCell_76 (by decide) ?_
      exact g_sub [3, 4, 5, 1, 0] rfl (ih x1 x2 x3_6 x4_7 S_5)
set_option maxRecDepth 100000 in
set_option maxHeartbeats 4000000 in
theorem p_X8_goCell {Γ : GA} {E : EV} (C : Cx Γ E RX8 cX8_goCell 6 1 (some .int)) (M : Mx Γ E) (x1 : Int32) (S : St) : G Γ E (QI Γ E) 6 0 [(0, .ref (gX Γ 55)), (1, .int x1)] [] S (f_X8_goCell x1 S) := by
  rw [f_X8_goCell]
  refine g_aload_n (pc := 0) C dX8_goCell_0 0 rfl rfl ?_
  refine g_getI (pc := 1) C lk_X8_152 fi_55_25 dX8_goCell_1 ?_
  refine g_bipush (pc := 4) C (v := 20) dX8_goCell_4 (by decide) ?_
  refine g_aload_n (pc := 6) C dX8_goCell_6 0 rfl rfl ?_
  refine g_getR (pc := 7) C lk_X8_16 fr_55_8 dX8_goCell_7 ?_
  refine g_iload_n (pc := 10) C dX8_goCell_10 1 rfl rfl ?_
  refine g_iald (pc := 11) C ai_58 dX8_goCell_11 ?_
  refine g_imul (pc := 12) C dX8_goCell_12 ?_
  refine g_iadd (pc := 13) C dX8_goCell_13 ?_
  refine g_istore_n (pc := 14) C dX8_goCell_14 rfl (by decide) (fun x => [(2, .int x), (0, .ref (gX Γ 55)), (1, .int x1)]) (fun _ => rfl) (fun x2_1 => ?_)
  refine g_iload_n (pc := 15) C dX8_goCell_15 0 rfl rfl ?_
  refine g_istore_n0 (pc := 16) C dX8_goCell_16 rfl (by decide) (lv' := [(3, .int x2_1), (2, .int x2_1), (0, .ref (gX Γ 55)), (1, .int x1)]) rfl ?_
  refine g_iconst (pc := 17) C (v := 0) dX8_goCell_17 (by decide) ?_
  refine g_istore0 (pc := 18) C dX8_goCell_18 (by decide) (lv' := [(4, .int 0), (3, .int x2_1), (2, .int x2_1), (0, .ref (gX Γ 55)), (1, .int x1)]) rfl ?_
  exact g_sub [3, 4, 2, 1, 0] rfl (p_X8_goCell_l20 C M FU x1 x2_1 x2_1 0 S)
theorem ct_X8_goCell {Γ : GA} (x1 : Int32) (S : St) : CtI Γ yX8_goCell cX8_goCell 6 (some .int) 1 [.ref (gX Γ 55), .int x1] S (f_X8_goCell x1 S) :=
  ctI_of (by decide) (Nat.le_of_ble_eq_true rfl) (fun _ C M => p_X8_goCell C M x1 S)
set_option maxRecDepth 100000 in
set_option maxHeartbeats 4000000 in
theorem p_X8_root_l2 {Γ : GA} {E : EV} (C : Cx Γ E RX8 cX8_root 2 0 (some .int)) (M : Mx Γ E) : ∀ (n : Nat) (x0 : Int32) (x1 : Int32) (S : St), G Γ E (QI Γ E) 2 2 [(0, .int x0), (1, .int x1)] [] S (f_X8_root_l2 n x0 x1 S) := by
  intro n
  induction n with
  | zero => intro x0 x1 S; exact g_none
  | succ n ih =>
    intro x0 x1 S
    rw [f_X8_root_l2]
    refine g_iload_n (pc := 2) C dX8_root_2 1 rfl rfl ?_
    refine g_iconst (pc := 3) C (v := 1) dX8_root_3 (by decide) ?_
    refine g_iadd (pc := 4) C dX8_root_4 ?_
    refine g_iload_n (pc := 5) C dX8_root_5 1 rfl rfl ?_
    refine g_iconst (pc := 6) C (v := 1) dX8_root_6 (by decide) ?_
    refine g_iadd (pc := 7) C dX8_root_7 ?_
    refine g_imul (pc := 8) C dX8_root_8 ?_
    refine g_iload_n (pc := 9) C dX8_root_9 0 rfl rfl ?_
    refine g_icmp_gt (pc := 10) C 19 dX8_root_10 (by decide) ?_ ?_
    · refine g_iload_n (pc := 19) C dX8_root_19 1 rfl rfl ?_
      exact g_iret C M dX8_root_20
    · refine g_iinc (pc := 13) C (v := 1) dX8_root_13 1 rfl (by decide) (by decide) (fun x => [(1, .int x), (0, .int x0)]) (fun _ => rfl) (fun x1_1 => ?_)
      refine g_goto (pc := 16) C 2 dX8_root_16 (by decide) ?_
      exact g_sub [1, 0] rfl (ih x0 x1_1 S)
set_option maxRecDepth 100000 in
set_option maxHeartbeats 4000000 in
theorem p_X8_root {Γ : GA} {E : EV} (C : Cx Γ E RX8 cX8_root 2 0 (some .int)) (M : Mx Γ E) (x0 : Int32) (S : St) : G Γ E (QI Γ E) 2 0 [(0, .int x0)] [] S (f_X8_root x0 S) := by
  rw [f_X8_root]
  refine g_iconst (pc := 0) C (v := 0) dX8_root_0 (by decide) ?_
  refine g_istore_n0 (pc := 1) C dX8_root_1 rfl (by decide) (lv' := [(1, .int 0), (0, .int x0)]) rfl ?_
  exact g_sub [1, 0] rfl (p_X8_root_l2 C M FU x0 0 S)
theorem ct_X8_root {Γ : GA} (x0 : Int32) (S : St) : CtI Γ yX8_root cX8_root 2 (some .int) 0 [.int x0] S (f_X8_root x0 S) :=
  ctI_of (by decide) (Nat.le_of_ble_eq_true rfl) (fun _ C M => p_X8_root C M x0 S)
set_option maxRecDepth 100000 in
set_option maxHeartbeats 4000000 in
theorem p_X8_bearable {Γ : GA} {E : EV} (C : Cx Γ E RX8 cX8_bearable 2 0 (some .int)) (M : Mx Γ E) (x1 : Int32) (S : St) : G Γ E (QI Γ E) 2 0 [(0, .ref (gX Γ 55)), (1, .int x1)] [] S (f_X8_bearable x1 S) := by
  rw [f_X8_bearable]
  refine g_bipush (pc := 0) C (v := 100) dX8_bearable_0 (by decide) ?_
  refine g_aload_n (pc := 2) C dX8_bearable_2 0 rfl rfl ?_
  refine g_getI (pc := 3) C lk_X8_67 fi_55_16 dX8_bearable_3 ?_
  refine g_imul (pc := 6) C dX8_bearable_6 ?_
  refine g_aload_n (pc := 7) C dX8_bearable_7 0 rfl rfl ?_
  refine g_getR (pc := 8) C lk_X8_19 fr_55_9 dX8_bearable_8 ?_
  refine g_iload_n (pc := 11) C dX8_bearable_11 1 rfl rfl ?_
  refine g_iald (pc := 12) C ai_59 dX8_bearable_12 ?_
  refine g_idiv (pc := 13) C dX8_bearable_13 ?_
  exact g_iret C M dX8_bearable_14
theorem ct_X8_bearable {Γ : GA} (x1 : Int32) (S : St) : CtI Γ yX8_bearable cX8_bearable 2 (some .int) 0 [.ref (gX Γ 55), .int x1] S (f_X8_bearable x1 S) :=
  ctI_of (by decide) (Nat.le_of_ble_eq_true rfl) (fun _ C M => p_X8_bearable C M x1 S)
set_option maxRecDepth 100000 in
set_option maxHeartbeats 4000000 in
theorem p_X8_go_b176 {Γ : GA} {E : EV} (C : Cx Γ E RX8 cX8_go 3 2 none) (M : Mx Γ E) (k74 : Int32 → St → Option (Unit × St)) (hk74 : ∀ (x2 : Int32) (S : St), G Γ E (QV Γ E) 3 74 [(0, .ref (gX Γ 55)), (2, .int x2)] [] S (k74 x2 S)) (x2 : Int32) (S : St) : G Γ E (QV Γ E) 3 176 [(0, .ref (gX Γ 55)), (2, .int x2)] [] S (f_X8_go_b176 k74 x2 S) := by
  rw [f_X8_go_b176]
  refine g_iinc (pc := 176) C (v := 1) dX8_go_176 1 rfl (by decide) (by decide) (fun x => [(2, .int x), (0, .ref (gX Γ 55))]) (fun _ => rfl) (fun x2_13 => ?_)
  refine g_goto (pc := 179) C 74 dX8_go_179 (by decide) ?_
  exact g_sub [1, 0] rfl (hk74 x2_13 S)
set_option maxRecDepth 100000 in
set_option maxHeartbeats 4000000 in
theorem p_X8_go_l74 {Γ : GA} {E : EV} (C : Cx Γ E RX8 cX8_go 3 2 none) (M : Mx Γ E) : ∀ (n : Nat) (x2 : Int32) (S : St), G Γ E (QV Γ E) 3 74 [(0, .ref (gX Γ 55)), (2, .int x2)] [] S (f_X8_go_l74 n x2 S) := by
  intro n
  induction n with
  | zero => intro x2 S; exact g_none
  | succ n ih =>
    intro x2 S
    rw [f_X8_go_l74]
    refine g_iload_n (pc := 74) C dX8_go_74 1 rfl rfl ?_
    refine g_aload_n (pc := 75) C dX8_go_75 0 rfl rfl ?_
    refine g_getI (pc := 76) C lk_X8_116 fi_55_6 dX8_go_76 ?_
    refine g_icmp_ge (pc := 79) C 182 dX8_go_79 (by decide) ?_ ?_
    · exact g_vret C M dX8_go_182
    · refine g_aload_n (pc := 82) C dX8_go_82 0 rfl rfl ?_
      refine g_aload_n (pc := 83) C dX8_go_83 0 rfl rfl ?_
      refine g_iload_n (pc := 84) C dX8_go_84 1 rfl rfl ?_
      refine g_callVI (pc := 85) (As := [.int x2]) (st := [.ref (gX Γ 55)]) C lv_X8_171 fo_55 rfl (ct_X8_goCell x2 S) (by decide) rfl rfl (Nat.le_of_ble_eq_true rfl) dX8_go_85 (fun r_7 S_6 => ?_)
      refine g_putI (pc := 88) C lp_X8_152 fi_55_25 dX8_go_88 (fun S_8 => ?_)
      refine g_aload_n (pc := 91) C dX8_go_91 0 rfl rfl ?_
      refine g_getI (pc := 92) C lk_X8_152 fi_55_25 dX8_go_92 ?_
      refine g_if_gt (pc := 95) C 114 dX8_go_95 (by decide) ?_ ?_
      · refine g_aload_n (pc := 114) C dX8_go_114 0 rfl rfl ?_
        refine g_getR (pc := 115) C lk_X8_46 fr_55_26 dX8_go_115 ?_
        refine g_iload_n (pc := 118) C dX8_go_118 1 rfl rfl ?_
        refine g_aload_n (pc := 119) C dX8_go_119 0 rfl rfl ?_
        refine g_getI (pc := 120) C lk_X8_152 fi_55_25 dX8_go_120 ?_
        refine g_iast (pc := 123) C ai_68 dX8_go_123 (fun S_9 => ?_)
        refine g_aload_n (pc := 124) C dX8_go_124 0 rfl rfl ?_
        refine g_dup (pc := 125) C dX8_go_125 rfl ?_
        refine g_getI (pc := 126) C lk_X8_162 fi_55_24 dX8_go_126 ?_
        refine g_sipush (pc := 129) C (v := 1000) dX8_go_129 (by decide) ?_
        refine g_aload_n (pc := 132) C dX8_go_132 0 rfl rfl ?_
        refine g_getI (pc := 133) C lk_X8_152 fi_55_25 dX8_go_133 ?_
        refine g_callSI (pc := 136) (As := [.int (S_9 55 25)]) (st := [.int 1000, .int (S_9 55 24), .ref (gX Γ 55)]) C ls_X8_174 (ct_X8_root (S_9 55 25) S_9) (by decide) rfl rfl (Nat.le_of_ble_eq_true rfl) dX8_go_136 (fun r_11 S_10 => ?_)
        refine g_idiv (pc := 139) C dX8_go_139 ?_
        refine g_iadd (pc := 140) C dX8_go_140 ?_
        refine g_putI (pc := 141) C lp_X8_162 fi_55_24 dX8_go_141 (fun S_12 => ?_)
        refine g_aload_n (pc := 144) C dX8_go_144 0 rfl rfl ?_
        refine g_getR (pc := 145) C lk_X8_19 fr_55_9 dX8_go_145 ?_
        refine g_iload_n (pc := 148) C dX8_go_148 1 rfl rfl ?_
        refine g_iald (pc := 149) C ai_59 dX8_go_149 ?_
        refine g_if_le (pc := 150) C 176 dX8_go_150 (by decide) ?_ ?_
        · exact g_sub [0, 1] rfl (p_X8_go_b176 C M (f_X8_go_l74 n) ih x2 S_12)
        · refine g_aload_n (pc := 153) C dX8_go_153 0 rfl rfl ?_
          refine g_getI (pc := 154) C lk_X8_152 fi_55_25 dX8_go_154 ?_
          refine g_aload_n (pc := 157) C dX8_go_157 0 rfl rfl ?_
          refine g_iload_n (pc := 158) C dX8_go_158 1 rfl rfl ?_
          refine g_callVI (pc := 159) (As := [.int x2]) (st := [.int (S_12 55 25)]) C lv_X8_177 fo_55 rfl (ct_X8_bearable x2 S_12) (by decide) rfl rfl (Nat.le_of_ble_eq_true rfl) dX8_go_159 (fun r_15 S_14 => ?_)
          refine g_icmp_le (pc := 162) C 176 dX8_go_162 (by decide) ?_ ?_
          · exact g_sub [0, 1] rfl (p_X8_go_b176 C M (f_X8_go_l74 n) ih x2 S_14)
          · refine g_aload_n (pc := 165) C dX8_go_165 0 rfl rfl ?_
            refine g_iconst (pc := 166) C (v := 2) dX8_go_166 (by decide) ?_
            refine g_putI (pc := 167) C lp_X8_165 fi_55_22 dX8_go_167 (fun S_16 => ?_)
            refine g_aload_n (pc := 170) C dX8_go_170 0 rfl rfl ?_
            refine g_iload_n (pc := 171) C dX8_go_171 1 rfl rfl ?_
            refine g_putI (pc := 172) C lp_X8_168 fi_55_23 dX8_go_172 (fun S_17 => ?_)
            exact g_vret C M dX8_go_175
      · refine g_aload_n (pc := 98) C dX8_go_98 0 rfl rfl ?_
        refine g_iconst (pc := 99) C (v := 0) dX8_go_99 (by decide) ?_
        refine g_putI (pc := 100) C lp_X8_152 fi_55_25 dX8_go_100 (fun S_18 => ?_)
        refine g_aload_n (pc := 103) C dX8_go_103 0 rfl rfl ?_
        refine g_iconst (pc := 104) C (v := 1) dX8_go_104 (by decide) ?_
        refine g_putI (pc := 105) C lp_X8_165 fi_55_22 dX8_go_105 (fun S_19 => ?_)
        refine g_aload_n (pc := 108) C dX8_go_108 0 rfl rfl ?_
        refine g_iload_n (pc := 109) C dX8_go_109 1 rfl rfl ?_
        refine g_putI (pc := 110) C lp_X8_168 fi_55_23 dX8_go_110 (fun S_20 => ?_)
        exact g_vret C M dX8_go_113
set_option maxRecDepth 100000 in
set_option maxHeartbeats 4000000 in
theorem p_X8_go_l53 {Γ : GA} {E : EV} (C : Cx Γ E RX8 cX8_go 3 2 none) (M : Mx Γ E) : ∀ (n : Nat) (x2 : Int32) (S : St), G Γ E (QV Γ E) 3 53 [(0, .ref (gX Γ 55)), (2, .int x2)] [] S (f_X8_go_l53 n x2 S) := by
  intro n
  induction n with
  | zero => intro x2 S; exact g_none
  | succ n ih =>
    intro x2 S
    rw [f_X8_go_l53]
    refine g_iload_n (pc := 53) C dX8_go_53 1 rfl rfl ?_
    refine g_bipush (pc := 54) C (v := 12) dX8_go_54 (by decide) ?_
    refine g_icmp_ge (pc := 56) C 72 dX8_go_56 (by decide) ?_ ?_
    · refine g_iconst (pc := 72) C (v := 0) dX8_go_72 (by decide) ?_
      refine g_istore_n0 (pc := 73) C dX8_go_73 rfl (by decide) (lv' := [(2, .int 0), (0, .ref (gX Γ 55))]) rfl ?_
      exact g_sub [1, 0] rfl (p_X8_go_l74 C M FU 0 S)
    · refine g_aload_n (pc := 59) C dX8_go_59 0 rfl rfl ?_
      refine g_getR (pc := 60) C lk_X8_46 fr_55_26 dX8_go_60 ?_
      refine g_iload_n (pc := 63) C dX8_go_63 1 rfl rfl ?_
      refine g_iconst (pc := 64) C (v := (-1)) dX8_go_64 (by decide) ?_
      refine g_iast (pc := 65) C ai_68 dX8_go_65 (fun S_21 => ?_)
      refine g_iinc (pc := 66) C (v := 1) dX8_go_66 1 rfl (by decide) (by decide) (fun x => [(2, .int x), (0, .ref (gX Γ 55))]) (fun _ => rfl) (fun x2_22 => ?_)
      refine g_goto (pc := 69) C 53 dX8_go_69 (by decide) ?_
      exact g_sub [1, 0] rfl (ih x2_22 S_21)
set_option maxRecDepth 100000 in
set_option maxHeartbeats 4000000 in
theorem p_X8_go_l32 {Γ : GA} {E : EV} (C : Cx Γ E RX8 cX8_go 3 2 none) (M : Mx Γ E) : ∀ (n : Nat) (x2 : Int32) (S : St), G Γ E (QV Γ E) 3 32 [(0, .ref (gX Γ 55)), (2, .int x2)] [] S (f_X8_go_l32 n x2 S) := by
  intro n
  induction n with
  | zero => intro x2 S; exact g_none
  | succ n ih =>
    intro x2 S
    rw [f_X8_go_l32]
    refine g_iload_n (pc := 32) C dX8_go_32 1 rfl rfl ?_
    refine g_bipush (pc := 33) C (v := 6) dX8_go_33 (by decide) ?_
    refine g_icmp_ge (pc := 35) C 51 dX8_go_35 (by decide) ?_ ?_
    · refine g_iconst (pc := 51) C (v := 0) dX8_go_51 (by decide) ?_
      refine g_istore_n0 (pc := 52) C dX8_go_52 rfl (by decide) (lv' := [(2, .int 0), (0, .ref (gX Γ 55))]) rfl ?_
      exact g_sub [1, 0] rfl (p_X8_go_l53 C M FU 0 S)
    · refine g_aload_n (pc := 38) C dX8_go_38 0 rfl rfl ?_
      refine g_getR (pc := 39) C lk_X8_49 fr_55_27 dX8_go_39 ?_
      refine g_iload_n (pc := 42) C dX8_go_42 1 rfl rfl ?_
      refine g_iconst (pc := 43) C (v := 0) dX8_go_43 (by decide) ?_
      refine g_iast (pc := 44) C ai_69 dX8_go_44 (fun S_23 => ?_)
      refine g_iinc (pc := 45) C (v := 1) dX8_go_45 1 rfl (by decide) (by decide) (fun x => [(2, .int x), (0, .ref (gX Γ 55))]) (fun _ => rfl) (fun x2_24 => ?_)
      refine g_goto (pc := 48) C 32 dX8_go_48 (by decide) ?_
      exact g_sub [1, 0] rfl (ih x2_24 S_23)
set_option maxRecDepth 100000 in
set_option maxHeartbeats 4000000 in
theorem p_X8_go {Γ : GA} {E : EV} (C : Cx Γ E RX8 cX8_go 3 2 none) (M : Mx Γ E) (x1 : Int32) (S : St) : G Γ E (QV Γ E) 3 0 [(0, .ref (gX Γ 55)), (1, .int x1)] [] S (f_X8_go x1 S) := by
  rw [f_X8_go]
  refine g_aload_n (pc := 0) C dX8_go_0 0 rfl rfl ?_
  refine g_iload_n (pc := 1) C dX8_go_1 1 rfl rfl ?_
  refine g_putI (pc := 2) C lp_X8_152 fi_55_25 dX8_go_2 (fun S_1 => ?_)
  refine g_aload_n (pc := 5) C dX8_go_5 0 rfl rfl ?_
  refine g_iconst (pc := 6) C (v := 0) dX8_go_6 (by decide) ?_
  refine g_putI (pc := 7) C lp_X8_162 fi_55_24 dX8_go_7 (fun S_2 => ?_)
  refine g_aload_n (pc := 10) C dX8_go_10 0 rfl rfl ?_
  refine g_iconst (pc := 11) C (v := 0) dX8_go_11 (by decide) ?_
  refine g_putI (pc := 12) C lp_X8_165 fi_55_22 dX8_go_12 (fun S_3 => ?_)
  refine g_aload_n (pc := 15) C dX8_go_15 0 rfl rfl ?_
  refine g_aload_n (pc := 16) C dX8_go_16 0 rfl rfl ?_
  refine g_getI (pc := 17) C lk_X8_116 fi_55_6 dX8_go_17 ?_
  refine g_iconst (pc := 20) C (v := 1) dX8_go_20 (by decide) ?_
  refine g_isub (pc := 21) C dX8_go_21 ?_
  refine g_putI (pc := 22) C lp_X8_168 fi_55_23 dX8_go_22 (fun S_4 => ?_)
  refine g_aload_n (pc := 25) C dX8_go_25 0 rfl rfl ?_
  refine g_iconst (pc := 26) C (v := 0) dX8_go_26 (by decide) ?_
  refine g_putI (pc := 27) C lp_X8_159 fi_55_28 dX8_go_27 (fun S_5 => ?_)
  refine g_iconst (pc := 30) C (v := 0) dX8_go_30 (by decide) ?_
  refine g_istore_n0 (pc := 31) C dX8_go_31 rfl (by decide) (lv' := [(2, .int 0), (0, .ref (gX Γ 55)), (1, .int x1)]) rfl ?_
  exact g_sub [1, 0] rfl (p_X8_go_l32 C M FU 0 S_5)
theorem ct_X8_go {Γ : GA} (x1 : Int32) (S : St) : CtV Γ yX8_go cX8_go 3 none 2 [.ref (gX Γ 55), .int x1] S (f_X8_go x1 S) :=
  ctV_of (by decide) (Nat.le_of_ble_eq_true rfl) (fun _ C M => p_X8_go C M x1 S)
set_option maxRecDepth 100000 in
set_option maxHeartbeats 4000000 in
theorem p_X8_run {Γ : GA} {E : EV} (C : Cx Γ E RX8 cX8_run 4 3 (some .int)) (M : Mx Γ E) (x1 : Int32) (x2 : Int32) (x3 : Int32) (S : St) : G Γ E (QI Γ E) 4 0 [(0, .ref (gX Γ 55)), (1, .int x1), (2, .int x2), (3, .int x3)] [] S (f_X8_run x1 x2 x3 S) := by
  rw [f_X8_run]
  refine g_aload_n (pc := 0) C dX8_run_0 0 rfl rfl ?_
  refine g_iload_n (pc := 1) C dX8_run_1 1 rfl rfl ?_
  refine g_callVI (pc := 2) (As := [.int x1]) (st := []) C lv_X8_132 fo_55 rfl (ct_X8_isCart x1 S) (by decide) rfl rfl (Nat.le_of_ble_eq_true rfl) dX8_run_2 (fun r_2 S_1 => ?_)
  refine g_if_ne (pc := 5) C 11 dX8_run_5 (by decide) ?_ ?_
  · refine g_bipush (pc := 8) C (v := (-101)) dX8_run_8 (by decide) ?_
    exact g_iret C M dX8_run_10
  · refine g_aload_n (pc := 11) C dX8_run_11 0 rfl rfl ?_
    refine g_callVI (pc := 12) (As := []) (st := []) C lv_X8_182 fo_55 rfl (ct_X8_lacks S_1) (by decide) rfl rfl (Nat.le_of_ble_eq_true rfl) dX8_run_12 (fun r_4 S_3 => ?_)
    refine g_if_eq (pc := 15) C 21 dX8_run_15 (by decide) ?_ ?_
    · refine g_iload_n (pc := 21) C dX8_run_21 2 rfl rfl ?_
      refine g_callSI (pc := 22) (As := [.int x2]) (st := []) C ls_X8_186 (ct_X8_isSwing x2 S_3) (by decide) rfl rfl (Nat.le_of_ble_eq_true rfl) dX8_run_22 (fun r_6 S_5 => ?_)
      refine g_if_eq (pc := 25) C 40 dX8_run_25 (by decide) ?_ ?_
      · refine g_bipush (pc := 40) C (v := (-102)) dX8_run_40 (by decide) ?_
        exact g_iret C M dX8_run_42
      · refine g_iload_n (pc := 28) C dX8_run_28 3 rfl rfl ?_
        refine g_i2l (pc := 29) C dX8_run_29 ?_
        refine g_lconst (pc := 30) C (v := 0) dX8_run_30 (by decide) ?_
        refine g_ldc2 (pc := 31) C kc_X8_189 dX8_run_31 ?_
        refine g_callSI (pc := 34) (As := [.long ((x3 : Int32).toInt64), .long 0, .long 3]) (st := []) C ls_X8_89 (ct_X8_in ((x3 : Int32).toInt64) 0 3 S_5) (by decide) rfl rfl (Nat.le_of_ble_eq_true rfl) dX8_run_34 (fun r_8 S_7 => ?_)
        refine g_if_ne (pc := 37) C 43 dX8_run_37 (by decide) ?_ ?_
        · refine g_bipush (pc := 40) C (v := (-102)) dX8_run_40 (by decide) ?_
          exact g_iret C M dX8_run_42
        · refine g_aload_n (pc := 43) C dX8_run_43 0 rfl rfl ?_
          refine g_iload_n (pc := 44) C dX8_run_44 1 rfl rfl ?_
          refine g_callVV (pc := 45) (As := [.int x1]) (st := []) C lv_X8_191 fo_55 rfl (ct_X8_take x1 S_7) (by decide) rfl rfl (Nat.le_of_ble_eq_true rfl) dX8_run_45 (fun r_10 S_9 => ?_)
          refine g_aload_n (pc := 48) C dX8_run_48 0 rfl rfl ?_
          refine g_iload_n (pc := 49) C dX8_run_49 2 rfl rfl ?_
          refine g_callVV (pc := 50) (As := [.int x2]) (st := []) C lv_X8_195 fo_55 rfl (ct_X8_go x2 S_9) (by decide) rfl rfl (Nat.le_of_ble_eq_true rfl) dX8_run_50 (fun r_12 S_11 => ?_)
          refine g_iload_n (pc := 53) C dX8_run_53 3 rfl rfl ?_
          refine g_if_ne (pc := 54) C 64 dX8_run_54 (by decide) ?_ ?_
          · refine g_aload_n (pc := 57) C dX8_run_57 0 rfl rfl ?_
            refine g_getI (pc := 58) C lk_X8_165 fi_55_22 dX8_run_58 ?_
            refine g_goto (pc := 61) C 92 dX8_run_61 (by decide) ?_
            exact g_iret C M dX8_run_92
          · refine g_iload_n (pc := 64) C dX8_run_64 3 rfl rfl ?_
            refine g_iconst (pc := 65) C (v := 1) dX8_run_65 (by decide) ?_
            refine g_icmp_ne (pc := 66) C 76 dX8_run_66 (by decide) ?_ ?_
            · refine g_aload_n (pc := 69) C dX8_run_69 0 rfl rfl ?_
              refine g_getI (pc := 70) C lk_X8_168 fi_55_23 dX8_run_70 ?_
              refine g_goto (pc := 73) C 92 dX8_run_73 (by decide) ?_
              exact g_iret C M dX8_run_92
            · refine g_iload_n (pc := 76) C dX8_run_76 3 rfl rfl ?_
              refine g_iconst (pc := 77) C (v := 2) dX8_run_77 (by decide) ?_
              refine g_icmp_ne (pc := 78) C 88 dX8_run_78 (by decide) ?_ ?_
              · refine g_aload_n (pc := 81) C dX8_run_81 0 rfl rfl ?_
                refine g_getI (pc := 82) C lk_X8_162 fi_55_24 dX8_run_82 ?_
                refine g_goto (pc := 85) C 92 dX8_run_85 (by decide) ?_
                exact g_iret C M dX8_run_92
              · refine g_aload_n (pc := 88) C dX8_run_88 0 rfl rfl ?_
                refine g_getI (pc := 89) C lk_X8_152 fi_55_25 dX8_run_89 ?_
                exact g_iret C M dX8_run_92
    · refine g_bipush (pc := 18) C (v := (-103)) dX8_run_18 (by decide) ?_
      exact g_iret C M dX8_run_20
theorem ct_X8_run {Γ : GA} (x1 : Int32) (x2 : Int32) (x3 : Int32) (S : St) : CtI Γ yX8_run cX8_run 4 (some .int) 3 [.ref (gX Γ 55), .int x1, .int x2, .int x3] S (f_X8_run x1 x2 x3 S) :=
  ctI_of (by decide) (Nat.le_of_ble_eq_true rfl) (fun _ C M => p_X8_run C M x1 x2 x3 S)
set_option maxRecDepth 100000 in
set_option maxHeartbeats 4000000 in
theorem p_X8_pace {Γ : GA} {E : EV} (C : Cx Γ E RX8 cX8_pace 4 3 (some .int)) (M : Mx Γ E) (x1 : Int32) (x2 : Int32) (x3 : Int32) (S : St) : G Γ E (QI Γ E) 4 0 [(0, .ref (gX Γ 55)), (1, .int x1), (2, .int x2), (3, .int x3)] [] S (f_X8_pace x1 x2 x3 S) := by
  rw [f_X8_pace]
  refine g_aload_n (pc := 0) C dX8_pace_0 0 rfl rfl ?_
  refine g_iload_n (pc := 1) C dX8_pace_1 1 rfl rfl ?_
  refine g_callVI (pc := 2) (As := [.int x1]) (st := []) C lv_X8_132 fo_55 rfl (ct_X8_isCart x1 S) (by decide) rfl rfl (Nat.le_of_ble_eq_true rfl) dX8_pace_2 (fun r_2 S_1 => ?_)
  refine g_if_eq (pc := 5) C 16 dX8_pace_5 (by decide) ?_ ?_
  · refine g_bipush (pc := 16) C (v := (-101)) dX8_pace_16 (by decide) ?_
    exact g_iret C M dX8_pace_18
  · refine g_aload_n (pc := 8) C dX8_pace_8 0 rfl rfl ?_
    refine g_iload_n (pc := 9) C dX8_pace_9 3 rfl rfl ?_
    refine g_callVI (pc := 10) (As := [.int x3]) (st := []) C lv_X8_125 fo_55 rfl (ct_X8_isCell x3 S_1) (by decide) rfl rfl (Nat.le_of_ble_eq_true rfl) dX8_pace_10 (fun r_4 S_3 => ?_)
    refine g_if_ne (pc := 13) C 19 dX8_pace_13 (by decide) ?_ ?_
    · refine g_bipush (pc := 16) C (v := (-101)) dX8_pace_16 (by decide) ?_
      exact g_iret C M dX8_pace_18
    · refine g_iload_n (pc := 19) C dX8_pace_19 2 rfl rfl ?_
      refine g_callSI (pc := 20) (As := [.int x2]) (st := []) C ls_X8_186 (ct_X8_isSwing x2 S_3) (by decide) rfl rfl (Nat.le_of_ble_eq_true rfl) dX8_pace_20 (fun r_6 S_5 => ?_)
      refine g_if_ne (pc := 23) C 29 dX8_pace_23 (by decide) ?_ ?_
      · refine g_bipush (pc := 26) C (v := (-102)) dX8_pace_26 (by decide) ?_
        exact g_iret C M dX8_pace_28
      · refine g_aload_n (pc := 29) C dX8_pace_29 0 rfl rfl ?_
        refine g_iload_n (pc := 30) C dX8_pace_30 1 rfl rfl ?_
        refine g_callVV (pc := 31) (As := [.int x1]) (st := []) C lv_X8_191 fo_55 rfl (ct_X8_take x1 S_5) (by decide) rfl rfl (Nat.le_of_ble_eq_true rfl) dX8_pace_31 (fun r_8 S_7 => ?_)
        refine g_aload_n (pc := 34) C dX8_pace_34 0 rfl rfl ?_
        refine g_iload_n (pc := 35) C dX8_pace_35 2 rfl rfl ?_
        refine g_callVV (pc := 36) (As := [.int x2]) (st := []) C lv_X8_195 fo_55 rfl (ct_X8_go x2 S_7) (by decide) rfl rfl (Nat.le_of_ble_eq_true rfl) dX8_pace_36 (fun r_10 S_9 => ?_)
        refine g_aload_n (pc := 39) C dX8_pace_39 0 rfl rfl ?_
        refine g_getR (pc := 40) C lk_X8_46 fr_55_26 dX8_pace_40 ?_
        refine g_iload_n (pc := 43) C dX8_pace_43 3 rfl rfl ?_
        refine g_iald (pc := 44) C ai_68 dX8_pace_44 ?_
        exact g_iret C M dX8_pace_45
theorem ct_X8_pace {Γ : GA} (x1 : Int32) (x2 : Int32) (x3 : Int32) (S : St) : CtI Γ yX8_pace cX8_pace 4 (some .int) 3 [.ref (gX Γ 55), .int x1, .int x2, .int x3] S (f_X8_pace x1 x2 x3 S) :=
  ctI_of (by decide) (Nat.le_of_ble_eq_true rfl) (fun _ C M => p_X8_pace C M x1 x2 x3 S)
set_option maxRecDepth 100000 in
set_option maxHeartbeats 4000000 in
theorem p_X8_lost_b25 {Γ : GA} {E : EV} (C : Cx Γ E RX8 cX8_lost 4 3 (some .int)) (M : Mx Γ E) (x1 : Int32) (x2 : Int32) (x3 : Int32) (S : St) : G Γ E (QI Γ E) 4 25 [(0, .ref (gX Γ 55)), (1, .int x1), (2, .int x2), (3, .int x3)] [] S (f_X8_lost_b25 x1 x2 x3 S) := by
  rw [f_X8_lost_b25]
  refine g_aload_n (pc := 25) C dX8_lost_25 0 rfl rfl ?_
  refine g_callVI (pc := 26) (As := []) (st := []) C lv_X8_182 fo_55 rfl (ct_X8_lacks S) (by decide) rfl rfl (Nat.le_of_ble_eq_true rfl) dX8_lost_26 (fun r_4 S_3 => ?_)
  refine g_if_eq (pc := 29) C 35 dX8_lost_29 (by decide) ?_ ?_
  · refine g_iload_n (pc := 35) C dX8_lost_35 2 rfl rfl ?_
    refine g_callSI (pc := 36) (As := [.int x2]) (st := []) C ls_X8_186 (ct_X8_isSwing x2 S_3) (by decide) rfl rfl (Nat.le_of_ble_eq_true rfl) dX8_lost_36 (fun r_6 S_5 => ?_)
    refine g_if_ne (pc := 39) C 45 dX8_lost_39 (by decide) ?_ ?_
    · refine g_bipush (pc := 42) C (v := (-102)) dX8_lost_42 (by decide) ?_
      exact g_iret C M dX8_lost_44
    · refine g_aload_n (pc := 45) C dX8_lost_45 0 rfl rfl ?_
      refine g_iload_n (pc := 46) C dX8_lost_46 1 rfl rfl ?_
      refine g_callVV (pc := 47) (As := [.int x1]) (st := []) C lv_X8_191 fo_55 rfl (ct_X8_take x1 S_5) (by decide) rfl rfl (Nat.le_of_ble_eq_true rfl) dX8_lost_47 (fun r_8 S_7 => ?_)
      refine g_aload_n (pc := 50) C dX8_lost_50 0 rfl rfl ?_
      refine g_iload_n (pc := 51) C dX8_lost_51 2 rfl rfl ?_
      refine g_callVV (pc := 52) (As := [.int x2]) (st := []) C lv_X8_195 fo_55 rfl (ct_X8_go x2 S_7) (by decide) rfl rfl (Nat.le_of_ble_eq_true rfl) dX8_lost_52 (fun r_10 S_9 => ?_)
      refine g_iload_n (pc := 55) C dX8_lost_55 3 rfl rfl ?_
      refine g_iconst (pc := 56) C (v := (-1)) dX8_lost_56 (by decide) ?_
      refine g_icmp_ne (pc := 57) C 67 dX8_lost_57 (by decide) ?_ ?_
      · refine g_aload_n (pc := 60) C dX8_lost_60 0 rfl rfl ?_
        refine g_getI (pc := 61) C lk_X8_159 fi_55_28 dX8_lost_61 ?_
        refine g_goto (pc := 64) C 73 dX8_lost_64 (by decide) ?_
        exact g_iret C M dX8_lost_73
      · refine g_aload_n (pc := 67) C dX8_lost_67 0 rfl rfl ?_
        refine g_getR (pc := 68) C lk_X8_49 fr_55_27 dX8_lost_68 ?_
        refine g_iload_n (pc := 71) C dX8_lost_71 3 rfl rfl ?_
        refine g_iald (pc := 72) C ai_69 dX8_lost_72 ?_
        exact g_iret C M dX8_lost_73
  · refine g_bipush (pc := 32) C (v := (-103)) dX8_lost_32 (by decide) ?_
    exact g_iret C M dX8_lost_34
set_option maxRecDepth 100000 in
set_option maxHeartbeats 4000000 in
theorem p_X8_lost {Γ : GA} {E : EV} (C : Cx Γ E RX8 cX8_lost 4 3 (some .int)) (M : Mx Γ E) (x1 : Int32) (x2 : Int32) (x3 : Int32) (S : St) : G Γ E (QI Γ E) 4 0 [(0, .ref (gX Γ 55)), (1, .int x1), (2, .int x2), (3, .int x3)] [] S (f_X8_lost x1 x2 x3 S) := by
  rw [f_X8_lost]
  refine g_aload_n (pc := 0) C dX8_lost_0 0 rfl rfl ?_
  refine g_iload_n (pc := 1) C dX8_lost_1 1 rfl rfl ?_
  refine g_callVI (pc := 2) (As := [.int x1]) (st := []) C lv_X8_132 fo_55 rfl (ct_X8_isCart x1 S) (by decide) rfl rfl (Nat.le_of_ble_eq_true rfl) dX8_lost_2 (fun r_2 S_1 => ?_)
  refine g_if_eq (pc := 5) C 22 dX8_lost_5 (by decide) ?_ ?_
  · refine g_bipush (pc := 22) C (v := (-101)) dX8_lost_22 (by decide) ?_
    exact g_iret C M dX8_lost_24
  · refine g_iload_n (pc := 8) C dX8_lost_8 3 rfl rfl ?_
    refine g_iconst (pc := 9) C (v := (-1)) dX8_lost_9 (by decide) ?_
    refine g_icmp_eq (pc := 10) C 25 dX8_lost_10 (by decide) ?_ ?_
    · exact g_sub [0, 1, 2, 3] rfl (p_X8_lost_b25 C M x1 x2 x3 S_1)
    · refine g_aload_n (pc := 13) C dX8_lost_13 0 rfl rfl ?_
      refine g_iload_n (pc := 14) C dX8_lost_14 1 rfl rfl ?_
      refine g_iload_n (pc := 15) C dX8_lost_15 3 rfl rfl ?_
      refine g_callVI (pc := 16) (As := [.int x1, .int x3]) (st := []) C lv_X8_135 fo_55 rfl (ct_X8_isLoss x1 x3 S_1) (by decide) rfl rfl (Nat.le_of_ble_eq_true rfl) dX8_lost_16 (fun r_12 S_11 => ?_)
      refine g_if_ne (pc := 19) C 25 dX8_lost_19 (by decide) ?_ ?_
      · refine g_bipush (pc := 22) C (v := (-101)) dX8_lost_22 (by decide) ?_
        exact g_iret C M dX8_lost_24
      · exact g_sub [0, 1, 2, 3] rfl (p_X8_lost_b25 C M x1 x2 x3 S_11)
theorem ct_X8_lost {Γ : GA} (x1 : Int32) (x2 : Int32) (x3 : Int32) (S : St) : CtI Γ yX8_lost cX8_lost 4 (some .int) 3 [.ref (gX Γ 55), .int x1, .int x2, .int x3] S (f_X8_lost x1 x2 x3 S) :=
  ctI_of (by decide) (Nat.le_of_ble_eq_true rfl) (fun _ C M => p_X8_lost C M x1 x2 x3 S)
set_option maxRecDepth 100000 in
set_option maxHeartbeats 4000000 in
theorem p_X8_bendAt_b31 {Γ : GA} {E : EV} (C : Cx Γ E RX8 cX8_bendAt 4 0 (some .int)) (M : Mx Γ E) (k4 : Int32 → Int32 → Int32 → St → Option (Int32 × St)) (hk4 : ∀ (x1 : Int32) (x2 : Int32) (x3 : Int32) (S : St), G Γ E (QI Γ E) 4 4 [(0, .ref (gX Γ 55)), (1, .int x1), (2, .int x2), (3, .int x3)] [] S (k4 x1 x2 x3 S)) (x1 : Int32) (x2 : Int32) (x3 : Int32) (S : St) : G Γ E (QI Γ E) 4 31 [(0, .ref (gX Γ 55)), (1, .int x1), (2, .int x2), (3, .int x3)] [] S (f_X8_bendAt_b31 k4 x1 x2 x3 S) := by
  rw [f_X8_bendAt_b31]
  refine g_iinc (pc := 31) C (v := 1) dX8_bendAt_31 3 rfl (by decide) (by decide) (fun x => [(3, .int x), (0, .ref (gX Γ 55)), (1, .int x1), (2, .int x2)]) (fun _ => rfl) (fun x3_1 => ?_)
  refine g_goto (pc := 34) C 4 dX8_bendAt_34 (by decide) ?_
  exact g_sub [1, 2, 3, 0] rfl (hk4 x1 x2 x3_1 S)
set_option maxRecDepth 100000 in
set_option maxHeartbeats 4000000 in
theorem p_X8_bendAt_l4 {Γ : GA} {E : EV} (C : Cx Γ E RX8 cX8_bendAt 4 0 (some .int)) (M : Mx Γ E) : ∀ (n : Nat) (x1 : Int32) (x2 : Int32) (x3 : Int32) (S : St), G Γ E (QI Γ E) 4 4 [(0, .ref (gX Γ 55)), (1, .int x1), (2, .int x2), (3, .int x3)] [] S (f_X8_bendAt_l4 n x1 x2 x3 S) := by
  intro n
  induction n with
  | zero => intro x1 x2 x3 S; exact g_none
  | succ n ih =>
    intro x1 x2 x3 S
    rw [f_X8_bendAt_l4]
    refine g_iload_n (pc := 4) C dX8_bendAt_4 3 rfl rfl ?_
    refine g_aload_n (pc := 5) C dX8_bendAt_5 0 rfl rfl ?_
    refine g_getI (pc := 6) C lk_X8_116 fi_55_6 dX8_bendAt_6 ?_
    refine g_icmp_ge (pc := 9) C 37 dX8_bendAt_9 (by decide) ?_ ?_
    · refine g_iconst (pc := 37) C (v := (-1)) dX8_bendAt_37 (by decide) ?_
      exact g_iret C M dX8_bendAt_38
    · refine g_aload_n (pc := 12) C dX8_bendAt_12 0 rfl rfl ?_
      refine g_getR (pc := 13) C lk_X8_19 fr_55_9 dX8_bendAt_13 ?_
      refine g_iload_n (pc := 16) C dX8_bendAt_16 3 rfl rfl ?_
      refine g_iald (pc := 17) C ai_59 dX8_bendAt_17 ?_
      refine g_if_le (pc := 18) C 31 dX8_bendAt_18 (by decide) ?_ ?_
      · exact g_sub [0, 1, 2, 3] rfl (p_X8_bendAt_b31 C M (f_X8_bendAt_l4 n) ih x1 x2 x3 S)
      · refine g_iload_n (pc := 21) C dX8_bendAt_21 2 rfl rfl ?_
        refine g_iload_n (pc := 22) C dX8_bendAt_22 1 rfl rfl ?_
        refine g_icmp_ne (pc := 23) C 28 dX8_bendAt_23 (by decide) ?_ ?_
        · refine g_iload_n (pc := 26) C dX8_bendAt_26 3 rfl rfl ?_
          exact g_iret C M dX8_bendAt_27
        · refine g_iinc (pc := 28) C (v := 1) dX8_bendAt_28 2 rfl (by decide) (by decide) (fun x => [(2, .int x), (0, .ref (gX Γ 55)), (1, .int x1), (3, .int x3)]) (fun _ => rfl) (fun x2_2 => ?_)
          exact g_sub [1, 2, 0, 3] rfl (p_X8_bendAt_b31 C M (f_X8_bendAt_l4 n) ih x1 x2_2 x3 S)
set_option maxRecDepth 100000 in
set_option maxHeartbeats 4000000 in
theorem p_X8_bendAt {Γ : GA} {E : EV} (C : Cx Γ E RX8 cX8_bendAt 4 0 (some .int)) (M : Mx Γ E) (x1 : Int32) (S : St) : G Γ E (QI Γ E) 4 0 [(0, .ref (gX Γ 55)), (1, .int x1)] [] S (f_X8_bendAt x1 S) := by
  rw [f_X8_bendAt]
  refine g_iconst (pc := 0) C (v := 0) dX8_bendAt_0 (by decide) ?_
  refine g_istore_n0 (pc := 1) C dX8_bendAt_1 rfl (by decide) (lv' := [(2, .int 0), (0, .ref (gX Γ 55)), (1, .int x1)]) rfl ?_
  refine g_iconst (pc := 2) C (v := 0) dX8_bendAt_2 (by decide) ?_
  refine g_istore_n0 (pc := 3) C dX8_bendAt_3 rfl (by decide) (lv' := [(3, .int 0), (2, .int 0), (0, .ref (gX Γ 55)), (1, .int x1)]) rfl ?_
  exact g_sub [2, 3, 1, 0] rfl (p_X8_bendAt_l4 C M FU x1 0 0 S)
theorem ct_X8_bendAt {Γ : GA} (x1 : Int32) (S : St) : CtI Γ yX8_bendAt cX8_bendAt 4 (some .int) 0 [.ref (gX Γ 55), .int x1] S (f_X8_bendAt x1 S) :=
  ctI_of (by decide) (Nat.le_of_ble_eq_true rfl) (fun _ C M => p_X8_bendAt C M x1 S)
set_option maxRecDepth 100000 in
set_option maxHeartbeats 4000000 in
theorem p_X8_isBraked {Γ : GA} {E : EV} (C : Cx Γ E RX8 cX8_isBraked 2 1 (some .boolean)) (M : Mx Γ E) (x1 : Int32) (S : St) : G Γ E (QI Γ E) 2 0 [(0, .ref (gX Γ 55)), (1, .int x1)] [] S (f_X8_isBraked x1 S) := by
  rw [f_X8_isBraked]
  refine g_aload_n (pc := 0) C dX8_isBraked_0 0 rfl rfl ?_
  refine g_iload_n (pc := 1) C dX8_isBraked_1 1 rfl rfl ?_
  refine g_callVI (pc := 2) (As := [.int x1]) (st := []) C lv_X8_198 fo_55 rfl (ct_X8_bendAt x1 S) (by decide) rfl rfl (Nat.le_of_ble_eq_true rfl) dX8_isBraked_2 (fun r_2 S_1 => ?_)
  refine g_if_le (pc := 5) C 12 dX8_isBraked_5 (by decide) ?_ ?_
  · refine g_iconst (pc := 12) C (v := 0) dX8_isBraked_12 (by decide) ?_
    exact g_zret1 C M rfl dX8_isBraked_13
  · refine g_iconst (pc := 8) C (v := 1) dX8_isBraked_8 (by decide) ?_
    refine g_goto (pc := 9) C 13 dX8_isBraked_9 (by decide) ?_
    exact g_zret1 C M rfl dX8_isBraked_13
theorem ct_X8_isBraked {Γ : GA} (x1 : Int32) (S : St) : CtI Γ yX8_isBraked cX8_isBraked 2 (some .boolean) 1 [.ref (gX Γ 55), .int x1] S (f_X8_isBraked x1 S) :=
  ctI_of (by decide) (Nat.le_of_ble_eq_true rfl) (fun _ C M => p_X8_isBraked C M x1 S)
set_option maxRecDepth 100000 in
set_option maxHeartbeats 4000000 in
theorem p_X8_bestBrakes_b258 {Γ : GA} {E : EV} (C : Cx Γ E RX8 cX8_bestBrakes 10 3 (some .int)) (M : Mx Γ E) (x4 : Int32) (x5 : Int32) (S : St) : G Γ E (QI Γ E) 10 258 [(4, .int x4), (5, .int x5)] [] S (f_X8_bestBrakes_b258 x4 x5 S) := by
  rw [f_X8_bestBrakes_b258]
  refine g_iload (pc := 258) C dX8_bestBrakes_258 0 rfl ?_
  refine g_iconst (pc := 260) C (v := (-1)) dX8_bestBrakes_260 (by decide) ?_
  refine g_icmp_ne (pc := 261) C 268 dX8_bestBrakes_261 (by decide) ?_ ?_
  · refine g_iconst (pc := 264) C (v := (-1)) dX8_bestBrakes_264 (by decide) ?_
    refine g_goto (pc := 265) C 270 dX8_bestBrakes_265 (by decide) ?_
    exact g_iret C M dX8_bestBrakes_270
  · refine g_iload (pc := 268) C dX8_bestBrakes_268 1 rfl ?_
    exact g_iret C M dX8_bestBrakes_270
set_option maxRecDepth 100000 in
set_option maxHeartbeats 4000000 in
theorem p_X8_bestBrakes_b242 {Γ : GA} {E : EV} (C : Cx Γ E RX8 cX8_bestBrakes 10 3 (some .int)) (M : Mx Γ E) (k57 : Int32 → Int32 → Int32 → Int32 → Int32 → St → Option (Int32 × St)) (hk57 : ∀ (x2 : Int32) (x3 : Int32) (x4 : Int32) (x5 : Int32) (x6 : Int32) (S : St), G Γ E (QI Γ E) 10 57 [(0, .ref (gX Γ 55)), (2, .int x2), (3, .int x3), (4, .int x4), (5, .int x5), (6, .int x6)] [] S (k57 x2 x3 x4 x5 x6 S)) (x2 : Int32) (x3 : Int32) (x4 : Int32) (x5 : Int32) (x6 : Int32) (S : St) : G Γ E (QI Γ E) 10 242 [(0, .ref (gX Γ 55)), (2, .int x2), (3, .int x3), (4, .int x4), (5, .int x5), (6, .int x6)] [] S (f_X8_bestBrakes_b242 k57 x2 x3 x4 x5 x6 S) := by
  rw [f_X8_bestBrakes_b242]
  refine g_iinc (pc := 242) C (v := 1) dX8_bestBrakes_242 5 rfl (by decide) (by decide) (fun x => [(6, .int x), (0, .ref (gX Γ 55)), (2, .int x2), (3, .int x3), (4, .int x4), (5, .int x5)]) (fun _ => rfl) (fun x6_13 => ?_)
  refine g_goto (pc := 245) C 57 dX8_bestBrakes_245 (by decide) ?_
  exact g_sub [1, 2, 3, 4, 5, 0] rfl (hk57 x2 x3 x4 x5 x6_13 S)
set_option maxRecDepth 100000 in
set_option maxHeartbeats 4000000 in
theorem p_X8_bestBrakes_b240 {Γ : GA} {E : EV} (C : Cx Γ E RX8 cX8_bestBrakes 10 3 (some .int)) (M : Mx Γ E) (k57 : Int32 → Int32 → Int32 → Int32 → Int32 → St → Option (Int32 × St)) (hk57 : ∀ (x2 : Int32) (x3 : Int32) (x4 : Int32) (x5 : Int32) (x6 : Int32) (S : St), G Γ E (QI Γ E) 10 57 [(0, .ref (gX Γ 55)), (2, .int x2), (3, .int x3), (4, .int x4), (5, .int x5), (6, .int x6)] [] S (k57 x2 x3 x4 x5 x6 S)) (x2 : Int32) (x3 : Int32) (x4 : Int32) (x6 : Int32) (s0 : Int32) (S : St) : G Γ E (QI Γ E) 10 240 [(0, .ref (gX Γ 55)), (2, .int x2), (3, .int x3), (4, .int x4), (6, .int x6)] [.int s0] S (f_X8_bestBrakes_b240 k57 x2 x3 x4 x6 s0 S) := by
  rw [f_X8_bestBrakes_b240]
  refine g_istore0 (pc := 240) C dX8_bestBrakes_240 (by decide) (lv' := [(5, .int s0), (0, .ref (gX Γ 55)), (2, .int x2), (3, .int x3), (4, .int x4), (6, .int x6)]) rfl ?_
  exact g_sub [1, 2, 3, 4, 0, 5] rfl (p_X8_bestBrakes_b242 C M k57 hk57 x2 x3 x4 s0 x6 S)
set_option maxRecDepth 100000 in
set_option maxHeartbeats 4000000 in
theorem p_X8_bestBrakes_b224 {Γ : GA} {E : EV} (C : Cx Γ E RX8 cX8_bestBrakes 10 3 (some .int)) (M : Mx Γ E) (k57 : Int32 → Int32 → Int32 → Int32 → Int32 → St → Option (Int32 × St)) (hk57 : ∀ (x2 : Int32) (x3 : Int32) (x4 : Int32) (x5 : Int32) (x6 : Int32) (S : St), G Γ E (QI Γ E) 10 57 [(0, .ref (gX Γ 55)), (2, .int x2), (3, .int x3), (4, .int x4), (5, .int x5), (6, .int x6)] [] S (k57 x2 x3 x4 x5 x6 S)) (x2 : Int32) (x3 : Int32) (x5 : Int32) (x6 : Int32) (x8 : Int32) (s0 : Int32) (S : St) : G Γ E (QI Γ E) 10 224 [(0, .ref (gX Γ 55)), (2, .int x2), (3, .int x3), (5, .int x5), (6, .int x6), (8, .int x8)] [.int s0] S (f_X8_bestBrakes_b224 k57 x2 x3 x5 x6 x8 s0 S) := by
  rw [f_X8_bestBrakes_b224]
  refine g_istore0 (pc := 224) C dX8_bestBrakes_224 (by decide) (lv' := [(4, .int s0), (0, .ref (gX Γ 55)), (2, .int x2), (3, .int x3), (5, .int x5), (6, .int x6), (8, .int x8)]) rfl ?_
  refine g_iload (pc := 226) C dX8_bestBrakes_226 6 rfl ?_
  refine g_if_eq (pc := 228) C 238 dX8_bestBrakes_228 (by decide) ?_ ?_
  · refine g_iload (pc := 238) C dX8_bestBrakes_238 4 rfl ?_
    exact g_sub [1, 2, 3, 0, 5] rfl (p_X8_bestBrakes_b240 C M k57 hk57 x2 x3 s0 x6 x5 S)
  · refine g_aload_n (pc := 231) C dX8_bestBrakes_231 1 rfl rfl ?_
    refine g_getI (pc := 232) C lk_X8_162 fi_55_24 dX8_bestBrakes_232 ?_
    refine g_goto (pc := 235) C 240 dX8_bestBrakes_235 (by decide) ?_
    exact g_sub [1, 2, 3, 0, 5] rfl (p_X8_bestBrakes_b240 C M k57 hk57 x2 x3 s0 x6 (S 55 24) S)
set_option maxRecDepth 100000 in
set_option maxHeartbeats 4000000 in
theorem p_X8_bestBrakes_b210 {Γ : GA} {E : EV} (C : Cx Γ E RX8 cX8_bestBrakes 10 3 (some .int)) (M : Mx Γ E) (k57 : Int32 → Int32 → Int32 → Int32 → Int32 → St → Option (Int32 × St)) (hk57 : ∀ (x2 : Int32) (x3 : Int32) (x4 : Int32) (x5 : Int32) (x6 : Int32) (S : St), G Γ E (QI Γ E) 10 57 [(0, .ref (gX Γ 55)), (2, .int x2), (3, .int x3), (4, .int x4), (5, .int x5), (6, .int x6)] [] S (k57 x2 x3 x4 x5 x6 S)) (x2 : Int32) (x3 : Int32) (x4 : Int32) (x5 : Int32) (x6 : Int32) (s0 : Int32) (S : St) : G Γ E (QI Γ E) 10 210 [(0, .ref (gX Γ 55)), (2, .int x2), (3, .int x3), (4, .int x4), (5, .int x5), (6, .int x6)] [.int s0] S (f_X8_bestBrakes_b210 k57 x2 x3 x4 x5 x6 s0 S) := by
  rw [f_X8_bestBrakes_b210]
  refine g_istore0 (pc := 210) C dX8_bestBrakes_210 (by decide) (lv' := [(8, .int s0), (0, .ref (gX Γ 55)), (2, .int x2), (3, .int x3), (4, .int x4), (5, .int x5), (6, .int x6)]) rfl ?_
  refine g_iload (pc := 212) C dX8_bestBrakes_212 0 rfl ?_
  refine g_if_eq (pc := 214) C 222 dX8_bestBrakes_214 (by decide) ?_ ?_
  · refine g_iload (pc := 222) C dX8_bestBrakes_222 4 rfl ?_
    exact g_sub [1, 2, 3, 5, 6, 0] rfl (p_X8_bestBrakes_b224 C M k57 hk57 x2 x3 x5 x6 s0 x4 S)
  · refine g_iload (pc := 217) C dX8_bestBrakes_217 6 rfl ?_
    refine g_goto (pc := 219) C 224 dX8_bestBrakes_219 (by decide) ?_
    exact g_sub [1, 2, 3, 5, 6, 0] rfl (p_X8_bestBrakes_b224 C M k57 hk57 x2 x3 x5 x6 s0 x6 S)
set_option maxRecDepth 100000 in
set_option maxHeartbeats 4000000 in
theorem p_X8_bestBrakes_b205 {Γ : GA} {E : EV} (C : Cx Γ E RX8 cX8_bestBrakes 10 3 (some .int)) (M : Mx Γ E) (k57 : Int32 → Int32 → Int32 → Int32 → Int32 → St → Option (Int32 × St)) (hk57 : ∀ (x2 : Int32) (x3 : Int32) (x4 : Int32) (x5 : Int32) (x6 : Int32) (S : St), G Γ E (QI Γ E) 10 57 [(0, .ref (gX Γ 55)), (2, .int x2), (3, .int x3), (4, .int x4), (5, .int x5), (6, .int x6)] [] S (k57 x2 x3 x4 x5 x6 S)) (x2 : Int32) (x3 : Int32) (x4 : Int32) (x5 : Int32) (x6 : Int32) (S : St) : G Γ E (QI Γ E) 10 205 [(0, .ref (gX Γ 55)), (2, .int x2), (3, .int x3), (4, .int x4), (5, .int x5), (6, .int x6)] [] S (f_X8_bestBrakes_b205 k57 x2 x3 x4 x5 x6 S) := by
  rw [f_X8_bestBrakes_b205]
  refine g_iconst (pc := 205) C (v := 1) dX8_bestBrakes_205 (by decide) ?_
  refine g_goto (pc := 206) C 210 dX8_bestBrakes_206 (by decide) ?_
  exact g_sub [0, 1, 2, 3, 4, 5] rfl (p_X8_bestBrakes_b210 C M k57 hk57 x2 x3 x4 x5 x6 1 S)
set_option maxRecDepth 100000 in
set_option maxHeartbeats 4000000 in
theorem p_X8_bestBrakes_b209 {Γ : GA} {E : EV} (C : Cx Γ E RX8 cX8_bestBrakes 10 3 (some .int)) (M : Mx Γ E) (k57 : Int32 → Int32 → Int32 → Int32 → Int32 → St → Option (Int32 × St)) (hk57 : ∀ (x2 : Int32) (x3 : Int32) (x4 : Int32) (x5 : Int32) (x6 : Int32) (S : St), G Γ E (QI Γ E) 10 57 [(0, .ref (gX Γ 55)), (2, .int x2), (3, .int x3), (4, .int x4), (5, .int x5), (6, .int x6)] [] S (k57 x2 x3 x4 x5 x6 S)) (x2 : Int32) (x3 : Int32) (x4 : Int32) (x5 : Int32) (x6 : Int32) (S : St) : G Γ E (QI Γ E) 10 209 [(0, .ref (gX Γ 55)), (2, .int x2), (3, .int x3), (4, .int x4), (5, .int x5), (6, .int x6)] [] S (f_X8_bestBrakes_b209 k57 x2 x3 x4 x5 x6 S) := by
  rw [f_X8_bestBrakes_b209]
  refine g_iconst (pc := 209) C (v := 0) dX8_bestBrakes_209 (by decide) ?_
  exact g_sub [0, 1, 2, 3, 4, 5] rfl (p_X8_bestBrakes_b210 C M k57 hk57 x2 x3 x4 x5 x6 0 S)
set_option maxRecDepth 100000 in
set_option maxHeartbeats 4000000 in
theorem p_X8_bestBrakes_b167 {Γ : GA} {E : EV} (C : Cx Γ E RX8 cX8_bestBrakes 10 3 (some .int)) (M : Mx Γ E) (k57 : Int32 → Int32 → Int32 → Int32 → Int32 → St → Option (Int32 × St)) (hk57 : ∀ (x2 : Int32) (x3 : Int32) (x4 : Int32) (x5 : Int32) (x6 : Int32) (S : St), G Γ E (QI Γ E) 10 57 [(0, .ref (gX Γ 55)), (2, .int x2), (3, .int x3), (4, .int x4), (5, .int x5), (6, .int x6)] [] S (k57 x2 x3 x4 x5 x6 S)) (k95 : Int32 → Int32 → Int32 → Int32 → Int32 → Int32 → Int32 → St → Option (Int32 × St)) (hk95 : ∀ (x2 : Int32) (x3 : Int32) (x4 : Int32) (x5 : Int32) (x6 : Int32) (x7 : Int32) (x8 : Int32) (S : St), G Γ E (QI Γ E) 10 95 [(0, .ref (gX Γ 55)), (2, .int x2), (3, .int x3), (4, .int x4), (5, .int x5), (6, .int x6), (7, .int x7), (8, .int x8)] [] S (k95 x2 x3 x4 x5 x6 x7 x8 S)) (x2 : Int32) (x3 : Int32) (x4 : Int32) (x5 : Int32) (x6 : Int32) (x7 : Int32) (x8 : Int32) (S : St) : G Γ E (QI Γ E) 10 167 [(0, .ref (gX Γ 55)), (2, .int x2), (3, .int x3), (4, .int x4), (5, .int x5), (6, .int x6), (7, .int x7), (8, .int x8)] [] S (f_X8_bestBrakes_b167 k57 k95 x2 x3 x4 x5 x6 x7 x8 S) := by
  rw [f_X8_bestBrakes_b167]
  refine g_iinc (pc := 167) C (v := 1) dX8_bestBrakes_167 7 rfl (by decide) (by decide) (fun x => [(8, .int x), (0, .ref (gX Γ 55)), (2, .int x2), (3, .int x3), (4, .int x4), (5, .int x5), (6, .int x6), (7, .int x7)]) (fun _ => rfl) (fun x8_19 => ?_)
  refine g_goto (pc := 170) C 95 dX8_bestBrakes_170 (by decide) ?_
  exact g_sub [1, 2, 3, 4, 5, 6, 7, 0] rfl (hk95 x2 x3 x4 x5 x6 x7 x8_19 S)
set_option maxRecDepth 100000 in
set_option maxHeartbeats 4000000 in
theorem p_X8_bestBrakes_b139 {Γ : GA} {E : EV} (C : Cx Γ E RX8 cX8_bestBrakes 10 3 (some .int)) (M : Mx Γ E) (k57 : Int32 → Int32 → Int32 → Int32 → Int32 → St → Option (Int32 × St)) (hk57 : ∀ (x2 : Int32) (x3 : Int32) (x4 : Int32) (x5 : Int32) (x6 : Int32) (S : St), G Γ E (QI Γ E) 10 57 [(0, .ref (gX Γ 55)), (2, .int x2), (3, .int x3), (4, .int x4), (5, .int x5), (6, .int x6)] [] S (k57 x2 x3 x4 x5 x6 S)) (k95 : Int32 → Int32 → Int32 → Int32 → Int32 → Int32 → Int32 → St → Option (Int32 × St)) (hk95 : ∀ (x2 : Int32) (x3 : Int32) (x4 : Int32) (x5 : Int32) (x6 : Int32) (x7 : Int32) (x8 : Int32) (S : St), G Γ E (QI Γ E) 10 95 [(0, .ref (gX Γ 55)), (2, .int x2), (3, .int x3), (4, .int x4), (5, .int x5), (6, .int x6), (7, .int x7), (8, .int x8)] [] S (k95 x2 x3 x4 x5 x6 x7 x8 S)) (x2 : Int32) (x3 : Int32) (x4 : Int32) (x5 : Int32) (x6 : Int32) (x8 : Int32) (x9 : Int32) (s0 : Int32) (S : St) : G Γ E (QI Γ E) 10 139 [(0, .ref (gX Γ 55)), (2, .int x2), (3, .int x3), (4, .int x4), (5, .int x5), (6, .int x6), (8, .int x8), (9, .int x9)] [.int s0] S (f_X8_bestBrakes_b139 k57 k95 x2 x3 x4 x5 x6 x8 x9 s0 S) := by
  rw [f_X8_bestBrakes_b139]
  refine g_istore0 (pc := 139) C dX8_bestBrakes_139 (by decide) (lv' := [(7, .int s0), (0, .ref (gX Γ 55)), (2, .int x2), (3, .int x3), (4, .int x4), (5, .int x5), (6, .int x6), (8, .int x8), (9, .int x9)]) rfl ?_
  refine g_aload_n (pc := 141) C dX8_bestBrakes_141 1 rfl rfl ?_
  refine g_iload (pc := 142) C dX8_bestBrakes_142 7 rfl ?_
  refine g_callVI (pc := 144) (As := [.int x8]) (st := []) C lv_X8_203 fo_55 rfl (ct_X8_isBraked x8 S) (by decide) rfl rfl (Nat.le_of_ble_eq_true rfl) dX8_bestBrakes_144 (fun r_18 S_17 => ?_)
  refine g_if_eq (pc := 147) C 167 dX8_bestBrakes_147 (by decide) ?_ ?_
  · exact g_sub [1, 2, 3, 4, 5, 6, 0, 7] rfl (p_X8_bestBrakes_b167 C M k57 hk57 k95 hk95 x2 x3 x4 x5 x6 s0 x8 S_17)
  · refine g_aload_n (pc := 150) C dX8_bestBrakes_150 1 rfl rfl ?_
    refine g_getR (pc := 151) C lk_X8_43 fr_55_21 dX8_bestBrakes_151 ?_
    refine g_aload_n (pc := 154) C dX8_bestBrakes_154 1 rfl rfl ?_
    refine g_iload (pc := 155) C dX8_bestBrakes_155 7 rfl ?_
    refine g_callVI (pc := 157) (As := [.int x8]) (st := [.ref (gX Γ 67)]) C lv_X8_198 fo_55 rfl (ct_X8_bendAt x8 S_17) (by decide) rfl rfl (Nat.le_of_ble_eq_true rfl) dX8_bestBrakes_157 (fun r_21 S_20 => ?_)
    refine g_iconst (pc := 160) C (v := 1) dX8_bestBrakes_160 (by decide) ?_
    refine g_isub (pc := 161) C dX8_bestBrakes_161 ?_
    refine g_iconst (pc := 162) C (v := 3) dX8_bestBrakes_162 (by decide) ?_
    refine g_iload (pc := 163) C dX8_bestBrakes_163 8 rfl ?_
    refine g_imul (pc := 165) C dX8_bestBrakes_165 ?_
    refine g_iast (pc := 166) C ai_67 dX8_bestBrakes_166 (fun S_22 => ?_)
    exact g_sub [1, 2, 3, 4, 5, 6, 0, 7] rfl (p_X8_bestBrakes_b167 C M k57 hk57 k95 hk95 x2 x3 x4 x5 x6 s0 x8 S_22)
set_option maxRecDepth 100000 in
set_option maxHeartbeats 4000000 in
theorem p_X8_bestBrakes_b138 {Γ : GA} {E : EV} (C : Cx Γ E RX8 cX8_bestBrakes 10 3 (some .int)) (M : Mx Γ E) (k57 : Int32 → Int32 → Int32 → Int32 → Int32 → St → Option (Int32 × St)) (hk57 : ∀ (x2 : Int32) (x3 : Int32) (x4 : Int32) (x5 : Int32) (x6 : Int32) (S : St), G Γ E (QI Γ E) 10 57 [(0, .ref (gX Γ 55)), (2, .int x2), (3, .int x3), (4, .int x4), (5, .int x5), (6, .int x6)] [] S (k57 x2 x3 x4 x5 x6 S)) (k95 : Int32 → Int32 → Int32 → Int32 → Int32 → Int32 → Int32 → St → Option (Int32 × St)) (hk95 : ∀ (x2 : Int32) (x3 : Int32) (x4 : Int32) (x5 : Int32) (x6 : Int32) (x7 : Int32) (x8 : Int32) (S : St), G Γ E (QI Γ E) 10 95 [(0, .ref (gX Γ 55)), (2, .int x2), (3, .int x3), (4, .int x4), (5, .int x5), (6, .int x6), (7, .int x7), (8, .int x8)] [] S (k95 x2 x3 x4 x5 x6 x7 x8 S)) (x2 : Int32) (x3 : Int32) (x4 : Int32) (x5 : Int32) (x6 : Int32) (x8 : Int32) (x9 : Int32) (S : St) : G Γ E (QI Γ E) 10 138 [(0, .ref (gX Γ 55)), (2, .int x2), (3, .int x3), (4, .int x4), (5, .int x5), (6, .int x6), (8, .int x8), (9, .int x9)] [] S (f_X8_bestBrakes_b138 k57 k95 x2 x3 x4 x5 x6 x8 x9 S) := by
  rw [f_X8_bestBrakes_b138]
  refine g_iconst (pc := 138) C (v := 0) dX8_bestBrakes_138 (by decide) ?_
  exact g_sub [0, 1, 2, 3, 4, 5, 6, 7] rfl (p_X8_bestBrakes_b139 C M k57 hk57 k95 hk95 x2 x3 x4 x5 x6 x8 x9 0 S)
set_option maxRecDepth 100000 in
set_option maxHeartbeats 4000000 in
theorem p_X8_bestBrakes_b134 {Γ : GA} {E : EV} (C : Cx Γ E RX8 cX8_bestBrakes 10 3 (some .int)) (M : Mx Γ E) (k57 : Int32 → Int32 → Int32 → Int32 → Int32 → St → Option (Int32 × St)) (hk57 : ∀ (x2 : Int32) (x3 : Int32) (x4 : Int32) (x5 : Int32) (x6 : Int32) (S : St), G Γ E (QI Γ E) 10 57 [(0, .ref (gX Γ 55)), (2, .int x2), (3, .int x3), (4, .int x4), (5, .int x5), (6, .int x6)] [] S (k57 x2 x3 x4 x5 x6 S)) (k95 : Int32 → Int32 → Int32 → Int32 → Int32 → Int32 → Int32 → St → Option (Int32 × St)) (hk95 : ∀ (x2 : Int32) (x3 : Int32) (x4 : Int32) (x5 : Int32) (x6 : Int32) (x7 : Int32) (x8 : Int32) (S : St), G Γ E (QI Γ E) 10 95 [(0, .ref (gX Γ 55)), (2, .int x2), (3, .int x3), (4, .int x4), (5, .int x5), (6, .int x6), (7, .int x7), (8, .int x8)] [] S (k95 x2 x3 x4 x5 x6 x7 x8 S)) (x2 : Int32) (x3 : Int32) (x4 : Int32) (x5 : Int32) (x6 : Int32) (x8 : Int32) (x9 : Int32) (S : St) : G Γ E (QI Γ E) 10 134 [(0, .ref (gX Γ 55)), (2, .int x2), (3, .int x3), (4, .int x4), (5, .int x5), (6, .int x6), (8, .int x8), (9, .int x9)] [] S (f_X8_bestBrakes_b134 k57 k95 x2 x3 x4 x5 x6 x8 x9 S) := by
  rw [f_X8_bestBrakes_b134]
  refine g_iconst (pc := 134) C (v := 1) dX8_bestBrakes_134 (by decide) ?_
  refine g_goto (pc := 135) C 139 dX8_bestBrakes_135 (by decide) ?_
  exact g_sub [0, 1, 2, 3, 4, 5, 6, 7] rfl (p_X8_bestBrakes_b139 C M k57 hk57 k95 hk95 x2 x3 x4 x5 x6 x8 x9 1 S)
set_option maxRecDepth 100000 in
set_option maxHeartbeats 4000000 in
theorem p_X8_bestBrakes_l95 {Γ : GA} {E : EV} (C : Cx Γ E RX8 cX8_bestBrakes 10 3 (some .int)) (M : Mx Γ E) (k57 : Int32 → Int32 → Int32 → Int32 → Int32 → St → Option (Int32 × St)) (hk57 : ∀ (x2 : Int32) (x3 : Int32) (x4 : Int32) (x5 : Int32) (x6 : Int32) (S : St), G Γ E (QI Γ E) 10 57 [(0, .ref (gX Γ 55)), (2, .int x2), (3, .int x3), (4, .int x4), (5, .int x5), (6, .int x6)] [] S (k57 x2 x3 x4 x5 x6 S)) : ∀ (n : Nat) (x2 : Int32) (x3 : Int32) (x4 : Int32) (x5 : Int32) (x6 : Int32) (x7 : Int32) (x8 : Int32) (S : St), G Γ E (QI Γ E) 10 95 [(0, .ref (gX Γ 55)), (2, .int x2), (3, .int x3), (4, .int x4), (5, .int x5), (6, .int x6), (7, .int x7), (8, .int x8)] [] S (f_X8_bestBrakes_l95 k57 n x2 x3 x4 x5 x6 x7 x8 S) := by
  intro n
  induction n with
  | zero => intro x2 x3 x4 x5 x6 x7 x8 S; exact g_none
  | succ n ih =>
    intro x2 x3 x4 x5 x6 x7 x8 S
    rw [f_X8_bestBrakes_l95]
    refine g_iload (pc := 95) C dX8_bestBrakes_95 7 rfl ?_
    refine g_iconst (pc := 97) C (v := 4) dX8_bestBrakes_97 (by decide) ?_
    refine g_icmp_ge (pc := 98) C 173 dX8_bestBrakes_98 (by decide) ?_ ?_
    · refine g_iload (pc := 173) C dX8_bestBrakes_173 6 rfl ?_
      refine g_if_eq (pc := 175) C 242 dX8_bestBrakes_175 (by decide) ?_ ?_
      · exact g_sub [0, 1, 2, 3, 4, 5] rfl (p_X8_bestBrakes_b242 C M k57 hk57 x2 x3 x4 x5 x6 S)
      · refine g_aload_n (pc := 178) C dX8_bestBrakes_178 0 rfl rfl ?_
        refine g_iload_n (pc := 179) C dX8_bestBrakes_179 1 rfl rfl ?_
        refine g_callVV (pc := 180) (As := [.int x2]) (st := []) C lv_X8_195 fo_55 rfl (ct_X8_go x2 S) (by decide) rfl rfl (Nat.le_of_ble_eq_true rfl) dX8_bestBrakes_180 (fun r_15 S_14 => ?_)
        refine g_aload_n (pc := 183) C dX8_bestBrakes_183 0 rfl rfl ?_
        refine g_getI (pc := 184) C lk_X8_165 fi_55_22 dX8_bestBrakes_184 ?_
        refine g_if_ne (pc := 187) C 209 dX8_bestBrakes_187 (by decide) ?_ ?_
        · refine g_iload (pc := 190) C dX8_bestBrakes_190 3 rfl ?_
          refine g_iconst (pc := 192) C (v := (-1)) dX8_bestBrakes_192 (by decide) ?_
          refine g_icmp_eq (pc := 193) C 205 dX8_bestBrakes_193 (by decide) ?_ ?_
          · exact g_sub [0, 1, 2, 3, 4, 5] rfl (p_X8_bestBrakes_b205 C M k57 hk57 x2 x3 x4 x5 x6 S_14)
          · refine g_aload_n (pc := 196) C dX8_bestBrakes_196 0 rfl rfl ?_
            refine g_getI (pc := 197) C lk_X8_162 fi_55_24 dX8_bestBrakes_197 ?_
            refine g_iload (pc := 200) C dX8_bestBrakes_200 4 rfl ?_
            refine g_icmp_ge (pc := 202) C 209 dX8_bestBrakes_202 (by decide) ?_ ?_
            · exact g_sub [0, 1, 2, 3, 4, 5] rfl (p_X8_bestBrakes_b209 C M k57 hk57 x2 x3 x4 x5 x6 S_14)
            · exact g_sub [0, 1, 2, 3, 4, 5] rfl (p_X8_bestBrakes_b205 C M k57 hk57 x2 x3 x4 x5 x6 S_14)
        · exact g_sub [0, 1, 2, 3, 4, 5] rfl (p_X8_bestBrakes_b209 C M k57 hk57 x2 x3 x4 x5 x6 S_14)
    · refine g_iload (pc := 101) C dX8_bestBrakes_101 5 rfl ?_
      refine g_bipush (pc := 103) C (v := 6) dX8_bestBrakes_103 (by decide) ?_
      refine g_iconst (pc := 105) C (v := 2) dX8_bestBrakes_105 (by decide) ?_
      refine g_iload (pc := 106) C dX8_bestBrakes_106 7 rfl ?_
      refine g_imul (pc := 108) C dX8_bestBrakes_108 ?_
      refine g_isub (pc := 109) C dX8_bestBrakes_109 ?_
      refine g_ishr (pc := 110) C dX8_bestBrakes_110 ?_
      refine g_iconst (pc := 111) C (v := 3) dX8_bestBrakes_111 (by decide) ?_
      refine g_iand (pc := 112) C dX8_bestBrakes_112 ?_
      refine g_istore (pc := 113) C dX8_bestBrakes_113 (by decide) (fun x => [(9, .int x), (0, .ref (gX Γ 55)), (2, .int x2), (3, .int x3), (4, .int x4), (5, .int x5), (6, .int x6), (7, .int x7), (8, .int x8)]) (fun _ => rfl) (fun x9_16 => ?_)
      refine g_iload (pc := 115) C dX8_bestBrakes_115 7 rfl ?_
      refine g_if_eq (pc := 117) C 138 dX8_bestBrakes_117 (by decide) ?_ ?_
      · exact g_sub [1, 2, 3, 4, 5, 6, 8, 0] rfl (p_X8_bestBrakes_b138 C M k57 hk57 (f_X8_bestBrakes_l95 k57 n) ih x2 x3 x4 x5 x6 x8 x9_16 S)
      · refine g_iload (pc := 120) C dX8_bestBrakes_120 0 rfl ?_
        refine g_if_eq (pc := 122) C 134 dX8_bestBrakes_122 (by decide) ?_ ?_
        · exact g_sub [1, 2, 3, 4, 5, 6, 8, 0] rfl (p_X8_bestBrakes_b134 C M k57 hk57 (f_X8_bestBrakes_l95 k57 n) ih x2 x3 x4 x5 x6 x8 x9_16 S)
        · refine g_aload_n (pc := 125) C dX8_bestBrakes_125 1 rfl rfl ?_
          refine g_iload (pc := 126) C dX8_bestBrakes_126 8 rfl ?_
          refine g_callVI (pc := 128) (As := [.int x8]) (st := []) C lv_X8_203 fo_55 rfl (ct_X8_isBraked x8 S) (by decide) rfl rfl (Nat.le_of_ble_eq_true rfl) dX8_bestBrakes_128 (fun r_24 S_23 => ?_)
          refine g_if_eq (pc := 131) C 138 dX8_bestBrakes_131 (by decide) ?_ ?_
          · exact g_sub [1, 2, 3, 4, 5, 6, 8, 0] rfl (p_X8_bestBrakes_b138 C M k57 hk57 (f_X8_bestBrakes_l95 k57 n) ih x2 x3 x4 x5 x6 x8 x9_16 S_23)
          · exact g_sub [1, 2, 3, 4, 5, 6, 8, 0] rfl (p_X8_bestBrakes_b134 C M k57 hk57 (f_X8_bestBrakes_l95 k57 n) ih x2 x3 x4 x5 x6 x8 x9_16 S_23)
set_option maxRecDepth 100000 in
set_option maxHeartbeats 4000000 in
theorem p_X8_bestBrakes_l71 {Γ : GA} {E : EV} (C : Cx Γ E RX8 cX8_bestBrakes 10 3 (some .int)) (M : Mx Γ E) (k57 : Int32 → Int32 → Int32 → Int32 → Int32 → St → Option (Int32 × St)) (hk57 : ∀ (x2 : Int32) (x3 : Int32) (x4 : Int32) (x5 : Int32) (x6 : Int32) (S : St), G Γ E (QI Γ E) 10 57 [(0, .ref (gX Γ 55)), (2, .int x2), (3, .int x3), (4, .int x4), (5, .int x5), (6, .int x6)] [] S (k57 x2 x3 x4 x5 x6 S)) : ∀ (n : Nat) (x2 : Int32) (x3 : Int32) (x4 : Int32) (x5 : Int32) (x6 : Int32) (x7 : Int32) (x8 : Int32) (S : St), G Γ E (QI Γ E) 10 71 [(0, .ref (gX Γ 55)), (2, .int x2), (3, .int x3), (4, .int x4), (5, .int x5), (6, .int x6), (7, .int x7), (8, .int x8)] [] S (f_X8_bestBrakes_l71 k57 n x2 x3 x4 x5 x6 x7 x8 S) := by
  intro n
  induction n with
  | zero => intro x2 x3 x4 x5 x6 x7 x8 S; exact g_none
  | succ n ih =>
    intro x2 x3 x4 x5 x6 x7 x8 S
    rw [f_X8_bestBrakes_l71]
    refine g_iload (pc := 71) C dX8_bestBrakes_71 7 rfl ?_
    refine g_bipush (pc := 73) C (v := 12) dX8_bestBrakes_73 (by decide) ?_
    refine g_icmp_ge (pc := 75) C 92 dX8_bestBrakes_75 (by decide) ?_ ?_
    · refine g_iconst (pc := 92) C (v := 0) dX8_bestBrakes_92 (by decide) ?_
      refine g_istore0 (pc := 93) C dX8_bestBrakes_93 (by decide) (lv' := [(8, .int 0), (0, .ref (gX Γ 55)), (2, .int x2), (3, .int x3), (4, .int x4), (5, .int x5), (6, .int x6), (7, .int x7)]) rfl ?_
      exact g_sub [1, 2, 3, 4, 5, 6, 7, 0] rfl (p_X8_bestBrakes_l95 C M k57 hk57 FU x2 x3 x4 x5 x6 x7 0 S)
    · refine g_aload_n (pc := 78) C dX8_bestBrakes_78 0 rfl rfl ?_
      refine g_getR (pc := 79) C lk_X8_43 fr_55_21 dX8_bestBrakes_79 ?_
      refine g_iload (pc := 82) C dX8_bestBrakes_82 7 rfl ?_
      refine g_iconst (pc := 84) C (v := 0) dX8_bestBrakes_84 (by decide) ?_
      refine g_iast (pc := 85) C ai_67 dX8_bestBrakes_85 (fun S_25 => ?_)
      refine g_iinc (pc := 86) C (v := 1) dX8_bestBrakes_86 7 rfl (by decide) (by decide) (fun x => [(8, .int x), (0, .ref (gX Γ 55)), (2, .int x2), (3, .int x3), (4, .int x4), (5, .int x5), (6, .int x6), (7, .int x7)]) (fun _ => rfl) (fun x8_26 => ?_)
      refine g_goto (pc := 89) C 71 dX8_bestBrakes_89 (by decide) ?_
      exact g_sub [1, 2, 3, 4, 5, 6, 7, 0] rfl (ih x2 x3 x4 x5 x6 x7 x8_26 S_25)
set_option maxRecDepth 100000 in
set_option maxHeartbeats 4000000 in
theorem p_X8_bestBrakes_l57 {Γ : GA} {E : EV} (C : Cx Γ E RX8 cX8_bestBrakes 10 3 (some .int)) (M : Mx Γ E) : ∀ (n : Nat) (x2 : Int32) (x3 : Int32) (x4 : Int32) (x5 : Int32) (x6 : Int32) (S : St), G Γ E (QI Γ E) 10 57 [(0, .ref (gX Γ 55)), (2, .int x2), (3, .int x3), (4, .int x4), (5, .int x5), (6, .int x6)] [] S (f_X8_bestBrakes_l57 n x2 x3 x4 x5 x6 S) := by
  intro n
  induction n with
  | zero => intro x2 x3 x4 x5 x6 S; exact g_none
  | succ n ih =>
    intro x2 x3 x4 x5 x6 S
    rw [f_X8_bestBrakes_l57]
    refine g_iload (pc := 57) C dX8_bestBrakes_57 5 rfl ?_
    refine g_sipush (pc := 59) C (v := 256) dX8_bestBrakes_59 (by decide) ?_
    refine g_icmp_ge (pc := 62) C 248 dX8_bestBrakes_62 (by decide) ?_ ?_
    · refine g_iload (pc := 248) C dX8_bestBrakes_248 3 rfl ?_
      refine g_iconst (pc := 250) C (v := (-1)) dX8_bestBrakes_250 (by decide) ?_
      refine g_icmp_eq (pc := 251) C 258 dX8_bestBrakes_251 (by decide) ?_ ?_
      · exact g_sub [3, 4] rfl (p_X8_bestBrakes_b258 C M x4 x5 S)
      · refine g_iload_n (pc := 254) C dX8_bestBrakes_254 2 rfl rfl ?_
        refine g_if_ne (pc := 255) C 271 dX8_bestBrakes_255 (by decide) ?_ ?_
        · exact g_sub [3, 4] rfl (p_X8_bestBrakes_b258 C M x4 x5 S)
        · refine g_aload_n (pc := 271) C dX8_bestBrakes_271 0 rfl rfl ?_
          refine g_iload_n (pc := 272) C dX8_bestBrakes_272 2 rfl rfl ?_
          refine g_iconst (pc := 273) C (v := 1) dX8_bestBrakes_273 (by decide) ?_
          refine g_isub (pc := 274) C dX8_bestBrakes_274 ?_
          refine g_callVI (pc := 275) (As := [.int (x3 - 1)]) (st := []) C lv_X8_203 fo_55 rfl (ct_X8_isBraked (x3 - 1) S) (by decide) rfl rfl (Nat.le_of_ble_eq_true rfl) dX8_bestBrakes_275 (fun r_12 S_11 => ?_)
          refine g_if_eq (pc := 278) C 297 dX8_bestBrakes_278 (by decide) ?_ ?_
          · refine g_iconst (pc := 297) C (v := (-1)) dX8_bestBrakes_297 (by decide) ?_
            exact g_iret C M dX8_bestBrakes_298
          · refine g_iconst (pc := 281) C (v := 3) dX8_bestBrakes_281 (by decide) ?_
            refine g_iload (pc := 282) C dX8_bestBrakes_282 3 rfl ?_
            refine g_bipush (pc := 284) C (v := 8) dX8_bestBrakes_284 (by decide) ?_
            refine g_iconst (pc := 286) C (v := 2) dX8_bestBrakes_286 (by decide) ?_
            refine g_iload_n (pc := 287) C dX8_bestBrakes_287 2 rfl rfl ?_
            refine g_imul (pc := 288) C dX8_bestBrakes_288 ?_
            refine g_isub (pc := 289) C dX8_bestBrakes_289 ?_
            refine g_ishr (pc := 290) C dX8_bestBrakes_290 ?_
            refine g_iconst (pc := 291) C (v := 3) dX8_bestBrakes_291 (by decide) ?_
            refine g_iand (pc := 292) C dX8_bestBrakes_292 ?_
            refine g_imul (pc := 293) C dX8_bestBrakes_293 ?_
            refine g_goto (pc := 294) C 298 dX8_bestBrakes_294 (by decide) ?_
            exact g_iret C M dX8_bestBrakes_298
    · refine g_iconst (pc := 65) C (v := 1) dX8_bestBrakes_65 (by decide) ?_
      refine g_istore0 (pc := 66) C dX8_bestBrakes_66 (by decide) (lv' := [(7, .int 1), (0, .ref (gX Γ 55)), (2, .int x2), (3, .int x3), (4, .int x4), (5, .int x5), (6, .int x6)]) rfl ?_
      refine g_iconst (pc := 68) C (v := 0) dX8_bestBrakes_68 (by decide) ?_
      refine g_istore0 (pc := 69) C dX8_bestBrakes_69 (by decide) (lv' := [(8, .int 0), (7, .int 1), (0, .ref (gX Γ 55)), (2, .int x2), (3, .int x3), (4, .int x4), (5, .int x5), (6, .int x6)]) rfl ?_
      exact g_sub [2, 3, 4, 5, 6, 7, 1, 0] rfl (p_X8_bestBrakes_l71 C M (f_X8_bestBrakes_l57 n) ih FU x2 x3 x4 x5 x6 1 0 S)
set_option maxRecDepth 100000 in
set_option maxHeartbeats 4000000 in
theorem p_X8_bestBrakes {Γ : GA} {E : EV} (C : Cx Γ E RX8 cX8_bestBrakes 10 3 (some .int)) (M : Mx Γ E) (x1 : Int32) (x2 : Int32) (x3 : Int32) (S : St) : G Γ E (QI Γ E) 10 0 [(0, .ref (gX Γ 55)), (1, .int x1), (2, .int x2), (3, .int x3)] [] S (f_X8_bestBrakes x1 x2 x3 S) := by
  rw [f_X8_bestBrakes]
  refine g_aload_n (pc := 0) C dX8_bestBrakes_0 0 rfl rfl ?_
  refine g_iload_n (pc := 1) C dX8_bestBrakes_1 1 rfl rfl ?_
  refine g_callVI (pc := 2) (As := [.int x1]) (st := []) C lv_X8_132 fo_55 rfl (ct_X8_isCart x1 S) (by decide) rfl rfl (Nat.le_of_ble_eq_true rfl) dX8_bestBrakes_2 (fun r_2 S_1 => ?_)
  refine g_if_ne (pc := 5) C 11 dX8_bestBrakes_5 (by decide) ?_ ?_
  · refine g_bipush (pc := 8) C (v := (-101)) dX8_bestBrakes_8 (by decide) ?_
    exact g_iret C M dX8_bestBrakes_10
  · refine g_aload_n (pc := 11) C dX8_bestBrakes_11 0 rfl rfl ?_
    refine g_callVI (pc := 12) (As := []) (st := []) C lv_X8_182 fo_55 rfl (ct_X8_lacks S_1) (by decide) rfl rfl (Nat.le_of_ble_eq_true rfl) dX8_bestBrakes_12 (fun r_4 S_3 => ?_)
    refine g_if_eq (pc := 15) C 21 dX8_bestBrakes_15 (by decide) ?_ ?_
    · refine g_iload_n (pc := 21) C dX8_bestBrakes_21 2 rfl rfl ?_
      refine g_callSI (pc := 22) (As := [.int x2]) (st := []) C ls_X8_186 (ct_X8_isSwing x2 S_3) (by decide) rfl rfl (Nat.le_of_ble_eq_true rfl) dX8_bestBrakes_22 (fun r_6 S_5 => ?_)
      refine g_if_eq (pc := 25) C 40 dX8_bestBrakes_25 (by decide) ?_ ?_
      · refine g_bipush (pc := 40) C (v := (-102)) dX8_bestBrakes_40 (by decide) ?_
        exact g_iret C M dX8_bestBrakes_42
      · refine g_iload_n (pc := 28) C dX8_bestBrakes_28 3 rfl rfl ?_
        refine g_i2l (pc := 29) C dX8_bestBrakes_29 ?_
        refine g_lconst (pc := 30) C (v := 0) dX8_bestBrakes_30 (by decide) ?_
        refine g_ldc2 (pc := 31) C kc_X8_201 dX8_bestBrakes_31 ?_
        refine g_callSI (pc := 34) (As := [.long ((x3 : Int32).toInt64), .long 0, .long 4]) (st := []) C ls_X8_89 (ct_X8_in ((x3 : Int32).toInt64) 0 4 S_5) (by decide) rfl rfl (Nat.le_of_ble_eq_true rfl) dX8_bestBrakes_34 (fun r_8 S_7 => ?_)
        refine g_if_ne (pc := 37) C 43 dX8_bestBrakes_37 (by decide) ?_ ?_
        · refine g_bipush (pc := 40) C (v := (-102)) dX8_bestBrakes_40 (by decide) ?_
          exact g_iret C M dX8_bestBrakes_42
        · refine g_aload_n (pc := 43) C dX8_bestBrakes_43 0 rfl rfl ?_
          refine g_iload_n (pc := 44) C dX8_bestBrakes_44 1 rfl rfl ?_
          refine g_callVV (pc := 45) (As := [.int x1]) (st := []) C lv_X8_191 fo_55 rfl (ct_X8_take x1 S_7) (by decide) rfl rfl (Nat.le_of_ble_eq_true rfl) dX8_bestBrakes_45 (fun r_10 S_9 => ?_)
          refine g_iconst (pc := 48) C (v := (-1)) dX8_bestBrakes_48 (by decide) ?_
          refine g_istore0 (pc := 49) C dX8_bestBrakes_49 (by decide) (lv' := [(4, .int (-1)), (0, .ref (gX Γ 55)), (1, .int x1), (2, .int x2), (3, .int x3)]) rfl ?_
          refine g_iconst (pc := 51) C (v := 0) dX8_bestBrakes_51 (by decide) ?_
          refine g_istore0 (pc := 52) C dX8_bestBrakes_52 (by decide) (lv' := [(5, .int 0), (4, .int (-1)), (0, .ref (gX Γ 55)), (1, .int x1), (2, .int x2), (3, .int x3)]) rfl ?_
          refine g_iconst (pc := 54) C (v := 0) dX8_bestBrakes_54 (by decide) ?_
          refine g_istore0 (pc := 55) C dX8_bestBrakes_55 (by decide) (lv' := [(6, .int 0), (5, .int 0), (4, .int (-1)), (0, .ref (gX Γ 55)), (1, .int x1), (2, .int x2), (3, .int x3)]) rfl ?_
          exact g_sub [3, 5, 6, 2, 1, 0] rfl (p_X8_bestBrakes_l57 C M FU x2 x3 (-1) 0 0 S_9)
    · refine g_bipush (pc := 18) C (v := (-103)) dX8_bestBrakes_18 (by decide) ?_
      exact g_iret C M dX8_bestBrakes_20
theorem ct_X8_bestBrakes {Γ : GA} (x1 : Int32) (x2 : Int32) (x3 : Int32) (S : St) : CtI Γ yX8_bestBrakes cX8_bestBrakes 10 (some .int) 3 [.ref (gX Γ 55), .int x1, .int x2, .int x3] S (f_X8_bestBrakes x1 x2 x3 S) :=
  ctI_of (by decide) (Nat.le_of_ble_eq_true rfl) (fun _ C M => p_X8_bestBrakes C M x1 x2 x3 S)
set_option maxRecDepth 100000 in
set_option maxHeartbeats 4000000 in
theorem p_X8_bestPush_b166 {Γ : GA} {E : EV} (C : Cx Γ E RX8 cX8_bestPush 9 3 (some .int)) (M : Mx Γ E) (x4 : Int32) (S : St) : G Γ E (QI Γ E) 9 166 [(4, .int x4)] [] S (f_X8_bestPush_b166 x4 S) := by
  rw [f_X8_bestPush_b166]
  refine g_iload (pc := 166) C dX8_bestPush_166 0 rfl ?_
  refine g_goto (pc := 168) C 173 dX8_bestPush_168 (by decide) ?_
  exact g_iret C M dX8_bestPush_173
set_option maxRecDepth 100000 in
set_option maxHeartbeats 4000000 in
theorem p_X8_bestPush_b148 {Γ : GA} {E : EV} (C : Cx Γ E RX8 cX8_bestPush 9 3 (some .int)) (M : Mx Γ E) (k60 : Int32 → Int32 → Int32 → Int32 → Int32 → St → Option (Int32 × St)) (hk60 : ∀ (x2 : Int32) (x3 : Int32) (x4 : Int32) (x5 : Int32) (x6 : Int32) (S : St), G Γ E (QI Γ E) 9 60 [(0, .ref (gX Γ 55)), (2, .int x2), (3, .int x3), (4, .int x4), (5, .int x5), (6, .int x6)] [] S (k60 x2 x3 x4 x5 x6 S)) (x2 : Int32) (x3 : Int32) (x4 : Int32) (x6 : Int32) (s0 : Int32) (S : St) : G Γ E (QI Γ E) 9 148 [(0, .ref (gX Γ 55)), (2, .int x2), (3, .int x3), (4, .int x4), (6, .int x6)] [.int s0] S (f_X8_bestPush_b148 k60 x2 x3 x4 x6 s0 S) := by
  rw [f_X8_bestPush_b148]
  refine g_istore0 (pc := 148) C dX8_bestPush_148 (by decide) (lv' := [(5, .int s0), (0, .ref (gX Γ 55)), (2, .int x2), (3, .int x3), (4, .int x4), (6, .int x6)]) rfl ?_
  refine g_iinc (pc := 150) C (v := 1) dX8_bestPush_150 5 rfl (by decide) (by decide) (fun x => [(6, .int x), (5, .int s0), (0, .ref (gX Γ 55)), (2, .int x2), (3, .int x3), (4, .int x4)]) (fun _ => rfl) (fun x6_14 => ?_)
  refine g_goto (pc := 153) C 60 dX8_bestPush_153 (by decide) ?_
  exact g_sub [2, 3, 4, 5, 1, 0] rfl (hk60 x2 x3 x4 s0 x6_14 S)
set_option maxRecDepth 100000 in
set_option maxHeartbeats 4000000 in
theorem p_X8_bestPush_b134 {Γ : GA} {E : EV} (C : Cx Γ E RX8 cX8_bestPush 9 3 (some .int)) (M : Mx Γ E) (k60 : Int32 → Int32 → Int32 → Int32 → Int32 → St → Option (Int32 × St)) (hk60 : ∀ (x2 : Int32) (x3 : Int32) (x4 : Int32) (x5 : Int32) (x6 : Int32) (S : St), G Γ E (QI Γ E) 9 60 [(0, .ref (gX Γ 55)), (2, .int x2), (3, .int x3), (4, .int x4), (5, .int x5), (6, .int x6)] [] S (k60 x2 x3 x4 x5 x6 S)) (x2 : Int32) (x3 : Int32) (x5 : Int32) (x6 : Int32) (x7 : Int32) (x8 : Int32) (s0 : Int32) (S : St) : G Γ E (QI Γ E) 9 134 [(0, .ref (gX Γ 55)), (2, .int x2), (3, .int x3), (5, .int x5), (6, .int x6), (7, .int x7), (8, .int x8)] [.int s0] S (f_X8_bestPush_b134 k60 x2 x3 x5 x6 x7 x8 s0 S) := by
  rw [f_X8_bestPush_b134]
  refine g_istore0 (pc := 134) C dX8_bestPush_134 (by decide) (lv' := [(4, .int s0), (0, .ref (gX Γ 55)), (2, .int x2), (3, .int x3), (5, .int x5), (6, .int x6), (7, .int x7), (8, .int x8)]) rfl ?_
  refine g_iload (pc := 136) C dX8_bestPush_136 7 rfl ?_
  refine g_if_eq (pc := 138) C 146 dX8_bestPush_138 (by decide) ?_ ?_
  · refine g_iload (pc := 146) C dX8_bestPush_146 4 rfl ?_
    exact g_sub [1, 2, 3, 0, 5] rfl (p_X8_bestPush_b148 C M k60 hk60 x2 x3 s0 x6 x5 S)
  · refine g_iload (pc := 141) C dX8_bestPush_141 6 rfl ?_
    refine g_goto (pc := 143) C 148 dX8_bestPush_143 (by decide) ?_
    exact g_sub [1, 2, 3, 0, 5] rfl (p_X8_bestPush_b148 C M k60 hk60 x2 x3 s0 x6 x7 S)
set_option maxRecDepth 100000 in
set_option maxHeartbeats 4000000 in
theorem p_X8_bestPush_b120 {Γ : GA} {E : EV} (C : Cx Γ E RX8 cX8_bestPush 9 3 (some .int)) (M : Mx Γ E) (k60 : Int32 → Int32 → Int32 → Int32 → Int32 → St → Option (Int32 × St)) (hk60 : ∀ (x2 : Int32) (x3 : Int32) (x4 : Int32) (x5 : Int32) (x6 : Int32) (S : St), G Γ E (QI Γ E) 9 60 [(0, .ref (gX Γ 55)), (2, .int x2), (3, .int x3), (4, .int x4), (5, .int x5), (6, .int x6)] [] S (k60 x2 x3 x4 x5 x6 S)) (x2 : Int32) (x3 : Int32) (x4 : Int32) (x5 : Int32) (x6 : Int32) (x7 : Int32) (s0 : Int32) (S : St) : G Γ E (QI Γ E) 9 120 [(0, .ref (gX Γ 55)), (2, .int x2), (3, .int x3), (4, .int x4), (5, .int x5), (6, .int x6), (7, .int x7)] [.int s0] S (f_X8_bestPush_b120 k60 x2 x3 x4 x5 x6 x7 s0 S) := by
  rw [f_X8_bestPush_b120]
  refine g_istore0 (pc := 120) C dX8_bestPush_120 (by decide) (lv' := [(8, .int s0), (0, .ref (gX Γ 55)), (2, .int x2), (3, .int x3), (4, .int x4), (5, .int x5), (6, .int x6), (7, .int x7)]) rfl ?_
  refine g_iload (pc := 122) C dX8_bestPush_122 0 rfl ?_
  refine g_if_eq (pc := 124) C 132 dX8_bestPush_124 (by decide) ?_ ?_
  · refine g_iload (pc := 132) C dX8_bestPush_132 4 rfl ?_
    exact g_sub [1, 2, 3, 5, 6, 7, 0] rfl (p_X8_bestPush_b134 C M k60 hk60 x2 x3 x5 x6 x7 s0 x4 S)
  · refine g_iload (pc := 127) C dX8_bestPush_127 6 rfl ?_
    refine g_goto (pc := 129) C 134 dX8_bestPush_129 (by decide) ?_
    exact g_sub [1, 2, 3, 5, 6, 7, 0] rfl (p_X8_bestPush_b134 C M k60 hk60 x2 x3 x5 x6 x7 s0 x6 S)
set_option maxRecDepth 100000 in
set_option maxHeartbeats 4000000 in
theorem p_X8_bestPush_b115 {Γ : GA} {E : EV} (C : Cx Γ E RX8 cX8_bestPush 9 3 (some .int)) (M : Mx Γ E) (k60 : Int32 → Int32 → Int32 → Int32 → Int32 → St → Option (Int32 × St)) (hk60 : ∀ (x2 : Int32) (x3 : Int32) (x4 : Int32) (x5 : Int32) (x6 : Int32) (S : St), G Γ E (QI Γ E) 9 60 [(0, .ref (gX Γ 55)), (2, .int x2), (3, .int x3), (4, .int x4), (5, .int x5), (6, .int x6)] [] S (k60 x2 x3 x4 x5 x6 S)) (x2 : Int32) (x3 : Int32) (x4 : Int32) (x5 : Int32) (x6 : Int32) (x7 : Int32) (S : St) : G Γ E (QI Γ E) 9 115 [(0, .ref (gX Γ 55)), (2, .int x2), (3, .int x3), (4, .int x4), (5, .int x5), (6, .int x6), (7, .int x7)] [] S (f_X8_bestPush_b115 k60 x2 x3 x4 x5 x6 x7 S) := by
  rw [f_X8_bestPush_b115]
  refine g_iconst (pc := 115) C (v := 1) dX8_bestPush_115 (by decide) ?_
  refine g_goto (pc := 116) C 120 dX8_bestPush_116 (by decide) ?_
  exact g_sub [0, 1, 2, 3, 4, 5, 6] rfl (p_X8_bestPush_b120 C M k60 hk60 x2 x3 x4 x5 x6 x7 1 S)
set_option maxRecDepth 100000 in
set_option maxHeartbeats 4000000 in
theorem p_X8_bestPush_b119 {Γ : GA} {E : EV} (C : Cx Γ E RX8 cX8_bestPush 9 3 (some .int)) (M : Mx Γ E) (k60 : Int32 → Int32 → Int32 → Int32 → Int32 → St → Option (Int32 × St)) (hk60 : ∀ (x2 : Int32) (x3 : Int32) (x4 : Int32) (x5 : Int32) (x6 : Int32) (S : St), G Γ E (QI Γ E) 9 60 [(0, .ref (gX Γ 55)), (2, .int x2), (3, .int x3), (4, .int x4), (5, .int x5), (6, .int x6)] [] S (k60 x2 x3 x4 x5 x6 S)) (x2 : Int32) (x3 : Int32) (x4 : Int32) (x5 : Int32) (x6 : Int32) (x7 : Int32) (S : St) : G Γ E (QI Γ E) 9 119 [(0, .ref (gX Γ 55)), (2, .int x2), (3, .int x3), (4, .int x4), (5, .int x5), (6, .int x6), (7, .int x7)] [] S (f_X8_bestPush_b119 k60 x2 x3 x4 x5 x6 x7 S) := by
  rw [f_X8_bestPush_b119]
  refine g_iconst (pc := 119) C (v := 0) dX8_bestPush_119 (by decide) ?_
  exact g_sub [0, 1, 2, 3, 4, 5, 6] rfl (p_X8_bestPush_b120 C M k60 hk60 x2 x3 x4 x5 x6 x7 0 S)
set_option maxRecDepth 100000 in
set_option maxHeartbeats 4000000 in
theorem p_X8_bestPush_l60 {Γ : GA} {E : EV} (C : Cx Γ E RX8 cX8_bestPush 9 3 (some .int)) (M : Mx Γ E) : ∀ (n : Nat) (x2 : Int32) (x3 : Int32) (x4 : Int32) (x5 : Int32) (x6 : Int32) (S : St), G Γ E (QI Γ E) 9 60 [(0, .ref (gX Γ 55)), (2, .int x2), (3, .int x3), (4, .int x4), (5, .int x5), (6, .int x6)] [] S (f_X8_bestPush_l60 n x2 x3 x4 x5 x6 S) := by
  intro n
  induction n with
  | zero => intro x2 x3 x4 x5 x6 S; exact g_none
  | succ n ih =>
    intro x2 x3 x4 x5 x6 S
    rw [f_X8_bestPush_l60]
    refine g_iload (pc := 60) C dX8_bestPush_60 5 rfl ?_
    refine g_bipush (pc := 62) C (v := 20) dX8_bestPush_62 (by decide) ?_
    refine g_icmp_gt (pc := 64) C 156 dX8_bestPush_64 (by decide) ?_ ?_
    · refine g_iload (pc := 156) C dX8_bestPush_156 3 rfl ?_
      refine g_iconst (pc := 158) C (v := (-1)) dX8_bestPush_158 (by decide) ?_
      refine g_icmp_eq (pc := 159) C 166 dX8_bestPush_159 (by decide) ?_ ?_
      · exact g_sub [3] rfl (p_X8_bestPush_b166 C M x4 S)
      · refine g_iload_n (pc := 162) C dX8_bestPush_162 2 rfl rfl ?_
        refine g_if_ne (pc := 163) C 171 dX8_bestPush_163 (by decide) ?_ ?_
        · exact g_sub [3] rfl (p_X8_bestPush_b166 C M x4 S)
        · refine g_iload (pc := 171) C dX8_bestPush_171 4 rfl ?_
          exact g_iret C M dX8_bestPush_173
    · refine g_aload_n (pc := 67) C dX8_bestPush_67 0 rfl rfl ?_
      refine g_iload (pc := 68) C dX8_bestPush_68 5 rfl ?_
      refine g_iload_n (pc := 70) C dX8_bestPush_70 1 rfl rfl ?_
      refine g_imul (pc := 71) C dX8_bestPush_71 ?_
      refine g_bipush (pc := 72) C (v := 10) dX8_bestPush_72 (by decide) ?_
      refine g_imul (pc := 74) C dX8_bestPush_74 ?_
      refine g_aload_n (pc := 75) C dX8_bestPush_75 0 rfl rfl ?_
      refine g_getI (pc := 76) C lk_X8_146 fi_55_17 dX8_bestPush_76 ?_
      refine g_idiv (pc := 79) C dX8_bestPush_79 ?_
      refine g_callVV (pc := 80) (As := [.int (((x6 * x2) * 10) / (S 55 17))]) (st := []) C lv_X8_195 fo_55 rfl (ct_X8_go (((x6 * x2) * 10) / (S 55 17)) S) (by decide) rfl rfl (Nat.le_of_ble_eq_true rfl) dX8_bestPush_80 (fun r_12 S_11 => ?_)
      refine g_aload_n (pc := 83) C dX8_bestPush_83 0 rfl rfl ?_
      refine g_getI (pc := 84) C lk_X8_162 fi_55_24 dX8_bestPush_84 ?_
      refine g_bipush (pc := 87) C (v := 60) dX8_bestPush_87 (by decide) ?_
      refine g_iload (pc := 89) C dX8_bestPush_89 5 rfl ?_
      refine g_imul (pc := 91) C dX8_bestPush_91 ?_
      refine g_iadd (pc := 92) C dX8_bestPush_92 ?_
      refine g_istore (pc := 93) C dX8_bestPush_93 (by decide) (fun x => [(7, .int x), (0, .ref (gX Γ 55)), (2, .int x2), (3, .int x3), (4, .int x4), (5, .int x5), (6, .int x6)]) (fun _ => rfl) (fun x7_13 => ?_)
      refine g_aload_n (pc := 95) C dX8_bestPush_95 1 rfl rfl ?_
      refine g_getI (pc := 96) C lk_X8_165 fi_55_22 dX8_bestPush_96 ?_
      refine g_if_ne (pc := 99) C 119 dX8_bestPush_99 (by decide) ?_ ?_
      · refine g_iload (pc := 102) C dX8_bestPush_102 4 rfl ?_
        refine g_iconst (pc := 104) C (v := (-1)) dX8_bestPush_104 (by decide) ?_
        refine g_icmp_eq (pc := 105) C 115 dX8_bestPush_105 (by decide) ?_ ?_
        · exact g_sub [1, 2, 3, 4, 5, 6, 0] rfl (p_X8_bestPush_b115 C M (f_X8_bestPush_l60 n) ih x2 x3 x4 x5 x6 x7_13 S_11)
        · refine g_iload (pc := 108) C dX8_bestPush_108 0 rfl ?_
          refine g_iload (pc := 110) C dX8_bestPush_110 5 rfl ?_
          refine g_icmp_ge (pc := 112) C 119 dX8_bestPush_112 (by decide) ?_ ?_
          · exact g_sub [1, 2, 3, 4, 5, 6, 0] rfl (p_X8_bestPush_b119 C M (f_X8_bestPush_l60 n) ih x2 x3 x4 x5 x6 x7_13 S_11)
          · exact g_sub [1, 2, 3, 4, 5, 6, 0] rfl (p_X8_bestPush_b115 C M (f_X8_bestPush_l60 n) ih x2 x3 x4 x5 x6 x7_13 S_11)
      · exact g_sub [1, 2, 3, 4, 5, 6, 0] rfl (p_X8_bestPush_b119 C M (f_X8_bestPush_l60 n) ih x2 x3 x4 x5 x6 x7_13 S_11)
set_option maxRecDepth 100000 in
set_option maxHeartbeats 4000000 in
theorem p_X8_bestPush {Γ : GA} {E : EV} (C : Cx Γ E RX8 cX8_bestPush 9 3 (some .int)) (M : Mx Γ E) (x1 : Int32) (x2 : Int32) (x3 : Int32) (S : St) : G Γ E (QI Γ E) 9 0 [(0, .ref (gX Γ 55)), (1, .int x1), (2, .int x2), (3, .int x3)] [] S (f_X8_bestPush x1 x2 x3 S) := by
  rw [f_X8_bestPush]
  refine g_aload_n (pc := 0) C dX8_bestPush_0 0 rfl rfl ?_
  refine g_iload_n (pc := 1) C dX8_bestPush_1 1 rfl rfl ?_
  refine g_callVI (pc := 2) (As := [.int x1]) (st := []) C lv_X8_132 fo_55 rfl (ct_X8_isCart x1 S) (by decide) rfl rfl (Nat.le_of_ble_eq_true rfl) dX8_bestPush_2 (fun r_2 S_1 => ?_)
  refine g_if_ne (pc := 5) C 11 dX8_bestPush_5 (by decide) ?_ ?_
  · refine g_bipush (pc := 8) C (v := (-101)) dX8_bestPush_8 (by decide) ?_
    exact g_iret C M dX8_bestPush_10
  · refine g_aload_n (pc := 11) C dX8_bestPush_11 0 rfl rfl ?_
    refine g_callVI (pc := 12) (As := []) (st := []) C lv_X8_182 fo_55 rfl (ct_X8_lacks S_1) (by decide) rfl rfl (Nat.le_of_ble_eq_true rfl) dX8_bestPush_12 (fun r_4 S_3 => ?_)
    refine g_if_eq (pc := 15) C 21 dX8_bestPush_15 (by decide) ?_ ?_
    · refine g_iload_n (pc := 21) C dX8_bestPush_21 2 rfl rfl ?_
      refine g_i2l (pc := 22) C dX8_bestPush_22 ?_
      refine g_lconst (pc := 23) C (v := 1) dX8_bestPush_23 (by decide) ?_
      refine g_ldc2 (pc := 24) C kc_X8_142 dX8_bestPush_24 ?_
      refine g_callSI (pc := 27) (As := [.long ((x2 : Int32).toInt64), .long 1, .long 99]) (st := []) C ls_X8_89 (ct_X8_in ((x2 : Int32).toInt64) 1 99 S_3) (by decide) rfl rfl (Nat.le_of_ble_eq_true rfl) dX8_bestPush_27 (fun r_6 S_5 => ?_)
      refine g_if_eq (pc := 30) C 43 dX8_bestPush_30 (by decide) ?_ ?_
      · refine g_bipush (pc := 43) C (v := (-102)) dX8_bestPush_43 (by decide) ?_
        exact g_iret C M dX8_bestPush_45
      · refine g_iload_n (pc := 33) C dX8_bestPush_33 3 rfl rfl ?_
        refine g_i2l (pc := 34) C dX8_bestPush_34 ?_
        refine g_lconst (pc := 35) C (v := 0) dX8_bestPush_35 (by decide) ?_
        refine g_lconst (pc := 36) C (v := 1) dX8_bestPush_36 (by decide) ?_
        refine g_callSI (pc := 37) (As := [.long ((x3 : Int32).toInt64), .long 0, .long 1]) (st := []) C ls_X8_89 (ct_X8_in ((x3 : Int32).toInt64) 0 1 S_5) (by decide) rfl rfl (Nat.le_of_ble_eq_true rfl) dX8_bestPush_37 (fun r_8 S_7 => ?_)
        refine g_if_ne (pc := 40) C 46 dX8_bestPush_40 (by decide) ?_ ?_
        · refine g_bipush (pc := 43) C (v := (-102)) dX8_bestPush_43 (by decide) ?_
          exact g_iret C M dX8_bestPush_45
        · refine g_aload_n (pc := 46) C dX8_bestPush_46 0 rfl rfl ?_
          refine g_iload_n (pc := 47) C dX8_bestPush_47 1 rfl rfl ?_
          refine g_callVV (pc := 48) (As := [.int x1]) (st := []) C lv_X8_191 fo_55 rfl (ct_X8_take x1 S_7) (by decide) rfl rfl (Nat.le_of_ble_eq_true rfl) dX8_bestPush_48 (fun r_10 S_9 => ?_)
          refine g_iconst (pc := 51) C (v := (-1)) dX8_bestPush_51 (by decide) ?_
          refine g_istore0 (pc := 52) C dX8_bestPush_52 (by decide) (lv' := [(4, .int (-1)), (0, .ref (gX Γ 55)), (1, .int x1), (2, .int x2), (3, .int x3)]) rfl ?_
          refine g_iconst (pc := 54) C (v := 0) dX8_bestPush_54 (by decide) ?_
          refine g_istore0 (pc := 55) C dX8_bestPush_55 (by decide) (lv' := [(5, .int 0), (4, .int (-1)), (0, .ref (gX Γ 55)), (1, .int x1), (2, .int x2), (3, .int x3)]) rfl ?_
          refine g_iconst (pc := 57) C (v := 0) dX8_bestPush_57 (by decide) ?_
          refine g_istore0 (pc := 58) C dX8_bestPush_58 (by decide) (lv' := [(6, .int 0), (5, .int 0), (4, .int (-1)), (0, .ref (gX Γ 55)), (1, .int x1), (2, .int x2), (3, .int x3)]) rfl ?_
          exact g_sub [3, 5, 6, 2, 1, 0] rfl (p_X8_bestPush_l60 C M FU x2 x3 (-1) 0 0 S_9)
    · refine g_bipush (pc := 18) C (v := (-103)) dX8_bestPush_18 (by decide) ?_
      exact g_iret C M dX8_bestPush_20
theorem ct_X8_bestPush {Γ : GA} (x1 : Int32) (x2 : Int32) (x3 : Int32) (S : St) : CtI Γ yX8_bestPush cX8_bestPush 9 (some .int) 3 [.ref (gX Γ 55), .int x1, .int x2, .int x3] S (f_X8_bestPush x1 x2 x3 S) :=
  ctI_of (by decide) (Nat.le_of_ble_eq_true rfl) (fun _ C M => p_X8_bestPush C M x1 x2 x3 S)
