set_option maxRecDepth 100000 in
set_option maxHeartbeats 4000000 in
theorem p_X6_goFlat_l20 {Γ : GA} {E : EV} (C : Cx Γ E RX6 cX6_goFlat 8 2 (some .int)) (M : Mx Γ E) (k6 : Int32 → Int32 → Int32 → Int32 → St → Option (Int32 × St)) (hk6 : ∀ (x2 : Int32) (x3 : Int32) (x4 : Int32) (x5 : Int32) (S : St), G Γ E (QI Γ E) 8 6 [(0, .ref (gX Γ 44)), (2, .int x2), (3, .int x3), (4, .int x4), (5, .int x5)] [] S (k6 x2 x3 x4 x5 S)) : ∀ (n : Nat) (x2 : Int32) (x3 : Int32) (x4 : Int32) (x5 : Int32) (x6 : Int32) (x7 : Int32) (S : St), G Γ E (QI Γ E) 8 20 [(0, .ref (gX Γ 44)), (2, .int x2), (3, .int x3), (4, .int x4), (5, .int x5), (6, .int x6), (7, .int x7)] [] S (f_X6_goFlat_l20 k6 n x2 x3 x4 x5 x6 x7 S) := by
  intro n
  induction n with
  | zero => intro x2 x3 x4 x5 x6 x7 S; exact g_none
  | succ n ih =>
    intro x2 x3 x4 x5 x6 x7 S
    rw [f_X6_goFlat_l20]
    refine g_iload (pc := 20) C dX6_goFlat_20 6 rfl ?_
    refine g_aload_n (pc := 22) C dX6_goFlat_22 0 rfl rfl ?_
    refine g_getI (pc := 23) C lk_X6_24 fi_44_5 dX6_goFlat_23 ?_
    refine g_icmp_ge (pc := 26) C 51 dX6_goFlat_26 (by decide) ?_ ?_
    · refine g_iload (pc := 51) C dX6_goFlat_51 3 rfl ?_
      refine g_iload (pc := 53) C dX6_goFlat_53 5 rfl ?_
      refine g_isub (pc := 55) C dX6_goFlat_55 ?_
      refine g_istore (pc := 56) C dX6_goFlat_56 (by decide) (fun x => [(4, .int x), (0, .ref (gX Γ 44)), (2, .int x2), (3, .int x3), (5, .int x5), (6, .int x6), (7, .int x7)]) (fun _ => rfl) (fun x4_2 => ?_)
      refine g_iload (pc := 58) C dX6_goFlat_58 0 rfl ?_
      refine g_if_gt (pc := 60) C 66 dX6_goFlat_60 (by decide) ?_ ?_
      · refine g_iload (pc := 66) C dX6_goFlat_66 5 rfl ?_
        refine g_if_ne (pc := 68) C 73 dX6_goFlat_68 (by decide) ?_ ?_
        · refine g_iload_n (pc := 71) C dX6_goFlat_71 3 rfl rfl ?_
          exact g_iret C M dX6_goFlat_72
        · refine g_iinc (pc := 73) C (v := 1) dX6_goFlat_73 4 rfl (by decide) (by decide) (fun x => [(5, .int x), (4, .int x4_2), (0, .ref (gX Γ 44)), (2, .int x2), (3, .int x3), (6, .int x6), (7, .int x7)]) (fun _ => rfl) (fun x5_3 => ?_)
          refine g_goto (pc := 76) C 6 dX6_goFlat_76 (by decide) ?_
          exact g_sub [2, 3, 4, 1, 0] rfl (hk6 x2 x3 x4_2 x5_3 S)
      · refine g_iload (pc := 63) C dX6_goFlat_63 4 rfl ?_
        exact g_iret C M dX6_goFlat_65
    · refine g_iload (pc := 29) C dX6_goFlat_29 5 rfl ?_
      refine g_aload_n (pc := 31) C dX6_goFlat_31 0 rfl rfl ?_
      refine g_iload (pc := 32) C dX6_goFlat_32 6 rfl ?_
      refine g_iload (pc := 34) C dX6_goFlat_34 3 rfl ?_
      refine g_iconst (pc := 36) C (v := 0) dX6_goFlat_36 (by decide) ?_
      refine g_iconst (pc := 37) C (v := 0) dX6_goFlat_37 (by decide) ?_
      refine g_iconst (pc := 38) C (v := 0) dX6_goFlat_38 (by decide) ?_
      refine g_callVI (pc := 39) (As := [.int x7, .int x4, .int 0, .int 0, .int 0]) (st := [.int x6]) C lv_X6_94 fo_44 rfl (ct_X6_takes x7 x4 0 0 0 S) (by decide) rfl rfl (Nat.le_of_ble_eq_true rfl) dX6_goFlat_39 (fun r_5 S_4 => ?_)
      refine g_iadd (pc := 42) C dX6_goFlat_42 ?_
      refine g_istore (pc := 43) C dX6_goFlat_43 (by decide) (fun x => [(6, .int x), (0, .ref (gX Γ 44)), (2, .int x2), (3, .int x3), (4, .int x4), (5, .int x5), (7, .int x7)]) (fun _ => rfl) (fun x6_6 => ?_)
      refine g_iinc (pc := 45) C (v := 1) dX6_goFlat_45 6 rfl (by decide) (by decide) (fun x => [(7, .int x), (6, .int x6_6), (0, .ref (gX Γ 44)), (2, .int x2), (3, .int x3), (4, .int x4), (5, .int x5)]) (fun _ => rfl) (fun x7_7 => ?_)
      refine g_goto (pc := 48) C 20 dX6_goFlat_48 (by decide) ?_
      exact g_sub [2, 3, 4, 5, 6, 1, 0] rfl (ih x2 x3 x4 x5 x6_6 x7_7 S_4)
set_option maxRecDepth 100000 in
set_option maxHeartbeats 4000000 in
theorem p_X6_goFlat_l6 {Γ : GA} {E : EV} (C : Cx Γ E RX6 cX6_goFlat 8 2 (some .int)) (M : Mx Γ E) : ∀ (n : Nat) (x2 : Int32) (x3 : Int32) (x4 : Int32) (x5 : Int32) (S : St), G Γ E (QI Γ E) 8 6 [(0, .ref (gX Γ 44)), (2, .int x2), (3, .int x3), (4, .int x4), (5, .int x5)] [] S (f_X6_goFlat_l6 n x2 x3 x4 x5 S) := by
  intro n
  induction n with
  | zero => intro x2 x3 x4 x5 S; exact g_none
  | succ n ih =>
    intro x2 x3 x4 x5 S
    rw [f_X6_goFlat_l6]
    refine g_iload (pc := 6) C dX6_goFlat_6 4 rfl ?_
    refine g_iload_n (pc := 8) C dX6_goFlat_8 2 rfl rfl ?_
    refine g_icmp_ge (pc := 9) C 79 dX6_goFlat_9 (by decide) ?_ ?_
    · refine g_iload_n (pc := 79) C dX6_goFlat_79 2 rfl rfl ?_
      exact g_iret C M dX6_goFlat_80
    · refine g_iconst (pc := 12) C (v := 2) dX6_goFlat_12 (by decide) ?_
      refine g_iload_n (pc := 13) C dX6_goFlat_13 1 rfl rfl ?_
      refine g_imul (pc := 14) C dX6_goFlat_14 ?_
      refine g_istore (pc := 15) C dX6_goFlat_15 (by decide) (fun x => [(6, .int x), (0, .ref (gX Γ 44)), (2, .int x2), (3, .int x3), (4, .int x4), (5, .int x5)]) (fun _ => rfl) (fun x6_1 => ?_)
      refine g_iconst (pc := 17) C (v := 0) dX6_goFlat_17 (by decide) ?_
      refine g_istore0 (pc := 18) C dX6_goFlat_18 (by decide) (lv' := [(7, .int 0), (6, .int x6_1), (0, .ref (gX Γ 44)), (2, .int x2), (3, .int x3), (4, .int x4), (5, .int x5)]) rfl ?_
      exact g_sub [2, 3, 4, 5, 6, 1, 0] rfl (p_X6_goFlat_l20 C M (f_X6_goFlat_l6 n) ih FU x2 x3 x4 x5 x6_1 0 S)
set_option maxRecDepth 100000 in
set_option maxHeartbeats 4000000 in
theorem p_X6_goFlat {Γ : GA} {E : EV} (C : Cx Γ E RX6 cX6_goFlat 8 2 (some .int)) (M : Mx Γ E) (x1 : Int32) (x2 : Int32) (x3 : Int32) (S : St) : G Γ E (QI Γ E) 8 0 [(0, .ref (gX Γ 44)), (1, .int x1), (2, .int x2), (3, .int x3)] [] S (f_X6_goFlat x1 x2 x3 S) := by
  rw [f_X6_goFlat]
  refine g_iload_n (pc := 0) C dX6_goFlat_0 1 rfl rfl ?_
  refine g_istore0 (pc := 1) C dX6_goFlat_1 (by decide) (lv' := [(4, .int x1), (0, .ref (gX Γ 44)), (1, .int x1), (2, .int x2), (3, .int x3)]) rfl ?_
  refine g_iconst (pc := 3) C (v := 0) dX6_goFlat_3 (by decide) ?_
  refine g_istore0 (pc := 4) C dX6_goFlat_4 (by decide) (lv' := [(5, .int 0), (4, .int x1), (0, .ref (gX Γ 44)), (1, .int x1), (2, .int x2), (3, .int x3)]) rfl ?_
  exact g_sub [2, 4, 5, 1, 0] rfl (p_X6_goFlat_l6 C M FU x2 x3 x1 0 S)
theorem ct_X6_goFlat {Γ : GA} (x1 : Int32) (x2 : Int32) (x3 : Int32) (S : St) : CtI Γ yX6_goFlat cX6_goFlat 8 (some .int) 2 [.ref (gX Γ 44), .int x1, .int x2, .int x3] S (f_X6_goFlat x1 x2 x3 S) :=
  ctI_of (by decide) (Nat.le_of_ble_eq_true rfl) (fun _ C M => p_X6_goFlat C M x1 x2 x3 S)
set_option maxRecDepth 100000 in
set_option maxHeartbeats 4000000 in
theorem p_X7_flatCells {Γ : GA} {E : EV} (C : Cx Γ E RX7 cX7_flatCells 3 3 (some .int)) (M : Mx Γ E) (x1 : Int32) (x2 : Int32) (S : St) : G Γ E (QI Γ E) 3 0 [(0, .ref (gX Γ 0)), (1, .int x1), (2, .int x2)] [] S (f_X7_flatCells x1 x2 S) := by
  rw [f_X7_flatCells]
  refine g_aload_n (pc := 0) C dX7_flatCells_0 0 rfl rfl ?_
  refine g_getR (pc := 1) C lk_X7_49 fr_0_5 dX7_flatCells_1 ?_
  refine g_aload_n (pc := 4) C dX7_flatCells_4 0 rfl rfl ?_
  refine g_getR (pc := 5) C lk_X7_25 fr_0_2 dX7_flatCells_5 ?_
  refine g_iload_n (pc := 8) C dX7_flatCells_8 1 rfl rfl ?_
  refine g_aald (pc := 9) C aq_8 dX7_flatCells_9 (fun hj_1 => ?_)
  refine g_aload_n (pc := 10) C dX7_flatCells_10 0 rfl rfl ?_
  refine g_getI (pc := 11) C lk_X7_71 fi_0_10 dX7_flatCells_11 ?_
  refine g_callVV (pc := 14) (As := [.ref (gX Γ (9 + 3 * (x1 : Int32).toNatClampNeg)), .int (S 0 10)]) (st := []) C lv_X7_168 fo_44 rfl (ct_X6_mount _ hj_1 (S 0 10) S) (by decide) rfl rfl (Nat.le_of_ble_eq_true rfl) dX7_flatCells_14 (fun r_3 S_2 => ?_)
  refine g_aload_n (pc := 17) C dX7_flatCells_17 0 rfl rfl ?_
  refine g_getR (pc := 18) C lk_X7_49 fr_0_5 dX7_flatCells_18 ?_
  refine g_iload_n (pc := 21) C dX7_flatCells_21 2 rfl rfl ?_
  refine g_iconst (pc := 22) C (v := 0) dX7_flatCells_22 (by decide) ?_
  refine g_sipush (pc := 23) C (v := 999) dX7_flatCells_23 (by decide) ?_
  refine g_callVI (pc := 26) (As := [.int x2, .int 0, .int 999]) (st := []) C lv_X7_355 fo_44 rfl (ct_X6_goFlat x2 0 999 S_2) (by decide) rfl rfl (Nat.le_of_ble_eq_true rfl) dX7_flatCells_26 (fun r_5 S_4 => ?_)
  exact g_iret C M dX7_flatCells_29
theorem ct_X7_flatCells {Γ : GA} (x1 : Int32) (x2 : Int32) (S : St) : CtI Γ yX7_flatCells cX7_flatCells 3 (some .int) 3 [.ref (gX Γ 0), .int x1, .int x2] S (f_X7_flatCells x1 x2 S) :=
  ctI_of (by decide) (Nat.le_of_ble_eq_true rfl) (fun _ C M => p_X7_flatCells C M x1 x2 S)
set_option maxRecDepth 100000 in
set_option maxHeartbeats 4000000 in
theorem p_X7_farthest {Γ : GA} {E : EV} (C : Cx Γ E RX7 cX7_farthest 3 4 (some .int)) (M : Mx Γ E) (x1 : Int32) (x2 : Int32) (S : St) : G Γ E (QI Γ E) 3 0 [(0, .ref (gX Γ 0)), (1, .int x1), (2, .int x2)] [] S (f_X7_farthest x1 x2 S) := by
  rw [f_X7_farthest]
  refine g_aload_n (pc := 0) C dX7_farthest_0 0 rfl rfl ?_
  refine g_iload_n (pc := 1) C dX7_farthest_1 1 rfl rfl ?_
  refine g_callVI (pc := 2) (As := [.int x1]) (st := []) C lv_X7_121 fo_0 rfl (ct_X7_isCart x1 S) (by decide) rfl rfl (Nat.le_of_ble_eq_true rfl) dX7_farthest_2 (fun r_2 S_1 => ?_)
  refine g_if_ne (pc := 5) C 11 dX7_farthest_5 (by decide) ?_ ?_
  · refine g_bipush (pc := 8) C (v := (-101)) dX7_farthest_8 (by decide) ?_
    exact g_iret C M dX7_farthest_10
  · refine g_iload_n (pc := 11) C dX7_farthest_11 2 rfl rfl ?_
    refine g_callSI (pc := 12) (As := [.int x2]) (st := []) C ls_X7_156 (ct_X7_isSwing x2 S_1) (by decide) rfl rfl (Nat.le_of_ble_eq_true rfl) dX7_farthest_12 (fun r_4 S_3 => ?_)
    refine g_if_ne (pc := 15) C 21 dX7_farthest_15 (by decide) ?_ ?_
    · refine g_bipush (pc := 18) C (v := (-102)) dX7_farthest_18 (by decide) ?_
      exact g_iret C M dX7_farthest_20
    · refine g_aload_n (pc := 21) C dX7_farthest_21 0 rfl rfl ?_
      refine g_iload_n (pc := 22) C dX7_farthest_22 1 rfl rfl ?_
      refine g_iload_n (pc := 23) C dX7_farthest_23 2 rfl rfl ?_
      refine g_callVI (pc := 24) (As := [.int x1, .int x2]) (st := []) C lv_X7_226 fo_0 rfl (ct_X7_flatCells x1 x2 S_3) (by decide) rfl rfl (Nat.le_of_ble_eq_true rfl) dX7_farthest_24 (fun r_6 S_5 => ?_)
      exact g_iret C M dX7_farthest_27
theorem ct_X7_farthest {Γ : GA} (x1 : Int32) (x2 : Int32) (S : St) : CtI Γ yX7_farthest cX7_farthest 3 (some .int) 4 [.ref (gX Γ 0), .int x1, .int x2] S (f_X7_farthest x1 x2 S) :=
  ctI_of (by decide) (Nat.le_of_ble_eq_true rfl) (fun _ C M => p_X7_farthest C M x1 x2 S)
set_option maxRecDepth 100000 in
set_option maxHeartbeats 4000000 in
theorem p_X2_put {Γ : GA} {E : EV} (C : Cx Γ E RX2 cX2_put 4 0 none) (M : Mx Γ E) (x1 : Int32) (x2 : Int32) (x3 : Int32) (S : St) : G Γ E (QV Γ E) 4 0 [(0, .ref (gX Γ 33)), (1, .int x1), (2, .int x2), (3, .int x3)] [] S (f_X2_put x1 x2 x3 S) := by
  rw [f_X2_put]
  refine g_aload_n (pc := 0) C dX2_put_0 0 rfl rfl ?_
  refine g_getI (pc := 1) C lk_X2_21 fi_33_3 dX2_put_1 ?_
  refine g_bipush (pc := 4) C (v := 8) dX2_put_4 (by decide) ?_
  refine g_icmp_ge (pc := 6) C 49 dX2_put_6 (by decide) ?_ ?_
  · exact g_vret C M dX2_put_49
  · refine g_aload_n (pc := 9) C dX2_put_9 0 rfl rfl ?_
    refine g_getR (pc := 10) C lk_X2_9 fr_33_0 dX2_put_10 ?_
    refine g_aload_n (pc := 13) C dX2_put_13 0 rfl rfl ?_
    refine g_getI (pc := 14) C lk_X2_21 fi_33_3 dX2_put_14 ?_
    refine g_iload_n (pc := 17) C dX2_put_17 1 rfl rfl ?_
    refine g_iast (pc := 18) C ai_34 dX2_put_18 (fun S_1 => ?_)
    refine g_aload_n (pc := 19) C dX2_put_19 0 rfl rfl ?_
    refine g_getR (pc := 20) C lk_X2_15 fr_33_1 dX2_put_20 ?_
    refine g_aload_n (pc := 23) C dX2_put_23 0 rfl rfl ?_
    refine g_getI (pc := 24) C lk_X2_21 fi_33_3 dX2_put_24 ?_
    refine g_iload_n (pc := 27) C dX2_put_27 2 rfl rfl ?_
    refine g_iast (pc := 28) C ai_35 dX2_put_28 (fun S_2 => ?_)
    refine g_aload_n (pc := 29) C dX2_put_29 0 rfl rfl ?_
    refine g_getR (pc := 30) C lk_X2_18 fr_33_2 dX2_put_30 ?_
    refine g_aload_n (pc := 33) C dX2_put_33 0 rfl rfl ?_
    refine g_getI (pc := 34) C lk_X2_21 fi_33_3 dX2_put_34 ?_
    refine g_iload_n (pc := 37) C dX2_put_37 3 rfl rfl ?_
    refine g_iast (pc := 38) C ai_36 dX2_put_38 (fun S_3 => ?_)
    refine g_aload_n (pc := 39) C dX2_put_39 0 rfl rfl ?_
    refine g_dup (pc := 40) C dX2_put_40 rfl ?_
    refine g_getI (pc := 41) C lk_X2_21 fi_33_3 dX2_put_41 ?_
    refine g_iconst (pc := 44) C (v := 1) dX2_put_44 (by decide) ?_
    refine g_iadd (pc := 45) C dX2_put_45 ?_
    refine g_putI (pc := 46) C lp_X2_21 fi_33_3 dX2_put_46 (fun S_4 => ?_)
    exact g_vret C M dX2_put_49
theorem ct_X2_put {Γ : GA} (x1 : Int32) (x2 : Int32) (x3 : Int32) (S : St) : CtV Γ yX2_put cX2_put 4 none 0 [.ref (gX Γ 33), .int x1, .int x2, .int x3] S (f_X2_put x1 x2 x3 S) :=
  ctV_of (by decide) (Nat.le_of_ble_eq_true rfl) (fun _ C M => p_X2_put C M x1 x2 x3 S)
set_option maxRecDepth 100000 in
set_option maxHeartbeats 4000000 in
theorem p_X7_coast {Γ : GA} {E : EV} (C : Cx Γ E RX7 cX7_coast 4 2 (some .int)) (M : Mx Γ E) (x1 : Int32) (x2 : Int32) (x3 : Int32) (S : St) : G Γ E (QI Γ E) 4 0 [(0, .ref (gX Γ 0)), (1, .int x1), (2, .int x2), (3, .int x3)] [] S (f_X7_coast x1 x2 x3 S) := by
  rw [f_X7_coast]
  refine g_aload_n (pc := 0) C dX7_coast_0 0 rfl rfl ?_
  refine g_iload_n (pc := 1) C dX7_coast_1 1 rfl rfl ?_
  refine g_callVI (pc := 2) (As := [.int x1]) (st := []) C lv_X7_121 fo_0 rfl (ct_X7_isCart x1 S) (by decide) rfl rfl (Nat.le_of_ble_eq_true rfl) dX7_coast_2 (fun r_2 S_1 => ?_)
  refine g_if_ne (pc := 5) C 11 dX7_coast_5 (by decide) ?_ ?_
  · refine g_bipush (pc := 8) C (v := (-101)) dX7_coast_8 (by decide) ?_
    exact g_iret C M dX7_coast_10
  · refine g_iload_n (pc := 11) C dX7_coast_11 2 rfl rfl ?_
    refine g_callSI (pc := 12) (As := [.int x2]) (st := []) C ls_X7_156 (ct_X7_isSwing x2 S_1) (by decide) rfl rfl (Nat.le_of_ble_eq_true rfl) dX7_coast_12 (fun r_4 S_3 => ?_)
    refine g_if_eq (pc := 15) C 28 dX7_coast_15 (by decide) ?_ ?_
    · refine g_bipush (pc := 28) C (v := (-102)) dX7_coast_28 (by decide) ?_
      exact g_iret C M dX7_coast_30
    · refine g_iload_n (pc := 18) C dX7_coast_18 3 rfl rfl ?_
      refine g_iconst (pc := 19) C (v := 0) dX7_coast_19 (by decide) ?_
      refine g_bipush (pc := 20) C (v := 99) dX7_coast_20 (by decide) ?_
      refine g_callSI (pc := 22) (As := [.int x3, .int 0, .int 99]) (st := []) C ls_X7_137 (ct_X7_isWithin x3 0 99 S_3) (by decide) rfl rfl (Nat.le_of_ble_eq_true rfl) dX7_coast_22 (fun r_6 S_5 => ?_)
      refine g_if_ne (pc := 25) C 31 dX7_coast_25 (by decide) ?_ ?_
      · refine g_bipush (pc := 28) C (v := (-102)) dX7_coast_28 (by decide) ?_
        exact g_iret C M dX7_coast_30
      · refine g_aload_n (pc := 31) C dX7_coast_31 0 rfl rfl ?_
        refine g_getR (pc := 32) C lk_X7_33 fr_0_3 dX7_coast_32 ?_
        refine g_getI (pc := 35) C lk_X7_229 fi_33_3 dX7_coast_35 ?_
        refine g_bipush (pc := 38) C (v := 8) dX7_coast_38 (by decide) ?_
        refine g_icmp_lt (pc := 40) C 46 dX7_coast_40 (by decide) ?_ ?_
        · refine g_aload_n (pc := 46) C dX7_coast_46 0 rfl rfl ?_
          refine g_getR (pc := 47) C lk_X7_33 fr_0_3 dX7_coast_47 ?_
          refine g_iload_n (pc := 50) C dX7_coast_50 1 rfl rfl ?_
          refine g_iload_n (pc := 51) C dX7_coast_51 2 rfl rfl ?_
          refine g_iload_n (pc := 52) C dX7_coast_52 3 rfl rfl ?_
          refine g_callVV (pc := 53) (As := [.int x1, .int x2, .int x3]) (st := []) C lv_X7_230 fo_33 rfl (ct_X2_put x1 x2 x3 S_5) (by decide) rfl rfl (Nat.le_of_ble_eq_true rfl) dX7_coast_53 (fun r_8 S_7 => ?_)
          refine g_aload_n (pc := 56) C dX7_coast_56 0 rfl rfl ?_
          refine g_getR (pc := 57) C lk_X7_33 fr_0_3 dX7_coast_57 ?_
          refine g_getI (pc := 60) C lk_X7_229 fi_33_3 dX7_coast_60 ?_
          exact g_iret C M dX7_coast_63
        · refine g_bipush (pc := 43) C (v := (-104)) dX7_coast_43 (by decide) ?_
          exact g_iret C M dX7_coast_45
theorem ct_X7_coast {Γ : GA} (x1 : Int32) (x2 : Int32) (x3 : Int32) (S : St) : CtI Γ yX7_coast cX7_coast 4 (some .int) 2 [.ref (gX Γ 0), .int x1, .int x2, .int x3] S (f_X7_coast x1 x2 x3 S) :=
  ctI_of (by decide) (Nat.le_of_ble_eq_true rfl) (fun _ C M => p_X7_coast C M x1 x2 x3 S)
set_option maxRecDepth 100000 in
set_option maxHeartbeats 4000000 in
theorem p_X7_allCoastsAreSo_l2 {Γ : GA} {E : EV} (C : Cx Γ E RX7 cX7_allCoastsAreSo 4 3 (some .boolean)) (M : Mx Γ E) : ∀ (n : Nat) (x1 : Int32) (x2 : Int32) (S : St), G Γ E (QI Γ E) 4 2 [(0, .ref (gX Γ 0)), (1, .int x1), (2, .int x2)] [] S (f_X7_allCoastsAreSo_l2 n x1 x2 S) := by
  intro n
  induction n with
  | zero => intro x1 x2 S; exact g_none
  | succ n ih =>
    intro x1 x2 S
    rw [f_X7_allCoastsAreSo_l2]
    refine g_iload_n (pc := 2) C dX7_allCoastsAreSo_2 2 rfl rfl ?_
    refine g_aload_n (pc := 3) C dX7_allCoastsAreSo_3 0 rfl rfl ?_
    refine g_getR (pc := 4) C lk_X7_33 fr_0_3 dX7_allCoastsAreSo_4 ?_
    refine g_getI (pc := 7) C lk_X7_229 fi_33_3 dX7_allCoastsAreSo_7 ?_
    refine g_icmp_ge (pc := 10) C 80 dX7_allCoastsAreSo_10 (by decide) ?_ ?_
    · refine g_iconst (pc := 80) C (v := 1) dX7_allCoastsAreSo_80 (by decide) ?_
      exact g_zret1 C M rfl dX7_allCoastsAreSo_81
    · refine g_aload_n (pc := 13) C dX7_allCoastsAreSo_13 0 rfl rfl ?_
      refine g_getR (pc := 14) C lk_X7_49 fr_0_5 dX7_allCoastsAreSo_14 ?_
      refine g_aload_n (pc := 17) C dX7_allCoastsAreSo_17 0 rfl rfl ?_
      refine g_getR (pc := 18) C lk_X7_25 fr_0_2 dX7_allCoastsAreSo_18 ?_
      refine g_aload_n (pc := 21) C dX7_allCoastsAreSo_21 0 rfl rfl ?_
      refine g_getR (pc := 22) C lk_X7_33 fr_0_3 dX7_allCoastsAreSo_22 ?_
      refine g_getR (pc := 25) C lk_X7_321 fr_33_0 dX7_allCoastsAreSo_25 ?_
      refine g_iload_n (pc := 28) C dX7_allCoastsAreSo_28 2 rfl rfl ?_
      refine g_iald (pc := 29) C ai_34 dX7_allCoastsAreSo_29 ?_
      refine g_aald (pc := 30) C aq_8 dX7_allCoastsAreSo_30 (fun hj_1 => ?_)
      refine g_aload_n (pc := 31) C dX7_allCoastsAreSo_31 0 rfl rfl ?_
      refine g_getI (pc := 32) C lk_X7_71 fi_0_10 dX7_allCoastsAreSo_32 ?_
      refine g_callVV (pc := 35) (As := [.ref (gX Γ (9 + 3 * ((S 34 (x2 : Int32).toNatClampNeg) : Int32).toNatClampNeg)), .int (S 0 10)]) (st := []) C lv_X7_168 fo_44 rfl (ct_X6_mount _ hj_1 (S 0 10) S) (by decide) rfl rfl (Nat.le_of_ble_eq_true rfl) dX7_allCoastsAreSo_35 (fun r_3 S_2 => ?_)
      refine g_aload_n (pc := 38) C dX7_allCoastsAreSo_38 0 rfl rfl ?_
      refine g_getR (pc := 39) C lk_X7_33 fr_0_3 dX7_allCoastsAreSo_39 ?_
      refine g_getR (pc := 42) C lk_X7_327 fr_33_2 dX7_allCoastsAreSo_42 ?_
      refine g_iload_n (pc := 45) C dX7_allCoastsAreSo_45 2 rfl rfl ?_
      refine g_iald (pc := 46) C ai_36 dX7_allCoastsAreSo_46 ?_
      refine g_istore_n (pc := 47) C dX7_allCoastsAreSo_47 rfl (by decide) (fun x => [(3, .int x), (0, .ref (gX Γ 0)), (1, .int x1), (2, .int x2)]) (fun _ => rfl) (fun x3_4 => ?_)
      refine g_aload_n (pc := 48) C dX7_allCoastsAreSo_48 1 rfl rfl ?_
      refine g_getR (pc := 49) C lk_X7_49 fr_0_5 dX7_allCoastsAreSo_49 ?_
      refine g_aload_n (pc := 52) C dX7_allCoastsAreSo_52 1 rfl rfl ?_
      refine g_getR (pc := 53) C lk_X7_33 fr_0_3 dX7_allCoastsAreSo_53 ?_
      refine g_getR (pc := 56) C lk_X7_324 fr_33_1 dX7_allCoastsAreSo_56 ?_
      refine g_iload_n (pc := 59) C dX7_allCoastsAreSo_59 3 rfl rfl ?_
      refine g_iald (pc := 60) C ai_35 dX7_allCoastsAreSo_60 ?_
      refine g_iload_n (pc := 61) C dX7_allCoastsAreSo_61 2 rfl rfl ?_
      refine g_iload_n (pc := 62) C dX7_allCoastsAreSo_62 0 rfl rfl ?_
      refine g_iconst (pc := 63) C (v := 1) dX7_allCoastsAreSo_63 (by decide) ?_
      refine g_iadd (pc := 64) C dX7_allCoastsAreSo_64 ?_
      refine g_callVI (pc := 65) (As := [.int (S_2 35 (x2 : Int32).toNatClampNeg), .int x1, .int (x3_4 + 1)]) (st := []) C lv_X7_355 fo_44 rfl (ct_X6_goFlat (S_2 35 (x2 : Int32).toNatClampNeg) x1 (x3_4 + 1) S_2) (by decide) rfl rfl (Nat.le_of_ble_eq_true rfl) dX7_allCoastsAreSo_65 (fun r_6 S_5 => ?_)
      refine g_iload_n (pc := 68) C dX7_allCoastsAreSo_68 0 rfl rfl ?_
      refine g_icmp_eq (pc := 69) C 74 dX7_allCoastsAreSo_69 (by decide) ?_ ?_
      · refine g_iinc (pc := 74) C (v := 1) dX7_allCoastsAreSo_74 3 rfl (by decide) (by decide) (fun x => [(2, .int x), (3, .int x3_4), (0, .ref (gX Γ 0)), (1, .int x1)]) (fun _ => rfl) (fun x2_7 => ?_)
        refine g_goto (pc := 77) C 2 dX7_allCoastsAreSo_77 (by decide) ?_
        exact g_sub [2, 3, 0] rfl (ih x1 x2_7 S_5)
      · refine g_iconst (pc := 72) C (v := 0) dX7_allCoastsAreSo_72 (by decide) ?_
        exact g_zret1 C M rfl dX7_allCoastsAreSo_73
set_option maxRecDepth 100000 in
set_option maxHeartbeats 4000000 in
theorem p_X7_allCoastsAreSo {Γ : GA} {E : EV} (C : Cx Γ E RX7 cX7_allCoastsAreSo 4 3 (some .boolean)) (M : Mx Γ E) (x1 : Int32) (S : St) : G Γ E (QI Γ E) 4 0 [(0, .ref (gX Γ 0)), (1, .int x1)] [] S (f_X7_allCoastsAreSo x1 S) := by
  rw [f_X7_allCoastsAreSo]
  refine g_iconst (pc := 0) C (v := 0) dX7_allCoastsAreSo_0 (by decide) ?_
  refine g_istore_n0 (pc := 1) C dX7_allCoastsAreSo_1 rfl (by decide) (lv' := [(2, .int 0), (0, .ref (gX Γ 0)), (1, .int x1)]) rfl ?_
  exact g_sub [1, 2, 0] rfl (p_X7_allCoastsAreSo_l2 C M FU x1 0 S)
theorem ct_X7_allCoastsAreSo {Γ : GA} (x1 : Int32) (S : St) : CtI Γ yX7_allCoastsAreSo cX7_allCoastsAreSo 4 (some .boolean) 3 [.ref (gX Γ 0), .int x1] S (f_X7_allCoastsAreSo x1 S) :=
  ctI_of (by decide) (Nat.le_of_ble_eq_true rfl) (fun _ C M => p_X7_allCoastsAreSo C M x1 S)
set_option maxRecDepth 100000 in
set_option maxHeartbeats 4000000 in
theorem p_X7_rubs_b24 {Γ : GA} {E : EV} (C : Cx Γ E RX7 cX7_rubs 3 4 (some .int)) (M : Mx Γ E) (k4 : Int32 → Int32 → St → Option (Int32 × St)) (hk4 : ∀ (x1 : Int32) (x2 : Int32) (S : St), G Γ E (QI Γ E) 3 4 [(0, .ref (gX Γ 0)), (1, .int x1), (2, .int x2)] [] S (k4 x1 x2 S)) (x1 : Int32) (x2 : Int32) (S : St) : G Γ E (QI Γ E) 3 24 [(0, .ref (gX Γ 0)), (1, .int x1), (2, .int x2)] [] S (f_X7_rubs_b24 k4 x1 x2 S) := by
  rw [f_X7_rubs_b24]
  refine g_iinc (pc := 24) C (v := 1) dX7_rubs_24 2 rfl (by decide) (by decide) (fun x => [(2, .int x), (0, .ref (gX Γ 0)), (1, .int x1)]) (fun _ => rfl) (fun x2_3 => ?_)
  refine g_goto (pc := 27) C 4 dX7_rubs_27 (by decide) ?_
  exact g_sub [1, 2, 0] rfl (hk4 x1 x2_3 S)
set_option maxRecDepth 100000 in
set_option maxHeartbeats 4000000 in
theorem p_X7_rubs_l4 {Γ : GA} {E : EV} (C : Cx Γ E RX7 cX7_rubs 3 4 (some .int)) (M : Mx Γ E) : ∀ (n : Nat) (x1 : Int32) (x2 : Int32) (S : St), G Γ E (QI Γ E) 3 4 [(0, .ref (gX Γ 0)), (1, .int x1), (2, .int x2)] [] S (f_X7_rubs_l4 n x1 x2 S) := by
  intro n
  induction n with
  | zero => intro x1 x2 S; exact g_none
  | succ n ih =>
    intro x1 x2 S
    rw [f_X7_rubs_l4]
    refine g_iload_n (pc := 4) C dX7_rubs_4 2 rfl rfl ?_
    refine g_bipush (pc := 5) C (v := 9) dX7_rubs_5 (by decide) ?_
    refine g_icmp_gt (pc := 7) C 30 dX7_rubs_7 (by decide) ?_ ?_
    · refine g_iload_n (pc := 30) C dX7_rubs_30 1 rfl rfl ?_
      exact g_iret C M dX7_rubs_31
    · refine g_aload_n (pc := 10) C dX7_rubs_10 0 rfl rfl ?_
      refine g_iload_n (pc := 11) C dX7_rubs_11 2 rfl rfl ?_
      refine g_callVI (pc := 12) (As := [.int x2]) (st := []) C lv_X7_233 fo_0 rfl (ct_X7_allCoastsAreSo x2 S) (by decide) rfl rfl (Nat.le_of_ble_eq_true rfl) dX7_rubs_12 (fun r_2 S_1 => ?_)
      refine g_if_eq (pc := 15) C 24 dX7_rubs_15 (by decide) ?_ ?_
      · exact g_sub [0, 1, 2] rfl (p_X7_rubs_b24 C M (f_X7_rubs_l4 n) ih x1 x2 S_1)
      · refine g_iload_n (pc := 18) C dX7_rubs_18 1 rfl rfl ?_
        refine g_iconst (pc := 19) C (v := 1) dX7_rubs_19 (by decide) ?_
        refine g_iload_n (pc := 20) C dX7_rubs_20 2 rfl rfl ?_
        refine g_ishl (pc := 21) C dX7_rubs_21 ?_
        refine g_ior (pc := 22) C dX7_rubs_22 ?_
        refine g_istore_n (pc := 23) C dX7_rubs_23 rfl (by decide) (fun x => [(1, .int x), (0, .ref (gX Γ 0)), (2, .int x2)]) (fun _ => rfl) (fun x1_4 => ?_)
        exact g_sub [1, 0, 2] rfl (p_X7_rubs_b24 C M (f_X7_rubs_l4 n) ih x1_4 x2 S_1)
set_option maxRecDepth 100000 in
set_option maxHeartbeats 4000000 in
theorem p_X7_rubs {Γ : GA} {E : EV} (C : Cx Γ E RX7 cX7_rubs 3 4 (some .int)) (M : Mx Γ E) (S : St) : G Γ E (QI Γ E) 3 0 [(0, .ref (gX Γ 0))] [] S (f_X7_rubs S) := by
  rw [f_X7_rubs]
  refine g_iconst (pc := 0) C (v := 0) dX7_rubs_0 (by decide) ?_
  refine g_istore_n0 (pc := 1) C dX7_rubs_1 rfl (by decide) (lv' := [(1, .int 0), (0, .ref (gX Γ 0))]) rfl ?_
  refine g_iconst (pc := 2) C (v := 0) dX7_rubs_2 (by decide) ?_
  refine g_istore_n0 (pc := 3) C dX7_rubs_3 rfl (by decide) (lv' := [(2, .int 0), (1, .int 0), (0, .ref (gX Γ 0))]) rfl ?_
  exact g_sub [2, 1, 0] rfl (p_X7_rubs_l4 C M FU 0 0 S)
theorem ct_X7_rubs {Γ : GA} (S : St) : CtI Γ yX7_rubs cX7_rubs 3 (some .int) 4 [.ref (gX Γ 0)] S (f_X7_rubs S) :=
  ctI_of (by decide) (Nat.le_of_ble_eq_true rfl) (fun _ C M => p_X7_rubs C M  S)
set_option maxRecDepth 100000 in
set_option maxHeartbeats 4000000 in
theorem p_X7_timeOf {Γ : GA} {E : EV} (C : Cx Γ E RX7 cX7_timeOf 3 4 (some .int)) (M : Mx Γ E) (x1 : Int32) (x2 : Int32) (S : St) : G Γ E (QI Γ E) 3 0 [(0, .ref (gX Γ 0)), (1, .int x1), (2, .int x2)] [] S (f_X7_timeOf x1 x2 S) := by
  rw [f_X7_timeOf]
  refine g_aload_n (pc := 0) C dX7_timeOf_0 0 rfl rfl ?_
  refine g_getR (pc := 1) C lk_X7_49 fr_0_5 dX7_timeOf_1 ?_
  refine g_aload_n (pc := 4) C dX7_timeOf_4 0 rfl rfl ?_
  refine g_getR (pc := 5) C lk_X7_25 fr_0_2 dX7_timeOf_5 ?_
  refine g_iload_n (pc := 8) C dX7_timeOf_8 1 rfl rfl ?_
  refine g_aald (pc := 9) C aq_8 dX7_timeOf_9 (fun hj_1 => ?_)
  refine g_aload_n (pc := 10) C dX7_timeOf_10 0 rfl rfl ?_
  refine g_getI (pc := 11) C lk_X7_71 fi_0_10 dX7_timeOf_11 ?_
  refine g_callVV (pc := 14) (As := [.ref (gX Γ (9 + 3 * (x1 : Int32).toNatClampNeg)), .int (S 0 10)]) (st := []) C lv_X7_168 fo_44 rfl (ct_X6_mount _ hj_1 (S 0 10) S) (by decide) rfl rfl (Nat.le_of_ble_eq_true rfl) dX7_timeOf_14 (fun r_3 S_2 => ?_)
  refine g_aload_n (pc := 17) C dX7_timeOf_17 0 rfl rfl ?_
  refine g_getR (pc := 18) C lk_X7_49 fr_0_5 dX7_timeOf_18 ?_
  refine g_iload_n (pc := 21) C dX7_timeOf_21 2 rfl rfl ?_
  refine g_callVV (pc := 22) (As := [.int x2]) (st := []) C lv_X7_195 fo_44 rfl (ct_X6_go x2 S_2) (by decide) rfl rfl (Nat.le_of_ble_eq_true rfl) dX7_timeOf_22 (fun r_5 S_4 => ?_)
  refine g_aload_n (pc := 25) C dX7_timeOf_25 0 rfl rfl ?_
  refine g_getR (pc := 26) C lk_X7_49 fr_0_5 dX7_timeOf_26 ?_
  refine g_callVI (pc := 29) (As := []) (st := []) C lv_X7_339 fo_44 rfl (ct_X6_timeIfDown S_4) (by decide) rfl rfl (Nat.le_of_ble_eq_true rfl) dX7_timeOf_29 (fun r_7 S_6 => ?_)
  exact g_iret C M dX7_timeOf_32
theorem ct_X7_timeOf {Γ : GA} (x1 : Int32) (x2 : Int32) (S : St) : CtI Γ yX7_timeOf cX7_timeOf 3 (some .int) 4 [.ref (gX Γ 0), .int x1, .int x2] S (f_X7_timeOf x1 x2 S) :=
  ctI_of (by decide) (Nat.le_of_ble_eq_true rfl) (fun _ C M => p_X7_timeOf C M x1 x2 S)
set_option maxRecDepth 100000 in
set_option maxHeartbeats 4000000 in
theorem p_X7_tenths {Γ : GA} {E : EV} (C : Cx Γ E RX7 cX7_tenths 4 1 (some .int)) (M : Mx Γ E) (x0 : Int32) (x1 : Int32) (x2 : Int32) (S : St) : G Γ E (QI Γ E) 4 0 [(0, .int x0), (1, .int x1), (2, .int x2)] [] S (f_X7_tenths x0 x1 x2 S) := by
  rw [f_X7_tenths]
  refine g_iload_n (pc := 0) C dX7_tenths_0 0 rfl rfl ?_
  refine g_iload_n (pc := 1) C dX7_tenths_1 1 rfl rfl ?_
  refine g_icmp_ne (pc := 2) C 7 dX7_tenths_2 (by decide) ?_ ?_
  · refine g_iconst (pc := 5) C (v := 5) dX7_tenths_5 (by decide) ?_
    exact g_iret C M dX7_tenths_6
  · refine g_iload_n (pc := 7) C dX7_tenths_7 0 rfl rfl ?_
    refine g_iconst (pc := 8) C (v := (-1)) dX7_tenths_8 (by decide) ?_
    refine g_icmp_ne (pc := 9) C 14 dX7_tenths_9 (by decide) ?_ ?_
    · refine g_iconst (pc := 12) C (v := 0) dX7_tenths_12 (by decide) ?_
      exact g_iret C M dX7_tenths_13
    · refine g_iload_n (pc := 14) C dX7_tenths_14 1 rfl rfl ?_
      refine g_iconst (pc := 15) C (v := (-1)) dX7_tenths_15 (by decide) ?_
      refine g_icmp_ne (pc := 16) C 22 dX7_tenths_16 (by decide) ?_ ?_
      · refine g_bipush (pc := 19) C (v := 10) dX7_tenths_19 (by decide) ?_
        exact g_iret C M dX7_tenths_21
      · refine g_iconst (pc := 22) C (v := 5) dX7_tenths_22 (by decide) ?_
        refine g_iload_n (pc := 23) C dX7_tenths_23 1 rfl rfl ?_
        refine g_iload_n (pc := 24) C dX7_tenths_24 0 rfl rfl ?_
        refine g_isub (pc := 25) C dX7_tenths_25 ?_
        refine g_mabs (pc := 26) C kw_X7_358 kw_mabs1 kw_m2 kw_mabs3 (Nat.le_of_ble_eq_true rfl) dX7_tenths_26 ?_
        refine g_bipush (pc := 29) C (v := 100) dX7_tenths_29 (by decide) ?_
        refine g_iload_n (pc := 31) C dX7_tenths_31 2 rfl rfl ?_
        refine g_imul (pc := 32) C dX7_tenths_32 ?_
        refine g_callSI (pc := 33) (As := [.int (if 0 ≤ (x1 - x0) then (x1 - x0) else 0 - (x1 - x0)), .int (100 * x2)]) (st := [.int 5]) C ls_X7_192 (ct_X7_by (if 0 ≤ (x1 - x0) then (x1 - x0) else 0 - (x1 - x0)) (100 * x2) S) (by decide) rfl rfl (Nat.le_of_ble_eq_true rfl) dX7_tenths_33 (fun r_2 S_1 => ?_)
        refine g_mmin (pc := 36) C kw_X7_276 kw_mmin1 kw_m2 kw_mmin3 (Nat.le_of_ble_eq_true rfl) dX7_tenths_36 ?_
        refine g_istore_n (pc := 39) C dX7_tenths_39 rfl (by decide) (fun x => [(3, .int x), (0, .int x0), (1, .int x1), (2, .int x2)]) (fun _ => rfl) (fun x3_3 => ?_)
        refine g_iload_n (pc := 40) C dX7_tenths_40 1 rfl rfl ?_
        refine g_iload_n (pc := 41) C dX7_tenths_41 2 rfl rfl ?_
        refine g_icmp_ge (pc := 42) C 51 dX7_tenths_42 (by decide) ?_ ?_
        · refine g_iconst (pc := 51) C (v := 5) dX7_tenths_51 (by decide) ?_
          refine g_iload_n (pc := 52) C dX7_tenths_52 0 rfl rfl ?_
          refine g_isub (pc := 53) C dX7_tenths_53 ?_
          exact g_iret C M dX7_tenths_54
        · refine g_iconst (pc := 45) C (v := 5) dX7_tenths_45 (by decide) ?_
          refine g_iload_n (pc := 46) C dX7_tenths_46 0 rfl rfl ?_
          refine g_iadd (pc := 47) C dX7_tenths_47 ?_
          refine g_goto (pc := 48) C 54 dX7_tenths_48 (by decide) ?_
          exact g_iret C M dX7_tenths_54
theorem ct_X7_tenths {Γ : GA} (x0 : Int32) (x1 : Int32) (x2 : Int32) (S : St) : CtI Γ yX7_tenths cX7_tenths 4 (some .int) 1 [.int x0, .int x1, .int x2] S (f_X7_tenths x0 x1 x2 S) :=
  ctI_of (by decide) (Nat.le_of_ble_eq_true rfl) (fun _ C M => p_X7_tenths C M x0 x1 x2 S)
set_option maxRecDepth 100000 in
set_option maxHeartbeats 4000000 in
theorem p_X7_chance {Γ : GA} {E : EV} (C : Cx Γ E RX7 cX7_chance 6 5 (some .int)) (M : Mx Γ E) (x1 : Int32) (x2 : Int32) (x3 : Int32) (x4 : Int32) (S : St) : G Γ E (QI Γ E) 6 0 [(0, .ref (gX Γ 0)), (1, .int x1), (2, .int x2), (3, .int x3), (4, .int x4)] [] S (f_X7_chance x1 x2 x3 x4 S) := by
  rw [f_X7_chance]
  refine g_aload_n (pc := 0) C dX7_chance_0 0 rfl rfl ?_
  refine g_iload_n (pc := 1) C dX7_chance_1 1 rfl rfl ?_
  refine g_callVI (pc := 2) (As := [.int x1]) (st := []) C lv_X7_121 fo_0 rfl (ct_X7_isCart x1 S) (by decide) rfl rfl (Nat.le_of_ble_eq_true rfl) dX7_chance_2 (fun r_2 S_1 => ?_)
  refine g_if_eq (pc := 5) C 16 dX7_chance_5 (by decide) ?_ ?_
  · refine g_bipush (pc := 16) C (v := (-101)) dX7_chance_16 (by decide) ?_
    exact g_iret C M dX7_chance_18
  · refine g_aload_n (pc := 8) C dX7_chance_8 0 rfl rfl ?_
    refine g_iload_n (pc := 9) C dX7_chance_9 2 rfl rfl ?_
    refine g_callVI (pc := 10) (As := [.int x2]) (st := []) C lv_X7_121 fo_0 rfl (ct_X7_isCart x2 S_1) (by decide) rfl rfl (Nat.le_of_ble_eq_true rfl) dX7_chance_10 (fun r_4 S_3 => ?_)
    refine g_if_ne (pc := 13) C 19 dX7_chance_13 (by decide) ?_ ?_
    · refine g_bipush (pc := 16) C (v := (-101)) dX7_chance_16 (by decide) ?_
      exact g_iret C M dX7_chance_18
    · refine g_aload_n (pc := 19) C dX7_chance_19 0 rfl rfl ?_
      refine g_iload_n (pc := 20) C dX7_chance_20 1 rfl rfl ?_
      refine g_iload_n (pc := 21) C dX7_chance_21 3 rfl rfl ?_
      refine g_iload (pc := 22) C dX7_chance_22 4 rfl ?_
      refine g_iconst (pc := 24) C (v := 1) dX7_chance_24 (by decide) ?_
      refine g_bipush (pc := 25) C (v := 99) dX7_chance_25 (by decide) ?_
      refine g_callSI (pc := 27) (As := [.int x4, .int 1, .int 99]) (st := [.int x3, .int x1, .ref (gX Γ 0)]) C ls_X7_137 (ct_X7_isWithin x4 1 99 S_3) (by decide) rfl rfl (Nat.le_of_ble_eq_true rfl) dX7_chance_27 (fun r_6 S_5 => ?_)
      refine g_callVI (pc := 30) (As := [.int x1, .int x3, .int r_6]) (st := []) C lv_X7_144 fo_0 rfl (ct_X7_refusalOfRun x1 x3 r_6 S_5) (by decide) rfl rfl (Nat.le_of_ble_eq_true rfl) dX7_chance_30 (fun r_8 S_7 => ?_)
      refine g_istore0 (pc := 33) C dX7_chance_33 (by decide) (lv' := [(5, .int r_8), (0, .ref (gX Γ 0)), (1, .int x1), (2, .int x2), (3, .int x3), (4, .int x4)]) rfl ?_
      refine g_iload (pc := 35) C dX7_chance_35 0 rfl ?_
      refine g_if_eq (pc := 37) C 43 dX7_chance_37 (by decide) ?_ ?_
      · refine g_aload_n (pc := 43) C dX7_chance_43 1 rfl rfl ?_
        refine g_iload_n (pc := 44) C dX7_chance_44 2 rfl rfl ?_
        refine g_iload_n (pc := 45) C dX7_chance_45 4 rfl rfl ?_
        refine g_callVI (pc := 46) (As := [.int x1, .int x3]) (st := []) C lv_X7_236 fo_0 rfl (ct_X7_timeOf x1 x3 S_7) (by decide) rfl rfl (Nat.le_of_ble_eq_true rfl) dX7_chance_46 (fun r_10 S_9 => ?_)
        refine g_aload_n (pc := 49) C dX7_chance_49 1 rfl rfl ?_
        refine g_iload_n (pc := 50) C dX7_chance_50 3 rfl rfl ?_
        refine g_iload_n (pc := 51) C dX7_chance_51 4 rfl rfl ?_
        refine g_callVI (pc := 52) (As := [.int x2, .int x3]) (st := [.int r_10]) C lv_X7_236 fo_0 rfl (ct_X7_timeOf x2 x3 S_9) (by decide) rfl rfl (Nat.le_of_ble_eq_true rfl) dX7_chance_52 (fun r_12 S_11 => ?_)
        refine g_iload (pc := 55) C dX7_chance_55 5 rfl ?_
        refine g_callSI (pc := 57) (As := [.int r_10, .int r_12, .int x4]) (st := []) C ls_X7_239 (ct_X7_tenths r_10 r_12 x4 S_11) (by decide) rfl rfl (Nat.le_of_ble_eq_true rfl) dX7_chance_57 (fun r_14 S_13 => ?_)
        exact g_iret C M dX7_chance_60
      · refine g_iload (pc := 40) C dX7_chance_40 0 rfl ?_
        exact g_iret C M dX7_chance_42
theorem ct_X7_chance {Γ : GA} (x1 : Int32) (x2 : Int32) (x3 : Int32) (x4 : Int32) (S : St) : CtI Γ yX7_chance cX7_chance 6 (some .int) 5 [.ref (gX Γ 0), .int x1, .int x2, .int x3, .int x4] S (f_X7_chance x1 x2 x3 x4 S) :=
  ctI_of (by decide) (Nat.le_of_ble_eq_true rfl) (fun _ C M => p_X7_chance C M x1 x2 x3 x4 S)
set_option maxRecDepth 100000 in
set_option maxHeartbeats 4000000 in
theorem p_X7_refusalOfFour_b91 {Γ : GA} {E : EV} (C : Cx Γ E RX7 cX7_refusalOfFour 6 1 (some .int)) (M : Mx Γ E) (S : St) : G Γ E (QI Γ E) 6 91 [] [] S (f_X7_refusalOfFour_b91 S) := by
  rw [f_X7_refusalOfFour_b91]
  refine g_bipush (pc := 91) C (v := (-103)) dX7_refusalOfFour_91 (by decide) ?_
  refine g_goto (pc := 93) C 97 dX7_refusalOfFour_93 (by decide) ?_
  exact g_iret C M dX7_refusalOfFour_97
set_option maxRecDepth 100000 in
set_option maxHeartbeats 4000000 in
theorem p_X7_refusalOfFour_b74 {Γ : GA} {E : EV} (C : Cx Γ E RX7 cX7_refusalOfFour 6 1 (some .int)) (M : Mx Γ E) (s0 : Int32) (S : St) : G Γ E (QI Γ E) 6 74 [(0, .ref (gX Γ 0))] [.int s0] S (f_X7_refusalOfFour_b74 s0 S) := by
  rw [f_X7_refusalOfFour_b74]
  refine g_istore0 (pc := 74) C dX7_refusalOfFour_74 (by decide) (lv' := [(5, .int s0), (0, .ref (gX Γ 0))]) rfl ?_
  refine g_aload_n (pc := 76) C dX7_refusalOfFour_76 1 rfl rfl ?_
  refine g_getR (pc := 77) C lk_X7_19 fr_0_1 dX7_refusalOfFour_77 ?_
  refine g_getI (pc := 80) C lk_X7_100 fi_3_4 dX7_refusalOfFour_80 ?_
  refine g_if_eq (pc := 83) C 91 dX7_refusalOfFour_83 (by decide) ?_ ?_
  · exact g_sub [] rfl (p_X7_refusalOfFour_b91 C M S)
  · refine g_iload (pc := 86) C dX7_refusalOfFour_86 0 rfl ?_
    refine g_if_eq (pc := 88) C 96 dX7_refusalOfFour_88 (by decide) ?_ ?_
    · refine g_iconst (pc := 96) C (v := 0) dX7_refusalOfFour_96 (by decide) ?_
      exact g_iret C M dX7_refusalOfFour_97
    · exact g_sub [] rfl (p_X7_refusalOfFour_b91 C M S)
set_option maxRecDepth 100000 in
set_option maxHeartbeats 4000000 in
theorem p_X7_refusalOfFour_b69 {Γ : GA} {E : EV} (C : Cx Γ E RX7 cX7_refusalOfFour 6 1 (some .int)) (M : Mx Γ E) (S : St) : G Γ E (QI Γ E) 6 69 [(0, .ref (gX Γ 0))] [] S (f_X7_refusalOfFour_b69 S) := by
  rw [f_X7_refusalOfFour_b69]
  refine g_iconst (pc := 69) C (v := 1) dX7_refusalOfFour_69 (by decide) ?_
  refine g_goto (pc := 70) C 74 dX7_refusalOfFour_70 (by decide) ?_
  exact g_sub [0] rfl (p_X7_refusalOfFour_b74 C M 1 S)
set_option maxRecDepth 100000 in
set_option maxHeartbeats 4000000 in
theorem p_X7_refusalOfFour {Γ : GA} {E : EV} (C : Cx Γ E RX7 cX7_refusalOfFour 6 1 (some .int)) (M : Mx Γ E) (x1 : Int32) (x2 : Int32) (x3 : Int32) (x4 : Int32) (S : St) : G Γ E (QI Γ E) 6 0 [(0, .ref (gX Γ 0)), (1, .int x1), (2, .int x2), (3, .int x3), (4, .int x4)] [] S (f_X7_refusalOfFour x1 x2 x3 x4 S) := by
  rw [f_X7_refusalOfFour]
  refine g_aload_n (pc := 0) C dX7_refusalOfFour_0 0 rfl rfl ?_
  refine g_iload_n (pc := 1) C dX7_refusalOfFour_1 1 rfl rfl ?_
  refine g_callVI (pc := 2) (As := [.int x1]) (st := []) C lv_X7_121 fo_0 rfl (ct_X7_isCart x1 S) (by decide) rfl rfl (Nat.le_of_ble_eq_true rfl) dX7_refusalOfFour_2 (fun r_2 S_1 => ?_)
  refine g_if_eq (pc := 5) C 33 dX7_refusalOfFour_5 (by decide) ?_ ?_
  · refine g_bipush (pc := 33) C (v := (-101)) dX7_refusalOfFour_33 (by decide) ?_
    exact g_iret C M dX7_refusalOfFour_35
  · refine g_aload_n (pc := 8) C dX7_refusalOfFour_8 0 rfl rfl ?_
    refine g_iload_n (pc := 9) C dX7_refusalOfFour_9 2 rfl rfl ?_
    refine g_callVI (pc := 10) (As := [.int x2]) (st := []) C lv_X7_121 fo_0 rfl (ct_X7_isCart x2 S_1) (by decide) rfl rfl (Nat.le_of_ble_eq_true rfl) dX7_refusalOfFour_10 (fun r_4 S_3 => ?_)
    refine g_if_eq (pc := 13) C 33 dX7_refusalOfFour_13 (by decide) ?_ ?_
    · refine g_bipush (pc := 33) C (v := (-101)) dX7_refusalOfFour_33 (by decide) ?_
      exact g_iret C M dX7_refusalOfFour_35
    · refine g_aload_n (pc := 16) C dX7_refusalOfFour_16 0 rfl rfl ?_
      refine g_iload_n (pc := 17) C dX7_refusalOfFour_17 3 rfl rfl ?_
      refine g_callVI (pc := 18) (As := [.int x3]) (st := []) C lv_X7_121 fo_0 rfl (ct_X7_isCart x3 S_3) (by decide) rfl rfl (Nat.le_of_ble_eq_true rfl) dX7_refusalOfFour_18 (fun r_6 S_5 => ?_)
      refine g_if_eq (pc := 21) C 33 dX7_refusalOfFour_21 (by decide) ?_ ?_
      · refine g_bipush (pc := 33) C (v := (-101)) dX7_refusalOfFour_33 (by decide) ?_
        exact g_iret C M dX7_refusalOfFour_35
      · refine g_aload_n (pc := 24) C dX7_refusalOfFour_24 0 rfl rfl ?_
        refine g_iload (pc := 25) C dX7_refusalOfFour_25 4 rfl ?_
        refine g_callVI (pc := 27) (As := [.int x4]) (st := []) C lv_X7_121 fo_0 rfl (ct_X7_isCart x4 S_5) (by decide) rfl rfl (Nat.le_of_ble_eq_true rfl) dX7_refusalOfFour_27 (fun r_8 S_7 => ?_)
        refine g_if_ne (pc := 30) C 36 dX7_refusalOfFour_30 (by decide) ?_ ?_
        · refine g_bipush (pc := 33) C (v := (-101)) dX7_refusalOfFour_33 (by decide) ?_
          exact g_iret C M dX7_refusalOfFour_35
        · refine g_iload_n (pc := 36) C dX7_refusalOfFour_36 1 rfl rfl ?_
          refine g_iload_n (pc := 37) C dX7_refusalOfFour_37 2 rfl rfl ?_
          refine g_icmp_eq (pc := 38) C 69 dX7_refusalOfFour_38 (by decide) ?_ ?_
          · exact g_sub [0] rfl (p_X7_refusalOfFour_b69 C M S_7)
          · refine g_iload_n (pc := 41) C dX7_refusalOfFour_41 1 rfl rfl ?_
            refine g_iload_n (pc := 42) C dX7_refusalOfFour_42 3 rfl rfl ?_
            refine g_icmp_eq (pc := 43) C 69 dX7_refusalOfFour_43 (by decide) ?_ ?_
            · exact g_sub [0] rfl (p_X7_refusalOfFour_b69 C M S_7)
            · refine g_iload_n (pc := 46) C dX7_refusalOfFour_46 1 rfl rfl ?_
              refine g_iload (pc := 47) C dX7_refusalOfFour_47 4 rfl ?_
              refine g_icmp_eq (pc := 49) C 69 dX7_refusalOfFour_49 (by decide) ?_ ?_
              · exact g_sub [0] rfl (p_X7_refusalOfFour_b69 C M S_7)
              · refine g_iload_n (pc := 52) C dX7_refusalOfFour_52 2 rfl rfl ?_
                refine g_iload_n (pc := 53) C dX7_refusalOfFour_53 3 rfl rfl ?_
                refine g_icmp_eq (pc := 54) C 69 dX7_refusalOfFour_54 (by decide) ?_ ?_
                · exact g_sub [0] rfl (p_X7_refusalOfFour_b69 C M S_7)
                · refine g_iload_n (pc := 57) C dX7_refusalOfFour_57 2 rfl rfl ?_
                  refine g_iload (pc := 58) C dX7_refusalOfFour_58 4 rfl ?_
                  refine g_icmp_eq (pc := 60) C 69 dX7_refusalOfFour_60 (by decide) ?_ ?_
                  · exact g_sub [0] rfl (p_X7_refusalOfFour_b69 C M S_7)
                  · refine g_iload_n (pc := 63) C dX7_refusalOfFour_63 3 rfl rfl ?_
                    refine g_iload (pc := 64) C dX7_refusalOfFour_64 4 rfl ?_
                    refine g_icmp_ne (pc := 66) C 73 dX7_refusalOfFour_66 (by decide) ?_ ?_
                    · exact g_sub [0] rfl (p_X7_refusalOfFour_b69 C M S_7)
                    · refine g_iconst (pc := 73) C (v := 0) dX7_refusalOfFour_73 (by decide) ?_
                      exact g_sub [0] rfl (p_X7_refusalOfFour_b74 C M 0 S_7)
theorem ct_X7_refusalOfFour {Γ : GA} (x1 : Int32) (x2 : Int32) (x3 : Int32) (x4 : Int32) (S : St) : CtI Γ yX7_refusalOfFour cX7_refusalOfFour 6 (some .int) 1 [.ref (gX Γ 0), .int x1, .int x2, .int x3, .int x4] S (f_X7_refusalOfFour x1 x2 x3 x4 S) :=
  ctI_of (by decide) (Nat.le_of_ble_eq_true rfl) (fun _ C M => p_X7_refusalOfFour C M x1 x2 x3 x4 S)
set_option maxRecDepth 100000 in
set_option maxHeartbeats 4000000 in
theorem p_X7_takeTimes {Γ : GA} {E : EV} (C : Cx Γ E RX7 cX7_takeTimes 6 5 none) (M : Mx Γ E) (x1 : Int32) (x2 : Int32) (x3 : Int32) (x4 : Int32) (x5 : Int32) (S : St) : G Γ E (QV Γ E) 6 0 [(0, .ref (gX Γ 0)), (1, .int x1), (2, .int x2), (3, .int x3), (4, .int x4), (5, .int x5)] [] S (f_X7_takeTimes x1 x2 x3 x4 x5 S) := by
  rw [f_X7_takeTimes]
  refine g_aload_n (pc := 0) C dX7_takeTimes_0 0 rfl rfl ?_
  refine g_getR (pc := 1) C lk_X7_60 fr_0_7 dX7_takeTimes_1 ?_
  refine g_iconst (pc := 4) C (v := 0) dX7_takeTimes_4 (by decide) ?_
  refine g_aload_n (pc := 5) C dX7_takeTimes_5 0 rfl rfl ?_
  refine g_iload_n (pc := 6) C dX7_takeTimes_6 1 rfl rfl ?_
  refine g_iload (pc := 7) C dX7_takeTimes_7 5 rfl ?_
  refine g_callVI (pc := 9) (As := [.int x1, .int x5]) (st := [.int 0, .ref (gX Γ 53)]) C lv_X7_236 fo_0 rfl (ct_X7_timeOf x1 x5 S) (by decide) rfl rfl (Nat.le_of_ble_eq_true rfl) dX7_takeTimes_9 (fun r_2 S_1 => ?_)
  refine g_iast (pc := 12) C ai_53 dX7_takeTimes_12 (fun S_3 => ?_)
  refine g_aload_n (pc := 13) C dX7_takeTimes_13 0 rfl rfl ?_
  refine g_getR (pc := 14) C lk_X7_60 fr_0_7 dX7_takeTimes_14 ?_
  refine g_iconst (pc := 17) C (v := 1) dX7_takeTimes_17 (by decide) ?_
  refine g_aload_n (pc := 18) C dX7_takeTimes_18 0 rfl rfl ?_
  refine g_iload_n (pc := 19) C dX7_takeTimes_19 2 rfl rfl ?_
  refine g_iload (pc := 20) C dX7_takeTimes_20 5 rfl ?_
  refine g_callVI (pc := 22) (As := [.int x2, .int x5]) (st := [.int 1, .ref (gX Γ 53)]) C lv_X7_236 fo_0 rfl (ct_X7_timeOf x2 x5 S_3) (by decide) rfl rfl (Nat.le_of_ble_eq_true rfl) dX7_takeTimes_22 (fun r_5 S_4 => ?_)
  refine g_iast (pc := 25) C ai_53 dX7_takeTimes_25 (fun S_6 => ?_)
  refine g_aload_n (pc := 26) C dX7_takeTimes_26 0 rfl rfl ?_
  refine g_getR (pc := 27) C lk_X7_60 fr_0_7 dX7_takeTimes_27 ?_
  refine g_iconst (pc := 30) C (v := 2) dX7_takeTimes_30 (by decide) ?_
  refine g_aload_n (pc := 31) C dX7_takeTimes_31 0 rfl rfl ?_
  refine g_iload_n (pc := 32) C dX7_takeTimes_32 3 rfl rfl ?_
  refine g_iload (pc := 33) C dX7_takeTimes_33 5 rfl ?_
  refine g_callVI (pc := 35) (As := [.int x3, .int x5]) (st := [.int 2, .ref (gX Γ 53)]) C lv_X7_236 fo_0 rfl (ct_X7_timeOf x3 x5 S_6) (by decide) rfl rfl (Nat.le_of_ble_eq_true rfl) dX7_takeTimes_35 (fun r_8 S_7 => ?_)
  refine g_iast (pc := 38) C ai_53 dX7_takeTimes_38 (fun S_9 => ?_)
  refine g_aload_n (pc := 39) C dX7_takeTimes_39 0 rfl rfl ?_
  refine g_getR (pc := 40) C lk_X7_60 fr_0_7 dX7_takeTimes_40 ?_
  refine g_iconst (pc := 43) C (v := 3) dX7_takeTimes_43 (by decide) ?_
  refine g_aload_n (pc := 44) C dX7_takeTimes_44 0 rfl rfl ?_
  refine g_iload (pc := 45) C dX7_takeTimes_45 4 rfl ?_
  refine g_iload (pc := 47) C dX7_takeTimes_47 5 rfl ?_
  refine g_callVI (pc := 49) (As := [.int x4, .int x5]) (st := [.int 3, .ref (gX Γ 53)]) C lv_X7_236 fo_0 rfl (ct_X7_timeOf x4 x5 S_9) (by decide) rfl rfl (Nat.le_of_ble_eq_true rfl) dX7_takeTimes_49 (fun r_11 S_10 => ?_)
  refine g_iast (pc := 52) C ai_53 dX7_takeTimes_52 (fun S_12 => ?_)
  exact g_vret C M dX7_takeTimes_53
theorem ct_X7_takeTimes {Γ : GA} (x1 : Int32) (x2 : Int32) (x3 : Int32) (x4 : Int32) (x5 : Int32) (S : St) : CtV Γ yX7_takeTimes cX7_takeTimes 6 none 5 [.ref (gX Γ 0), .int x1, .int x2, .int x3, .int x4, .int x5] S (f_X7_takeTimes x1 x2 x3 x4 x5 S) :=
  ctV_of (by decide) (Nat.le_of_ble_eq_true rfl) (fun _ C M => p_X7_takeTimes C M x1 x2 x3 x4 x5 S)
set_option maxRecDepth 100000 in
set_option maxHeartbeats 4000000 in
theorem p_X7_thousandths {Γ : GA} {E : EV} (C : Cx Γ E RX7 cX7_thousandths 10 2 (some .int)) (M : Mx Γ E) (x1 : Int32) (x2 : Int32) (x3 : Int32) (S : St) : G Γ E (QI Γ E) 10 0 [(0, .ref (gX Γ 0)), (1, .int x1), (2, .int x2), (3, .int x3)] [] S (f_X7_thousandths x1 x2 x3 S) := by
  rw [f_X7_thousandths]
  refine g_aload_n (pc := 0) C dX7_thousandths_0 0 rfl rfl ?_
  refine g_getR (pc := 1) C lk_X7_60 fr_0_7 dX7_thousandths_1 ?_
  refine g_iload_n (pc := 4) C dX7_thousandths_4 1 rfl rfl ?_
  refine g_iconst (pc := 5) C (v := 3) dX7_thousandths_5 (by decide) ?_
  refine g_iand (pc := 6) C dX7_thousandths_6 ?_
  refine g_iald (pc := 7) C ai_53 dX7_thousandths_7 ?_
  refine g_istore (pc := 8) C dX7_thousandths_8 (by decide) (fun x => [(4, .int x), (0, .ref (gX Γ 0)), (1, .int x1), (2, .int x2), (3, .int x3)]) (fun _ => rfl) (fun x4_1 => ?_)
  refine g_aload_n (pc := 10) C dX7_thousandths_10 1 rfl rfl ?_
  refine g_getR (pc := 11) C lk_X7_60 fr_0_7 dX7_thousandths_11 ?_
  refine g_iload_n (pc := 14) C dX7_thousandths_14 2 rfl rfl ?_
  refine g_iload_n (pc := 15) C dX7_thousandths_15 3 rfl rfl ?_
  refine g_ixor (pc := 16) C dX7_thousandths_16 ?_
  refine g_iconst (pc := 17) C (v := 3) dX7_thousandths_17 (by decide) ?_
  refine g_iand (pc := 18) C dX7_thousandths_18 ?_
  refine g_iald (pc := 19) C ai_53 dX7_thousandths_19 ?_
  refine g_istore (pc := 20) C dX7_thousandths_20 (by decide) (fun x => [(5, .int x), (4, .int x4_1), (0, .ref (gX Γ 0)), (1, .int x1), (2, .int x2), (3, .int x3)]) (fun _ => rfl) (fun x5_2 => ?_)
  refine g_aload_n (pc := 22) C dX7_thousandths_22 2 rfl rfl ?_
  refine g_getR (pc := 23) C lk_X7_60 fr_0_7 dX7_thousandths_23 ?_
  refine g_iload_n (pc := 26) C dX7_thousandths_26 3 rfl rfl ?_
  refine g_iload_n (pc := 27) C dX7_thousandths_27 4 rfl rfl ?_
  refine g_iconst (pc := 28) C (v := 3) dX7_thousandths_28 (by decide) ?_
  refine g_irem (pc := 29) C dX7_thousandths_29 ?_
  refine g_iconst (pc := 30) C (v := 1) dX7_thousandths_30 (by decide) ?_
  refine g_iadd (pc := 31) C dX7_thousandths_31 ?_
  refine g_ixor (pc := 32) C dX7_thousandths_32 ?_
  refine g_iconst (pc := 33) C (v := 3) dX7_thousandths_33 (by decide) ?_
  refine g_iand (pc := 34) C dX7_thousandths_34 ?_
  refine g_iald (pc := 35) C ai_53 dX7_thousandths_35 ?_
  refine g_istore (pc := 36) C dX7_thousandths_36 (by decide) (fun x => [(6, .int x), (5, .int x5_2), (4, .int x4_1), (0, .ref (gX Γ 0)), (1, .int x1), (2, .int x2), (3, .int x3)]) (fun _ => rfl) (fun x6_3 => ?_)
  refine g_aload_n (pc := 38) C dX7_thousandths_38 3 rfl rfl ?_
  refine g_getR (pc := 39) C lk_X7_60 fr_0_7 dX7_thousandths_39 ?_
  refine g_iload_n (pc := 42) C dX7_thousandths_42 4 rfl rfl ?_
  refine g_iload_n (pc := 43) C dX7_thousandths_43 5 rfl rfl ?_
  refine g_iconst (pc := 44) C (v := 1) dX7_thousandths_44 (by decide) ?_
  refine g_iadd (pc := 45) C dX7_thousandths_45 ?_
  refine g_iconst (pc := 46) C (v := 3) dX7_thousandths_46 (by decide) ?_
  refine g_irem (pc := 47) C dX7_thousandths_47 ?_
  refine g_iconst (pc := 48) C (v := 1) dX7_thousandths_48 (by decide) ?_
  refine g_iadd (pc := 49) C dX7_thousandths_49 ?_
  refine g_ixor (pc := 50) C dX7_thousandths_50 ?_
  refine g_iconst (pc := 51) C (v := 3) dX7_thousandths_51 (by decide) ?_
  refine g_iand (pc := 52) C dX7_thousandths_52 ?_
  refine g_iald (pc := 53) C ai_53 dX7_thousandths_53 ?_
  refine g_istore (pc := 54) C dX7_thousandths_54 (by decide) (fun x => [(7, .int x), (6, .int x6_3), (5, .int x5_2), (4, .int x4_1), (0, .ref (gX Γ 0)), (1, .int x1), (2, .int x2), (3, .int x3)]) (fun _ => rfl) (fun x7_4 => ?_)
  refine g_iload (pc := 56) C dX7_thousandths_56 1 rfl ?_
  refine g_iload (pc := 58) C dX7_thousandths_58 0 rfl ?_
  refine g_iload_n (pc := 60) C dX7_thousandths_60 7 rfl rfl ?_
  refine g_callSI (pc := 61) (As := [.int x6_3, .int x7_4, .int x3]) (st := []) C ls_X7_239 (ct_X7_tenths x6_3 x7_4 x3 S) (by decide) rfl rfl (Nat.le_of_ble_eq_true rfl) dX7_thousandths_61 (fun r_6 S_5 => ?_)
  refine g_iload (pc := 64) C dX7_thousandths_64 3 rfl ?_
  refine g_iload (pc := 66) C dX7_thousandths_66 1 rfl ?_
  refine g_iload_n (pc := 68) C dX7_thousandths_68 7 rfl rfl ?_
  refine g_callSI (pc := 69) (As := [.int x4_1, .int x6_3, .int x3]) (st := [.int r_6]) C ls_X7_239 (ct_X7_tenths x4_1 x6_3 x3 S_5) (by decide) rfl rfl (Nat.le_of_ble_eq_true rfl) dX7_thousandths_69 (fun r_8 S_7 => ?_)
  refine g_imul (pc := 72) C dX7_thousandths_72 ?_
  refine g_istore (pc := 73) C dX7_thousandths_73 (by decide) (fun x => [(8, .int x), (7, .int x7_4), (6, .int x6_3), (5, .int x5_2), (4, .int x4_1), (0, .ref (gX Γ 0)), (1, .int x1), (2, .int x2), (3, .int x3)]) (fun _ => rfl) (fun x8_9 => ?_)
  refine g_iload (pc := 75) C dX7_thousandths_75 1 rfl ?_
  refine g_iload (pc := 77) C dX7_thousandths_77 2 rfl ?_
  refine g_iload_n (pc := 79) C dX7_thousandths_79 8 rfl rfl ?_
  refine g_callSI (pc := 80) (As := [.int x7_4, .int x6_3, .int x3]) (st := []) C ls_X7_239 (ct_X7_tenths x7_4 x6_3 x3 S_7) (by decide) rfl rfl (Nat.le_of_ble_eq_true rfl) dX7_thousandths_80 (fun r_11 S_10 => ?_)
  refine g_iload (pc := 83) C dX7_thousandths_83 4 rfl ?_
  refine g_iload (pc := 85) C dX7_thousandths_85 1 rfl ?_
  refine g_iload_n (pc := 87) C dX7_thousandths_87 8 rfl rfl ?_
  refine g_callSI (pc := 88) (As := [.int x4_1, .int x7_4, .int x3]) (st := [.int r_11]) C ls_X7_239 (ct_X7_tenths x4_1 x7_4 x3 S_10) (by decide) rfl rfl (Nat.le_of_ble_eq_true rfl) dX7_thousandths_88 (fun r_13 S_12 => ?_)
  refine g_imul (pc := 91) C dX7_thousandths_91 ?_
  refine g_istore (pc := 92) C dX7_thousandths_92 (by decide) (fun x => [(9, .int x), (8, .int x8_9), (7, .int x7_4), (6, .int x6_3), (5, .int x5_2), (4, .int x4_1), (0, .ref (gX Γ 0)), (1, .int x1), (2, .int x2), (3, .int x3)]) (fun _ => rfl) (fun x9_14 => ?_)
  refine g_iload (pc := 94) C dX7_thousandths_94 5 rfl ?_
  refine g_iload (pc := 96) C dX7_thousandths_96 4 rfl ?_
  refine g_iload_n (pc := 98) C dX7_thousandths_98 9 rfl rfl ?_
  refine g_callSI (pc := 99) (As := [.int x4_1, .int x5_2, .int x3]) (st := []) C ls_X7_239 (ct_X7_tenths x4_1 x5_2 x3 S_12) (by decide) rfl rfl (Nat.le_of_ble_eq_true rfl) dX7_thousandths_99 (fun r_16 S_15 => ?_)
  refine g_iload (pc := 102) C dX7_thousandths_102 1 rfl ?_
  refine g_iload (pc := 104) C dX7_thousandths_104 0 rfl ?_
  refine g_iadd (pc := 106) C dX7_thousandths_106 ?_
  refine g_imul (pc := 107) C dX7_thousandths_107 ?_
  exact g_iret C M dX7_thousandths_108
theorem ct_X7_thousandths {Γ : GA} (x1 : Int32) (x2 : Int32) (x3 : Int32) (S : St) : CtI Γ yX7_thousandths cX7_thousandths 10 (some .int) 2 [.ref (gX Γ 0), .int x1, .int x2, .int x3] S (f_X7_thousandths x1 x2 x3 S) :=
  ctI_of (by decide) (Nat.le_of_ble_eq_true rfl) (fun _ C M => p_X7_thousandths C M x1 x2 x3 S)
set_option maxRecDepth 100000 in
set_option maxHeartbeats 4000000 in
theorem p_X7_lowest_b54 {Γ : GA} {E : EV} (C : Cx Γ E RX7 cX7_lowest 12 0 (some .long)) (M : Mx Γ E) (l5 : Int64) (s0 : Int64) (S : St) : G Γ E (QL Γ E) 12 54 [(5, .long l5)] [.long s0] S (f_X7_lowest_b54 l5 s0 S) := by
  rw [f_X7_lowest_b54]
  refine g_lstore0 (pc := 54) C dX7_lowest_54 (by decide) (lv' := [(9, .long s0), (5, .long l5)]) rfl ?_
  refine g_lload (pc := 56) C dX7_lowest_56 1 rfl ?_
  refine g_lconst (pc := 58) C (v := 0) dX7_lowest_58 (by decide) ?_
  refine g_lcmp (pc := 59) C dX7_lowest_59 ?_
  refine g_if_le (pc := 60) C 71 dX7_lowest_60 (by decide) ?_ ?_
  · refine g_lload (pc := 71) C dX7_lowest_71 0 rfl ?_
    exact g_lret C M dX7_lowest_73
  · refine g_lload (pc := 63) C dX7_lowest_63 0 rfl ?_
    refine g_lload (pc := 65) C dX7_lowest_65 1 rfl ?_
    refine g_ldiv (pc := 67) C dX7_lowest_67 ?_
    refine g_goto (pc := 68) C 73 dX7_lowest_68 (by decide) ?_
    exact g_lret C M dX7_lowest_73
set_option maxRecDepth 100000 in
set_option maxHeartbeats 4000000 in
theorem p_X7_lowest_b44 {Γ : GA} {E : EV} (C : Cx Γ E RX7 cX7_lowest 12 0 (some .long)) (M : Mx Γ E) (l0 : Int64) (l2 : Int64) (x4 : Int32) (l5 : Int64) (S : St) : G Γ E (QL Γ E) 12 44 [(0, .long l0), (2, .long l2), (4, .int x4), (5, .long l5)] [] S (f_X7_lowest_b44 l0 l2 x4 l5 S) := by
  rw [f_X7_lowest_b44]
  refine g_iload (pc := 44) C dX7_lowest_44 2 rfl ?_
  refine g_if_ne (pc := 46) C 53 dX7_lowest_46 (by decide) ?_ ?_
  · refine g_lload_n (pc := 49) C dX7_lowest_49 0 rfl rfl ?_
    refine g_goto (pc := 50) C 54 dX7_lowest_50 (by decide) ?_
    exact g_sub [3] rfl (p_X7_lowest_b54 C M l5 l0 S)
  · refine g_lload_n (pc := 53) C dX7_lowest_53 1 rfl rfl ?_
    exact g_sub [3] rfl (p_X7_lowest_b54 C M l5 l2 S)
set_option maxRecDepth 100000 in
set_option maxHeartbeats 4000000 in
theorem p_X7_lowest_l9 {Γ : GA} {E : EV} (C : Cx Γ E RX7 cX7_lowest 12 0 (some .long)) (M : Mx Γ E) : ∀ (n : Nat) (l0 : Int64) (l2 : Int64) (x4 : Int32) (l5 : Int64) (l7 : Int64) (x9 : Int32) (S : St), G Γ E (QL Γ E) 12 9 [(0, .long l0), (2, .long l2), (4, .int x4), (5, .long l5), (7, .long l7), (9, .int x9)] [] S (f_X7_lowest_l9 n l0 l2 x4 l5 l7 x9 S) := by
  intro n
  induction n with
  | zero => intro l0 l2 x4 l5 l7 x9 S; exact g_none
  | succ n ih =>
    intro l0 l2 x4 l5 l7 x9 S
    rw [f_X7_lowest_l9]
    refine g_iload (pc := 9) C dX7_lowest_9 5 rfl ?_
    refine g_bipush (pc := 11) C (v := 100) dX7_lowest_11 (by decide) ?_
    refine g_icmp_ge (pc := 13) C 44 dX7_lowest_13 (by decide) ?_ ?_
    · exact g_sub [0, 1, 2, 3] rfl (p_X7_lowest_b44 C M l0 l2 x4 l5 S)
    · refine g_lload (pc := 16) C dX7_lowest_16 4 rfl ?_
      refine g_lconst (pc := 18) C (v := 0) dX7_lowest_18 (by decide) ?_
      refine g_lcmp (pc := 19) C dX7_lowest_19 ?_
      refine g_if_eq (pc := 20) C 44 dX7_lowest_20 (by decide) ?_ ?_
      · exact g_sub [0, 1, 2, 3] rfl (p_X7_lowest_b44 C M l0 l2 x4 l5 S)
      · refine g_lload (pc := 23) C dX7_lowest_23 3 rfl ?_
        refine g_lload (pc := 25) C dX7_lowest_25 4 rfl ?_
        refine g_lrem (pc := 27) C dX7_lowest_27 ?_
        refine g_lstore (pc := 28) C dX7_lowest_28 (by decide) (fun x => [(10, .long x), (0, .long l0), (2, .long l2), (4, .int x4), (5, .long l5), (7, .long l7), (9, .int x9)]) (fun _ => rfl) (fun l10_1 => ?_)
        refine g_lload (pc := 30) C dX7_lowest_30 5 rfl ?_
        refine g_lstore0 (pc := 32) C dX7_lowest_32 (by decide) (lv' := [(5, .long l7), (10, .long l10_1), (0, .long l0), (2, .long l2), (4, .int x4), (7, .long l7), (9, .int x9)]) rfl ?_
        refine g_lload (pc := 34) C dX7_lowest_34 1 rfl ?_
        refine g_lstore0 (pc := 36) C dX7_lowest_36 (by decide) (lv' := [(7, .long l10_1), (5, .long l7), (10, .long l10_1), (0, .long l0), (2, .long l2), (4, .int x4), (9, .int x9)]) rfl ?_
        refine g_iinc (pc := 38) C (v := 1) dX7_lowest_38 6 rfl (by decide) (by decide) (fun x => [(9, .int x), (7, .long l10_1), (5, .long l7), (10, .long l10_1), (0, .long l0), (2, .long l2), (4, .int x4)]) (fun _ => rfl) (fun x9_2 => ?_)
        refine g_goto (pc := 41) C 9 dX7_lowest_41 (by decide) ?_
        exact g_sub [4, 5, 6, 2, 1, 0] rfl (ih l0 l2 x4 l7 l10_1 x9_2 S)
set_option maxRecDepth 100000 in
set_option maxHeartbeats 4000000 in
theorem p_X7_lowest {Γ : GA} {E : EV} (C : Cx Γ E RX7 cX7_lowest 12 0 (some .long)) (M : Mx Γ E) (l0 : Int64) (l2 : Int64) (x4 : Int32) (S : St) : G Γ E (QL Γ E) 12 0 [(0, .long l0), (2, .long l2), (4, .int x4)] [] S (f_X7_lowest l0 l2 x4 S) := by
  rw [f_X7_lowest]
  refine g_lload_n (pc := 0) C dX7_lowest_0 0 rfl rfl ?_
  refine g_lstore0 (pc := 1) C dX7_lowest_1 (by decide) (lv' := [(5, .long l0), (0, .long l0), (2, .long l2), (4, .int x4)]) rfl ?_
  refine g_lload_n (pc := 3) C dX7_lowest_3 2 rfl rfl ?_
  refine g_lstore0 (pc := 4) C dX7_lowest_4 (by decide) (lv' := [(7, .long l2), (5, .long l0), (0, .long l0), (2, .long l2), (4, .int x4)]) rfl ?_
  refine g_iconst (pc := 6) C (v := 0) dX7_lowest_6 (by decide) ?_
  refine g_istore0 (pc := 7) C dX7_lowest_7 (by decide) (lv' := [(9, .int 0), (7, .long l2), (5, .long l0), (0, .long l0), (2, .long l2), (4, .int x4)]) rfl ?_
  exact g_sub [3, 4, 5, 2, 1, 0] rfl (p_X7_lowest_l9 C M FU l0 l2 x4 l0 l2 0 S)
theorem ct_X7_lowest {Γ : GA} (l0 : Int64) (l2 : Int64) (x4 : Int32) (S : St) : CtL Γ yX7_lowest cX7_lowest 12 (some .long) 0 [.long l0, .long l2, .int x4] S (f_X7_lowest l0 l2 x4 S) :=
  ctL_of (by decide) (Nat.le_of_ble_eq_true rfl) (fun _ C M => p_X7_lowest C M l0 l2 x4 S)
set_option maxRecDepth 100000 in
set_option maxHeartbeats 4000000 in
theorem p_X7_wins {Γ : GA} {E : EV} (C : Cx Γ E RX7 cX7_wins 10 6 (some .int)) (M : Mx Γ E) (x1 : Int32) (x2 : Int32) (x3 : Int32) (x4 : Int32) (x5 : Int32) (x6 : Int32) (x7 : Int32) (x8 : Int32) (S : St) : G Γ E (QI Γ E) 10 0 [(0, .ref (gX Γ 0)), (1, .int x1), (2, .int x2), (3, .int x3), (4, .int x4), (5, .int x5), (6, .int x6), (7, .int x7), (8, .int x8)] [] S (f_X7_wins x1 x2 x3 x4 x5 x6 x7 x8 S) := by
  rw [f_X7_wins]
  refine g_aload_n (pc := 0) C dX7_wins_0 0 rfl rfl ?_
  refine g_iload_n (pc := 1) C dX7_wins_1 1 rfl rfl ?_
  refine g_iload_n (pc := 2) C dX7_wins_2 2 rfl rfl ?_
  refine g_iload_n (pc := 3) C dX7_wins_3 3 rfl rfl ?_
  refine g_iload (pc := 4) C dX7_wins_4 4 rfl ?_
  refine g_callVI (pc := 6) (As := [.int x1, .int x2, .int x3, .int x4]) (st := []) C lv_X7_242 fo_0 rfl (ct_X7_refusalOfFour x1 x2 x3 x4 S) (by decide) rfl rfl (Nat.le_of_ble_eq_true rfl) dX7_wins_6 (fun r_2 S_1 => ?_)
  refine g_istore0 (pc := 9) C dX7_wins_9 (by decide) (lv' := [(9, .int r_2), (0, .ref (gX Γ 0)), (1, .int x1), (2, .int x2), (3, .int x3), (4, .int x4), (5, .int x5), (6, .int x6), (7, .int x7), (8, .int x8)]) rfl ?_
  refine g_iload (pc := 11) C dX7_wins_11 0 rfl ?_
  refine g_if_eq (pc := 13) C 19 dX7_wins_13 (by decide) ?_ ?_
  · refine g_iload (pc := 19) C dX7_wins_19 6 rfl ?_
    refine g_callSI (pc := 21) (As := [.int x5]) (st := []) C ls_X7_156 (ct_X7_isSwing x5 S_1) (by decide) rfl rfl (Nat.le_of_ble_eq_true rfl) dX7_wins_21 (fun r_4 S_3 => ?_)
    refine g_if_eq (pc := 24) C 58 dX7_wins_24 (by decide) ?_ ?_
    · refine g_bipush (pc := 58) C (v := (-102)) dX7_wins_58 (by decide) ?_
      exact g_iret C M dX7_wins_60
    · refine g_iload (pc := 27) C dX7_wins_27 7 rfl ?_
      refine g_iconst (pc := 29) C (v := 1) dX7_wins_29 (by decide) ?_
      refine g_bipush (pc := 30) C (v := 99) dX7_wins_30 (by decide) ?_
      refine g_callSI (pc := 32) (As := [.int x6, .int 1, .int 99]) (st := []) C ls_X7_137 (ct_X7_isWithin x6 1 99 S_3) (by decide) rfl rfl (Nat.le_of_ble_eq_true rfl) dX7_wins_32 (fun r_6 S_5 => ?_)
      refine g_if_eq (pc := 35) C 58 dX7_wins_35 (by decide) ?_ ?_
      · refine g_bipush (pc := 58) C (v := (-102)) dX7_wins_58 (by decide) ?_
        exact g_iret C M dX7_wins_60
      · refine g_iload (pc := 38) C dX7_wins_38 8 rfl ?_
        refine g_iconst (pc := 40) C (v := 0) dX7_wins_40 (by decide) ?_
        refine g_iconst (pc := 41) C (v := 3) dX7_wins_41 (by decide) ?_
        refine g_callSI (pc := 42) (As := [.int x7, .int 0, .int 3]) (st := []) C ls_X7_137 (ct_X7_isWithin x7 0 3 S_5) (by decide) rfl rfl (Nat.le_of_ble_eq_true rfl) dX7_wins_42 (fun r_8 S_7 => ?_)
        refine g_if_eq (pc := 45) C 58 dX7_wins_45 (by decide) ?_ ?_
        · refine g_bipush (pc := 58) C (v := (-102)) dX7_wins_58 (by decide) ?_
          exact g_iret C M dX7_wins_60
        · refine g_iload (pc := 48) C dX7_wins_48 9 rfl ?_
          refine g_iconst (pc := 50) C (v := 0) dX7_wins_50 (by decide) ?_
          refine g_iconst (pc := 51) C (v := 1) dX7_wins_51 (by decide) ?_
          refine g_callSI (pc := 52) (As := [.int x8, .int 0, .int 1]) (st := []) C ls_X7_137 (ct_X7_isWithin x8 0 1 S_7) (by decide) rfl rfl (Nat.le_of_ble_eq_true rfl) dX7_wins_52 (fun r_10 S_9 => ?_)
          refine g_if_ne (pc := 55) C 61 dX7_wins_55 (by decide) ?_ ?_
          · refine g_bipush (pc := 58) C (v := (-102)) dX7_wins_58 (by decide) ?_
            exact g_iret C M dX7_wins_60
          · refine g_aload_n (pc := 61) C dX7_wins_61 1 rfl rfl ?_
            refine g_iload_n (pc := 62) C dX7_wins_62 2 rfl rfl ?_
            refine g_iload_n (pc := 63) C dX7_wins_63 3 rfl rfl ?_
            refine g_iload_n (pc := 64) C dX7_wins_64 4 rfl rfl ?_
            refine g_iload (pc := 65) C dX7_wins_65 5 rfl ?_
            refine g_iload (pc := 67) C dX7_wins_67 6 rfl ?_
            refine g_callVV (pc := 69) (As := [.int x1, .int x2, .int x3, .int x4, .int x5]) (st := []) C lv_X7_246 fo_0 rfl (ct_X7_takeTimes x1 x2 x3 x4 x5 S_9) (by decide) rfl rfl (Nat.le_of_ble_eq_true rfl) dX7_wins_69 (fun r_12 S_11 => ?_)
            refine g_aload_n (pc := 72) C dX7_wins_72 1 rfl rfl ?_
            refine g_iload (pc := 73) C dX7_wins_73 8 rfl ?_
            refine g_iconst (pc := 75) C (v := 1) dX7_wins_75 (by decide) ?_
            refine g_iload (pc := 76) C dX7_wins_76 7 rfl ?_
            refine g_callVI (pc := 78) (As := [.int x7, .int 1, .int x6]) (st := []) C lv_X7_250 fo_0 rfl (ct_X7_thousandths x7 1 x6 S_11) (by decide) rfl rfl (Nat.le_of_ble_eq_true rfl) dX7_wins_78 (fun r_14 S_13 => ?_)
            refine g_i2l (pc := 81) C dX7_wins_81 ?_
            refine g_ldc2 (pc := 82) C kc_X7_253 dX7_wins_82 ?_
            refine g_iload (pc := 85) C dX7_wins_85 9 rfl ?_
            refine g_callSL (pc := 87) (As := [.long ((r_14 : Int32).toInt64), .long 1000, .int x8]) (st := []) C ls_X7_255 (ct_X7_lowest ((r_14 : Int32).toInt64) 1000 x8 S_13) (by decide) rfl rfl (Nat.le_of_ble_eq_true rfl) dX7_wins_87 (fun r_16 S_15 => ?_)
            refine g_l2i (pc := 90) C dX7_wins_90 ?_
            exact g_iret C M dX7_wins_91
  · refine g_iload (pc := 16) C dX7_wins_16 0 rfl ?_
    exact g_iret C M dX7_wins_18
theorem ct_X7_wins {Γ : GA} (x1 : Int32) (x2 : Int32) (x3 : Int32) (x4 : Int32) (x5 : Int32) (x6 : Int32) (x7 : Int32) (x8 : Int32) (S : St) : CtI Γ yX7_wins cX7_wins 10 (some .int) 6 [.ref (gX Γ 0), .int x1, .int x2, .int x3, .int x4, .int x5, .int x6, .int x7, .int x8] S (f_X7_wins x1 x2 x3 x4 x5 x6 x7 x8 S) :=
  ctI_of (by decide) (Nat.le_of_ble_eq_true rfl) (fun _ C M => p_X7_wins C M x1 x2 x3 x4 x5 x6 x7 x8 S)
set_option maxRecDepth 100000 in
set_option maxHeartbeats 4000000 in
theorem p_X7_quickestOfFour_b56 {Γ : GA} {E : EV} (C : Cx Γ E RX7 cX7_quickestOfFour 4 0 (some .int)) (M : Mx Γ E) (k4 : Int32 → Int32 → St → Option (Int32 × St)) (hk4 : ∀ (x1 : Int32) (x2 : Int32) (S : St), G Γ E (QI Γ E) 4 4 [(0, .ref (gX Γ 0)), (1, .int x1), (2, .int x2)] [] S (k4 x1 x2 S)) (x1 : Int32) (x2 : Int32) (S : St) : G Γ E (QI Γ E) 4 56 [(0, .ref (gX Γ 0)), (1, .int x1), (2, .int x2)] [] S (f_X7_quickestOfFour_b56 k4 x1 x2 S) := by
  rw [f_X7_quickestOfFour_b56]
  refine g_iinc (pc := 56) C (v := 1) dX7_quickestOfFour_56 2 rfl (by decide) (by decide) (fun x => [(2, .int x), (0, .ref (gX Γ 0)), (1, .int x1)]) (fun _ => rfl) (fun x2_1 => ?_)
  refine g_goto (pc := 59) C 4 dX7_quickestOfFour_59 (by decide) ?_
  exact g_sub [1, 2, 0] rfl (hk4 x1 x2_1 S)
set_option maxRecDepth 100000 in
set_option maxHeartbeats 4000000 in
theorem p_X7_quickestOfFour_b39 {Γ : GA} {E : EV} (C : Cx Γ E RX7 cX7_quickestOfFour 4 0 (some .int)) (M : Mx Γ E) (k4 : Int32 → Int32 → St → Option (Int32 × St)) (hk4 : ∀ (x1 : Int32) (x2 : Int32) (S : St), G Γ E (QI Γ E) 4 4 [(0, .ref (gX Γ 0)), (1, .int x1), (2, .int x2)] [] S (k4 x1 x2 S)) (x1 : Int32) (x2 : Int32) (s0 : Int32) (S : St) : G Γ E (QI Γ E) 4 39 [(0, .ref (gX Γ 0)), (1, .int x1), (2, .int x2)] [.int s0] S (f_X7_quickestOfFour_b39 k4 x1 x2 s0 S) := by
  rw [f_X7_quickestOfFour_b39]
  refine g_istore_n0 (pc := 39) C dX7_quickestOfFour_39 rfl (by decide) (lv' := [(3, .int s0), (0, .ref (gX Γ 0)), (1, .int x1), (2, .int x2)]) rfl ?_
  refine g_aload_n (pc := 40) C dX7_quickestOfFour_40 1 rfl rfl ?_
  refine g_getR (pc := 41) C lk_X7_60 fr_0_7 dX7_quickestOfFour_41 ?_
  refine g_iload_n (pc := 44) C dX7_quickestOfFour_44 3 rfl rfl ?_
  refine g_iald (pc := 45) C ai_53 dX7_quickestOfFour_45 ?_
  refine g_iconst (pc := 46) C (v := (-1)) dX7_quickestOfFour_46 (by decide) ?_
  refine g_icmp_eq (pc := 47) C 56 dX7_quickestOfFour_47 (by decide) ?_ ?_
  · exact g_sub [1, 2, 3] rfl (p_X7_quickestOfFour_b56 C M k4 hk4 x1 x2 S)
  · refine g_iload_n (pc := 50) C dX7_quickestOfFour_50 0 rfl rfl ?_
    refine g_if_eq (pc := 51) C 56 dX7_quickestOfFour_51 (by decide) ?_ ?_
    · exact g_sub [1, 2, 3] rfl (p_X7_quickestOfFour_b56 C M k4 hk4 x1 x2 S)
    · refine g_iload_n (pc := 54) C dX7_quickestOfFour_54 3 rfl rfl ?_
      refine g_istore_n0 (pc := 55) C dX7_quickestOfFour_55 rfl (by decide) (lv' := [(1, .int x2), (3, .int s0), (0, .ref (gX Γ 0)), (2, .int x2)]) rfl ?_
      exact g_sub [2, 0, 3] rfl (p_X7_quickestOfFour_b56 C M k4 hk4 x2 x2 S)
set_option maxRecDepth 100000 in
set_option maxHeartbeats 4000000 in
theorem p_X7_quickestOfFour_b34 {Γ : GA} {E : EV} (C : Cx Γ E RX7 cX7_quickestOfFour 4 0 (some .int)) (M : Mx Γ E) (k4 : Int32 → Int32 → St → Option (Int32 × St)) (hk4 : ∀ (x1 : Int32) (x2 : Int32) (S : St), G Γ E (QI Γ E) 4 4 [(0, .ref (gX Γ 0)), (1, .int x1), (2, .int x2)] [] S (k4 x1 x2 S)) (x1 : Int32) (x2 : Int32) (S : St) : G Γ E (QI Γ E) 4 34 [(0, .ref (gX Γ 0)), (1, .int x1), (2, .int x2)] [] S (f_X7_quickestOfFour_b34 k4 x1 x2 S) := by
  rw [f_X7_quickestOfFour_b34]
  refine g_iconst (pc := 34) C (v := 1) dX7_quickestOfFour_34 (by decide) ?_
  refine g_goto (pc := 35) C 39 dX7_quickestOfFour_35 (by decide) ?_
  exact g_sub [0, 1, 2] rfl (p_X7_quickestOfFour_b39 C M k4 hk4 x1 x2 1 S)
set_option maxRecDepth 100000 in
set_option maxHeartbeats 4000000 in
theorem p_X7_quickestOfFour_l4 {Γ : GA} {E : EV} (C : Cx Γ E RX7 cX7_quickestOfFour 4 0 (some .int)) (M : Mx Γ E) : ∀ (n : Nat) (x1 : Int32) (x2 : Int32) (S : St), G Γ E (QI Γ E) 4 4 [(0, .ref (gX Γ 0)), (1, .int x1), (2, .int x2)] [] S (f_X7_quickestOfFour_l4 n x1 x2 S) := by
  intro n
  induction n with
  | zero => intro x1 x2 S; exact g_none
  | succ n ih =>
    intro x1 x2 S
    rw [f_X7_quickestOfFour_l4]
    refine g_iload_n (pc := 4) C dX7_quickestOfFour_4 2 rfl rfl ?_
    refine g_iconst (pc := 5) C (v := 4) dX7_quickestOfFour_5 (by decide) ?_
    refine g_icmp_ge (pc := 6) C 62 dX7_quickestOfFour_6 (by decide) ?_ ?_
    · refine g_iload_n (pc := 62) C dX7_quickestOfFour_62 1 rfl rfl ?_
      exact g_iret C M dX7_quickestOfFour_63
    · refine g_aload_n (pc := 9) C dX7_quickestOfFour_9 0 rfl rfl ?_
      refine g_getR (pc := 10) C lk_X7_60 fr_0_7 dX7_quickestOfFour_10 ?_
      refine g_iload_n (pc := 13) C dX7_quickestOfFour_13 1 rfl rfl ?_
      refine g_iald (pc := 14) C ai_53 dX7_quickestOfFour_14 ?_
      refine g_iconst (pc := 15) C (v := (-1)) dX7_quickestOfFour_15 (by decide) ?_
      refine g_icmp_eq (pc := 16) C 34 dX7_quickestOfFour_16 (by decide) ?_ ?_
      · exact g_sub [0, 1, 2] rfl (p_X7_quickestOfFour_b34 C M (f_X7_quickestOfFour_l4 n) ih x1 x2 S)
      · refine g_aload_n (pc := 19) C dX7_quickestOfFour_19 0 rfl rfl ?_
        refine g_getR (pc := 20) C lk_X7_60 fr_0_7 dX7_quickestOfFour_20 ?_
        refine g_iload_n (pc := 23) C dX7_quickestOfFour_23 2 rfl rfl ?_
        refine g_iald (pc := 24) C ai_53 dX7_quickestOfFour_24 ?_
        refine g_aload_n (pc := 25) C dX7_quickestOfFour_25 0 rfl rfl ?_
        refine g_getR (pc := 26) C lk_X7_60 fr_0_7 dX7_quickestOfFour_26 ?_
        refine g_iload_n (pc := 29) C dX7_quickestOfFour_29 1 rfl rfl ?_
        refine g_iald (pc := 30) C ai_53 dX7_quickestOfFour_30 ?_
        refine g_icmp_ge (pc := 31) C 38 dX7_quickestOfFour_31 (by decide) ?_ ?_
        · refine g_iconst (pc := 38) C (v := 0) dX7_quickestOfFour_38 (by decide) ?_
          exact g_sub [0, 1, 2] rfl (p_X7_quickestOfFour_b39 C M (f_X7_quickestOfFour_l4 n) ih x1 x2 0 S)
        · exact g_sub [0, 1, 2] rfl (p_X7_quickestOfFour_b34 C M (f_X7_quickestOfFour_l4 n) ih x1 x2 S)
set_option maxRecDepth 100000 in
set_option maxHeartbeats 4000000 in
theorem p_X7_quickestOfFour {Γ : GA} {E : EV} (C : Cx Γ E RX7 cX7_quickestOfFour 4 0 (some .int)) (M : Mx Γ E) (S : St) : G Γ E (QI Γ E) 4 0 [(0, .ref (gX Γ 0))] [] S (f_X7_quickestOfFour S) := by
  rw [f_X7_quickestOfFour]
  refine g_iconst (pc := 0) C (v := 0) dX7_quickestOfFour_0 (by decide) ?_
  refine g_istore_n0 (pc := 1) C dX7_quickestOfFour_1 rfl (by decide) (lv' := [(1, .int 0), (0, .ref (gX Γ 0))]) rfl ?_
  refine g_iconst (pc := 2) C (v := 1) dX7_quickestOfFour_2 (by decide) ?_
  refine g_istore_n0 (pc := 3) C dX7_quickestOfFour_3 rfl (by decide) (lv' := [(2, .int 1), (1, .int 0), (0, .ref (gX Γ 0))]) rfl ?_
  exact g_sub [2, 1, 0] rfl (p_X7_quickestOfFour_l4 C M FU 0 1 S)
theorem ct_X7_quickestOfFour {Γ : GA} (S : St) : CtI Γ yX7_quickestOfFour cX7_quickestOfFour 4 (some .int) 0 [.ref (gX Γ 0)] S (f_X7_quickestOfFour S) :=
  ctI_of (by decide) (Nat.le_of_ble_eq_true rfl) (fun _ C M => p_X7_quickestOfFour C M  S)
set_option maxRecDepth 100000 in
set_option maxHeartbeats 4000000 in
theorem p_X7_plan_b102 {Γ : GA} {E : EV} (C : Cx Γ E RX7 cX7_plan 13 6 (some .int)) (M : Mx Γ E) (k67 : Int32 → Int32 → Int32 → Int32 → Int32 → St → Option (Int32 × St)) (hk67 : ∀ (x6 : Int32) (x8 : Int32) (x9 : Int32) (x10 : Int32) (x11 : Int32) (S : St), G Γ E (QI Γ E) 13 67 [(0, .ref (gX Γ 0)), (6, .int x6), (8, .int x8), (9, .int x9), (10, .int x10), (11, .int x11)] [] S (k67 x6 x8 x9 x10 x11 S)) (x6 : Int32) (x8 : Int32) (x9 : Int32) (x10 : Int32) (x11 : Int32) (S : St) : G Γ E (QI Γ E) 13 102 [(0, .ref (gX Γ 0)), (6, .int x6), (8, .int x8), (9, .int x9), (10, .int x10), (11, .int x11)] [] S (f_X7_plan_b102 k67 x6 x8 x9 x10 x11 S) := by
  rw [f_X7_plan_b102]
  refine g_iinc (pc := 102) C (v := 1) dX7_plan_102 5 rfl (by decide) (by decide) (fun x => [(11, .int x), (0, .ref (gX Γ 0)), (6, .int x6), (8, .int x8), (9, .int x9), (10, .int x10)]) (fun _ => rfl) (fun x11_13 => ?_)
  refine g_goto (pc := 105) C 67 dX7_plan_105 (by decide) ?_
  exact g_sub [1, 2, 3, 4, 5, 0] rfl (hk67 x6 x8 x9 x10 x11_13 S)
set_option maxRecDepth 100000 in
set_option maxHeartbeats 4000000 in
theorem p_X7_plan_l67 {Γ : GA} {E : EV} (C : Cx Γ E RX7 cX7_plan 13 6 (some .int)) (M : Mx Γ E) : ∀ (n : Nat) (x6 : Int32) (x8 : Int32) (x9 : Int32) (x10 : Int32) (x11 : Int32) (S : St), G Γ E (QI Γ E) 13 67 [(0, .ref (gX Γ 0)), (6, .int x6), (8, .int x8), (9, .int x9), (10, .int x10), (11, .int x11)] [] S (f_X7_plan_l67 n x6 x8 x9 x10 x11 S) := by
  intro n
  induction n with
  | zero => intro x6 x8 x9 x10 x11 S; exact g_none
  | succ n ih =>
    intro x6 x8 x9 x10 x11 S
    rw [f_X7_plan_l67]
    refine g_iload (pc := 67) C dX7_plan_67 5 rfl ?_
    refine g_iconst (pc := 69) C (v := 3) dX7_plan_69 (by decide) ?_
    refine g_icmp_ge (pc := 70) C 108 dX7_plan_70 (by decide) ?_ ?_
    · refine g_iload (pc := 108) C dX7_plan_108 4 rfl ?_
      exact g_iret C M dX7_plan_110
    · refine g_aload_n (pc := 73) C dX7_plan_73 0 rfl rfl ?_
      refine g_iload (pc := 74) C dX7_plan_74 2 rfl ?_
      refine g_iload (pc := 76) C dX7_plan_76 5 rfl ?_
      refine g_iconst (pc := 78) C (v := 1) dX7_plan_78 (by decide) ?_
      refine g_iadd (pc := 79) C dX7_plan_79 ?_
      refine g_iload (pc := 80) C dX7_plan_80 1 rfl ?_
      refine g_callVI (pc := 82) (As := [.int x8, .int (x11 + 1), .int x6]) (st := []) C lv_X7_250 fo_0 rfl (ct_X7_thousandths x8 (x11 + 1) x6 S) (by decide) rfl rfl (Nat.le_of_ble_eq_true rfl) dX7_plan_82 (fun r_12 S_11 => ?_)
      refine g_istore0 (pc := 85) C dX7_plan_85 (by decide) (lv' := [(12, .int r_12), (0, .ref (gX Γ 0)), (6, .int x6), (8, .int x8), (9, .int x9), (10, .int x10), (11, .int x11)]) rfl ?_
      refine g_iload (pc := 87) C dX7_plan_87 0 rfl ?_
      refine g_iload (pc := 89) C dX7_plan_89 4 rfl ?_
      refine g_icmp_le (pc := 91) C 102 dX7_plan_91 (by decide) ?_ ?_
      · exact g_sub [1, 2, 3, 4, 5, 6] rfl (p_X7_plan_b102 C M (f_X7_plan_l67 n) ih x6 x8 x9 x10 x11 S_11)
      · refine g_iload (pc := 94) C dX7_plan_94 0 rfl ?_
        refine g_istore0 (pc := 96) C dX7_plan_96 (by decide) (lv' := [(9, .int r_12), (12, .int r_12), (0, .ref (gX Γ 0)), (6, .int x6), (8, .int x8), (10, .int x10), (11, .int x11)]) rfl ?_
        refine g_iload (pc := 98) C dX7_plan_98 6 rfl ?_
        refine g_istore0 (pc := 100) C dX7_plan_100 (by decide) (lv' := [(10, .int x11), (9, .int r_12), (12, .int r_12), (0, .ref (gX Γ 0)), (6, .int x6), (8, .int x8), (11, .int x11)]) rfl ?_
        exact g_sub [3, 4, 5, 1, 0, 6] rfl (p_X7_plan_b102 C M (f_X7_plan_l67 n) ih x6 x8 r_12 x11 x11 S_11)
set_option maxRecDepth 100000 in
set_option maxHeartbeats 4000000 in
theorem p_X7_plan {Γ : GA} {E : EV} (C : Cx Γ E RX7 cX7_plan 13 6 (some .int)) (M : Mx Γ E) (x1 : Int32) (x2 : Int32) (x3 : Int32) (x4 : Int32) (x5 : Int32) (x6 : Int32) (S : St) : G Γ E (QI Γ E) 13 0 [(0, .ref (gX Γ 0)), (1, .int x1), (2, .int x2), (3, .int x3), (4, .int x4), (5, .int x5), (6, .int x6)] [] S (f_X7_plan x1 x2 x3 x4 x5 x6 S) := by
  rw [f_X7_plan]
  refine g_aload_n (pc := 0) C dX7_plan_0 0 rfl rfl ?_
  refine g_iload_n (pc := 1) C dX7_plan_1 1 rfl rfl ?_
  refine g_iload_n (pc := 2) C dX7_plan_2 2 rfl rfl ?_
  refine g_iload_n (pc := 3) C dX7_plan_3 3 rfl rfl ?_
  refine g_iload (pc := 4) C dX7_plan_4 4 rfl ?_
  refine g_callVI (pc := 6) (As := [.int x1, .int x2, .int x3, .int x4]) (st := []) C lv_X7_242 fo_0 rfl (ct_X7_refusalOfFour x1 x2 x3 x4 S) (by decide) rfl rfl (Nat.le_of_ble_eq_true rfl) dX7_plan_6 (fun r_2 S_1 => ?_)
  refine g_istore0 (pc := 9) C dX7_plan_9 (by decide) (lv' := [(7, .int r_2), (0, .ref (gX Γ 0)), (1, .int x1), (2, .int x2), (3, .int x3), (4, .int x4), (5, .int x5), (6, .int x6)]) rfl ?_
  refine g_iload (pc := 11) C dX7_plan_11 0 rfl ?_
  refine g_if_eq (pc := 13) C 19 dX7_plan_13 (by decide) ?_ ?_
  · refine g_iload (pc := 19) C dX7_plan_19 6 rfl ?_
    refine g_callSI (pc := 21) (As := [.int x5]) (st := []) C ls_X7_156 (ct_X7_isSwing x5 S_1) (by decide) rfl rfl (Nat.le_of_ble_eq_true rfl) dX7_plan_21 (fun r_4 S_3 => ?_)
    refine g_if_eq (pc := 24) C 38 dX7_plan_24 (by decide) ?_ ?_
    · refine g_bipush (pc := 38) C (v := (-102)) dX7_plan_38 (by decide) ?_
      exact g_iret C M dX7_plan_40
    · refine g_iload (pc := 27) C dX7_plan_27 7 rfl ?_
      refine g_iconst (pc := 29) C (v := 1) dX7_plan_29 (by decide) ?_
      refine g_bipush (pc := 30) C (v := 99) dX7_plan_30 (by decide) ?_
      refine g_callSI (pc := 32) (As := [.int x6, .int 1, .int 99]) (st := []) C ls_X7_137 (ct_X7_isWithin x6 1 99 S_3) (by decide) rfl rfl (Nat.le_of_ble_eq_true rfl) dX7_plan_32 (fun r_6 S_5 => ?_)
      refine g_if_ne (pc := 35) C 41 dX7_plan_35 (by decide) ?_ ?_
      · refine g_bipush (pc := 38) C (v := (-102)) dX7_plan_38 (by decide) ?_
        exact g_iret C M dX7_plan_40
      · refine g_aload_n (pc := 41) C dX7_plan_41 1 rfl rfl ?_
        refine g_iload_n (pc := 42) C dX7_plan_42 2 rfl rfl ?_
        refine g_iload_n (pc := 43) C dX7_plan_43 3 rfl rfl ?_
        refine g_iload_n (pc := 44) C dX7_plan_44 4 rfl rfl ?_
        refine g_iload (pc := 45) C dX7_plan_45 5 rfl ?_
        refine g_iload (pc := 47) C dX7_plan_47 6 rfl ?_
        refine g_callVV (pc := 49) (As := [.int x1, .int x2, .int x3, .int x4, .int x5]) (st := []) C lv_X7_246 fo_0 rfl (ct_X7_takeTimes x1 x2 x3 x4 x5 S_5) (by decide) rfl rfl (Nat.le_of_ble_eq_true rfl) dX7_plan_49 (fun r_8 S_7 => ?_)
        refine g_aload_n (pc := 52) C dX7_plan_52 1 rfl rfl ?_
        refine g_callVI (pc := 53) (As := []) (st := []) C lv_X7_259 fo_0 rfl (ct_X7_quickestOfFour S_7) (by decide) rfl rfl (Nat.le_of_ble_eq_true rfl) dX7_plan_53 (fun r_10 S_9 => ?_)
        refine g_istore0 (pc := 56) C dX7_plan_56 (by decide) (lv' := [(8, .int r_10), (7, .int r_2), (0, .ref (gX Γ 0)), (1, .int x1), (2, .int x2), (3, .int x3), (4, .int x4), (5, .int x5), (6, .int x6)]) rfl ?_
        refine g_iconst (pc := 58) C (v := (-1)) dX7_plan_58 (by decide) ?_
        refine g_istore0 (pc := 59) C dX7_plan_59 (by decide) (lv' := [(9, .int (-1)), (8, .int r_10), (7, .int r_2), (0, .ref (gX Γ 0)), (1, .int x1), (2, .int x2), (3, .int x3), (4, .int x4), (5, .int x5), (6, .int x6)]) rfl ?_
        refine g_iconst (pc := 61) C (v := 0) dX7_plan_61 (by decide) ?_
        refine g_istore0 (pc := 62) C dX7_plan_62 (by decide) (lv' := [(10, .int 0), (9, .int (-1)), (8, .int r_10), (7, .int r_2), (0, .ref (gX Γ 0)), (1, .int x1), (2, .int x2), (3, .int x3), (4, .int x4), (5, .int x5), (6, .int x6)]) rfl ?_
        refine g_iconst (pc := 64) C (v := 0) dX7_plan_64 (by decide) ?_
        refine g_istore0 (pc := 65) C dX7_plan_65 (by decide) (lv' := [(11, .int 0), (10, .int 0), (9, .int (-1)), (8, .int r_10), (7, .int r_2), (0, .ref (gX Γ 0)), (1, .int x1), (2, .int x2), (3, .int x3), (4, .int x4), (5, .int x5), (6, .int x6)]) rfl ?_
        exact g_sub [5, 11, 3, 2, 1, 0] rfl (p_X7_plan_l67 C M FU x6 r_10 (-1) 0 0 S_9)
  · refine g_iload (pc := 16) C dX7_plan_16 0 rfl ?_
    exact g_iret C M dX7_plan_18
theorem ct_X7_plan {Γ : GA} (x1 : Int32) (x2 : Int32) (x3 : Int32) (x4 : Int32) (x5 : Int32) (x6 : Int32) (S : St) : CtI Γ yX7_plan cX7_plan 13 (some .int) 6 [.ref (gX Γ 0), .int x1, .int x2, .int x3, .int x4, .int x5, .int x6] S (f_X7_plan x1 x2 x3 x4 x5 x6 S) :=
  ctI_of (by decide) (Nat.le_of_ble_eq_true rfl) (fun _ C M => p_X7_plan C M x1 x2 x3 x4 x5 x6 S)
set_option maxRecDepth 100000 in
set_option maxHeartbeats 4000000 in
theorem p_X7_safeHundredths {Γ : GA} {E : EV} (C : Cx Γ E RX7 cX7_safeHundredths 3 1 (some .int)) (M : Mx Γ E) (x0 : Int32) (x1 : Int32) (x2 : Int32) (S : St) : G Γ E (QI Γ E) 3 0 [(0, .int x0), (1, .int x1), (2, .int x2)] [] S (f_X7_safeHundredths x0 x1 x2 S) := by
  rw [f_X7_safeHundredths]
  refine g_iload_n (pc := 0) C dX7_safeHundredths_0 0 rfl rfl ?_
  refine g_iload_n (pc := 1) C dX7_safeHundredths_1 1 rfl rfl ?_
  refine g_icmp_le (pc := 2) C 7 dX7_safeHundredths_2 (by decide) ?_ ?_
  · refine g_bipush (pc := 7) C (v := 100) dX7_safeHundredths_7 (by decide) ?_
    refine g_bipush (pc := 9) C (v := 10) dX7_safeHundredths_9 (by decide) ?_
    refine g_bipush (pc := 11) C (v := 10) dX7_safeHundredths_11 (by decide) ?_
    refine g_iload_n (pc := 13) C dX7_safeHundredths_13 0 rfl rfl ?_
    refine g_imul (pc := 14) C dX7_safeHundredths_14 ?_
    refine g_iload_n (pc := 15) C dX7_safeHundredths_15 1 rfl rfl ?_
    refine g_callSI (pc := 16) (As := [.int (10 * x0), .int x1]) (st := [.int 10, .int 100]) C ls_X7_192 (ct_X7_by (10 * x0) x1 S) (by decide) rfl rfl (Nat.le_of_ble_eq_true rfl) dX7_safeHundredths_16 (fun r_2 S_1 => ?_)
    refine g_mmin (pc := 19) C kw_X7_276 kw_mmin1 kw_m2 kw_mmin3 (Nat.le_of_ble_eq_true rfl) dX7_safeHundredths_19 ?_
    refine g_iload_n (pc := 22) C dX7_safeHundredths_22 2 rfl rfl ?_
    refine g_imul (pc := 23) C dX7_safeHundredths_23 ?_
    refine g_isub (pc := 24) C dX7_safeHundredths_24 ?_
    exact g_iret C M dX7_safeHundredths_25
  · refine g_iconst (pc := 5) C (v := 0) dX7_safeHundredths_5 (by decide) ?_
    exact g_iret C M dX7_safeHundredths_6
theorem ct_X7_safeHundredths {Γ : GA} (x0 : Int32) (x1 : Int32) (x2 : Int32) (S : St) : CtI Γ yX7_safeHundredths cX7_safeHundredths 3 (some .int) 1 [.int x0, .int x1, .int x2] S (f_X7_safeHundredths x0 x1 x2 S) :=
  ctI_of (by decide) (Nat.le_of_ble_eq_true rfl) (fun _ C M => p_X7_safeHundredths C M x0 x1 x2 S)
set_option maxRecDepth 100000 in
set_option maxHeartbeats 4000000 in
theorem p_X7_weighBends_b69 {Γ : GA} {E : EV} (C : Cx Γ E RX7 cX7_weighBends 4 2 none) (M : Mx Γ E) (k2 : Int32 → Int32 → St → Option (Unit × St)) (hk2 : ∀ (x1 : Int32) (x2 : Int32) (S : St), G Γ E (QV Γ E) 4 2 [(0, .ref (gX Γ 0)), (1, .int x1), (2, .int x2)] [] S (k2 x1 x2 S)) (x1 : Int32) (x2 : Int32) (S : St) : G Γ E (QV Γ E) 4 69 [(0, .ref (gX Γ 0)), (1, .int x1), (2, .int x2)] [] S (f_X7_weighBends_b69 k2 x1 x2 S) := by
  rw [f_X7_weighBends_b69]
  refine g_iinc (pc := 69) C (v := 1) dX7_weighBends_69 2 rfl (by decide) (by decide) (fun x => [(2, .int x), (0, .ref (gX Γ 0)), (1, .int x1)]) (fun _ => rfl) (fun x2_4 => ?_)
  refine g_goto (pc := 72) C 2 dX7_weighBends_72 (by decide) ?_
  exact g_sub [1, 2, 0] rfl (hk2 x1 x2_4 S)
set_option maxRecDepth 100000 in
set_option maxHeartbeats 4000000 in
theorem p_X7_weighBends_l2 {Γ : GA} {E : EV} (C : Cx Γ E RX7 cX7_weighBends 4 2 none) (M : Mx Γ E) : ∀ (n : Nat) (x1 : Int32) (x2 : Int32) (S : St), G Γ E (QV Γ E) 4 2 [(0, .ref (gX Γ 0)), (1, .int x1), (2, .int x2)] [] S (f_X7_weighBends_l2 n x1 x2 S) := by
  intro n
  induction n with
  | zero => intro x1 x2 S; exact g_none
  | succ n ih =>
    intro x1 x2 S
    rw [f_X7_weighBends_l2]
    refine g_iload_n (pc := 2) C dX7_weighBends_2 2 rfl rfl ?_
    refine g_iconst (pc := 3) C (v := 4) dX7_weighBends_3 (by decide) ?_
    refine g_icmp_ge (pc := 4) C 75 dX7_weighBends_4 (by decide) ?_ ?_
    · exact g_vret C M dX7_weighBends_75
    · refine g_aload_n (pc := 7) C dX7_weighBends_7 0 rfl rfl ?_
      refine g_getR (pc := 8) C lk_X7_64 fr_0_8 dX7_weighBends_8 ?_
      refine g_iload_n (pc := 11) C dX7_weighBends_11 2 rfl rfl ?_
      refine g_bipush (pc := 12) C (v := 100) dX7_weighBends_12 (by decide) ?_
      refine g_iast (pc := 14) C ai_54 dX7_weighBends_14 (fun S_1 => ?_)
      refine g_aload_n (pc := 15) C dX7_weighBends_15 0 rfl rfl ?_
      refine g_getR (pc := 16) C lk_X7_19 fr_0_1 dX7_weighBends_16 ?_
      refine g_iload_n (pc := 19) C dX7_weighBends_19 2 rfl rfl ?_
      refine g_callVI (pc := 20) (As := [.int x2]) (st := []) C lv_X7_342 fo_3 rfl (ct_X3_bendAt x2 S_1) (by decide) rfl rfl (Nat.le_of_ble_eq_true rfl) dX7_weighBends_20 (fun r_3 S_2 => ?_)
      refine g_istore_n0 (pc := 23) C dX7_weighBends_23 rfl (by decide) (lv' := [(3, .int r_3), (0, .ref (gX Γ 0)), (1, .int x1), (2, .int x2)]) rfl ?_
      refine g_iload_n (pc := 24) C dX7_weighBends_24 0 rfl rfl ?_
      refine g_iconst (pc := 25) C (v := (-1)) dX7_weighBends_25 (by decide) ?_
      refine g_icmp_eq (pc := 26) C 69 dX7_weighBends_26 (by decide) ?_ ?_
      · exact g_sub [1, 2, 3] rfl (p_X7_weighBends_b69 C M (f_X7_weighBends_l2 n) ih x1 x2 S_2)
      · refine g_aload_n (pc := 29) C dX7_weighBends_29 1 rfl rfl ?_
        refine g_getR (pc := 30) C lk_X7_49 fr_0_5 dX7_weighBends_30 ?_
        refine g_getR (pc := 33) C lk_X7_159 fr_44_14 dX7_weighBends_33 ?_
        refine g_iload_n (pc := 36) C dX7_weighBends_36 0 rfl rfl ?_
        refine g_iald (pc := 37) C ai_50 dX7_weighBends_37 ?_
        refine g_iconst (pc := 38) C (v := (-1)) dX7_weighBends_38 (by decide) ?_
        refine g_icmp_eq (pc := 39) C 69 dX7_weighBends_39 (by decide) ?_ ?_
        · exact g_sub [1, 2, 3] rfl (p_X7_weighBends_b69 C M (f_X7_weighBends_l2 n) ih x1 x2 S_2)
        · refine g_aload_n (pc := 42) C dX7_weighBends_42 1 rfl rfl ?_
          refine g_getR (pc := 43) C lk_X7_64 fr_0_8 dX7_weighBends_43 ?_
          refine g_iload_n (pc := 46) C dX7_weighBends_46 3 rfl rfl ?_
          refine g_aload_n (pc := 47) C dX7_weighBends_47 1 rfl rfl ?_
          refine g_getR (pc := 48) C lk_X7_49 fr_0_5 dX7_weighBends_48 ?_
          refine g_getR (pc := 51) C lk_X7_159 fr_44_14 dX7_weighBends_51 ?_
          refine g_iload_n (pc := 54) C dX7_weighBends_54 0 rfl rfl ?_
          refine g_iald (pc := 55) C ai_50 dX7_weighBends_55 ?_
          refine g_aload_n (pc := 56) C dX7_weighBends_56 1 rfl rfl ?_
          refine g_getR (pc := 57) C lk_X7_49 fr_0_5 dX7_weighBends_57 ?_
          refine g_iload_n (pc := 60) C dX7_weighBends_60 0 rfl rfl ?_
          refine g_callVI (pc := 61) (As := [.int r_3]) (st := [.int (S_2 50 (r_3 : Int32).toNatClampNeg), .int x2, .ref (gX Γ 54)]) C lv_X7_361 fo_44 rfl (ct_X6_bearable r_3 S_2) (by decide) rfl rfl (Nat.le_of_ble_eq_true rfl) dX7_weighBends_61 (fun r_6 S_5 => ?_)
          refine g_iload_n (pc := 64) C dX7_weighBends_64 2 rfl rfl ?_
          refine g_callSI (pc := 65) (As := [.int (S_2 50 (r_3 : Int32).toNatClampNeg), .int r_6, .int x1]) (st := [.int x2, .ref (gX Γ 54)]) C ls_X7_364 (ct_X7_safeHundredths (S_2 50 (r_3 : Int32).toNatClampNeg) r_6 x1 S_5) (by decide) rfl rfl (Nat.le_of_ble_eq_true rfl) dX7_weighBends_65 (fun r_8 S_7 => ?_)
          refine g_iast (pc := 68) C ai_54 dX7_weighBends_68 (fun S_9 => ?_)
          exact g_sub [1, 2, 3] rfl (p_X7_weighBends_b69 C M (f_X7_weighBends_l2 n) ih x1 x2 S_9)
set_option maxRecDepth 100000 in
set_option maxHeartbeats 4000000 in
theorem p_X7_weighBends {Γ : GA} {E : EV} (C : Cx Γ E RX7 cX7_weighBends 4 2 none) (M : Mx Γ E) (x1 : Int32) (S : St) : G Γ E (QV Γ E) 4 0 [(0, .ref (gX Γ 0)), (1, .int x1)] [] S (f_X7_weighBends x1 S) := by
  rw [f_X7_weighBends]
  refine g_iconst (pc := 0) C (v := 0) dX7_weighBends_0 (by decide) ?_
  refine g_istore_n0 (pc := 1) C dX7_weighBends_1 rfl (by decide) (lv' := [(2, .int 0), (0, .ref (gX Γ 0)), (1, .int x1)]) rfl ?_
  exact g_sub [1, 2, 0] rfl (p_X7_weighBends_l2 C M FU x1 0 S)
theorem ct_X7_weighBends {Γ : GA} (x1 : Int32) (S : St) : CtV Γ yX7_weighBends cX7_weighBends 4 none 2 [.ref (gX Γ 0), .int x1] S (f_X7_weighBends x1 S) :=
  ctV_of (by decide) (Nat.le_of_ble_eq_true rfl) (fun _ C M => p_X7_weighBends C M x1 S)
set_option maxRecDepth 100000 in
set_option maxHeartbeats 4000000 in
theorem p_X7_stayingWith_b48 {Γ : GA} {E : EV} (C : Cx Γ E RX7 cX7_stayingWith 6 0 (some .long)) (M : Mx Γ E) (k5 : Int32 → Int64 → Int32 → St → Option (Int64 × St)) (hk5 : ∀ (x1 : Int32) (l2 : Int64) (x4 : Int32) (S : St), G Γ E (QL Γ E) 6 5 [(0, .ref (gX Γ 0)), (1, .int x1), (2, .long l2), (4, .int x4)] [] S (k5 x1 l2 x4 S)) (x1 : Int32) (x4 : Int32) (s0 : Int64) (s1 : Int64) (S : St) : G Γ E (QL Γ E) 6 48 [(0, .ref (gX Γ 0)), (1, .int x1), (4, .int x4)] [.long s0, .long s1] S (f_X7_stayingWith_b48 k5 x1 x4 s0 s1 S) := by
  rw [f_X7_stayingWith_b48]
  refine g_lmul (pc := 48) C dX7_stayingWith_48 ?_
  refine g_lstore_n (pc := 49) C dX7_stayingWith_49 rfl (by decide) (fun x => [(2, .long x), (0, .ref (gX Γ 0)), (1, .int x1), (4, .int x4)]) (fun _ => rfl) (fun l2_1 => ?_)
  refine g_iinc (pc := 50) C (v := 1) dX7_stayingWith_50 3 rfl (by decide) (by decide) (fun x => [(4, .int x), (2, .long l2_1), (0, .ref (gX Γ 0)), (1, .int x1)]) (fun _ => rfl) (fun x4_2 => ?_)
  refine g_goto (pc := 53) C 5 dX7_stayingWith_53 (by decide) ?_
  exact g_sub [2, 3, 1, 0] rfl (hk5 x1 l2_1 x4_2 S)
set_option maxRecDepth 100000 in
set_option maxHeartbeats 4000000 in
theorem p_X7_stayingWith_b26 {Γ : GA} {E : EV} (C : Cx Γ E RX7 cX7_stayingWith 6 0 (some .long)) (M : Mx Γ E) (k5 : Int32 → Int64 → Int32 → St → Option (Int64 × St)) (hk5 : ∀ (x1 : Int32) (l2 : Int64) (x4 : Int32) (S : St), G Γ E (QL Γ E) 6 5 [(0, .ref (gX Γ 0)), (1, .int x1), (2, .long l2), (4, .int x4)] [] S (k5 x1 l2 x4 S)) (x1 : Int32) (l2 : Int64) (x4 : Int32) (s0 : Int32) (S : St) : G Γ E (QL Γ E) 6 26 [(0, .ref (gX Γ 0)), (1, .int x1), (2, .long l2), (4, .int x4)] [.int s0] S (f_X7_stayingWith_b26 k5 x1 l2 x4 s0 S) := by
  rw [f_X7_stayingWith_b26]
  refine g_istore0 (pc := 26) C dX7_stayingWith_26 (by decide) (lv' := [(5, .int s0), (0, .ref (gX Γ 0)), (1, .int x1), (2, .long l2), (4, .int x4)]) rfl ?_
  refine g_lload_n (pc := 28) C dX7_stayingWith_28 3 rfl rfl ?_
  refine g_iload (pc := 29) C dX7_stayingWith_29 0 rfl ?_
  refine g_if_eq (pc := 31) C 40 dX7_stayingWith_31 (by decide) ?_ ?_
  · refine g_aload_n (pc := 40) C dX7_stayingWith_40 1 rfl rfl ?_
    refine g_getR (pc := 41) C lk_X7_64 fr_0_8 dX7_stayingWith_41 ?_
    refine g_iload (pc := 44) C dX7_stayingWith_44 4 rfl ?_
    refine g_iald (pc := 46) C ai_54 dX7_stayingWith_46 ?_
    refine g_i2l (pc := 47) C dX7_stayingWith_47 ?_
    exact g_sub [1, 2, 4] rfl (p_X7_stayingWith_b48 C M k5 hk5 x1 x4 (((S 54 (x4 : Int32).toNatClampNeg) : Int32).toInt64) l2 S)
  · refine g_ldc2 (pc := 34) C kc_X7_367 dX7_stayingWith_34 ?_
    refine g_goto (pc := 37) C 48 dX7_stayingWith_37 (by decide) ?_
    exact g_sub [1, 2, 4] rfl (p_X7_stayingWith_b48 C M k5 hk5 x1 x4 100 l2 S)
set_option maxRecDepth 100000 in
set_option maxHeartbeats 4000000 in
theorem p_X7_stayingWith_l5 {Γ : GA} {E : EV} (C : Cx Γ E RX7 cX7_stayingWith 6 0 (some .long)) (M : Mx Γ E) : ∀ (n : Nat) (x1 : Int32) (l2 : Int64) (x4 : Int32) (S : St), G Γ E (QL Γ E) 6 5 [(0, .ref (gX Γ 0)), (1, .int x1), (2, .long l2), (4, .int x4)] [] S (f_X7_stayingWith_l5 n x1 l2 x4 S) := by
  intro n
  induction n with
  | zero => intro x1 l2 x4 S; exact g_none
  | succ n ih =>
    intro x1 l2 x4 S
    rw [f_X7_stayingWith_l5]
    refine g_iload (pc := 5) C dX7_stayingWith_5 3 rfl ?_
    refine g_iconst (pc := 7) C (v := 4) dX7_stayingWith_7 (by decide) ?_
    refine g_icmp_ge (pc := 8) C 56 dX7_stayingWith_8 (by decide) ?_ ?_
    · refine g_lload_n (pc := 56) C dX7_stayingWith_56 2 rfl rfl ?_
      exact g_lret C M dX7_stayingWith_57
    · refine g_iload_n (pc := 11) C dX7_stayingWith_11 1 rfl rfl ?_
      refine g_iload (pc := 12) C dX7_stayingWith_12 3 rfl ?_
      refine g_ishr (pc := 14) C dX7_stayingWith_14 ?_
      refine g_iconst (pc := 15) C (v := 1) dX7_stayingWith_15 (by decide) ?_
      refine g_iand (pc := 16) C dX7_stayingWith_16 ?_
      refine g_iconst (pc := 17) C (v := 1) dX7_stayingWith_17 (by decide) ?_
      refine g_icmp_ne (pc := 18) C 25 dX7_stayingWith_18 (by decide) ?_ ?_
      · refine g_iconst (pc := 21) C (v := 1) dX7_stayingWith_21 (by decide) ?_
        refine g_goto (pc := 22) C 26 dX7_stayingWith_22 (by decide) ?_
        exact g_sub [0, 1, 2, 3] rfl (p_X7_stayingWith_b26 C M (f_X7_stayingWith_l5 n) ih x1 l2 x4 1 S)
      · refine g_iconst (pc := 25) C (v := 0) dX7_stayingWith_25 (by decide) ?_
        exact g_sub [0, 1, 2, 3] rfl (p_X7_stayingWith_b26 C M (f_X7_stayingWith_l5 n) ih x1 l2 x4 0 S)
set_option maxRecDepth 100000 in
set_option maxHeartbeats 4000000 in
theorem p_X7_stayingWith {Γ : GA} {E : EV} (C : Cx Γ E RX7 cX7_stayingWith 6 0 (some .long)) (M : Mx Γ E) (x1 : Int32) (S : St) : G Γ E (QL Γ E) 6 0 [(0, .ref (gX Γ 0)), (1, .int x1)] [] S (f_X7_stayingWith x1 S) := by
  rw [f_X7_stayingWith]
  refine g_lconst (pc := 0) C (v := 1) dX7_stayingWith_0 (by decide) ?_
  refine g_lstore_n0 (pc := 1) C dX7_stayingWith_1 rfl (by decide) (lv' := [(2, .long 1), (0, .ref (gX Γ 0)), (1, .int x1)]) rfl ?_
  refine g_iconst (pc := 2) C (v := 0) dX7_stayingWith_2 (by decide) ?_
  refine g_istore0 (pc := 3) C dX7_stayingWith_3 (by decide) (lv' := [(4, .int 0), (2, .long 1), (0, .ref (gX Γ 0)), (1, .int x1)]) rfl ?_
  exact g_sub [2, 3, 1, 0] rfl (p_X7_stayingWith_l5 C M FU x1 1 0 S)
theorem ct_X7_stayingWith {Γ : GA} (x1 : Int32) (S : St) : CtL Γ yX7_stayingWith cX7_stayingWith 6 (some .long) 0 [.ref (gX Γ 0), .int x1] S (f_X7_stayingWith x1 S) :=
  ctL_of (by decide) (Nat.le_of_ble_eq_true rfl) (fun _ C M => p_X7_stayingWith C M x1 S)
set_option maxRecDepth 100000 in
set_option maxHeartbeats 4000000 in
theorem p_X7_stays_b36 {Γ : GA} {E : EV} (C : Cx Γ E RX7 cX7_stays 8 5 (some .long)) (M : Mx Γ E) (x1 : Int32) (x2 : Int32) (x3 : Int32) (x4 : Int32) (x5 : Int32) (s0 : Int32) (S : St) : G Γ E (QL Γ E) 8 36 [(0, .ref (gX Γ 0)), (1, .int x1), (2, .int x2), (3, .int x3), (4, .int x4), (5, .int x5)] [.int s0] S (f_X7_stays_b36 x1 x2 x3 x4 x5 s0 S) := by
  rw [f_X7_stays_b36]
  refine g_istore0 (pc := 36) C dX7_stays_36 (by decide) (lv' := [(6, .int s0), (0, .ref (gX Γ 0)), (1, .int x1), (2, .int x2), (3, .int x3), (4, .int x4), (5, .int x5)]) rfl ?_
  refine g_aload_n (pc := 38) C dX7_stays_38 1 rfl rfl ?_
  refine g_iload_n (pc := 39) C dX7_stays_39 2 rfl rfl ?_
  refine g_iload_n (pc := 40) C dX7_stays_40 3 rfl rfl ?_
  refine g_iload (pc := 41) C dX7_stays_41 0 rfl ?_
  refine g_callVI (pc := 43) (As := [.int x1, .int x2, .int s0]) (st := []) C lv_X7_144 fo_0 rfl (ct_X7_refusalOfRun x1 x2 s0 S) (by decide) rfl rfl (Nat.le_of_ble_eq_true rfl) dX7_stays_43 (fun r_4 S_3 => ?_)
  refine g_istore0 (pc := 46) C dX7_stays_46 (by decide) (lv' := [(7, .int r_4), (6, .int s0), (0, .ref (gX Γ 0)), (1, .int x1), (2, .int x2), (3, .int x3), (4, .int x4), (5, .int x5)]) rfl ?_
  refine g_iload (pc := 48) C dX7_stays_48 0 rfl ?_
  refine g_if_eq (pc := 50) C 57 dX7_stays_50 (by decide) ?_ ?_
  · refine g_aload_n (pc := 57) C dX7_stays_57 2 rfl rfl ?_
    refine g_iload_n (pc := 58) C dX7_stays_58 3 rfl rfl ?_
    refine g_iload_n (pc := 59) C dX7_stays_59 4 rfl rfl ?_
    refine g_callVV (pc := 60) (As := [.int x1, .int x2]) (st := []) C lv_X7_148 fo_0 rfl (ct_X7_goDown x1 x2 S_3) (by decide) rfl rfl (Nat.le_of_ble_eq_true rfl) dX7_stays_60 (fun r_6 S_5 => ?_)
    refine g_aload_n (pc := 63) C dX7_stays_63 2 rfl rfl ?_
    refine g_iload_n (pc := 64) C dX7_stays_64 5 rfl rfl ?_
    refine g_callVV (pc := 65) (As := [.int x3]) (st := []) C lv_X7_262 fo_0 rfl (ct_X7_weighBends x3 S_5) (by decide) rfl rfl (Nat.le_of_ble_eq_true rfl) dX7_stays_65 (fun r_8 S_7 => ?_)
    refine g_aload_n (pc := 68) C dX7_stays_68 2 rfl rfl ?_
    refine g_iload (pc := 69) C dX7_stays_69 6 rfl ?_
    refine g_callVL (pc := 71) (As := [.int x4]) (st := []) C lv_X7_265 fo_0 rfl (ct_X7_stayingWith x4 S_7) (by decide) rfl rfl (Nat.le_of_ble_eq_true rfl) dX7_stays_71 (fun r_10 S_9 => ?_)
    refine g_ldc2 (pc := 74) C kc_X7_269 dX7_stays_74 ?_
    refine g_iload (pc := 77) C dX7_stays_77 7 rfl ?_
    refine g_callSL (pc := 79) (As := [.long r_10, .long 100000000, .int x5]) (st := []) C ls_X7_255 (ct_X7_lowest r_10 100000000 x5 S_9) (by decide) rfl rfl (Nat.le_of_ble_eq_true rfl) dX7_stays_79 (fun r_12 S_11 => ?_)
    exact g_lret C M dX7_stays_82
  · refine g_iload (pc := 53) C dX7_stays_53 0 rfl ?_
    refine g_i2l (pc := 55) C dX7_stays_55 ?_
    exact g_lret C M dX7_stays_56
set_option maxRecDepth 100000 in
set_option maxHeartbeats 4000000 in
theorem p_X7_stays_b35 {Γ : GA} {E : EV} (C : Cx Γ E RX7 cX7_stays 8 5 (some .long)) (M : Mx Γ E) (x1 : Int32) (x2 : Int32) (x3 : Int32) (x4 : Int32) (x5 : Int32) (S : St) : G Γ E (QL Γ E) 8 35 [(0, .ref (gX Γ 0)), (1, .int x1), (2, .int x2), (3, .int x3), (4, .int x4), (5, .int x5)] [] S (f_X7_stays_b35 x1 x2 x3 x4 x5 S) := by
  rw [f_X7_stays_b35]
  refine g_iconst (pc := 35) C (v := 0) dX7_stays_35 (by decide) ?_
  exact g_sub [0, 1, 2, 3, 4, 5] rfl (p_X7_stays_b36 C M x1 x2 x3 x4 x5 0 S)
set_option maxRecDepth 100000 in
set_option maxHeartbeats 4000000 in
theorem p_X7_stays {Γ : GA} {E : EV} (C : Cx Γ E RX7 cX7_stays 8 5 (some .long)) (M : Mx Γ E) (x1 : Int32) (x2 : Int32) (x3 : Int32) (x4 : Int32) (x5 : Int32) (S : St) : G Γ E (QL Γ E) 8 0 [(0, .ref (gX Γ 0)), (1, .int x1), (2, .int x2), (3, .int x3), (4, .int x4), (5, .int x5)] [] S (f_X7_stays x1 x2 x3 x4 x5 S) := by
  rw [f_X7_stays]
  refine g_iload_n (pc := 0) C dX7_stays_0 3 rfl rfl ?_
  refine g_iconst (pc := 1) C (v := 0) dX7_stays_1 (by decide) ?_
  refine g_bipush (pc := 2) C (v := 9) dX7_stays_2 (by decide) ?_
  refine g_callSI (pc := 4) (As := [.int x3, .int 0, .int 9]) (st := []) C ls_X7_137 (ct_X7_isWithin x3 0 9 S) (by decide) rfl rfl (Nat.le_of_ble_eq_true rfl) dX7_stays_4 (fun r_2 S_1 => ?_)
  refine g_if_eq (pc := 7) C 35 dX7_stays_7 (by decide) ?_ ?_
  · exact g_sub [0, 1, 2, 3, 4, 5] rfl (p_X7_stays_b35 C M x1 x2 x3 x4 x5 S_1)
  · refine g_iload (pc := 10) C dX7_stays_10 4 rfl ?_
    refine g_iconst (pc := 12) C (v := 0) dX7_stays_12 (by decide) ?_
    refine g_bipush (pc := 13) C (v := 15) dX7_stays_13 (by decide) ?_
    refine g_callSI (pc := 15) (As := [.int x4, .int 0, .int 15]) (st := []) C ls_X7_137 (ct_X7_isWithin x4 0 15 S_1) (by decide) rfl rfl (Nat.le_of_ble_eq_true rfl) dX7_stays_15 (fun r_14 S_13 => ?_)
    refine g_if_eq (pc := 18) C 35 dX7_stays_18 (by decide) ?_ ?_
    · exact g_sub [0, 1, 2, 3, 4, 5] rfl (p_X7_stays_b35 C M x1 x2 x3 x4 x5 S_13)
    · refine g_iload (pc := 21) C dX7_stays_21 5 rfl ?_
      refine g_iconst (pc := 23) C (v := 0) dX7_stays_23 (by decide) ?_
      refine g_iconst (pc := 24) C (v := 1) dX7_stays_24 (by decide) ?_
      refine g_callSI (pc := 25) (As := [.int x5, .int 0, .int 1]) (st := []) C ls_X7_137 (ct_X7_isWithin x5 0 1 S_13) (by decide) rfl rfl (Nat.le_of_ble_eq_true rfl) dX7_stays_25 (fun r_16 S_15 => ?_)
      refine g_if_eq (pc := 28) C 35 dX7_stays_28 (by decide) ?_ ?_
      · exact g_sub [0, 1, 2, 3, 4, 5] rfl (p_X7_stays_b35 C M x1 x2 x3 x4 x5 S_15)
      · refine g_iconst (pc := 31) C (v := 1) dX7_stays_31 (by decide) ?_
        refine g_goto (pc := 32) C 36 dX7_stays_32 (by decide) ?_
        exact g_sub [0, 1, 2, 3, 4, 5] rfl (p_X7_stays_b36 C M x1 x2 x3 x4 x5 1 S_15)
theorem ct_X7_stays {Γ : GA} (x1 : Int32) (x2 : Int32) (x3 : Int32) (x4 : Int32) (x5 : Int32) (S : St) : CtL Γ yX7_stays cX7_stays 8 (some .long) 5 [.ref (gX Γ 0), .int x1, .int x2, .int x3, .int x4, .int x5] S (f_X7_stays x1 x2 x3 x4 x5 S) :=
  ctL_of (by decide) (Nat.le_of_ble_eq_true rfl) (fun _ C M => p_X7_stays C M x1 x2 x3 x4 x5 S)
set_option maxRecDepth 100000 in
set_option maxHeartbeats 4000000 in
theorem p_X3_bends_b24 {Γ : GA} {E : EV} (C : Cx Γ E RX3 cX3_bends 3 0 (some .int)) (M : Mx Γ E) (k4 : Int32 → Int32 → St → Option (Int32 × St)) (hk4 : ∀ (x1 : Int32) (x2 : Int32) (S : St), G Γ E (QI Γ E) 3 4 [(0, .ref (gX Γ 3)), (1, .int x1), (2, .int x2)] [] S (k4 x1 x2 S)) (x1 : Int32) (x2 : Int32) (S : St) : G Γ E (QI Γ E) 3 24 [(0, .ref (gX Γ 3)), (1, .int x1), (2, .int x2)] [] S (f_X3_bends_b24 k4 x1 x2 S) := by
  rw [f_X3_bends_b24]
  refine g_iinc (pc := 24) C (v := 1) dX3_bends_24 2 rfl (by decide) (by decide) (fun x => [(2, .int x), (0, .ref (gX Γ 3)), (1, .int x1)]) (fun _ => rfl) (fun x2_1 => ?_)
  refine g_goto (pc := 27) C 4 dX3_bends_27 (by decide) ?_
  exact g_sub [1, 2, 0] rfl (hk4 x1 x2_1 S)
set_option maxRecDepth 100000 in
set_option maxHeartbeats 4000000 in
theorem p_X3_bends_l4 {Γ : GA} {E : EV} (C : Cx Γ E RX3 cX3_bends 3 0 (some .int)) (M : Mx Γ E) : ∀ (n : Nat) (x1 : Int32) (x2 : Int32) (S : St), G Γ E (QI Γ E) 3 4 [(0, .ref (gX Γ 3)), (1, .int x1), (2, .int x2)] [] S (f_X3_bends_l4 n x1 x2 S) := by
  intro n
  induction n with
  | zero => intro x1 x2 S; exact g_none
  | succ n ih =>
    intro x1 x2 S
    rw [f_X3_bends_l4]
    refine g_iload_n (pc := 4) C dX3_bends_4 2 rfl rfl ?_
    refine g_aload_n (pc := 5) C dX3_bends_5 0 rfl rfl ?_
    refine g_getI (pc := 6) C lk_X3_24 fi_3_4 dX3_bends_6 ?_
    refine g_icmp_ge (pc := 9) C 30 dX3_bends_9 (by decide) ?_ ?_
    · refine g_iload_n (pc := 30) C dX3_bends_30 1 rfl rfl ?_
      exact g_iret C M dX3_bends_31
    · refine g_aload_n (pc := 12) C dX3_bends_12 0 rfl rfl ?_
      refine g_getR (pc := 13) C lk_X3_15 fr_3_1 dX3_bends_13 ?_
      refine g_iload_n (pc := 16) C dX3_bends_16 2 rfl rfl ?_
      refine g_iald (pc := 17) C ai_5 dX3_bends_17 ?_
      refine g_if_le (pc := 18) C 24 dX3_bends_18 (by decide) ?_ ?_
      · exact g_sub [0, 1, 2] rfl (p_X3_bends_b24 C M (f_X3_bends_l4 n) ih x1 x2 S)
      · refine g_iinc (pc := 21) C (v := 1) dX3_bends_21 1 rfl (by decide) (by decide) (fun x => [(1, .int x), (0, .ref (gX Γ 3)), (2, .int x2)]) (fun _ => rfl) (fun x1_2 => ?_)
        exact g_sub [1, 0, 2] rfl (p_X3_bends_b24 C M (f_X3_bends_l4 n) ih x1_2 x2 S)
set_option maxRecDepth 100000 in
set_option maxHeartbeats 4000000 in
theorem p_X3_bends {Γ : GA} {E : EV} (C : Cx Γ E RX3 cX3_bends 3 0 (some .int)) (M : Mx Γ E) (S : St) : G Γ E (QI Γ E) 3 0 [(0, .ref (gX Γ 3))] [] S (f_X3_bends S) := by
  rw [f_X3_bends]
  refine g_iconst (pc := 0) C (v := 0) dX3_bends_0 (by decide) ?_
  refine g_istore_n0 (pc := 1) C dX3_bends_1 rfl (by decide) (lv' := [(1, .int 0), (0, .ref (gX Γ 3))]) rfl ?_
  refine g_iconst (pc := 2) C (v := 0) dX3_bends_2 (by decide) ?_
  refine g_istore_n0 (pc := 3) C dX3_bends_3 rfl (by decide) (lv' := [(2, .int 0), (1, .int 0), (0, .ref (gX Γ 3))]) rfl ?_
  exact g_sub [2, 1, 0] rfl (p_X3_bends_l4 C M FU 0 0 S)
theorem ct_X3_bends {Γ : GA} (S : St) : CtI Γ yX3_bends cX3_bends 3 (some .int) 0 [.ref (gX Γ 3)] S (f_X3_bends S) :=
  ctI_of (by decide) (Nat.le_of_ble_eq_true rfl) (fun _ C M => p_X3_bends C M  S)
set_option maxRecDepth 100000 in
set_option maxHeartbeats 4000000 in
theorem p_bitCount {Γ : GA} {E : EV} (C : Cx Γ E RJ6 cJ6_bitCount_0f7a4 1 0 (some .int)) (M : Mx Γ E) (x0 : Int32) (S : St) : G Γ E (QI Γ E) 1 0 [(0, .int x0)] [] S (f_bitCount x0 S) := by
  rw [f_bitCount]
  refine g_iload_n (pc := 0) C dJ6_bitCount_0f7a4_0 0 rfl rfl ?_
  refine g_iload_n (pc := 1) C dJ6_bitCount_0f7a4_1 0 rfl rfl ?_
  refine g_iconst (pc := 2) C (v := 1) dJ6_bitCount_0f7a4_2 (by decide) ?_
  refine g_iushr (pc := 3) C dJ6_bitCount_0f7a4_3 ?_
  refine g_ldcw (pc := 4) C kc_J6_265 dJ6_bitCount_0f7a4_4 ?_
  refine g_iand (pc := 7) C dJ6_bitCount_0f7a4_7 ?_
  refine g_isub (pc := 8) C dJ6_bitCount_0f7a4_8 ?_
  refine g_istore_n (pc := 9) C dJ6_bitCount_0f7a4_9 rfl (by decide) (fun x => [(0, .int x)]) (fun _ => rfl) (fun x0_1 => ?_)
  refine g_iload_n (pc := 10) C dJ6_bitCount_0f7a4_10 0 rfl rfl ?_
  refine g_ldcw (pc := 11) C kc_J6_266 dJ6_bitCount_0f7a4_11 ?_
  refine g_iand (pc := 14) C dJ6_bitCount_0f7a4_14 ?_
  refine g_iload_n (pc := 15) C dJ6_bitCount_0f7a4_15 0 rfl rfl ?_
  refine g_iconst (pc := 16) C (v := 2) dJ6_bitCount_0f7a4_16 (by decide) ?_
  refine g_iushr (pc := 17) C dJ6_bitCount_0f7a4_17 ?_
  refine g_ldcw (pc := 18) C kc_J6_266 dJ6_bitCount_0f7a4_18 ?_
  refine g_iand (pc := 21) C dJ6_bitCount_0f7a4_21 ?_
  refine g_iadd (pc := 22) C dJ6_bitCount_0f7a4_22 ?_
  refine g_istore_n (pc := 23) C dJ6_bitCount_0f7a4_23 rfl (by decide) (fun x => [(0, .int x)]) (fun _ => rfl) (fun x0_2 => ?_)
  refine g_iload_n (pc := 24) C dJ6_bitCount_0f7a4_24 0 rfl rfl ?_
  refine g_iload_n (pc := 25) C dJ6_bitCount_0f7a4_25 0 rfl rfl ?_
  refine g_iconst (pc := 26) C (v := 4) dJ6_bitCount_0f7a4_26 (by decide) ?_
  refine g_iushr (pc := 27) C dJ6_bitCount_0f7a4_27 ?_
  refine g_iadd (pc := 28) C dJ6_bitCount_0f7a4_28 ?_
  refine g_ldcw (pc := 29) C kc_J6_267 dJ6_bitCount_0f7a4_29 ?_
  refine g_iand (pc := 32) C dJ6_bitCount_0f7a4_32 ?_
  refine g_istore_n (pc := 33) C dJ6_bitCount_0f7a4_33 rfl (by decide) (fun x => [(0, .int x)]) (fun _ => rfl) (fun x0_3 => ?_)
  refine g_iload_n (pc := 34) C dJ6_bitCount_0f7a4_34 0 rfl rfl ?_
  refine g_iload_n (pc := 35) C dJ6_bitCount_0f7a4_35 0 rfl rfl ?_
  refine g_bipush (pc := 36) C (v := 8) dJ6_bitCount_0f7a4_36 (by decide) ?_
  refine g_iushr (pc := 38) C dJ6_bitCount_0f7a4_38 ?_
  refine g_iadd (pc := 39) C dJ6_bitCount_0f7a4_39 ?_
  refine g_istore_n (pc := 40) C dJ6_bitCount_0f7a4_40 rfl (by decide) (fun x => [(0, .int x)]) (fun _ => rfl) (fun x0_4 => ?_)
  refine g_iload_n (pc := 41) C dJ6_bitCount_0f7a4_41 0 rfl rfl ?_
  refine g_iload_n (pc := 42) C dJ6_bitCount_0f7a4_42 0 rfl rfl ?_
  refine g_bipush (pc := 43) C (v := 16) dJ6_bitCount_0f7a4_43 (by decide) ?_
  refine g_iushr (pc := 45) C dJ6_bitCount_0f7a4_45 ?_
  refine g_iadd (pc := 46) C dJ6_bitCount_0f7a4_46 ?_
  refine g_istore_n (pc := 47) C dJ6_bitCount_0f7a4_47 rfl (by decide) (fun x => [(0, .int x)]) (fun _ => rfl) (fun x0_5 => ?_)
  refine g_iload_n (pc := 48) C dJ6_bitCount_0f7a4_48 0 rfl rfl ?_
  refine g_bipush (pc := 49) C (v := 63) dJ6_bitCount_0f7a4_49 (by decide) ?_
  refine g_iand (pc := 51) C dJ6_bitCount_0f7a4_51 ?_
  exact g_iret C M dJ6_bitCount_0f7a4_52
theorem ct_bitCount {Γ : GA} (x0 : Int32) (S : St) : CtI Γ yJ6_bitCount_0f7a4 cJ6_bitCount_0f7a4 1 (some .int) 0 [.int x0] S (f_bitCount x0 S) :=
  ctI_of (by decide) (Nat.le_of_ble_eq_true rfl) (fun _ C M => p_bitCount C M x0 S)
set_option maxRecDepth 100000 in
set_option maxHeartbeats 4000000 in
theorem p_X7_straw_b129 {Γ : GA} {E : EV} (C : Cx Γ E RX7 cX7_straw 11 5 (some .int)) (M : Mx Γ E) (k82 : Int32 → Int32 → Int64 → Int32 → Int32 → St → Option (Int32 × St)) (hk82 : ∀ (x4 : Int32) (x6 : Int32) (l7 : Int64) (x9 : Int32) (x10 : Int32) (S : St), G Γ E (QI Γ E) 11 82 [(0, .ref (gX Γ 0)), (4, .int x4), (6, .int x6), (7, .long l7), (9, .int x9), (10, .int x10)] [] S (k82 x4 x6 l7 x9 x10 S)) (x4 : Int32) (x6 : Int32) (l7 : Int64) (x9 : Int32) (x10 : Int32) (S : St) : G Γ E (QI Γ E) 11 129 [(0, .ref (gX Γ 0)), (4, .int x4), (6, .int x6), (7, .long l7), (9, .int x9), (10, .int x10)] [] S (f_X7_straw_b129 k82 x4 x6 l7 x9 x10 S) := by
  rw [f_X7_straw_b129]
  refine g_iinc (pc := 129) C (v := 1) dX7_straw_129 5 rfl (by decide) (by decide) (fun x => [(10, .int x), (0, .ref (gX Γ 0)), (4, .int x4), (6, .int x6), (7, .long l7), (9, .int x9)]) (fun _ => rfl) (fun x10_15 => ?_)
  refine g_goto (pc := 132) C 82 dX7_straw_132 (by decide) ?_
  exact g_sub [1, 2, 3, 4, 5, 0] rfl (hk82 x4 x6 l7 x9 x10_15 S)
set_option maxRecDepth 100000 in
set_option maxHeartbeats 4000000 in
theorem p_X7_straw_l82 {Γ : GA} {E : EV} (C : Cx Γ E RX7 cX7_straw 11 5 (some .int)) (M : Mx Γ E) : ∀ (n : Nat) (x4 : Int32) (x6 : Int32) (l7 : Int64) (x9 : Int32) (x10 : Int32) (S : St), G Γ E (QI Γ E) 11 82 [(0, .ref (gX Γ 0)), (4, .int x4), (6, .int x6), (7, .long l7), (9, .int x9), (10, .int x10)] [] S (f_X7_straw_l82 n x4 x6 l7 x9 x10 S) := by
  intro n
  induction n with
  | zero => intro x4 x6 l7 x9 x10 S; exact g_none
  | succ n ih =>
    intro x4 x6 l7 x9 x10 S
    rw [f_X7_straw_l82]
    refine g_iload (pc := 82) C dX7_straw_82 5 rfl ?_
    refine g_iconst (pc := 84) C (v := 1) dX7_straw_84 (by decide) ?_
    refine g_iload (pc := 85) C dX7_straw_85 2 rfl ?_
    refine g_iconst (pc := 87) C (v := 4) dX7_straw_87 (by decide) ?_
    refine g_mmin (pc := 88) C kw_X7_276 kw_mmin1 kw_m2 kw_mmin3 (Nat.le_of_ble_eq_true rfl) dX7_straw_88 ?_
    refine g_ishl (pc := 91) C dX7_straw_91 ?_
    refine g_icmp_ge (pc := 92) C 135 dX7_straw_92 (by decide) ?_ ?_
    · refine g_iload (pc := 135) C dX7_straw_135 4 rfl ?_
      exact g_iret C M dX7_straw_137
    · refine g_iload (pc := 95) C dX7_straw_95 5 rfl ?_
      refine g_callSI (pc := 97) (As := [.int x10]) (st := []) C ls_X7_281 (ct_bitCount x10 S) (by decide) rfl rfl (Nat.le_of_ble_eq_true rfl) dX7_straw_97 (fun r_12 S_11 => ?_)
      refine g_iload (pc := 100) C dX7_straw_100 1 rfl ?_
      refine g_icmp_ne (pc := 102) C 129 dX7_straw_102 (by decide) ?_ ?_
      · refine g_aload_n (pc := 105) C dX7_straw_105 0 rfl rfl ?_
        refine g_iload (pc := 106) C dX7_straw_106 5 rfl ?_
        refine g_callVL (pc := 108) (As := [.int x10]) (st := []) C lv_X7_265 fo_0 rfl (ct_X7_stayingWith x10 S_11) (by decide) rfl rfl (Nat.le_of_ble_eq_true rfl) dX7_straw_108 (fun r_14 S_13 => ?_)
        refine g_lload (pc := 111) C dX7_straw_111 3 rfl ?_
        refine g_lcmp (pc := 113) C dX7_straw_113 ?_
        refine g_if_le (pc := 114) C 129 dX7_straw_114 (by decide) ?_ ?_
        · exact g_sub [0, 1, 2, 3, 4, 5] rfl (p_X7_straw_b129 C M (f_X7_straw_l82 n) ih x4 x6 l7 x9 x10 S_13)
        · refine g_aload_n (pc := 117) C dX7_straw_117 0 rfl rfl ?_
          refine g_iload (pc := 118) C dX7_straw_118 5 rfl ?_
          refine g_callVL (pc := 120) (As := [.int x10]) (st := []) C lv_X7_265 fo_0 rfl (ct_X7_stayingWith x10 S_13) (by decide) rfl rfl (Nat.le_of_ble_eq_true rfl) dX7_straw_120 (fun r_17 S_16 => ?_)
          refine g_lstore0 (pc := 123) C dX7_straw_123 (by decide) (lv' := [(7, .long r_17), (0, .ref (gX Γ 0)), (4, .int x4), (6, .int x6), (9, .int x9), (10, .int x10)]) rfl ?_
          refine g_iload (pc := 125) C dX7_straw_125 5 rfl ?_
          refine g_istore0 (pc := 127) C dX7_straw_127 (by decide) (lv' := [(9, .int x10), (7, .long r_17), (0, .ref (gX Γ 0)), (4, .int x4), (6, .int x6), (10, .int x10)]) rfl ?_
          exact g_sub [2, 3, 4, 1, 0, 5] rfl (p_X7_straw_b129 C M (f_X7_straw_l82 n) ih x4 x6 r_17 x10 x10 S_16)
      · exact g_sub [0, 1, 2, 3, 4, 5] rfl (p_X7_straw_b129 C M (f_X7_straw_l82 n) ih x4 x6 l7 x9 x10 S_11)
set_option maxRecDepth 100000 in
set_option maxHeartbeats 4000000 in
theorem p_X7_straw_b28 {Γ : GA} {E : EV} (C : Cx Γ E RX7 cX7_straw 11 5 (some .int)) (M : Mx Γ E) (x1 : Int32) (x2 : Int32) (x3 : Int32) (x4 : Int32) (s0 : Int32) (s1 : Int32) (s2 : Int32) (S : St) : G Γ E (QI Γ E) 11 28 [(0, .ref (gX Γ 0)), (1, .int x1), (2, .int x2), (3, .int x3), (4, .int x4)] [.int s0, .int s1, .int s2, .ref (gX Γ 0)] S (f_X7_straw_b28 x1 x2 x3 x4 s0 s1 s2 S) := by
  rw [f_X7_straw_b28]
  refine g_callVI (pc := 28) (As := [.int s2, .int s1, .int s0]) (st := []) C lv_X7_144 fo_0 rfl (ct_X7_refusalOfRun s2 s1 s0 S) (by decide) rfl rfl (Nat.le_of_ble_eq_true rfl) dX7_straw_28 (fun r_4 S_3 => ?_)
  refine g_istore0 (pc := 31) C dX7_straw_31 (by decide) (lv' := [(5, .int r_4), (0, .ref (gX Γ 0)), (1, .int x1), (2, .int x2), (3, .int x3), (4, .int x4)]) rfl ?_
  refine g_iload (pc := 33) C dX7_straw_33 0 rfl ?_
  refine g_if_eq (pc := 35) C 41 dX7_straw_35 (by decide) ?_ ?_
  · refine g_aload_n (pc := 41) C dX7_straw_41 1 rfl rfl ?_
    refine g_getR (pc := 42) C lk_X7_19 fr_0_1 dX7_straw_42 ?_
    refine g_callVI (pc := 45) (As := []) (st := []) C lv_X7_271 fo_3 rfl (ct_X3_bends S_3) (by decide) rfl rfl (Nat.le_of_ble_eq_true rfl) dX7_straw_45 (fun r_6 S_5 => ?_)
    refine g_istore0 (pc := 48) C dX7_straw_48 (by decide) (lv' := [(6, .int r_6), (5, .int r_4), (0, .ref (gX Γ 0)), (1, .int x1), (2, .int x2), (3, .int x3), (4, .int x4)]) rfl ?_
    refine g_iload (pc := 50) C dX7_straw_50 0 rfl ?_
    refine g_iload (pc := 52) C dX7_straw_52 6 rfl ?_
    refine g_icmp_ge (pc := 54) C 60 dX7_straw_54 (by decide) ?_ ?_
    · refine g_aload_n (pc := 60) C dX7_straw_60 2 rfl rfl ?_
      refine g_iload_n (pc := 61) C dX7_straw_61 3 rfl rfl ?_
      refine g_iload_n (pc := 62) C dX7_straw_62 4 rfl rfl ?_
      refine g_callVV (pc := 63) (As := [.int x1, .int x2]) (st := []) C lv_X7_148 fo_0 rfl (ct_X7_goDown x1 x2 S_5) (by decide) rfl rfl (Nat.le_of_ble_eq_true rfl) dX7_straw_63 (fun r_8 S_7 => ?_)
      refine g_aload_n (pc := 66) C dX7_straw_66 2 rfl rfl ?_
      refine g_iload_n (pc := 67) C dX7_straw_67 5 rfl rfl ?_
      refine g_callVV (pc := 68) (As := [.int x3]) (st := []) C lv_X7_262 fo_0 rfl (ct_X7_weighBends x3 S_7) (by decide) rfl rfl (Nat.le_of_ble_eq_true rfl) dX7_straw_68 (fun r_10 S_9 => ?_)
      refine g_ldc2 (pc := 71) C kc_X7_274 dX7_straw_71 ?_
      refine g_lstore0 (pc := 74) C dX7_straw_74 (by decide) (lv' := [(7, .long (-1)), (6, .int r_6), (5, .int r_4), (0, .ref (gX Γ 0)), (1, .int x1), (2, .int x2), (3, .int x3), (4, .int x4)]) rfl ?_
      refine g_iconst (pc := 76) C (v := 0) dX7_straw_76 (by decide) ?_
      refine g_istore0 (pc := 77) C dX7_straw_77 (by decide) (lv' := [(9, .int 0), (7, .long (-1)), (6, .int r_6), (5, .int r_4), (0, .ref (gX Γ 0)), (1, .int x1), (2, .int x2), (3, .int x3), (4, .int x4)]) rfl ?_
      refine g_iconst (pc := 79) C (v := 1) dX7_straw_79 (by decide) ?_
      refine g_istore0 (pc := 80) C dX7_straw_80 (by decide) (lv' := [(10, .int 1), (9, .int 0), (7, .long (-1)), (6, .int r_6), (5, .int r_4), (0, .ref (gX Γ 0)), (1, .int x1), (2, .int x2), (3, .int x3), (4, .int x4)]) rfl ?_
      exact g_sub [5, 9, 3, 2, 1, 0] rfl (p_X7_straw_l82 C M FU x4 r_6 (-1) 0 1 S_9)
    · refine g_bipush (pc := 57) C (v := (-103)) dX7_straw_57 (by decide) ?_
      exact g_iret C M dX7_straw_59
  · refine g_iload (pc := 38) C dX7_straw_38 0 rfl ?_
    exact g_iret C M dX7_straw_40
set_option maxRecDepth 100000 in
set_option maxHeartbeats 4000000 in
theorem p_X7_straw_b27 {Γ : GA} {E : EV} (C : Cx Γ E RX7 cX7_straw 11 5 (some .int)) (M : Mx Γ E) (x1 : Int32) (x2 : Int32) (x3 : Int32) (x4 : Int32) (s0 : Int32) (s1 : Int32) (S : St) : G Γ E (QI Γ E) 11 27 [(0, .ref (gX Γ 0)), (1, .int x1), (2, .int x2), (3, .int x3), (4, .int x4)] [.int s0, .int s1, .ref (gX Γ 0)] S (f_X7_straw_b27 x1 x2 x3 x4 s0 s1 S) := by
  rw [f_X7_straw_b27]
  refine g_iconst (pc := 27) C (v := 0) dX7_straw_27 (by decide) ?_
  exact g_sub [0, 1, 2, 3, 4] rfl (p_X7_straw_b28 C M x1 x2 x3 x4 0 s0 s1 S)
set_option maxRecDepth 100000 in
set_option maxHeartbeats 4000000 in
theorem p_X7_straw {Γ : GA} {E : EV} (C : Cx Γ E RX7 cX7_straw 11 5 (some .int)) (M : Mx Γ E) (x1 : Int32) (x2 : Int32) (x3 : Int32) (x4 : Int32) (S : St) : G Γ E (QI Γ E) 11 0 [(0, .ref (gX Γ 0)), (1, .int x1), (2, .int x2), (3, .int x3), (4, .int x4)] [] S (f_X7_straw x1 x2 x3 x4 S) := by
  rw [f_X7_straw]
  refine g_aload_n (pc := 0) C dX7_straw_0 0 rfl rfl ?_
  refine g_iload_n (pc := 1) C dX7_straw_1 1 rfl rfl ?_
  refine g_iload_n (pc := 2) C dX7_straw_2 2 rfl rfl ?_
  refine g_iload_n (pc := 3) C dX7_straw_3 3 rfl rfl ?_
  refine g_iconst (pc := 4) C (v := 0) dX7_straw_4 (by decide) ?_
  refine g_bipush (pc := 5) C (v := 9) dX7_straw_5 (by decide) ?_
  refine g_callSI (pc := 7) (As := [.int x3, .int 0, .int 9]) (st := [.int x2, .int x1, .ref (gX Γ 0)]) C ls_X7_137 (ct_X7_isWithin x3 0 9 S) (by decide) rfl rfl (Nat.le_of_ble_eq_true rfl) dX7_straw_7 (fun r_2 S_1 => ?_)
  refine g_if_eq (pc := 10) C 27 dX7_straw_10 (by decide) ?_ ?_
  · exact g_sub [0, 1, 2, 3, 4] rfl (p_X7_straw_b27 C M x1 x2 x3 x4 x2 x1 S_1)
  · refine g_iload (pc := 13) C dX7_straw_13 4 rfl ?_
    refine g_iconst (pc := 15) C (v := 1) dX7_straw_15 (by decide) ?_
    refine g_iconst (pc := 16) C (v := 4) dX7_straw_16 (by decide) ?_
    refine g_callSI (pc := 17) (As := [.int x4, .int 1, .int 4]) (st := [.int x2, .int x1, .ref (gX Γ 0)]) C ls_X7_137 (ct_X7_isWithin x4 1 4 S_1) (by decide) rfl rfl (Nat.le_of_ble_eq_true rfl) dX7_straw_17 (fun r_19 S_18 => ?_)
    refine g_if_eq (pc := 20) C 27 dX7_straw_20 (by decide) ?_ ?_
    · exact g_sub [0, 1, 2, 3, 4] rfl (p_X7_straw_b27 C M x1 x2 x3 x4 x2 x1 S_18)
    · refine g_iconst (pc := 23) C (v := 1) dX7_straw_23 (by decide) ?_
      refine g_goto (pc := 24) C 28 dX7_straw_24 (by decide) ?_
      exact g_sub [0, 1, 2, 3, 4] rfl (p_X7_straw_b28 C M x1 x2 x3 x4 1 x2 x1 S_18)
theorem ct_X7_straw {Γ : GA} (x1 : Int32) (x2 : Int32) (x3 : Int32) (x4 : Int32) (S : St) : CtI Γ yX7_straw cX7_straw 11 (some .int) 5 [.ref (gX Γ 0), .int x1, .int x2, .int x3, .int x4] S (f_X7_straw x1 x2 x3 x4 S) :=
  ctI_of (by decide) (Nat.le_of_ble_eq_true rfl) (fun _ C M => p_X7_straw C M x1 x2 x3 x4 S)
