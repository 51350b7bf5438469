set_option maxRecDepth 100000 in
set_option maxHeartbeats 4000000 in
theorem p_X7_codeAt {Γ : GA} {E : EV} (C : Cx Γ E RX7 cX7_codeAt 3 0 (some .int)) (M : Mx Γ E) (l0 : Int64) (x2 : Int32) (S : St) : G Γ E (QI Γ E) 3 0 [(0, .long l0), (2, .int x2)] [] S (f_X7_codeAt l0 x2 S) := by
  rw [f_X7_codeAt]
  refine g_lload_n (pc := 0) C dX7_codeAt_0 0 rfl rfl ?_
  refine g_bipush (pc := 1) C (v := 8) dX7_codeAt_1 (by decide) ?_
  refine g_iload_n (pc := 3) C dX7_codeAt_3 1 rfl rfl ?_
  refine g_imul (pc := 4) C dX7_codeAt_4 ?_
  refine g_lushr (pc := 5) C dX7_codeAt_5 ?_
  refine g_l2i (pc := 6) C dX7_codeAt_6 ?_
  refine g_sipush (pc := 7) C (v := 255) dX7_codeAt_7 (by decide) ?_
  refine g_iand (pc := 10) C dX7_codeAt_10 ?_
  exact g_iret C M dX7_codeAt_11
theorem ct_X7_codeAt {Γ : GA} (l0 : Int64) (x2 : Int32) (S : St) : CtI Γ yX7_codeAt cX7_codeAt 3 (some .int) 0 [.long l0, .int x2] S (f_X7_codeAt l0 x2 S) :=
  ctI_of (by decide) (Nat.le_of_ble_eq_true rfl) (fun _ C M => p_X7_codeAt C M l0 x2 S)
set_option maxRecDepth 100000 in
set_option maxHeartbeats 4000000 in
theorem p_X5_put {Γ : GA} {E : EV} (C : Cx Γ E RX5 cX5_put 2 0 none) (M : Mx Γ E) (x1 : Int32) (S : St) : G Γ E (QV Γ E) 2 0 [(0, .ref (gX Γ 1)), (1, .int x1)] [] S (f_X5_put x1 S) := by
  rw [f_X5_put]
  refine g_aload_n (pc := 0) C dX5_put_0 0 rfl rfl ?_
  refine g_getI (pc := 1) C lk_X5_15 fi_1_1 dX5_put_1 ?_
  refine g_bipush (pc := 4) C (v := 50) dX5_put_4 (by decide) ?_
  refine g_icmp_ge (pc := 6) C 29 dX5_put_6 (by decide) ?_ ?_
  · exact g_vret C M dX5_put_29
  · refine g_aload_n (pc := 9) C dX5_put_9 0 rfl rfl ?_
    refine g_getR (pc := 10) C lk_X5_9 fr_1_0 dX5_put_10 ?_
    refine g_aload_n (pc := 13) C dX5_put_13 0 rfl rfl ?_
    refine g_getI (pc := 14) C lk_X5_15 fi_1_1 dX5_put_14 ?_
    refine g_iload_n (pc := 17) C dX5_put_17 1 rfl rfl ?_
    refine g_iast (pc := 18) C ai_2 dX5_put_18 (fun S_1 => ?_)
    refine g_aload_n (pc := 19) C dX5_put_19 0 rfl rfl ?_
    refine g_dup (pc := 20) C dX5_put_20 rfl ?_
    refine g_getI (pc := 21) C lk_X5_15 fi_1_1 dX5_put_21 ?_
    refine g_iconst (pc := 24) C (v := 1) dX5_put_24 (by decide) ?_
    refine g_iadd (pc := 25) C dX5_put_25 ?_
    refine g_putI (pc := 26) C lp_X5_15 fi_1_1 dX5_put_26 (fun S_2 => ?_)
    exact g_vret C M dX5_put_29
theorem ct_X5_put {Γ : GA} (x1 : Int32) (S : St) : CtV Γ yX5_put cX5_put 2 none 0 [.ref (gX Γ 1), .int x1] S (f_X5_put x1 S) :=
  ctV_of (by decide) (Nat.le_of_ble_eq_true rfl) (fun _ C M => p_X5_put C M x1 S)
set_option maxRecDepth 100000 in
set_option maxHeartbeats 4000000 in
theorem p_X7_letters_l83 {Γ : GA} {E : EV} (C : Cx Γ E RX7 cX7_letters 7 1 (some .int)) (M : Mx Γ E) : ∀ (n : Nat) (l1 : Int64) (x3 : Int32) (x5 : Int32) (S : St), G Γ E (QI Γ E) 7 83 [(0, .ref (gX Γ 0)), (1, .long l1), (3, .int x3), (5, .int x5)] [] S (f_X7_letters_l83 n l1 x3 x5 S) := by
  intro n
  induction n with
  | zero => intro l1 x3 x5 S; exact g_none
  | succ n ih =>
    intro l1 x3 x5 S
    rw [f_X7_letters_l83]
    refine g_iload (pc := 83) C dX7_letters_83 3 rfl ?_
    refine g_iload_n (pc := 85) C dX7_letters_85 2 rfl rfl ?_
    refine g_icmp_ge (pc := 86) C 108 dX7_letters_86 (by decide) ?_ ?_
    · refine g_aload_n (pc := 108) C dX7_letters_108 0 rfl rfl ?_
      refine g_getR (pc := 109) C lk_X7_12 fr_0_0 dX7_letters_109 ?_
      refine g_getI (pc := 112) C lk_X7_78 fi_1_1 dX7_letters_112 ?_
      exact g_iret C M dX7_letters_115
    · refine g_aload_n (pc := 89) C dX7_letters_89 0 rfl rfl ?_
      refine g_getR (pc := 90) C lk_X7_12 fr_0_0 dX7_letters_90 ?_
      refine g_lload_n (pc := 93) C dX7_letters_93 1 rfl rfl ?_
      refine g_iload (pc := 94) C dX7_letters_94 3 rfl ?_
      refine g_callSI (pc := 96) (As := [.long l1, .int x5]) (st := [.ref (gX Γ 1)]) C ls_X7_74 (ct_X7_codeAt l1 x5 S) (by decide) rfl rfl (Nat.le_of_ble_eq_true rfl) dX7_letters_96 (fun r_2 S_1 => ?_)
      refine g_callVV (pc := 99) (As := [.int r_2]) (st := []) C lv_X7_81 fo_1 rfl (ct_X5_put r_2 S_1) (by decide) rfl rfl (Nat.le_of_ble_eq_true rfl) dX7_letters_99 (fun r_4 S_3 => ?_)
      refine g_iinc (pc := 102) C (v := 1) dX7_letters_102 3 rfl (by decide) (by decide) (fun x => [(5, .int x), (0, .ref (gX Γ 0)), (1, .long l1), (3, .int x3)]) (fun _ => rfl) (fun x5_5 => ?_)
      refine g_goto (pc := 105) C 83 dX7_letters_105 (by decide) ?_
      exact g_sub [1, 2, 3, 0] rfl (ih l1 x3 x5_5 S_3)
set_option maxRecDepth 100000 in
set_option maxHeartbeats 4000000 in
theorem p_X7_letters_b57 {Γ : GA} {E : EV} (C : Cx Γ E RX7 cX7_letters 7 1 (some .int)) (M : Mx Γ E) (k8 : Int64 → Int32 → Int32 → Int32 → St → Option (Int32 × St)) (hk8 : ∀ (l1 : Int64) (x3 : Int32) (x4 : Int32) (x5 : Int32) (S : St), G Γ E (QI Γ E) 7 8 [(0, .ref (gX Γ 0)), (1, .long l1), (3, .int x3), (4, .int x4), (5, .int x5)] [] S (k8 l1 x3 x4 x5 S)) (l1 : Int64) (x3 : Int32) (x4 : Int32) (x5 : Int32) (S : St) : G Γ E (QI Γ E) 7 57 [(0, .ref (gX Γ 0)), (1, .long l1), (3, .int x3), (4, .int x4), (5, .int x5)] [] S (f_X7_letters_b57 k8 l1 x3 x4 x5 S) := by
  rw [f_X7_letters_b57]
  refine g_iinc (pc := 57) C (v := 1) dX7_letters_57 4 rfl (by decide) (by decide) (fun x => [(5, .int x), (0, .ref (gX Γ 0)), (1, .long l1), (3, .int x3), (4, .int x4)]) (fun _ => rfl) (fun x5_8 => ?_)
  refine g_goto (pc := 60) C 8 dX7_letters_60 (by decide) ?_
  exact g_sub [1, 2, 3, 4, 0] rfl (hk8 l1 x3 x4 x5_8 S)
set_option maxRecDepth 100000 in
set_option maxHeartbeats 4000000 in
theorem p_X7_letters_b43 {Γ : GA} {E : EV} (C : Cx Γ E RX7 cX7_letters 7 1 (some .int)) (M : Mx Γ E) (k8 : Int64 → Int32 → Int32 → Int32 → St → Option (Int32 × St)) (hk8 : ∀ (l1 : Int64) (x3 : Int32) (x4 : Int32) (x5 : Int32) (S : St), G Γ E (QI Γ E) 7 8 [(0, .ref (gX Γ 0)), (1, .long l1), (3, .int x3), (4, .int x4), (5, .int x5)] [] S (k8 l1 x3 x4 x5 S)) (l1 : Int64) (x3 : Int32) (x4 : Int32) (x5 : Int32) (x6 : Int32) (S : St) : G Γ E (QI Γ E) 7 43 [(0, .ref (gX Γ 0)), (1, .long l1), (3, .int x3), (4, .int x4), (5, .int x5), (6, .int x6)] [] S (f_X7_letters_b43 k8 l1 x3 x4 x5 x6 S) := by
  rw [f_X7_letters_b43]
  refine g_iload (pc := 43) C dX7_letters_43 5 rfl ?_
  refine g_if_ne (pc := 45) C 54 dX7_letters_45 (by decide) ?_ ?_
  · refine g_iconst (pc := 48) C (v := 1) dX7_letters_48 (by decide) ?_
    refine g_istore0 (pc := 49) C dX7_letters_49 (by decide) (lv' := [(4, .int 1), (0, .ref (gX Γ 0)), (1, .long l1), (3, .int x3), (5, .int x5), (6, .int x6)]) rfl ?_
    refine g_goto (pc := 51) C 57 dX7_letters_51 (by decide) ?_
    exact g_sub [1, 2, 3, 0, 4] rfl (p_X7_letters_b57 C M k8 hk8 l1 x3 1 x5 S)
  · refine g_iinc (pc := 54) C (v := 1) dX7_letters_54 2 rfl (by decide) (by decide) (fun x => [(3, .int x), (0, .ref (gX Γ 0)), (1, .long l1), (4, .int x4), (5, .int x5), (6, .int x6)]) (fun _ => rfl) (fun x3_9 => ?_)
    exact g_sub [1, 2, 0, 3, 4] rfl (p_X7_letters_b57 C M k8 hk8 l1 x3_9 x4 x5 S)
set_option maxRecDepth 100000 in
set_option maxHeartbeats 4000000 in
theorem p_X7_letters_l8 {Γ : GA} {E : EV} (C : Cx Γ E RX7 cX7_letters 7 1 (some .int)) (M : Mx Γ E) : ∀ (n : Nat) (l1 : Int64) (x3 : Int32) (x4 : Int32) (x5 : Int32) (S : St), G Γ E (QI Γ E) 7 8 [(0, .ref (gX Γ 0)), (1, .long l1), (3, .int x3), (4, .int x4), (5, .int x5)] [] S (f_X7_letters_l8 n l1 x3 x4 x5 S) := by
  intro n
  induction n with
  | zero => intro l1 x3 x4 x5 S; exact g_none
  | succ n ih =>
    intro l1 x3 x4 x5 S
    rw [f_X7_letters_l8]
    refine g_iload (pc := 8) C dX7_letters_8 4 rfl ?_
    refine g_bipush (pc := 10) C (v := 8) dX7_letters_10 (by decide) ?_
    refine g_icmp_ge (pc := 12) C 63 dX7_letters_12 (by decide) ?_ ?_
    · refine g_aload_n (pc := 63) C dX7_letters_63 0 rfl rfl ?_
      refine g_getR (pc := 64) C lk_X7_12 fr_0_0 dX7_letters_64 ?_
      refine g_getI (pc := 67) C lk_X7_78 fi_1_1 dX7_letters_67 ?_
      refine g_iload_n (pc := 70) C dX7_letters_70 2 rfl rfl ?_
      refine g_iadd (pc := 71) C dX7_letters_71 ?_
      refine g_bipush (pc := 72) C (v := 50) dX7_letters_72 (by decide) ?_
      refine g_icmp_le (pc := 74) C 80 dX7_letters_74 (by decide) ?_ ?_
      · refine g_iconst (pc := 80) C (v := 0) dX7_letters_80 (by decide) ?_
        refine g_istore0 (pc := 81) C dX7_letters_81 (by decide) (lv' := [(5, .int 0), (0, .ref (gX Γ 0)), (1, .long l1), (3, .int x3), (4, .int x4)]) rfl ?_
        exact g_sub [1, 2, 3, 0] rfl (p_X7_letters_l83 C M FU l1 x3 0 S)
      · refine g_bipush (pc := 77) C (v := (-104)) dX7_letters_77 (by decide) ?_
        exact g_iret C M dX7_letters_79
    · refine g_lload_n (pc := 15) C dX7_letters_15 1 rfl rfl ?_
      refine g_iload (pc := 16) C dX7_letters_16 4 rfl ?_
      refine g_callSI (pc := 18) (As := [.long l1, .int x5]) (st := []) C ls_X7_74 (ct_X7_codeAt l1 x5 S) (by decide) rfl rfl (Nat.le_of_ble_eq_true rfl) dX7_letters_18 (fun r_7 S_6 => ?_)
      refine g_istore0 (pc := 21) C dX7_letters_21 (by decide) (lv' := [(6, .int r_7), (0, .ref (gX Γ 0)), (1, .long l1), (3, .int x3), (4, .int x4), (5, .int x5)]) rfl ?_
      refine g_iload (pc := 23) C dX7_letters_23 0 rfl ?_
      refine g_bipush (pc := 25) C (v := 126) dX7_letters_25 (by decide) ?_
      refine g_icmp_gt (pc := 27) C 40 dX7_letters_27 (by decide) ?_ ?_
      · refine g_bipush (pc := 40) C (v := (-102)) dX7_letters_40 (by decide) ?_
        exact g_iret C M dX7_letters_42
      · refine g_iload (pc := 30) C dX7_letters_30 4 rfl ?_
        refine g_if_eq (pc := 32) C 43 dX7_letters_32 (by decide) ?_ ?_
        · exact g_sub [1, 2, 3, 4, 5, 0] rfl (p_X7_letters_b43 C M (f_X7_letters_l8 n) ih l1 x3 x4 x5 r_7 S_6)
        · refine g_iload (pc := 35) C dX7_letters_35 0 rfl ?_
          refine g_if_eq (pc := 37) C 43 dX7_letters_37 (by decide) ?_ ?_
          · exact g_sub [1, 2, 3, 4, 5, 0] rfl (p_X7_letters_b43 C M (f_X7_letters_l8 n) ih l1 x3 x4 x5 r_7 S_6)
          · refine g_bipush (pc := 40) C (v := (-102)) dX7_letters_40 (by decide) ?_
            exact g_iret C M dX7_letters_42
set_option maxRecDepth 100000 in
set_option maxHeartbeats 4000000 in
theorem p_X7_letters {Γ : GA} {E : EV} (C : Cx Γ E RX7 cX7_letters 7 1 (some .int)) (M : Mx Γ E) (l1 : Int64) (S : St) : G Γ E (QI Γ E) 7 0 [(0, .ref (gX Γ 0)), (1, .long l1)] [] S (f_X7_letters l1 S) := by
  rw [f_X7_letters]
  refine g_iconst (pc := 0) C (v := 0) dX7_letters_0 (by decide) ?_
  refine g_istore_n0 (pc := 1) C dX7_letters_1 rfl (by decide) (lv' := [(3, .int 0), (0, .ref (gX Γ 0)), (1, .long l1)]) rfl ?_
  refine g_iconst (pc := 2) C (v := 0) dX7_letters_2 (by decide) ?_
  refine g_istore0 (pc := 3) C dX7_letters_3 (by decide) (lv' := [(4, .int 0), (3, .int 0), (0, .ref (gX Γ 0)), (1, .long l1)]) rfl ?_
  refine g_iconst (pc := 5) C (v := 0) dX7_letters_5 (by decide) ?_
  refine g_istore0 (pc := 6) C dX7_letters_6 (by decide) (lv' := [(5, .int 0), (4, .int 0), (3, .int 0), (0, .ref (gX Γ 0)), (1, .long l1)]) rfl ?_
  exact g_sub [3, 4, 2, 1, 0] rfl (p_X7_letters_l8 C M FU l1 0 0 0 S)
theorem ct_X7_letters {Γ : GA} (l1 : Int64) (S : St) : CtI Γ yX7_letters cX7_letters 7 (some .int) 1 [.ref (gX Γ 0), .long l1] S (f_X7_letters l1 S) :=
  ctI_of (by decide) (Nat.le_of_ble_eq_true rfl) (fun _ C M => p_X7_letters C M l1 S)
set_option maxRecDepth 100000 in
set_option maxHeartbeats 4000000 in
theorem p_X7_blank {Γ : GA} {E : EV} (C : Cx Γ E RX7 cX7_blank 2 0 (some .int)) (M : Mx Γ E) (S : St) : G Γ E (QI Γ E) 2 0 [(0, .ref (gX Γ 0))] [] S (f_X7_blank S) := by
  rw [f_X7_blank]
  refine g_aload_n (pc := 0) C dX7_blank_0 0 rfl rfl ?_
  refine g_getR (pc := 1) C lk_X7_12 fr_0_0 dX7_blank_1 ?_
  refine g_getI (pc := 4) C lk_X7_78 fi_1_1 dX7_blank_4 ?_
  refine g_istore_n (pc := 7) C dX7_blank_7 rfl (by decide) (fun x => [(1, .int x), (0, .ref (gX Γ 0))]) (fun _ => rfl) (fun x1_1 => ?_)
  refine g_aload_n (pc := 8) C dX7_blank_8 1 rfl rfl ?_
  refine g_getR (pc := 9) C lk_X7_12 fr_0_0 dX7_blank_9 ?_
  refine g_iconst (pc := 12) C (v := 0) dX7_blank_12 (by decide) ?_
  refine g_putI (pc := 13) C lp_X7_78 fi_1_1 dX7_blank_13 (fun S_2 => ?_)
  refine g_iload_n (pc := 16) C dX7_blank_16 0 rfl rfl ?_
  exact g_iret C M dX7_blank_17
theorem ct_X7_blank {Γ : GA} (S : St) : CtI Γ yX7_blank cX7_blank 2 (some .int) 0 [.ref (gX Γ 0)] S (f_X7_blank S) :=
  ctI_of (by decide) (Nat.le_of_ble_eq_true rfl) (fun _ C M => p_X7_blank C M  S)
set_option maxRecDepth 100000 in
set_option maxHeartbeats 4000000 in
theorem p_X5_at {Γ : GA} {E : EV} (C : Cx Γ E RX5 cX5_at 2 0 (some .int)) (M : Mx Γ E) (x1 : Int32) (S : St) : G Γ E (QI Γ E) 2 0 [(0, .ref (gX Γ 1)), (1, .int x1)] [] S (f_X5_at x1 S) := by
  rw [f_X5_at]
  refine g_iload_n (pc := 0) C dX5_at_0 1 rfl rfl ?_
  refine g_if_lt (pc := 1) C 21 dX5_at_1 (by decide) ?_ ?_
  · refine g_iconst (pc := 21) C (v := 0) dX5_at_21 (by decide) ?_
    exact g_iret C M dX5_at_22
  · refine g_iload_n (pc := 4) C dX5_at_4 1 rfl rfl ?_
    refine g_aload_n (pc := 5) C dX5_at_5 0 rfl rfl ?_
    refine g_getI (pc := 6) C lk_X5_15 fi_1_1 dX5_at_6 ?_
    refine g_icmp_ge (pc := 9) C 21 dX5_at_9 (by decide) ?_ ?_
    · refine g_iconst (pc := 21) C (v := 0) dX5_at_21 (by decide) ?_
      exact g_iret C M dX5_at_22
    · refine g_aload_n (pc := 12) C dX5_at_12 0 rfl rfl ?_
      refine g_getR (pc := 13) C lk_X5_9 fr_1_0 dX5_at_13 ?_
      refine g_iload_n (pc := 16) C dX5_at_16 1 rfl rfl ?_
      refine g_iald (pc := 17) C ai_2 dX5_at_17 ?_
      refine g_goto (pc := 18) C 22 dX5_at_18 (by decide) ?_
      exact g_iret C M dX5_at_22
theorem ct_X5_at {Γ : GA} (x1 : Int32) (S : St) : CtI Γ yX5_at cX5_at 2 (some .int) 0 [.ref (gX Γ 1), .int x1] S (f_X5_at x1 S) :=
  ctI_of (by decide) (Nat.le_of_ble_eq_true rfl) (fun _ C M => p_X5_at C M x1 S)
set_option maxRecDepth 100000 in
set_option maxHeartbeats 4000000 in
theorem p_X5_digitAt {Γ : GA} {E : EV} (C : Cx Γ E RX5 cX5_digitAt 2 1 (some .int)) (M : Mx Γ E) (x1 : Int32) (S : St) : G Γ E (QI Γ E) 2 0 [(0, .ref (gX Γ 1)), (1, .int x1)] [] S (f_X5_digitAt x1 S) := by
  rw [f_X5_digitAt]
  refine g_aload_n (pc := 0) C dX5_digitAt_0 0 rfl rfl ?_
  refine g_iload_n (pc := 1) C dX5_digitAt_1 1 rfl rfl ?_
  refine g_callVI (pc := 2) (As := [.int x1]) (st := []) C lv_X5_19 fo_1 rfl (ct_X5_at x1 S) (by decide) rfl rfl (Nat.le_of_ble_eq_true rfl) dX5_digitAt_2 (fun r_2 S_1 => ?_)
  refine g_bipush (pc := 5) C (v := 48) dX5_digitAt_5 (by decide) ?_
  refine g_isub (pc := 7) C dX5_digitAt_7 ?_
  exact g_iret C M dX5_digitAt_8
theorem ct_X5_digitAt {Γ : GA} (x1 : Int32) (S : St) : CtI Γ yX5_digitAt cX5_digitAt 2 (some .int) 1 [.ref (gX Γ 1), .int x1] S (f_X5_digitAt x1 S) :=
  ctI_of (by decide) (Nat.le_of_ble_eq_true rfl) (fun _ C M => p_X5_digitAt C M x1 S)
set_option maxRecDepth 100000 in
set_option maxHeartbeats 4000000 in
theorem p_X5_isDigit {Γ : GA} {E : EV} (C : Cx Γ E RX5 cX5_isDigit 3 2 (some .boolean)) (M : Mx Γ E) (x1 : Int32) (x2 : Int32) (S : St) : G Γ E (QI Γ E) 3 0 [(0, .ref (gX Γ 1)), (1, .int x1), (2, .int x2)] [] S (f_X5_isDigit x1 x2 S) := by
  rw [f_X5_isDigit]
  refine g_aload_n (pc := 0) C dX5_isDigit_0 0 rfl rfl ?_
  refine g_iload_n (pc := 1) C dX5_isDigit_1 1 rfl rfl ?_
  refine g_callVI (pc := 2) (As := [.int x1]) (st := []) C lv_X5_23 fo_1 rfl (ct_X5_digitAt x1 S) (by decide) rfl rfl (Nat.le_of_ble_eq_true rfl) dX5_isDigit_2 (fun r_2 S_1 => ?_)
  refine g_iload_n (pc := 5) C dX5_isDigit_5 2 rfl rfl ?_
  refine g_icmp_lt (pc := 6) C 23 dX5_isDigit_6 (by decide) ?_ ?_
  · refine g_iconst (pc := 23) C (v := 0) dX5_isDigit_23 (by decide) ?_
    exact g_zret1 C M rfl dX5_isDigit_24
  · refine g_aload_n (pc := 9) C dX5_isDigit_9 0 rfl rfl ?_
    refine g_iload_n (pc := 10) C dX5_isDigit_10 1 rfl rfl ?_
    refine g_callVI (pc := 11) (As := [.int x1]) (st := []) C lv_X5_23 fo_1 rfl (ct_X5_digitAt x1 S_1) (by decide) rfl rfl (Nat.le_of_ble_eq_true rfl) dX5_isDigit_11 (fun r_4 S_3 => ?_)
    refine g_bipush (pc := 14) C (v := 9) dX5_isDigit_14 (by decide) ?_
    refine g_icmp_gt (pc := 16) C 23 dX5_isDigit_16 (by decide) ?_ ?_
    · refine g_iconst (pc := 23) C (v := 0) dX5_isDigit_23 (by decide) ?_
      exact g_zret1 C M rfl dX5_isDigit_24
    · refine g_iconst (pc := 19) C (v := 1) dX5_isDigit_19 (by decide) ?_
      refine g_goto (pc := 20) C 24 dX5_isDigit_20 (by decide) ?_
      exact g_zret1 C M rfl dX5_isDigit_24
theorem ct_X5_isDigit {Γ : GA} (x1 : Int32) (x2 : Int32) (S : St) : CtI Γ yX5_isDigit cX5_isDigit 3 (some .boolean) 2 [.ref (gX Γ 1), .int x1, .int x2] S (f_X5_isDigit x1 x2 S) :=
  ctI_of (by decide) (Nat.le_of_ble_eq_true rfl) (fun _ C M => p_X5_isDigit C M x1 x2 S)
set_option maxRecDepth 100000 in
set_option maxHeartbeats 4000000 in
theorem p_X5_fitsHill_b18 {Γ : GA} {E : EV} (C : Cx Γ E RX5 cX5_fitsHill 5 3 (some .boolean)) (M : Mx Γ E) (x1 : Int32) (S : St) : G Γ E (QI Γ E) 5 18 [(0, .ref (gX Γ 1)), (1, .int x1)] [] S (f_X5_fitsHill_b18 x1 S) := by
  rw [f_X5_fitsHill_b18]
  refine g_aload_n (pc := 18) C dX5_fitsHill_18 0 rfl rfl ?_
  refine g_iload_n (pc := 19) C dX5_fitsHill_19 1 rfl rfl ?_
  refine g_iconst (pc := 20) C (v := 0) dX5_fitsHill_20 (by decide) ?_
  refine g_callVI (pc := 21) (As := [.int x1, .int 0]) (st := []) C lv_X5_30 fo_1 rfl (ct_X5_isDigit x1 0 S) (by decide) rfl rfl (Nat.le_of_ble_eq_true rfl) dX5_fitsHill_21 (fun r_4 S_3 => ?_)
  exact g_zret C M dX5_fitsHill_24
set_option maxRecDepth 100000 in
set_option maxHeartbeats 4000000 in
theorem p_X5_fitsHill_b100 {Γ : GA} {E : EV} (C : Cx Γ E RX5 cX5_fitsHill 5 3 (some .boolean)) (M : Mx Γ E) (S : St) : G Γ E (QI Γ E) 5 100 [] [] S (f_X5_fitsHill_b100 S) := by
  rw [f_X5_fitsHill_b100]
  refine g_iconst (pc := 100) C (v := 1) dX5_fitsHill_100 (by decide) ?_
  refine g_goto (pc := 101) C 105 dX5_fitsHill_101 (by decide) ?_
  exact g_zret1 C M rfl dX5_fitsHill_105
set_option maxRecDepth 100000 in
set_option maxHeartbeats 4000000 in
theorem p_X5_fitsHill_b73 {Γ : GA} {E : EV} (C : Cx Γ E RX5 cX5_fitsHill 5 3 (some .boolean)) (M : Mx Γ E) (x1 : Int32) (s0 : Int32) (S : St) : G Γ E (QI Γ E) 5 73 [(0, .ref (gX Γ 1)), (1, .int x1)] [.int s0] S (f_X5_fitsHill_b73 x1 s0 S) := by
  rw [f_X5_fitsHill_b73]
  refine g_istore0 (pc := 73) C dX5_fitsHill_73 (by decide) (lv' := [(4, .int s0), (0, .ref (gX Γ 1)), (1, .int x1)]) rfl ?_
  refine g_iload (pc := 75) C dX5_fitsHill_75 0 rfl ?_
  refine g_if_eq (pc := 77) C 104 dX5_fitsHill_77 (by decide) ?_ ?_
  · refine g_iconst (pc := 104) C (v := 0) dX5_fitsHill_104 (by decide) ?_
    exact g_zret1 C M rfl dX5_fitsHill_105
  · refine g_aload_n (pc := 80) C dX5_fitsHill_80 1 rfl rfl ?_
    refine g_iload_n (pc := 81) C dX5_fitsHill_81 2 rfl rfl ?_
    refine g_callVI (pc := 82) (As := [.int x1]) (st := []) C lv_X5_19 fo_1 rfl (ct_X5_at x1 S) (by decide) rfl rfl (Nat.le_of_ble_eq_true rfl) dX5_fitsHill_82 (fun r_10 S_9 => ?_)
    refine g_bipush (pc := 85) C (v := 98) dX5_fitsHill_85 (by decide) ?_
    refine g_icmp_eq (pc := 87) C 100 dX5_fitsHill_87 (by decide) ?_ ?_
    · exact g_sub [] rfl (p_X5_fitsHill_b100 C M S_9)
    · refine g_aload_n (pc := 90) C dX5_fitsHill_90 1 rfl rfl ?_
      refine g_iload_n (pc := 91) C dX5_fitsHill_91 2 rfl rfl ?_
      refine g_callVI (pc := 92) (As := [.int x1]) (st := []) C lv_X5_19 fo_1 rfl (ct_X5_at x1 S_9) (by decide) rfl rfl (Nat.le_of_ble_eq_true rfl) dX5_fitsHill_92 (fun r_12 S_11 => ?_)
      refine g_bipush (pc := 95) C (v := 117) dX5_fitsHill_95 (by decide) ?_
      refine g_icmp_ne (pc := 97) C 104 dX5_fitsHill_97 (by decide) ?_ ?_
      · exact g_sub [] rfl (p_X5_fitsHill_b100 C M S_11)
      · refine g_iconst (pc := 104) C (v := 0) dX5_fitsHill_104 (by decide) ?_
        exact g_zret1 C M rfl dX5_fitsHill_105
set_option maxRecDepth 100000 in
set_option maxHeartbeats 4000000 in
theorem p_X5_fitsHill_b72 {Γ : GA} {E : EV} (C : Cx Γ E RX5 cX5_fitsHill 5 3 (some .boolean)) (M : Mx Γ E) (x1 : Int32) (S : St) : G Γ E (QI Γ E) 5 72 [(0, .ref (gX Γ 1)), (1, .int x1)] [] S (f_X5_fitsHill_b72 x1 S) := by
  rw [f_X5_fitsHill_b72]
  refine g_iconst (pc := 72) C (v := 0) dX5_fitsHill_72 (by decide) ?_
  exact g_sub [0, 1] rfl (p_X5_fitsHill_b73 C M x1 0 S)
set_option maxRecDepth 100000 in
set_option maxHeartbeats 4000000 in
theorem p_X5_fitsHill {Γ : GA} {E : EV} (C : Cx Γ E RX5 cX5_fitsHill 5 3 (some .boolean)) (M : Mx Γ E) (x1 : Int32) (x2 : Int32) (S : St) : G Γ E (QI Γ E) 5 0 [(0, .ref (gX Γ 1)), (1, .int x1), (2, .int x2)] [] S (f_X5_fitsHill x1 x2 S) := by
  rw [f_X5_fitsHill]
  refine g_aload_n (pc := 0) C dX5_fitsHill_0 0 rfl rfl ?_
  refine g_iload_n (pc := 1) C dX5_fitsHill_1 1 rfl rfl ?_
  refine g_iconst (pc := 2) C (v := 1) dX5_fitsHill_2 (by decide) ?_
  refine g_isub (pc := 3) C dX5_fitsHill_3 ?_
  refine g_callVI (pc := 4) (As := [.int (x1 - 1)]) (st := []) C lv_X5_19 fo_1 rfl (ct_X5_at (x1 - 1) S) (by decide) rfl rfl (Nat.le_of_ble_eq_true rfl) dX5_fitsHill_4 (fun r_2 S_1 => ?_)
  refine g_istore_n0 (pc := 7) C dX5_fitsHill_7 rfl (by decide) (lv' := [(3, .int r_2), (0, .ref (gX Γ 1)), (1, .int x1), (2, .int x2)]) rfl ?_
  refine g_iload_n (pc := 8) C dX5_fitsHill_8 0 rfl rfl ?_
  refine g_if_eq (pc := 9) C 18 dX5_fitsHill_9 (by decide) ?_ ?_
  · exact g_sub [1, 2] rfl (p_X5_fitsHill_b18 C M x1 S_1)
  · refine g_iload_n (pc := 12) C dX5_fitsHill_12 0 rfl rfl ?_
    refine g_bipush (pc := 13) C (v := 44) dX5_fitsHill_13 (by decide) ?_
    refine g_icmp_ne (pc := 15) C 25 dX5_fitsHill_15 (by decide) ?_ ?_
    · exact g_sub [1, 2] rfl (p_X5_fitsHill_b18 C M x1 S_1)
    · refine g_iload_n (pc := 25) C dX5_fitsHill_25 0 rfl rfl ?_
      refine g_bipush (pc := 26) C (v := 98) dX5_fitsHill_26 (by decide) ?_
      refine g_icmp_ne (pc := 28) C 38 dX5_fitsHill_28 (by decide) ?_ ?_
      · refine g_aload_n (pc := 31) C dX5_fitsHill_31 1 rfl rfl ?_
        refine g_iload_n (pc := 32) C dX5_fitsHill_32 2 rfl rfl ?_
        refine g_iconst (pc := 33) C (v := 1) dX5_fitsHill_33 (by decide) ?_
        refine g_callVI (pc := 34) (As := [.int x1, .int 1]) (st := []) C lv_X5_30 fo_1 rfl (ct_X5_isDigit x1 1 S_1) (by decide) rfl rfl (Nat.le_of_ble_eq_true rfl) dX5_fitsHill_34 (fun r_6 S_5 => ?_)
        exact g_zret C M dX5_fitsHill_37
      · refine g_aload_n (pc := 38) C dX5_fitsHill_38 1 rfl rfl ?_
        refine g_iload_n (pc := 39) C dX5_fitsHill_39 2 rfl rfl ?_
        refine g_callVI (pc := 40) (As := [.int x1]) (st := []) C lv_X5_19 fo_1 rfl (ct_X5_at x1 S_1) (by decide) rfl rfl (Nat.le_of_ble_eq_true rfl) dX5_fitsHill_40 (fun r_8 S_7 => ?_)
        refine g_bipush (pc := 43) C (v := 44) dX5_fitsHill_43 (by decide) ?_
        refine g_icmp_ne (pc := 45) C 50 dX5_fitsHill_45 (by decide) ?_ ?_
        · refine g_iload_n (pc := 48) C dX5_fitsHill_48 3 rfl rfl ?_
          exact g_zret C M dX5_fitsHill_49
        · refine g_iload_n (pc := 50) C dX5_fitsHill_50 0 rfl rfl ?_
          refine g_bipush (pc := 51) C (v := 117) dX5_fitsHill_51 (by decide) ?_
          refine g_icmp_eq (pc := 53) C 72 dX5_fitsHill_53 (by decide) ?_ ?_
          · exact g_sub [1, 2] rfl (p_X5_fitsHill_b72 C M x1 S_7)
          · refine g_aload_n (pc := 56) C dX5_fitsHill_56 1 rfl rfl ?_
            refine g_iload_n (pc := 57) C dX5_fitsHill_57 2 rfl rfl ?_
            refine g_iconst (pc := 58) C (v := 2) dX5_fitsHill_58 (by decide) ?_
            refine g_isub (pc := 59) C dX5_fitsHill_59 ?_
            refine g_callVI (pc := 60) (As := [.int (x1 - 2)]) (st := []) C lv_X5_19 fo_1 rfl (ct_X5_at (x1 - 2) S_7) (by decide) rfl rfl (Nat.le_of_ble_eq_true rfl) dX5_fitsHill_60 (fun r_14 S_13 => ?_)
            refine g_bipush (pc := 63) C (v := 98) dX5_fitsHill_63 (by decide) ?_
            refine g_icmp_eq (pc := 65) C 72 dX5_fitsHill_65 (by decide) ?_ ?_
            · exact g_sub [1, 2] rfl (p_X5_fitsHill_b72 C M x1 S_13)
            · refine g_iconst (pc := 68) C (v := 1) dX5_fitsHill_68 (by decide) ?_
              refine g_goto (pc := 69) C 73 dX5_fitsHill_69 (by decide) ?_
              exact g_sub [1, 2] rfl (p_X5_fitsHill_b73 C M x1 1 S_13)
theorem ct_X5_fitsHill {Γ : GA} (x1 : Int32) (x2 : Int32) (S : St) : CtI Γ yX5_fitsHill cX5_fitsHill 5 (some .boolean) 3 [.ref (gX Γ 1), .int x1, .int x2] S (f_X5_fitsHill x1 x2 S) :=
  ctI_of (by decide) (Nat.le_of_ble_eq_true rfl) (fun _ C M => p_X5_fitsHill C M x1 x2 S)
set_option maxRecDepth 100000 in
set_option maxHeartbeats 4000000 in
theorem p_X5_hillFault_b46 {Γ : GA} {E : EV} (C : Cx Γ E RX5 cX5_hillFault 3 4 (some .int)) (M : Mx Γ E) (k4 : Int32 → Int32 → St → Option (Int32 × St)) (hk4 : ∀ (x1 : Int32) (x2 : Int32) (S : St), G Γ E (QI Γ E) 3 4 [(0, .ref (gX Γ 1)), (1, .int x1), (2, .int x2)] [] S (k4 x1 x2 S)) (x1 : Int32) (x2 : Int32) (S : St) : G Γ E (QI Γ E) 3 46 [(0, .ref (gX Γ 1)), (1, .int x1), (2, .int x2)] [] S (f_X5_hillFault_b46 k4 x1 x2 S) := by
  rw [f_X5_hillFault_b46]
  refine g_iinc (pc := 46) C (v := 1) dX5_hillFault_46 2 rfl (by decide) (by decide) (fun x => [(2, .int x), (0, .ref (gX Γ 1)), (1, .int x1)]) (fun _ => rfl) (fun x2_6 => ?_)
  refine g_goto (pc := 49) C 4 dX5_hillFault_49 (by decide) ?_
  exact g_sub [1, 2, 0] rfl (hk4 x1 x2_6 S)
set_option maxRecDepth 100000 in
set_option maxHeartbeats 4000000 in
theorem p_X5_hillFault_b25 {Γ : GA} {E : EV} (C : Cx Γ E RX5 cX5_hillFault 3 4 (some .int)) (M : Mx Γ E) (k4 : Int32 → Int32 → St → Option (Int32 × St)) (hk4 : ∀ (x1 : Int32) (x2 : Int32) (S : St), G Γ E (QI Γ E) 3 4 [(0, .ref (gX Γ 1)), (1, .int x1), (2, .int x2)] [] S (k4 x1 x2 S)) (x1 : Int32) (x2 : Int32) (s0 : Int32) (s1 : Int32) (S : St) : G Γ E (QI Γ E) 3 25 [(0, .ref (gX Γ 1)), (1, .int x1), (2, .int x2)] [.int s0, .int s1, .ref (gX Γ 1)] S (f_X5_hillFault_b25 k4 x1 x2 s0 s1 S) := by
  rw [f_X5_hillFault_b25]
  refine g_callVI (pc := 25) (As := [.int s1, .int s0]) (st := []) C lv_X5_26 fo_1 rfl (ct_X5_fitsHill s1 s0 S) (by decide) rfl rfl (Nat.le_of_ble_eq_true rfl) dX5_hillFault_25 (fun r_2 S_1 => ?_)
  refine g_if_ne (pc := 28) C 33 dX5_hillFault_28 (by decide) ?_ ?_
  · refine g_iload_n (pc := 31) C dX5_hillFault_31 2 rfl rfl ?_
    exact g_iret C M dX5_hillFault_32
  · refine g_aload_n (pc := 33) C dX5_hillFault_33 0 rfl rfl ?_
    refine g_iload_n (pc := 34) C dX5_hillFault_34 2 rfl rfl ?_
    refine g_callVI (pc := 35) (As := [.int x2]) (st := []) C lv_X5_19 fo_1 rfl (ct_X5_at x2 S_1) (by decide) rfl rfl (Nat.le_of_ble_eq_true rfl) dX5_hillFault_35 (fun r_4 S_3 => ?_)
    refine g_bipush (pc := 38) C (v := 44) dX5_hillFault_38 (by decide) ?_
    refine g_icmp_ne (pc := 40) C 46 dX5_hillFault_40 (by decide) ?_ ?_
    · refine g_iinc (pc := 43) C (v := 1) dX5_hillFault_43 1 rfl (by decide) (by decide) (fun x => [(1, .int x), (0, .ref (gX Γ 1)), (2, .int x2)]) (fun _ => rfl) (fun x1_5 => ?_)
      exact g_sub [1, 0, 2] rfl (p_X5_hillFault_b46 C M k4 hk4 x1_5 x2 S_3)
    · exact g_sub [0, 1, 2] rfl (p_X5_hillFault_b46 C M k4 hk4 x1 x2 S_3)
set_option maxRecDepth 100000 in
set_option maxHeartbeats 4000000 in
theorem p_X5_hillFault_l4 {Γ : GA} {E : EV} (C : Cx Γ E RX5 cX5_hillFault 3 4 (some .int)) (M : Mx Γ E) : ∀ (n : Nat) (x1 : Int32) (x2 : Int32) (S : St), G Γ E (QI Γ E) 3 4 [(0, .ref (gX Γ 1)), (1, .int x1), (2, .int x2)] [] S (f_X5_hillFault_l4 n x1 x2 S) := by
  intro n
  induction n with
  | zero => intro x1 x2 S; exact g_none
  | succ n ih =>
    intro x1 x2 S
    rw [f_X5_hillFault_l4]
    refine g_iload_n (pc := 4) C dX5_hillFault_4 2 rfl rfl ?_
    refine g_aload_n (pc := 5) C dX5_hillFault_5 0 rfl rfl ?_
    refine g_getI (pc := 6) C lk_X5_15 fi_1_1 dX5_hillFault_6 ?_
    refine g_icmp_ge (pc := 9) C 52 dX5_hillFault_9 (by decide) ?_ ?_
    · refine g_aload_n (pc := 52) C dX5_hillFault_52 0 rfl rfl ?_
      refine g_getI (pc := 53) C lk_X5_15 fi_1_1 dX5_hillFault_53 ?_
      exact g_iret C M dX5_hillFault_56
    · refine g_aload_n (pc := 12) C dX5_hillFault_12 0 rfl rfl ?_
      refine g_iload_n (pc := 13) C dX5_hillFault_13 2 rfl rfl ?_
      refine g_iload_n (pc := 14) C dX5_hillFault_14 1 rfl rfl ?_
      refine g_bipush (pc := 15) C (v := 12) dX5_hillFault_15 (by decide) ?_
      refine g_icmp_ge (pc := 17) C 24 dX5_hillFault_17 (by decide) ?_ ?_
      · refine g_iconst (pc := 24) C (v := 0) dX5_hillFault_24 (by decide) ?_
        exact g_sub [0, 1, 2] rfl (p_X5_hillFault_b25 C M (f_X5_hillFault_l4 n) ih x1 x2 0 x2 S)
      · refine g_iconst (pc := 20) C (v := 1) dX5_hillFault_20 (by decide) ?_
        refine g_goto (pc := 21) C 25 dX5_hillFault_21 (by decide) ?_
        exact g_sub [0, 1, 2] rfl (p_X5_hillFault_b25 C M (f_X5_hillFault_l4 n) ih x1 x2 1 x2 S)
set_option maxRecDepth 100000 in
set_option maxHeartbeats 4000000 in
theorem p_X5_hillFault {Γ : GA} {E : EV} (C : Cx Γ E RX5 cX5_hillFault 3 4 (some .int)) (M : Mx Γ E) (S : St) : G Γ E (QI Γ E) 3 0 [(0, .ref (gX Γ 1))] [] S (f_X5_hillFault S) := by
  rw [f_X5_hillFault]
  refine g_iconst (pc := 0) C (v := 1) dX5_hillFault_0 (by decide) ?_
  refine g_istore_n0 (pc := 1) C dX5_hillFault_1 rfl (by decide) (lv' := [(1, .int 1), (0, .ref (gX Γ 1))]) rfl ?_
  refine g_iconst (pc := 2) C (v := 0) dX5_hillFault_2 (by decide) ?_
  refine g_istore_n0 (pc := 3) C dX5_hillFault_3 rfl (by decide) (lv' := [(2, .int 0), (1, .int 1), (0, .ref (gX Γ 1))]) rfl ?_
  exact g_sub [2, 1, 0] rfl (p_X5_hillFault_l4 C M FU 1 0 S)
theorem ct_X5_hillFault {Γ : GA} (S : St) : CtI Γ yX5_hillFault cX5_hillFault 3 (some .int) 4 [.ref (gX Γ 1)] S (f_X5_hillFault S) :=
  ctI_of (by decide) (Nat.le_of_ble_eq_true rfl) (fun _ C M => p_X5_hillFault C M  S)
set_option maxRecDepth 100000 in
set_option maxHeartbeats 4000000 in
theorem p_X5_kindAt {Γ : GA} {E : EV} (C : Cx Γ E RX5 cX5_kindAt 2 4 (some .int)) (M : Mx Γ E) (x1 : Int32) (S : St) : G Γ E (QI Γ E) 2 0 [(0, .ref (gX Γ 1)), (1, .int x1)] [] S (f_X5_kindAt x1 S) := by
  rw [f_X5_kindAt]
  refine g_ldcS (pc := 0) C dX5_kindAt_0 ?_
  refine g_aload_n (pc := 2) C dX5_kindAt_2 0 rfl rfl ?_
  refine g_iload_n (pc := 3) C dX5_kindAt_3 1 rfl rfl ?_
  refine g_callVI (pc := 4) (As := [.int x1]) (st := [.ref (gK Γ)]) C lv_X5_19 fo_1 rfl (ct_X5_at x1 S) (by decide) rfl rfl (Nat.le_of_ble_eq_true rfl) dX5_kindAt_4 (fun r_2 S_1 => ?_)
  refine g_i2c (pc := 7) C dX5_kindAt_7 ?_
  refine g_callStr (pc := 8) (st := []) C lv_X5_53 rfl (ct_indexOf (((r_2 : Int32).toUInt32 % 65536).toInt32) S_1) (by decide) (Nat.le_of_ble_eq_true rfl) dX5_kindAt_8 (fun r_4 S_3 => ?_)
  exact g_iret C M dX5_kindAt_11
theorem ct_X5_kindAt {Γ : GA} (x1 : Int32) (S : St) : CtI Γ yX5_kindAt cX5_kindAt 2 (some .int) 4 [.ref (gX Γ 1), .int x1] S (f_X5_kindAt x1 S) :=
  ctI_of (by decide) (Nat.le_of_ble_eq_true rfl) (fun _ C M => p_X5_kindAt C M x1 S)
set_option maxRecDepth 100000 in
set_option maxHeartbeats 4000000 in
theorem p_X5_fitsCart_b52 {Γ : GA} {E : EV} (C : Cx Γ E RX5 cX5_fitsCart 2 5 (some .boolean)) (M : Mx Γ E) (s0 : Int32) (s1 : Int32) (S : St) : G Γ E (QI Γ E) 2 52 [] [.int s0, .int s1] S (f_X5_fitsCart_b52 s0 s1 S) := by
  rw [f_X5_fitsCart_b52]
  refine g_icmp_ne (pc := 52) C 59 dX5_fitsCart_52 (by decide) ?_ ?_
  · refine g_iconst (pc := 55) C (v := 1) dX5_fitsCart_55 (by decide) ?_
    refine g_goto (pc := 56) C 60 dX5_fitsCart_56 (by decide) ?_
    exact g_zret1 C M rfl dX5_fitsCart_60
  · refine g_iconst (pc := 59) C (v := 0) dX5_fitsCart_59 (by decide) ?_
    exact g_zret1 C M rfl dX5_fitsCart_60
set_option maxRecDepth 100000 in
set_option maxHeartbeats 4000000 in
theorem p_X5_fitsCart_b102 {Γ : GA} {E : EV} (C : Cx Γ E RX5 cX5_fitsCart 2 5 (some .boolean)) (M : Mx Γ E) (s0 : Int32) (s1 : Int32) (S : St) : G Γ E (QI Γ E) 2 102 [] [.int s0, .int s1, .ref (gX Γ 1)] S (f_X5_fitsCart_b102 s0 s1 S) := by
  rw [f_X5_fitsCart_b102]
  refine g_callVI (pc := 102) (As := [.int s1, .int s0]) (st := []) C lv_X5_30 fo_1 rfl (ct_X5_isDigit s1 s0 S) (by decide) rfl rfl (Nat.le_of_ble_eq_true rfl) dX5_fitsCart_102 (fun r_10 S_9 => ?_)
  exact g_zret C M dX5_fitsCart_105
set_option maxRecDepth 100000 in
set_option maxHeartbeats 4000000 in
theorem p_X5_fitsCart {Γ : GA} {E : EV} (C : Cx Γ E RX5 cX5_fitsCart 2 5 (some .boolean)) (M : Mx Γ E) (x1 : Int32) (S : St) : G Γ E (QI Γ E) 2 0 [(0, .ref (gX Γ 1)), (1, .int x1)] [] S (f_X5_fitsCart x1 S) := by
  rw [f_X5_fitsCart]
  refine g_iload_n (pc := 0) C dX5_fitsCart_0 1 rfl rfl ?_
  refine g_bipush (pc := 1) C (v := 18) dX5_fitsCart_1 (by decide) ?_
  refine g_icmp_lt (pc := 3) C 8 dX5_fitsCart_3 (by decide) ?_ ?_
  · refine g_iload_n (pc := 8) C dX5_fitsCart_8 1 rfl rfl ?_
    refine g_iconst (pc := 9) C (v := 3) dX5_fitsCart_9 (by decide) ?_
    refine g_irem (pc := 10) C dX5_fitsCart_10 ?_
    refine g_lsw (pc := 11) (off := 25) C 0 36 dX5_fitsCart_11 (by decide) (by decide) (by decide) ?_ (fun hs_3 => ?_)
    · refine g_aload_n (pc := 36) C dX5_fitsCart_36 0 rfl rfl ?_
      refine g_iload_n (pc := 37) C dX5_fitsCart_37 1 rfl rfl ?_
      refine g_callVI (pc := 38) (As := [.int x1]) (st := []) C lv_X5_19 fo_1 rfl (ct_X5_at x1 S) (by decide) rfl rfl (Nat.le_of_ble_eq_true rfl) dX5_fitsCart_38 (fun r_2 S_1 => ?_)
      refine g_iload_n (pc := 41) C dX5_fitsCart_41 1 rfl rfl ?_
      refine g_if_ne (pc := 42) C 50 dX5_fitsCart_42 (by decide) ?_ ?_
      · refine g_bipush (pc := 45) C (v := 119) dX5_fitsCart_45 (by decide) ?_
        refine g_goto (pc := 47) C 52 dX5_fitsCart_47 (by decide) ?_
        exact g_sub [] rfl (p_X5_fitsCart_b52 C M 119 r_2 S_1)
      · refine g_bipush (pc := 50) C (v := 44) dX5_fitsCart_50 (by decide) ?_
        exact g_sub [] rfl (p_X5_fitsCart_b52 C M 44 r_2 S_1)
    refine g_lsw (pc := 11) (off := 50) C 1 61 dX5_fitsCart_11 (by decide) (by decide) (by decide) ?_ (fun hs_8 => ?_)
    · refine g_iload_n (pc := 61) C dX5_fitsCart_61 1 rfl rfl ?_
      refine g_iconst (pc := 62) C (v := 1) dX5_fitsCart_62 (by decide) ?_
      refine g_icmp_ne (pc := 63) C 75 dX5_fitsCart_63 (by decide) ?_ ?_
      · refine g_aload_n (pc := 66) C dX5_fitsCart_66 0 rfl rfl ?_
        refine g_iload_n (pc := 67) C dX5_fitsCart_67 1 rfl rfl ?_
        refine g_iconst (pc := 68) C (v := 1) dX5_fitsCart_68 (by decide) ?_
        refine g_callVI (pc := 69) (As := [.int x1, .int 1]) (st := []) C lv_X5_30 fo_1 rfl (ct_X5_isDigit x1 1 S) (by decide) rfl rfl (Nat.le_of_ble_eq_true rfl) dX5_fitsCart_69 (fun r_5 S_4 => ?_)
        refine g_goto (pc := 72) C 89 dX5_fitsCart_72 (by decide) ?_
        exact g_zret C M dX5_fitsCart_89
      · refine g_aload_n (pc := 75) C dX5_fitsCart_75 0 rfl rfl ?_
        refine g_iload_n (pc := 76) C dX5_fitsCart_76 1 rfl rfl ?_
        refine g_callVI (pc := 77) (As := [.int x1]) (st := []) C lv_X5_45 fo_1 rfl (ct_X5_kindAt x1 S) (by decide) rfl rfl (Nat.le_of_ble_eq_true rfl) dX5_fitsCart_77 (fun r_7 S_6 => ?_)
        refine g_iconst (pc := 80) C (v := (-1)) dX5_fitsCart_80 (by decide) ?_
        refine g_icmp_eq (pc := 81) C 88 dX5_fitsCart_81 (by decide) ?_ ?_
        · refine g_iconst (pc := 88) C (v := 0) dX5_fitsCart_88 (by decide) ?_
          exact g_zret1 C M rfl dX5_fitsCart_89
        · refine g_iconst (pc := 84) C (v := 1) dX5_fitsCart_84 (by decide) ?_
          refine g_goto (pc := 85) C 89 dX5_fitsCart_85 (by decide) ?_
          exact g_zret1 C M rfl dX5_fitsCart_89
    refine g_lsd (pc := 11) C 90 dX5_fitsCart_11 (by decide) ((lv_osw hs_3 (by decide)).trans ((lv_osw hs_8 (by decide)).trans rfl)) (by decide) ?_
    refine g_aload_n (pc := 90) C dX5_fitsCart_90 0 rfl rfl ?_
    refine g_iload_n (pc := 91) C dX5_fitsCart_91 1 rfl rfl ?_
    refine g_iload_n (pc := 92) C dX5_fitsCart_92 1 rfl rfl ?_
    refine g_iconst (pc := 93) C (v := 2) dX5_fitsCart_93 (by decide) ?_
    refine g_icmp_ne (pc := 94) C 101 dX5_fitsCart_94 (by decide) ?_ ?_
    · refine g_iconst (pc := 97) C (v := 0) dX5_fitsCart_97 (by decide) ?_
      refine g_goto (pc := 98) C 102 dX5_fitsCart_98 (by decide) ?_
      exact g_sub [] rfl (p_X5_fitsCart_b102 C M 0 x1 S)
    · refine g_iconst (pc := 101) C (v := 1) dX5_fitsCart_101 (by decide) ?_
      exact g_sub [] rfl (p_X5_fitsCart_b102 C M 1 x1 S)
  · refine g_iconst (pc := 6) C (v := 0) dX5_fitsCart_6 (by decide) ?_
    exact g_zret1 C M rfl dX5_fitsCart_7
theorem ct_X5_fitsCart {Γ : GA} (x1 : Int32) (S : St) : CtI Γ yX5_fitsCart cX5_fitsCart 2 (some .boolean) 5 [.ref (gX Γ 1), .int x1] S (f_X5_fitsCart x1 S) :=
  ctI_of (by decide) (Nat.le_of_ble_eq_true rfl) (fun _ C M => p_X5_fitsCart C M x1 S)
set_option maxRecDepth 100000 in
set_option maxHeartbeats 4000000 in
theorem p_X5_cartFault_l2 {Γ : GA} {E : EV} (C : Cx Γ E RX5 cX5_cartFault 2 6 (some .int)) (M : Mx Γ E) : ∀ (n : Nat) (x1 : Int32) (S : St), G Γ E (QI Γ E) 2 2 [(0, .ref (gX Γ 1)), (1, .int x1)] [] S (f_X5_cartFault_l2 n x1 S) := by
  intro n
  induction n with
  | zero => intro x1 S; exact g_none
  | succ n ih =>
    intro x1 S
    rw [f_X5_cartFault_l2]
    refine g_iload_n (pc := 2) C dX5_cartFault_2 1 rfl rfl ?_
    refine g_aload_n (pc := 3) C dX5_cartFault_3 0 rfl rfl ?_
    refine g_getI (pc := 4) C lk_X5_15 fi_1_1 dX5_cartFault_4 ?_
    refine g_icmp_ge (pc := 7) C 26 dX5_cartFault_7 (by decide) ?_ ?_
    · refine g_aload_n (pc := 26) C dX5_cartFault_26 0 rfl rfl ?_
      refine g_getI (pc := 27) C lk_X5_15 fi_1_1 dX5_cartFault_27 ?_
      exact g_iret C M dX5_cartFault_30
    · refine g_aload_n (pc := 10) C dX5_cartFault_10 0 rfl rfl ?_
      refine g_iload_n (pc := 11) C dX5_cartFault_11 1 rfl rfl ?_
      refine g_callVI (pc := 12) (As := [.int x1]) (st := []) C lv_X5_41 fo_1 rfl (ct_X5_fitsCart x1 S) (by decide) rfl rfl (Nat.le_of_ble_eq_true rfl) dX5_cartFault_12 (fun r_2 S_1 => ?_)
      refine g_if_ne (pc := 15) C 20 dX5_cartFault_15 (by decide) ?_ ?_
      · refine g_iload_n (pc := 18) C dX5_cartFault_18 1 rfl rfl ?_
        exact g_iret C M dX5_cartFault_19
      · refine g_iinc (pc := 20) C (v := 1) dX5_cartFault_20 1 rfl (by decide) (by decide) (fun x => [(1, .int x), (0, .ref (gX Γ 1))]) (fun _ => rfl) (fun x1_3 => ?_)
        refine g_goto (pc := 23) C 2 dX5_cartFault_23 (by decide) ?_
        exact g_sub [1, 0] rfl (ih x1_3 S_1)
set_option maxRecDepth 100000 in
set_option maxHeartbeats 4000000 in
theorem p_X5_cartFault {Γ : GA} {E : EV} (C : Cx Γ E RX5 cX5_cartFault 2 6 (some .int)) (M : Mx Γ E) (S : St) : G Γ E (QI Γ E) 2 0 [(0, .ref (gX Γ 1))] [] S (f_X5_cartFault S) := by
  rw [f_X5_cartFault]
  refine g_iconst (pc := 0) C (v := 0) dX5_cartFault_0 (by decide) ?_
  refine g_istore_n0 (pc := 1) C dX5_cartFault_1 rfl (by decide) (lv' := [(1, .int 0), (0, .ref (gX Γ 1))]) rfl ?_
  exact g_sub [1, 0] rfl (p_X5_cartFault_l2 C M FU 0 S)
theorem ct_X5_cartFault {Γ : GA} (S : St) : CtI Γ yX5_cartFault cX5_cartFault 2 (some .int) 6 [.ref (gX Γ 1)] S (f_X5_cartFault S) :=
  ctI_of (by decide) (Nat.le_of_ble_eq_true rfl) (fun _ C M => p_X5_cartFault C M  S)
set_option maxRecDepth 100000 in
set_option maxHeartbeats 4000000 in
theorem p_X7_fault {Γ : GA} {E : EV} (C : Cx Γ E RX7 cX7_fault 2 7 (some .int)) (M : Mx Γ E) (x1 : Int32) (S : St) : G Γ E (QI Γ E) 2 0 [(0, .ref (gX Γ 0)), (1, .int x1)] [] S (f_X7_fault x1 S) := by
  rw [f_X7_fault]
  refine g_iload_n (pc := 0) C dX7_fault_0 1 rfl rfl ?_
  refine g_if_ne (pc := 1) C 12 dX7_fault_1 (by decide) ?_ ?_
  · refine g_aload_n (pc := 4) C dX7_fault_4 0 rfl rfl ?_
    refine g_getR (pc := 5) C lk_X7_12 fr_0_0 dX7_fault_5 ?_
    refine g_callVI (pc := 8) (As := []) (st := []) C lv_X7_85 fo_1 rfl (ct_X5_hillFault S) (by decide) rfl rfl (Nat.le_of_ble_eq_true rfl) dX7_fault_8 (fun r_2 S_1 => ?_)
    exact g_iret C M dX7_fault_11
  · refine g_iload_n (pc := 12) C dX7_fault_12 1 rfl rfl ?_
    refine g_iconst (pc := 13) C (v := 1) dX7_fault_13 (by decide) ?_
    refine g_icmp_ne (pc := 14) C 27 dX7_fault_14 (by decide) ?_ ?_
    · refine g_aload_n (pc := 17) C dX7_fault_17 0 rfl rfl ?_
      refine g_getR (pc := 18) C lk_X7_12 fr_0_0 dX7_fault_18 ?_
      refine g_callVI (pc := 21) (As := []) (st := []) C lv_X7_89 fo_1 rfl (ct_X5_cartFault S) (by decide) rfl rfl (Nat.le_of_ble_eq_true rfl) dX7_fault_21 (fun r_4 S_3 => ?_)
      refine g_goto (pc := 24) C 29 dX7_fault_24 (by decide) ?_
      exact g_iret C M dX7_fault_29
    · refine g_bipush (pc := 27) C (v := (-102)) dX7_fault_27 (by decide) ?_
      exact g_iret C M dX7_fault_29
theorem ct_X7_fault {Γ : GA} (x1 : Int32) (S : St) : CtI Γ yX7_fault cX7_fault 2 (some .int) 7 [.ref (gX Γ 0), .int x1] S (f_X7_fault x1 S) :=
  ctI_of (by decide) (Nat.le_of_ble_eq_true rfl) (fun _ C M => p_X7_fault C M x1 S)
set_option maxRecDepth 100000 in
set_option maxHeartbeats 4000000 in
theorem p_X5_commas_b25 {Γ : GA} {E : EV} (C : Cx Γ E RX5 cX5_commas 3 1 (some .int)) (M : Mx Γ E) (k4 : Int32 → Int32 → St → Option (Int32 × St)) (hk4 : ∀ (x1 : Int32) (x2 : Int32) (S : St), G Γ E (QI Γ E) 3 4 [(0, .ref (gX Γ 1)), (1, .int x1), (2, .int x2)] [] S (k4 x1 x2 S)) (x1 : Int32) (x2 : Int32) (S : St) : G Γ E (QI Γ E) 3 25 [(0, .ref (gX Γ 1)), (1, .int x1), (2, .int x2)] [] S (f_X5_commas_b25 k4 x1 x2 S) := by
  rw [f_X5_commas_b25]
  refine g_iinc (pc := 25) C (v := 1) dX5_commas_25 2 rfl (by decide) (by decide) (fun x => [(2, .int x), (0, .ref (gX Γ 1)), (1, .int x1)]) (fun _ => rfl) (fun x2_4 => ?_)
  refine g_goto (pc := 28) C 4 dX5_commas_28 (by decide) ?_
  exact g_sub [1, 2, 0] rfl (hk4 x1 x2_4 S)
set_option maxRecDepth 100000 in
set_option maxHeartbeats 4000000 in
theorem p_X5_commas_l4 {Γ : GA} {E : EV} (C : Cx Γ E RX5 cX5_commas 3 1 (some .int)) (M : Mx Γ E) : ∀ (n : Nat) (x1 : Int32) (x2 : Int32) (S : St), G Γ E (QI Γ E) 3 4 [(0, .ref (gX Γ 1)), (1, .int x1), (2, .int x2)] [] S (f_X5_commas_l4 n x1 x2 S) := by
  intro n
  induction n with
  | zero => intro x1 x2 S; exact g_none
  | succ n ih =>
    intro x1 x2 S
    rw [f_X5_commas_l4]
    refine g_iload_n (pc := 4) C dX5_commas_4 2 rfl rfl ?_
    refine g_aload_n (pc := 5) C dX5_commas_5 0 rfl rfl ?_
    refine g_getI (pc := 6) C lk_X5_15 fi_1_1 dX5_commas_6 ?_
    refine g_icmp_ge (pc := 9) C 31 dX5_commas_9 (by decide) ?_ ?_
    · refine g_iload_n (pc := 31) C dX5_commas_31 1 rfl rfl ?_
      exact g_iret C M dX5_commas_32
    · refine g_aload_n (pc := 12) C dX5_commas_12 0 rfl rfl ?_
      refine g_iload_n (pc := 13) C dX5_commas_13 2 rfl rfl ?_
      refine g_callVI (pc := 14) (As := [.int x2]) (st := []) C lv_X5_19 fo_1 rfl (ct_X5_at x2 S) (by decide) rfl rfl (Nat.le_of_ble_eq_true rfl) dX5_commas_14 (fun r_2 S_1 => ?_)
      refine g_bipush (pc := 17) C (v := 44) dX5_commas_17 (by decide) ?_
      refine g_icmp_ne (pc := 19) C 25 dX5_commas_19 (by decide) ?_ ?_
      · refine g_iinc (pc := 22) C (v := 1) dX5_commas_22 1 rfl (by decide) (by decide) (fun x => [(1, .int x), (0, .ref (gX Γ 1)), (2, .int x2)]) (fun _ => rfl) (fun x1_3 => ?_)
        exact g_sub [1, 0, 2] rfl (p_X5_commas_b25 C M (f_X5_commas_l4 n) ih x1_3 x2 S_1)
      · exact g_sub [0, 1, 2] rfl (p_X5_commas_b25 C M (f_X5_commas_l4 n) ih x1 x2 S_1)
set_option maxRecDepth 100000 in
set_option maxHeartbeats 4000000 in
theorem p_X5_commas {Γ : GA} {E : EV} (C : Cx Γ E RX5 cX5_commas 3 1 (some .int)) (M : Mx Γ E) (S : St) : G Γ E (QI Γ E) 3 0 [(0, .ref (gX Γ 1))] [] S (f_X5_commas S) := by
  rw [f_X5_commas]
  refine g_iconst (pc := 0) C (v := 0) dX5_commas_0 (by decide) ?_
  refine g_istore_n0 (pc := 1) C dX5_commas_1 rfl (by decide) (lv' := [(1, .int 0), (0, .ref (gX Γ 1))]) rfl ?_
  refine g_iconst (pc := 2) C (v := 0) dX5_commas_2 (by decide) ?_
  refine g_istore_n0 (pc := 3) C dX5_commas_3 rfl (by decide) (lv' := [(2, .int 0), (1, .int 0), (0, .ref (gX Γ 1))]) rfl ?_
  exact g_sub [2, 1, 0] rfl (p_X5_commas_l4 C M FU 0 0 S)
theorem ct_X5_commas {Γ : GA} (S : St) : CtI Γ yX5_commas cX5_commas 3 (some .int) 1 [.ref (gX Γ 1)] S (f_X5_commas S) :=
  ctI_of (by decide) (Nat.le_of_ble_eq_true rfl) (fun _ C M => p_X5_commas C M  S)
set_option maxRecDepth 100000 in
set_option maxHeartbeats 4000000 in
theorem p_X5_isHill {Γ : GA} {E : EV} (C : Cx Γ E RX5 cX5_isHill 2 5 (some .boolean)) (M : Mx Γ E) (S : St) : G Γ E (QI Γ E) 2 0 [(0, .ref (gX Γ 1))] [] S (f_X5_isHill S) := by
  rw [f_X5_isHill]
  refine g_aload_n (pc := 0) C dX5_isHill_0 0 rfl rfl ?_
  refine g_aload_n (pc := 1) C dX5_isHill_1 0 rfl rfl ?_
  refine g_getI (pc := 2) C lk_X5_15 fi_1_1 dX5_isHill_2 ?_
  refine g_iconst (pc := 5) C (v := 1) dX5_isHill_5 (by decide) ?_
  refine g_isub (pc := 6) C dX5_isHill_6 ?_
  refine g_callVI (pc := 7) (As := [.int ((S 1 1) - 1)]) (st := []) C lv_X5_19 fo_1 rfl (ct_X5_at ((S 1 1) - 1) S) (by decide) rfl rfl (Nat.le_of_ble_eq_true rfl) dX5_isHill_7 (fun r_2 S_1 => ?_)
  refine g_istore_n0 (pc := 10) C dX5_isHill_10 rfl (by decide) (lv' := [(1, .int r_2), (0, .ref (gX Γ 1))]) rfl ?_
  refine g_aload_n (pc := 11) C dX5_isHill_11 1 rfl rfl ?_
  refine g_callVI (pc := 12) (As := []) (st := []) C lv_X5_34 fo_1 rfl (ct_X5_hillFault S_1) (by decide) rfl rfl (Nat.le_of_ble_eq_true rfl) dX5_isHill_12 (fun r_4 S_3 => ?_)
  refine g_aload_n (pc := 15) C dX5_isHill_15 1 rfl rfl ?_
  refine g_getI (pc := 16) C lk_X5_15 fi_1_1 dX5_isHill_16 ?_
  refine g_icmp_ne (pc := 19) C 45 dX5_isHill_19 (by decide) ?_ ?_
  · refine g_iload_n (pc := 22) C dX5_isHill_22 0 rfl rfl ?_
    refine g_bipush (pc := 23) C (v := 44) dX5_isHill_23 (by decide) ?_
    refine g_icmp_eq (pc := 25) C 45 dX5_isHill_25 (by decide) ?_ ?_
    · refine g_iconst (pc := 45) C (v := 0) dX5_isHill_45 (by decide) ?_
      exact g_zret1 C M rfl dX5_isHill_46
    · refine g_iload_n (pc := 28) C dX5_isHill_28 0 rfl rfl ?_
      refine g_bipush (pc := 29) C (v := 98) dX5_isHill_29 (by decide) ?_
      refine g_icmp_eq (pc := 31) C 45 dX5_isHill_31 (by decide) ?_ ?_
      · refine g_iconst (pc := 45) C (v := 0) dX5_isHill_45 (by decide) ?_
        exact g_zret1 C M rfl dX5_isHill_46
      · refine g_aload_n (pc := 34) C dX5_isHill_34 1 rfl rfl ?_
        refine g_callVI (pc := 35) (As := []) (st := []) C lv_X5_38 fo_1 rfl (ct_X5_commas S_3) (by decide) rfl rfl (Nat.le_of_ble_eq_true rfl) dX5_isHill_35 (fun r_6 S_5 => ?_)
        refine g_if_le (pc := 38) C 45 dX5_isHill_38 (by decide) ?_ ?_
        · refine g_iconst (pc := 45) C (v := 0) dX5_isHill_45 (by decide) ?_
          exact g_zret1 C M rfl dX5_isHill_46
        · refine g_iconst (pc := 41) C (v := 1) dX5_isHill_41 (by decide) ?_
          refine g_goto (pc := 42) C 46 dX5_isHill_42 (by decide) ?_
          exact g_zret1 C M rfl dX5_isHill_46
  · refine g_iconst (pc := 45) C (v := 0) dX5_isHill_45 (by decide) ?_
    exact g_zret1 C M rfl dX5_isHill_46
theorem ct_X5_isHill {Γ : GA} (S : St) : CtI Γ yX5_isHill cX5_isHill 2 (some .boolean) 5 [.ref (gX Γ 1)] S (f_X5_isHill S) :=
  ctI_of (by decide) (Nat.le_of_ble_eq_true rfl) (fun _ C M => p_X5_isHill C M  S)
set_option maxRecDepth 100000 in
set_option maxHeartbeats 4000000 in
theorem p_fill_l5 {Γ : GA} {E : EV} (C : Cx Γ E RJ7 cJ7_fill_53178 4 0 none) (M : Mx Γ E) (cA nA : Nat) (hA : AI cA nA) : ∀ (n : Nat) (x1 : Int32) (x2 : Int32) (x3 : Int32) (S : St), G Γ E (QV Γ E) 4 5 [(0, .ref (gX Γ cA)), (1, .int x1), (2, .int x2), (3, .int x3)] [] S (f_fill_l5 cA nA n x1 x2 x3 S) := by
  intro n
  induction n with
  | zero => intro x1 x2 x3 S; exact g_none
  | succ n ih =>
    intro x1 x2 x3 S
    rw [f_fill_l5]
    refine g_iload_n (pc := 5) C dJ7_fill_53178_5 2 rfl rfl ?_
    refine g_iload_n (pc := 6) C dJ7_fill_53178_6 3 rfl rfl ?_
    refine g_icmp_ge (pc := 7) C 20 dJ7_fill_53178_7 (by decide) ?_ ?_
    · exact g_vret C M dJ7_fill_53178_20
    · refine g_aload_n (pc := 10) C dJ7_fill_53178_10 0 rfl rfl ?_
      refine g_iload_n (pc := 11) C dJ7_fill_53178_11 2 rfl rfl ?_
      refine g_iload_n (pc := 12) C dJ7_fill_53178_12 1 rfl rfl ?_
      refine g_iast (pc := 13) C hA dJ7_fill_53178_13 (fun S_2 => ?_)
      refine g_iinc (pc := 14) C (v := 1) dJ7_fill_53178_14 2 rfl (by decide) (by decide) (fun x => [(2, .int x), (0, .ref (gX Γ cA)), (1, .int x1), (3, .int x3)]) (fun _ => rfl) (fun x2_3 => ?_)
      refine g_goto (pc := 17) C 5 dJ7_fill_53178_17 (by decide) ?_
      exact g_sub [1, 2, 0, 3] rfl (ih x1 x2_3 x3 S_2)
set_option maxRecDepth 100000 in
set_option maxHeartbeats 4000000 in
theorem p_fill {Γ : GA} {E : EV} (C : Cx Γ E RJ7 cJ7_fill_53178 4 0 none) (M : Mx Γ E) (cA nA : Nat) (hA : AI cA nA) (x1 : Int32) (S : St) : G Γ E (QV Γ E) 4 0 [(0, .ref (gX Γ cA)), (1, .int x1)] [] S (f_fill cA nA x1 S) := by
  rw [f_fill]
  refine g_iconst (pc := 0) C (v := 0) dJ7_fill_53178_0 (by decide) ?_
  refine g_istore_n0 (pc := 1) C dJ7_fill_53178_1 rfl (by decide) (lv' := [(2, .int 0), (0, .ref (gX Γ cA)), (1, .int x1)]) rfl ?_
  refine g_aload_n (pc := 2) C dJ7_fill_53178_2 1 rfl rfl ?_
  refine g_alen (pc := 3) C hA dJ7_fill_53178_3 ?_
  refine g_istore_n (pc := 4) C dJ7_fill_53178_4 rfl (by decide) (fun x => [(3, .int x), (2, .int 0), (0, .ref (gX Γ cA)), (1, .int x1)]) (fun _ => rfl) (fun x3_1 => ?_)
  exact g_sub [2, 3, 1, 0] rfl (p_fill_l5 C M cA nA hA FU x1 0 x3_1 S)
theorem ct_fill {Γ : GA} (cA nA : Nat) (hA : AI cA nA) (x1 : Int32) (S : St) : CtV Γ yJ7_fill_53178 cJ7_fill_53178 4 none 0 [.ref (gX Γ cA), .int x1] S (f_fill cA nA x1 S) :=
  ctV_of (by decide) (Nat.le_of_ble_eq_true rfl) (fun _ C M => p_fill C M cA nA hA x1 S)
set_option maxRecDepth 100000 in
set_option maxHeartbeats 4000000 in
theorem p_X3_readDrop {Γ : GA} {E : EV} (C : Cx Γ E RX3 cX3_readDrop 4 2 none) (M : Mx Γ E) (x2 : Int32) (x3 : Int32) (S : St) : G Γ E (QV Γ E) 4 0 [(0, .ref (gX Γ 3)), (1, .ref (gX Γ 1)), (2, .int x2), (3, .int x3)] [] S (f_X3_readDrop x2 x3 S) := by
  rw [f_X3_readDrop]
  refine g_aload_n (pc := 0) C dX3_readDrop_0 1 rfl rfl ?_
  refine g_iload_n (pc := 1) C dX3_readDrop_1 2 rfl rfl ?_
  refine g_iconst (pc := 2) C (v := 1) dX3_readDrop_2 (by decide) ?_
  refine g_isub (pc := 3) C dX3_readDrop_3 ?_
  refine g_callVI (pc := 4) (As := [.int (x2 - 1)]) (st := []) C lv_X3_40 fo_1 rfl (ct_X5_at (x2 - 1) S) (by decide) rfl rfl (Nat.le_of_ble_eq_true rfl) dX3_readDrop_4 (fun r_2 S_1 => ?_)
  refine g_bipush (pc := 7) C (v := 98) dX3_readDrop_7 (by decide) ?_
  refine g_icmp_eq (pc := 9) C 23 dX3_readDrop_9 (by decide) ?_ ?_
  · exact g_vret C M dX3_readDrop_23
  · refine g_aload_n (pc := 12) C dX3_readDrop_12 0 rfl rfl ?_
    refine g_getR (pc := 13) C lk_X3_9 fr_3_0 dX3_readDrop_13 ?_
    refine g_iload_n (pc := 16) C dX3_readDrop_16 3 rfl rfl ?_
    refine g_aload_n (pc := 17) C dX3_readDrop_17 1 rfl rfl ?_
    refine g_iload_n (pc := 18) C dX3_readDrop_18 2 rfl rfl ?_
    refine g_callVI (pc := 19) (As := [.int x2]) (st := [.int x3, .ref (gX Γ 4)]) C lv_X3_44 fo_1 rfl (ct_X5_digitAt x2 S_1) (by decide) rfl rfl (Nat.le_of_ble_eq_true rfl) dX3_readDrop_19 (fun r_4 S_3 => ?_)
    refine g_iast (pc := 22) C ai_4 dX3_readDrop_22 (fun S_5 => ?_)
    exact g_vret C M dX3_readDrop_23
theorem ct_X3_readDrop {Γ : GA} (x2 : Int32) (x3 : Int32) (S : St) : CtV Γ yX3_readDrop cX3_readDrop 4 none 2 [.ref (gX Γ 3), .ref (gX Γ 1), .int x2, .int x3] S (f_X3_readDrop x2 x3 S) :=
  ctV_of (by decide) (Nat.le_of_ble_eq_true rfl) (fun _ C M => p_X3_readDrop C M x2 x3 S)
set_option maxRecDepth 100000 in
set_option maxHeartbeats 4000000 in
theorem p_X3_read_b125 {Γ : GA} {E : EV} (C : Cx Γ E RX3 cX3_read 4 3 none) (M : Mx Γ E) (x2 : Int32) (S : St) : G Γ E (QV Γ E) 4 125 [(0, .ref (gX Γ 3)), (2, .int x2)] [] S (f_X3_read_b125 x2 S) := by
  rw [f_X3_read_b125]
  refine g_aload_n (pc := 125) C dX3_read_125 0 rfl rfl ?_
  refine g_iload_n (pc := 126) C dX3_read_126 1 rfl rfl ?_
  refine g_iconst (pc := 127) C (v := 1) dX3_read_127 (by decide) ?_
  refine g_iadd (pc := 128) C dX3_read_128 ?_
  refine g_bipush (pc := 129) C (v := 12) dX3_read_129 (by decide) ?_
  refine g_mmin (pc := 131) C kw_X3_51 kw_mmin1 kw_m2 kw_mmin3 (Nat.le_of_ble_eq_true rfl) dX3_read_131 ?_
  refine g_putI (pc := 134) C lp_X3_24 fi_3_4 dX3_read_134 (fun S_7 => ?_)
  refine g_aload_n (pc := 137) C dX3_read_137 0 rfl rfl ?_
  refine g_dup (pc := 138) C dX3_read_138 rfl ?_
  refine g_getI (pc := 139) C lk_X3_28 fi_3_5 dX3_read_139 ?_
  refine g_iconst (pc := 142) C (v := 1) dX3_read_142 (by decide) ?_
  refine g_iadd (pc := 143) C dX3_read_143 ?_
  refine g_putI (pc := 144) C lp_X3_28 fi_3_5 dX3_read_144 (fun S_8 => ?_)
  exact g_vret C M dX3_read_147
set_option maxRecDepth 100000 in
set_option maxHeartbeats 4000000 in
theorem p_X3_read_b119 {Γ : GA} {E : EV} (C : Cx Γ E RX3 cX3_read 4 3 none) (M : Mx Γ E) (k28 : Int32 → Int32 → St → Option (Unit × St)) (hk28 : ∀ (x2 : Int32) (x3 : Int32) (S : St), G Γ E (QV Γ E) 4 28 [(0, .ref (gX Γ 3)), (1, .ref (gX Γ 1)), (2, .int x2), (3, .int x3)] [] S (k28 x2 x3 S)) (x2 : Int32) (x3 : Int32) (S : St) : G Γ E (QV Γ E) 4 119 [(0, .ref (gX Γ 3)), (1, .ref (gX Γ 1)), (2, .int x2), (3, .int x3)] [] S (f_X3_read_b119 k28 x2 x3 S) := by
  rw [f_X3_read_b119]
  refine g_iinc (pc := 119) C (v := 1) dX3_read_119 3 rfl (by decide) (by decide) (fun x => [(3, .int x), (0, .ref (gX Γ 3)), (1, .ref (gX Γ 1)), (2, .int x2)]) (fun _ => rfl) (fun x3_12 => ?_)
  refine g_goto (pc := 122) C 28 dX3_read_122 (by decide) ?_
  exact g_sub [1, 2, 3, 0] rfl (hk28 x2 x3_12 S)
set_option maxRecDepth 100000 in
set_option maxHeartbeats 4000000 in
theorem p_X3_read_l28 {Γ : GA} {E : EV} (C : Cx Γ E RX3 cX3_read 4 3 none) (M : Mx Γ E) : ∀ (n : Nat) (x2 : Int32) (x3 : Int32) (S : St), G Γ E (QV Γ E) 4 28 [(0, .ref (gX Γ 3)), (1, .ref (gX Γ 1)), (2, .int x2), (3, .int x3)] [] S (f_X3_read_l28 n x2 x3 S) := by
  intro n
  induction n with
  | zero => intro x2 x3 S; exact g_none
  | succ n ih =>
    intro x2 x3 S
    rw [f_X3_read_l28]
    refine g_iload_n (pc := 28) C dX3_read_28 3 rfl rfl ?_
    refine g_aload_n (pc := 29) C dX3_read_29 1 rfl rfl ?_
    refine g_getI (pc := 30) C lk_X3_37 fi_1_1 dX3_read_30 ?_
    refine g_icmp_ge (pc := 33) C 125 dX3_read_33 (by decide) ?_ ?_
    · exact g_sub [0, 2] rfl (p_X3_read_b125 C M x2 S)
    · refine g_iload_n (pc := 36) C dX3_read_36 2 rfl rfl ?_
      refine g_bipush (pc := 37) C (v := 12) dX3_read_37 (by decide) ?_
      refine g_icmp_ge (pc := 39) C 125 dX3_read_39 (by decide) ?_ ?_
      · exact g_sub [0, 2] rfl (p_X3_read_b125 C M x2 S)
      · refine g_aload_n (pc := 42) C dX3_read_42 1 rfl rfl ?_
        refine g_iload_n (pc := 43) C dX3_read_43 3 rfl rfl ?_
        refine g_callVI (pc := 44) (As := [.int x3]) (st := []) C lv_X3_40 fo_1 rfl (ct_X5_at x3 S) (by decide) rfl rfl (Nat.le_of_ble_eq_true rfl) dX3_read_44 (fun r_10 S_9 => ?_)
        refine g_lsw (pc := 47) (off := 33) C 44 80 dX3_read_47 (by decide) (by decide) (by decide) ?_ (fun hs_13 => ?_)
        · refine g_iinc (pc := 80) C (v := 1) dX3_read_80 2 rfl (by decide) (by decide) (fun x => [(2, .int x), (0, .ref (gX Γ 3)), (1, .ref (gX Γ 1)), (3, .int x3)]) (fun _ => rfl) (fun x2_11 => ?_)
          refine g_goto (pc := 83) C 119 dX3_read_83 (by decide) ?_
          exact g_sub [1, 2, 0, 3] rfl (p_X3_read_b119 C M (f_X3_read_l28 n) ih x2_11 x3 S_9)
        refine g_lsw (pc := 47) (off := 39) C 98 86 dX3_read_47 (by decide) (by decide) (by decide) ?_ (fun hs_17 => ?_)
        · refine g_aload_n (pc := 86) C dX3_read_86 0 rfl rfl ?_
          refine g_getR (pc := 87) C lk_X3_15 fr_3_1 dX3_read_87 ?_
          refine g_iload_n (pc := 90) C dX3_read_90 2 rfl rfl ?_
          refine g_aload_n (pc := 91) C dX3_read_91 1 rfl rfl ?_
          refine g_iload_n (pc := 92) C dX3_read_92 3 rfl rfl ?_
          refine g_iconst (pc := 93) C (v := 1) dX3_read_93 (by decide) ?_
          refine g_iadd (pc := 94) C dX3_read_94 ?_
          refine g_callVI (pc := 95) (As := [.int (x3 + 1)]) (st := [.int x2, .ref (gX Γ 5)]) C lv_X3_44 fo_1 rfl (ct_X5_digitAt (x3 + 1) S_9) (by decide) rfl rfl (Nat.le_of_ble_eq_true rfl) dX3_read_95 (fun r_15 S_14 => ?_)
          refine g_iast (pc := 98) C ai_5 dX3_read_98 (fun S_16 => ?_)
          refine g_goto (pc := 99) C 119 dX3_read_99 (by decide) ?_
          exact g_sub [0, 1, 2, 3] rfl (p_X3_read_b119 C M (f_X3_read_l28 n) ih x2 x3 S_16)
        refine g_lsw (pc := 47) (off := 55) C 117 102 dX3_read_47 (by decide) (by decide) (by decide) ?_ (fun hs_19 => ?_)
        · refine g_aload_n (pc := 102) C dX3_read_102 0 rfl rfl ?_
          refine g_getR (pc := 103) C lk_X3_18 fr_3_2 dX3_read_103 ?_
          refine g_iload_n (pc := 106) C dX3_read_106 2 rfl rfl ?_
          refine g_iconst (pc := 107) C (v := 1) dX3_read_107 (by decide) ?_
          refine g_iast (pc := 108) C ai_6 dX3_read_108 (fun S_18 => ?_)
          refine g_goto (pc := 109) C 119 dX3_read_109 (by decide) ?_
          exact g_sub [0, 1, 2, 3] rfl (p_X3_read_b119 C M (f_X3_read_l28 n) ih x2 x3 S_18)
        refine g_lsd (pc := 47) C 112 dX3_read_47 (by decide) ((lv_osw hs_13 (by decide)).trans ((lv_osw hs_17 (by decide)).trans ((lv_osw hs_19 (by decide)).trans rfl))) (by decide) ?_
        refine g_aload_n (pc := 112) C dX3_read_112 0 rfl rfl ?_
        refine g_aload_n (pc := 113) C dX3_read_113 1 rfl rfl ?_
        refine g_iload_n (pc := 114) C dX3_read_114 3 rfl rfl ?_
        refine g_iload_n (pc := 115) C dX3_read_115 2 rfl rfl ?_
        refine g_callVV (pc := 116) (As := [.ref (gX Γ 1), .int x3, .int x2]) (st := []) C lv_X3_47 fo_3 rfl (ct_X3_readDrop x3 x2 S_9) (by decide) rfl rfl (Nat.le_of_ble_eq_true rfl) dX3_read_116 (fun r_21 S_20 => ?_)
        exact g_sub [0, 1, 2, 3] rfl (p_X3_read_b119 C M (f_X3_read_l28 n) ih x2 x3 S_20)
set_option maxRecDepth 100000 in
set_option maxHeartbeats 4000000 in
theorem p_X3_read {Γ : GA} {E : EV} (C : Cx Γ E RX3 cX3_read 4 3 none) (M : Mx Γ E) (S : St) : G Γ E (QV Γ E) 4 0 [(0, .ref (gX Γ 3)), (1, .ref (gX Γ 1))] [] S (f_X3_read S) := by
  rw [f_X3_read]
  refine g_aload_n (pc := 0) C dX3_read_0 0 rfl rfl ?_
  refine g_getR (pc := 1) C lk_X3_15 fr_3_1 dX3_read_1 ?_
  refine g_iconst (pc := 4) C (v := 0) dX3_read_4 (by decide) ?_
  refine g_callSV (pc := 5) (As := [.ref (gX Γ 5), .int 0]) (st := []) C ls_X3_31 (ct_fill _ _ ai_5 0 S) (by decide) rfl rfl (Nat.le_of_ble_eq_true rfl) dX3_read_5 (fun r_2 S_1 => ?_)
  refine g_aload_n (pc := 8) C dX3_read_8 0 rfl rfl ?_
  refine g_getR (pc := 9) C lk_X3_18 fr_3_2 dX3_read_9 ?_
  refine g_iconst (pc := 12) C (v := 0) dX3_read_12 (by decide) ?_
  refine g_callSV (pc := 13) (As := [.ref (gX Γ 6), .int 0]) (st := []) C ls_X3_31 (ct_fill _ _ ai_6 0 S_1) (by decide) rfl rfl (Nat.le_of_ble_eq_true rfl) dX3_read_13 (fun r_4 S_3 => ?_)
  refine g_aload_n (pc := 16) C dX3_read_16 0 rfl rfl ?_
  refine g_getR (pc := 17) C lk_X3_21 fr_3_3 dX3_read_17 ?_
  refine g_iconst (pc := 20) C (v := 0) dX3_read_20 (by decide) ?_
  refine g_callSV (pc := 21) (As := [.ref (gX Γ 7), .int 0]) (st := []) C ls_X3_31 (ct_fill _ _ ai_7 0 S_3) (by decide) rfl rfl (Nat.le_of_ble_eq_true rfl) dX3_read_21 (fun r_6 S_5 => ?_)
  refine g_iconst (pc := 24) C (v := 0) dX3_read_24 (by decide) ?_
  refine g_istore_n0 (pc := 25) C dX3_read_25 rfl (by decide) (lv' := [(2, .int 0), (0, .ref (gX Γ 3)), (1, .ref (gX Γ 1))]) rfl ?_
  refine g_iconst (pc := 26) C (v := 0) dX3_read_26 (by decide) ?_
  refine g_istore_n0 (pc := 27) C dX3_read_27 rfl (by decide) (lv' := [(3, .int 0), (2, .int 0), (0, .ref (gX Γ 3)), (1, .ref (gX Γ 1))]) rfl ?_
  exact g_sub [2, 3, 1, 0] rfl (p_X3_read_l28 C M FU 0 0 S_5)
theorem ct_X3_read {Γ : GA} (S : St) : CtV Γ yX3_read cX3_read 4 none 3 [.ref (gX Γ 3), .ref (gX Γ 1)] S (f_X3_read S) :=
  ctV_of (by decide) (Nat.le_of_ble_eq_true rfl) (fun _ C M => p_X3_read C M  S)
set_option maxRecDepth 100000 in
set_option maxHeartbeats 4000000 in
theorem p_X7_hill {Γ : GA} {E : EV} (C : Cx Γ E RX7 cX7_hill 1 6 (some .int)) (M : Mx Γ E) (S : St) : G Γ E (QI Γ E) 1 0 [(0, .ref (gX Γ 0))] [] S (f_X7_hill S) := by
  rw [f_X7_hill]
  refine g_aload_n (pc := 0) C dX7_hill_0 0 rfl rfl ?_
  refine g_getR (pc := 1) C lk_X7_12 fr_0_0 dX7_hill_1 ?_
  refine g_callVI (pc := 4) (As := []) (st := []) C lv_X7_92 fo_1 rfl (ct_X5_isHill S) (by decide) rfl rfl (Nat.le_of_ble_eq_true rfl) dX7_hill_4 (fun r_2 S_1 => ?_)
  refine g_if_ne (pc := 7) C 13 dX7_hill_7 (by decide) ?_ ?_
  · refine g_bipush (pc := 10) C (v := (-103)) dX7_hill_10 (by decide) ?_
    exact g_iret C M dX7_hill_12
  · refine g_aload_n (pc := 13) C dX7_hill_13 0 rfl rfl ?_
    refine g_getR (pc := 14) C lk_X7_19 fr_0_1 dX7_hill_14 ?_
    refine g_aload_n (pc := 17) C dX7_hill_17 0 rfl rfl ?_
    refine g_getR (pc := 18) C lk_X7_12 fr_0_0 dX7_hill_18 ?_
    refine g_callVV (pc := 21) (As := [.ref (gX Γ 1)]) (st := []) C lv_X7_96 fo_3 rfl (ct_X3_read S_1) (by decide) rfl rfl (Nat.le_of_ble_eq_true rfl) dX7_hill_21 (fun r_4 S_3 => ?_)
    refine g_aload_n (pc := 24) C dX7_hill_24 0 rfl rfl ?_
    refine g_getR (pc := 25) C lk_X7_12 fr_0_0 dX7_hill_25 ?_
    refine g_iconst (pc := 28) C (v := 0) dX7_hill_28 (by decide) ?_
    refine g_putI (pc := 29) C lp_X7_78 fi_1_1 dX7_hill_29 (fun S_5 => ?_)
    refine g_aload_n (pc := 32) C dX7_hill_32 0 rfl rfl ?_
    refine g_getR (pc := 33) C lk_X7_19 fr_0_1 dX7_hill_33 ?_
    refine g_getI (pc := 36) C lk_X7_100 fi_3_4 dX7_hill_36 ?_
    exact g_iret C M dX7_hill_39
theorem ct_X7_hill {Γ : GA} (S : St) : CtI Γ yX7_hill cX7_hill 1 (some .int) 6 [.ref (gX Γ 0)] S (f_X7_hill S) :=
  ctI_of (by decide) (Nat.le_of_ble_eq_true rfl) (fun _ C M => p_X7_hill C M  S)
set_option maxRecDepth 100000 in
set_option maxHeartbeats 4000000 in
theorem p_X5_isCart {Γ : GA} {E : EV} (C : Cx Γ E RX5 cX5_isCart 1 7 (some .boolean)) (M : Mx Γ E) (S : St) : G Γ E (QI Γ E) 1 0 [(0, .ref (gX Γ 1))] [] S (f_X5_isCart S) := by
  rw [f_X5_isCart]
  refine g_aload_n (pc := 0) C dX5_isCart_0 0 rfl rfl ?_
  refine g_getI (pc := 1) C lk_X5_15 fi_1_1 dX5_isCart_1 ?_
  refine g_if_le (pc := 4) C 31 dX5_isCart_4 (by decide) ?_ ?_
  · refine g_iconst (pc := 31) C (v := 0) dX5_isCart_31 (by decide) ?_
    exact g_zret1 C M rfl dX5_isCart_32
  · refine g_aload_n (pc := 7) C dX5_isCart_7 0 rfl rfl ?_
    refine g_getI (pc := 8) C lk_X5_15 fi_1_1 dX5_isCart_8 ?_
    refine g_iconst (pc := 11) C (v := 3) dX5_isCart_11 (by decide) ?_
    refine g_irem (pc := 12) C dX5_isCart_12 ?_
    refine g_if_ne (pc := 13) C 31 dX5_isCart_13 (by decide) ?_ ?_
    · refine g_aload_n (pc := 16) C dX5_isCart_16 0 rfl rfl ?_
      refine g_callVI (pc := 17) (As := []) (st := []) C lv_X5_48 fo_1 rfl (ct_X5_cartFault S) (by decide) rfl rfl (Nat.le_of_ble_eq_true rfl) dX5_isCart_17 (fun r_2 S_1 => ?_)
      refine g_aload_n (pc := 20) C dX5_isCart_20 0 rfl rfl ?_
      refine g_getI (pc := 21) C lk_X5_15 fi_1_1 dX5_isCart_21 ?_
      refine g_icmp_ne (pc := 24) C 31 dX5_isCart_24 (by decide) ?_ ?_
      · refine g_iconst (pc := 27) C (v := 1) dX5_isCart_27 (by decide) ?_
        refine g_goto (pc := 28) C 32 dX5_isCart_28 (by decide) ?_
        exact g_zret1 C M rfl dX5_isCart_32
      · refine g_iconst (pc := 31) C (v := 0) dX5_isCart_31 (by decide) ?_
        exact g_zret1 C M rfl dX5_isCart_32
    · refine g_iconst (pc := 31) C (v := 0) dX5_isCart_31 (by decide) ?_
      exact g_zret1 C M rfl dX5_isCart_32
theorem ct_X5_isCart {Γ : GA} (S : St) : CtI Γ yX5_isCart cX5_isCart 1 (some .boolean) 7 [.ref (gX Γ 1)] S (f_X5_isCart S) :=
  ctI_of (by decide) (Nat.le_of_ble_eq_true rfl) (fun _ C M => p_X5_isCart C M  S)
set_option maxRecDepth 100000 in
set_option maxHeartbeats 4000000 in
theorem p_X1_read_l25 {Γ : GA} {E : EV} (C : Cx Γ E RX1 cX1_read 3 5 none) (M : Mx Γ E) (j : Nat) (hj : j < 8) : ∀ (n : Nat) (x2 : Int32) (S : St), G Γ E (QV Γ E) 3 25 [(0, .ref (gX Γ (9 + 3 * j))), (1, .ref (gX Γ 1)), (2, .int x2)] [] S (f_X1_read_l25 j n x2 S) := by
  intro n
  induction n with
  | zero => intro x2 S; exact g_none
  | succ n ih =>
    intro x2 S
    rw [f_X1_read_l25]
    refine g_iload_n (pc := 25) C dX1_read_25 2 rfl rfl ?_
    refine g_aload_n (pc := 26) C dX1_read_26 1 rfl rfl ?_
    refine g_getI (pc := 27) C lk_X1_31 fi_1_1 dX1_read_27 ?_
    refine g_icmp_ge (pc := 30) C 89 dX1_read_30 (by decide) ?_ ?_
    · exact g_vret C M dX1_read_89
    · refine g_aload_n (pc := 33) C dX1_read_33 0 rfl rfl ?_
      refine g_getI (pc := 34) C lk_X1_18 (fiC_2 _ hj) dX1_read_34 ?_
      refine g_iconst (pc := 37) C (v := 5) dX1_read_37 (by decide) ?_
      refine g_icmp_ge (pc := 38) C 89 dX1_read_38 (by decide) ?_ ?_
      · exact g_vret C M dX1_read_89
      · refine g_aload_n (pc := 41) C dX1_read_41 0 rfl rfl ?_
        refine g_getR (pc := 42) C lk_X1_9 (frC_0 _ hj) dX1_read_42 ?_
        refine g_aload_n (pc := 45) C dX1_read_45 0 rfl rfl ?_
        refine g_getI (pc := 46) C lk_X1_18 (fiC_2 _ hj) dX1_read_46 ?_
        refine g_aload_n (pc := 49) C dX1_read_49 1 rfl rfl ?_
        refine g_iload_n (pc := 50) C dX1_read_50 2 rfl rfl ?_
        refine g_iconst (pc := 51) C (v := 1) dX1_read_51 (by decide) ?_
        refine g_iadd (pc := 52) C dX1_read_52 ?_
        refine g_callVI (pc := 53) (As := [.int (x2 + 1)]) (st := [.int (S (9 + 3 * j) 2), .ref (gX Γ (9 + 3 * j + 1))]) C lv_X1_32 fo_1 rfl (ct_X5_kindAt (x2 + 1) S) (by decide) rfl rfl (Nat.le_of_ble_eq_true rfl) dX1_read_53 (fun r_8 S_7 => ?_)
        refine g_iast (pc := 56) C (aiC_1 _ hj) dX1_read_56 (fun S_9 => ?_)
        refine g_aload_n (pc := 57) C dX1_read_57 0 rfl rfl ?_
        refine g_getR (pc := 58) C lk_X1_15 (frC_1 _ hj) dX1_read_58 ?_
        refine g_aload_n (pc := 61) C dX1_read_61 0 rfl rfl ?_
        refine g_getI (pc := 62) C lk_X1_18 (fiC_2 _ hj) dX1_read_62 ?_
        refine g_aload_n (pc := 65) C dX1_read_65 1 rfl rfl ?_
        refine g_iload_n (pc := 66) C dX1_read_66 2 rfl rfl ?_
        refine g_iconst (pc := 67) C (v := 2) dX1_read_67 (by decide) ?_
        refine g_iadd (pc := 68) C dX1_read_68 ?_
        refine g_callVI (pc := 69) (As := [.int (x2 + 2)]) (st := [.int (S_9 (9 + 3 * j) 2), .ref (gX Γ (9 + 3 * j + 2))]) C lv_X1_25 fo_1 rfl (ct_X5_digitAt (x2 + 2) S_9) (by decide) rfl rfl (Nat.le_of_ble_eq_true rfl) dX1_read_69 (fun r_11 S_10 => ?_)
        refine g_iast (pc := 72) C (aiC_2 _ hj) dX1_read_72 (fun S_12 => ?_)
        refine g_aload_n (pc := 73) C dX1_read_73 0 rfl rfl ?_
        refine g_dup (pc := 74) C dX1_read_74 rfl ?_
        refine g_getI (pc := 75) C lk_X1_18 (fiC_2 _ hj) dX1_read_75 ?_
        refine g_iconst (pc := 78) C (v := 1) dX1_read_78 (by decide) ?_
        refine g_iadd (pc := 79) C dX1_read_79 ?_
        refine g_putI (pc := 80) C lp_X1_18 (fiC_2 _ hj) dX1_read_80 (fun S_13 => ?_)
        refine g_iinc (pc := 83) C (v := 3) dX1_read_83 2 rfl (by decide) (by decide) (fun x => [(2, .int x), (0, .ref (gX Γ (9 + 3 * j))), (1, .ref (gX Γ 1))]) (fun _ => rfl) (fun x2_14 => ?_)
        refine g_goto (pc := 86) C 25 dX1_read_86 (by decide) ?_
        exact g_sub [1, 2, 0] rfl (ih x2_14 S_13)
set_option maxRecDepth 100000 in
set_option maxHeartbeats 4000000 in
theorem p_X1_read {Γ : GA} {E : EV} (C : Cx Γ E RX1 cX1_read 3 5 none) (M : Mx Γ E) (j : Nat) (hj : j < 8) (S : St) : G Γ E (QV Γ E) 3 0 [(0, .ref (gX Γ (9 + 3 * j))), (1, .ref (gX Γ 1))] [] S (f_X1_read j S) := by
  rw [f_X1_read]
  refine g_aload_n (pc := 0) C dX1_read_0 0 rfl rfl ?_
  refine g_bipush (pc := 1) C (v := 10) dX1_read_1 (by decide) ?_
  refine g_aload_n (pc := 3) C dX1_read_3 1 rfl rfl ?_
  refine g_iconst (pc := 4) C (v := 1) dX1_read_4 (by decide) ?_
  refine g_callVI (pc := 5) (As := [.int 1]) (st := [.int 10, .ref (gX Γ (9 + 3 * j))]) C lv_X1_25 fo_1 rfl (ct_X5_digitAt 1 S) (by decide) rfl rfl (Nat.le_of_ble_eq_true rfl) dX1_read_5 (fun r_2 S_1 => ?_)
  refine g_imul (pc := 8) C dX1_read_8 ?_
  refine g_aload_n (pc := 9) C dX1_read_9 1 rfl rfl ?_
  refine g_iconst (pc := 10) C (v := 2) dX1_read_10 (by decide) ?_
  refine g_callVI (pc := 11) (As := [.int 2]) (st := [.int (10 * r_2), .ref (gX Γ (9 + 3 * j))]) C lv_X1_25 fo_1 rfl (ct_X5_digitAt 2 S_1) (by decide) rfl rfl (Nat.le_of_ble_eq_true rfl) dX1_read_11 (fun r_4 S_3 => ?_)
  refine g_iadd (pc := 14) C dX1_read_14 ?_
  refine g_putI (pc := 15) C lp_X1_22 (fiC_3 _ hj) dX1_read_15 (fun S_5 => ?_)
  refine g_aload_n (pc := 18) C dX1_read_18 0 rfl rfl ?_
  refine g_iconst (pc := 19) C (v := 0) dX1_read_19 (by decide) ?_
  refine g_putI (pc := 20) C lp_X1_18 (fiC_2 _ hj) dX1_read_20 (fun S_6 => ?_)
  refine g_iconst (pc := 23) C (v := 3) dX1_read_23 (by decide) ?_
  refine g_istore_n0 (pc := 24) C dX1_read_24 rfl (by decide) (lv' := [(2, .int 3), (0, .ref (gX Γ (9 + 3 * j))), (1, .ref (gX Γ 1))]) rfl ?_
  exact g_sub [1, 2, 0] rfl (p_X1_read_l25 C M j hj FU 3 S_6)
theorem ct_X1_read {Γ : GA} (j : Nat) (hj : j < 8) (S : St) : CtV Γ yX1_read cX1_read 3 none 5 [.ref (gX Γ (9 + 3 * j)), .ref (gX Γ 1)] S (f_X1_read j S) :=
  ctV_of (by decide) (Nat.le_of_ble_eq_true rfl) (fun _ C M => p_X1_read C M j hj  S)
set_option maxRecDepth 100000 in
set_option maxHeartbeats 4000000 in
theorem p_X7_cart {Γ : GA} {E : EV} (C : Cx Γ E RX7 cX7_cart 1 8 (some .int)) (M : Mx Γ E) (S : St) : G Γ E (QI Γ E) 1 0 [(0, .ref (gX Γ 0))] [] S (f_X7_cart S) := by
  rw [f_X7_cart]
  refine g_aload_n (pc := 0) C dX7_cart_0 0 rfl rfl ?_
  refine g_getR (pc := 1) C lk_X7_12 fr_0_0 dX7_cart_1 ?_
  refine g_callVI (pc := 4) (As := []) (st := []) C lv_X7_101 fo_1 rfl (ct_X5_isCart S) (by decide) rfl rfl (Nat.le_of_ble_eq_true rfl) dX7_cart_4 (fun r_2 S_1 => ?_)
  refine g_if_ne (pc := 7) C 13 dX7_cart_7 (by decide) ?_ ?_
  · refine g_bipush (pc := 10) C (v := (-103)) dX7_cart_10 (by decide) ?_
    exact g_iret C M dX7_cart_12
  · refine g_aload_n (pc := 13) C dX7_cart_13 0 rfl rfl ?_
    refine g_getI (pc := 14) C lk_X7_67 fi_0_9 dX7_cart_14 ?_
    refine g_bipush (pc := 17) C (v := 8) dX7_cart_17 (by decide) ?_
    refine g_icmp_lt (pc := 19) C 25 dX7_cart_19 (by decide) ?_ ?_
    · refine g_aload_n (pc := 25) C dX7_cart_25 0 rfl rfl ?_
      refine g_getR (pc := 26) C lk_X7_25 fr_0_2 dX7_cart_26 ?_
      refine g_aload_n (pc := 29) C dX7_cart_29 0 rfl rfl ?_
      refine g_getI (pc := 30) C lk_X7_67 fi_0_9 dX7_cart_30 ?_
      refine g_aald (pc := 33) C aq_8 dX7_cart_33 (fun hj_3 => ?_)
      refine g_aload_n (pc := 34) C dX7_cart_34 0 rfl rfl ?_
      refine g_getR (pc := 35) C lk_X7_12 fr_0_0 dX7_cart_35 ?_
      refine g_callVV (pc := 38) (As := [.ref (gX Γ 1)]) (st := []) C lv_X7_104 (foC _ hj_3) rfl (ct_X1_read _ hj_3 S_1) (by decide) rfl rfl (Nat.le_of_ble_eq_true rfl) dX7_cart_38 (fun r_5 S_4 => ?_)
      refine g_aload_n (pc := 41) C dX7_cart_41 0 rfl rfl ?_
      refine g_getR (pc := 42) C lk_X7_12 fr_0_0 dX7_cart_42 ?_
      refine g_iconst (pc := 45) C (v := 0) dX7_cart_45 (by decide) ?_
      refine g_putI (pc := 46) C lp_X7_78 fi_1_1 dX7_cart_46 (fun S_6 => ?_)
      refine g_aload_n (pc := 49) C dX7_cart_49 0 rfl rfl ?_
      refine g_dup (pc := 50) C dX7_cart_50 rfl ?_
      refine g_getI (pc := 51) C lk_X7_67 fi_0_9 dX7_cart_51 ?_
      refine g_iconst (pc := 54) C (v := 1) dX7_cart_54 (by decide) ?_
      refine g_iadd (pc := 55) C dX7_cart_55 ?_
      refine g_putI (pc := 56) C lp_X7_67 fi_0_9 dX7_cart_56 (fun S_7 => ?_)
      refine g_aload_n (pc := 59) C dX7_cart_59 0 rfl rfl ?_
      refine g_getI (pc := 60) C lk_X7_67 fi_0_9 dX7_cart_60 ?_
      refine g_iconst (pc := 63) C (v := 1) dX7_cart_63 (by decide) ?_
      refine g_isub (pc := 64) C dX7_cart_64 ?_
      exact g_iret C M dX7_cart_65
    · refine g_bipush (pc := 22) C (v := (-104)) dX7_cart_22 (by decide) ?_
      exact g_iret C M dX7_cart_24
theorem ct_X7_cart {Γ : GA} (S : St) : CtI Γ yX7_cart cX7_cart 1 (some .int) 8 [.ref (gX Γ 0)] S (f_X7_cart S) :=
  ctI_of (by decide) (Nat.le_of_ble_eq_true rfl) (fun _ C M => p_X7_cart C M  S)
set_option maxRecDepth 100000 in
set_option maxHeartbeats 4000000 in
theorem p_X7_isCell {Γ : GA} {E : EV} (C : Cx Γ E RX7 cX7_isCell 2 0 (some .boolean)) (M : Mx Γ E) (x1 : Int32) (S : St) : G Γ E (QI Γ E) 2 0 [(0, .ref (gX Γ 0)), (1, .int x1)] [] S (f_X7_isCell x1 S) := by
  rw [f_X7_isCell]
  refine g_iload_n (pc := 0) C dX7_isCell_0 1 rfl rfl ?_
  refine g_if_lt (pc := 1) C 19 dX7_isCell_1 (by decide) ?_ ?_
  · refine g_iconst (pc := 19) C (v := 0) dX7_isCell_19 (by decide) ?_
    exact g_zret1 C M rfl dX7_isCell_20
  · refine g_iload_n (pc := 4) C dX7_isCell_4 1 rfl rfl ?_
    refine g_aload_n (pc := 5) C dX7_isCell_5 0 rfl rfl ?_
    refine g_getR (pc := 6) C lk_X7_19 fr_0_1 dX7_isCell_6 ?_
    refine g_getI (pc := 9) C lk_X7_100 fi_3_4 dX7_isCell_9 ?_
    refine g_icmp_ge (pc := 12) C 19 dX7_isCell_12 (by decide) ?_ ?_
    · refine g_iconst (pc := 19) C (v := 0) dX7_isCell_19 (by decide) ?_
      exact g_zret1 C M rfl dX7_isCell_20
    · refine g_iconst (pc := 15) C (v := 1) dX7_isCell_15 (by decide) ?_
      refine g_goto (pc := 16) C 20 dX7_isCell_16 (by decide) ?_
      exact g_zret1 C M rfl dX7_isCell_20
theorem ct_X7_isCell {Γ : GA} (x1 : Int32) (S : St) : CtI Γ yX7_isCell cX7_isCell 2 (some .boolean) 0 [.ref (gX Γ 0), .int x1] S (f_X7_isCell x1 S) :=
  ctI_of (by decide) (Nat.le_of_ble_eq_true rfl) (fun _ C M => p_X7_isCell C M x1 S)
set_option maxRecDepth 100000 in
set_option maxHeartbeats 4000000 in
theorem p_X7_cell {Γ : GA} {E : EV} (C : Cx Γ E RX7 cX7_cell 3 1 (some .int)) (M : Mx Γ E) (x1 : Int32) (x2 : Int32) (S : St) : G Γ E (QI Γ E) 3 0 [(0, .ref (gX Γ 0)), (1, .int x1), (2, .int x2)] [] S (f_X7_cell x1 x2 S) := by
  rw [f_X7_cell]
  refine g_aload_n (pc := 0) C dX7_cell_0 0 rfl rfl ?_
  refine g_iload_n (pc := 1) C dX7_cell_1 1 rfl rfl ?_
  refine g_callVI (pc := 2) (As := [.int x1]) (st := []) C lv_X7_105 fo_0 rfl (ct_X7_isCell x1 S) (by decide) rfl rfl (Nat.le_of_ble_eq_true rfl) dX7_cell_2 (fun r_2 S_1 => ?_)
  refine g_if_ne (pc := 5) C 11 dX7_cell_5 (by decide) ?_ ?_
  · refine g_bipush (pc := 8) C (v := (-101)) dX7_cell_8 (by decide) ?_
    exact g_iret C M dX7_cell_10
  · refine g_iload_n (pc := 11) C dX7_cell_11 2 rfl rfl ?_
    refine g_tsw (res := none) (pc := 12) C 0 44 0 dX7_cell_12 (by show ¬ ((0 : Int) ≤ _ ∧ _ < (0 : Int)); omega) (by decide) rfl (by decide) ?_ (fun hs_3 => ?_)
    · refine g_aload_n (pc := 44) C dX7_cell_44 0 rfl rfl ?_
      refine g_getR (pc := 45) C lk_X7_19 fr_0_1 dX7_cell_45 ?_
      refine g_getR (pc := 48) C lk_X7_109 fr_3_0 dX7_cell_48 ?_
      refine g_iload_n (pc := 51) C dX7_cell_51 1 rfl rfl ?_
      refine g_iald (pc := 52) C ai_4 dX7_cell_52 ?_
      exact g_iret C M dX7_cell_53
    refine g_tsw (res := none) (pc := 12) C 1 54 1 dX7_cell_12 hs_3 (by decide) rfl (by decide) ?_ (fun hs_4 => ?_)
    · refine g_aload_n (pc := 54) C dX7_cell_54 0 rfl rfl ?_
      refine g_getR (pc := 55) C lk_X7_19 fr_0_1 dX7_cell_55 ?_
      refine g_getR (pc := 58) C lk_X7_112 fr_3_1 dX7_cell_58 ?_
      refine g_iload_n (pc := 61) C dX7_cell_61 1 rfl rfl ?_
      refine g_iald (pc := 62) C ai_5 dX7_cell_62 ?_
      exact g_iret C M dX7_cell_63
    refine g_tsw (res := none) (pc := 12) C 2 64 2 dX7_cell_12 hs_4 (by decide) rfl (by decide) ?_ (fun hs_5 => ?_)
    · refine g_aload_n (pc := 64) C dX7_cell_64 0 rfl rfl ?_
      refine g_getR (pc := 65) C lk_X7_19 fr_0_1 dX7_cell_65 ?_
      refine g_getR (pc := 68) C lk_X7_115 fr_3_2 dX7_cell_68 ?_
      refine g_iload_n (pc := 71) C dX7_cell_71 1 rfl rfl ?_
      refine g_iald (pc := 72) C ai_6 dX7_cell_72 ?_
      exact g_iret C M dX7_cell_73
    refine g_tsw (res := none) (pc := 12) C 3 74 3 dX7_cell_12 hs_5 (by decide) rfl (by decide) ?_ (fun hs_6 => ?_)
    · refine g_aload_n (pc := 74) C dX7_cell_74 0 rfl rfl ?_
      refine g_getR (pc := 75) C lk_X7_19 fr_0_1 dX7_cell_75 ?_
      refine g_getR (pc := 78) C lk_X7_118 fr_3_3 dX7_cell_78 ?_
      refine g_iload_n (pc := 81) C dX7_cell_81 1 rfl rfl ?_
      refine g_iald (pc := 82) C ai_7 dX7_cell_82 ?_
      exact g_iret C M dX7_cell_83
    refine g_tsd (pc := 12) C (k := 3) 84 dX7_cell_12 hs_6 rfl (by decide) ?_
    refine g_bipush (pc := 84) C (v := (-102)) dX7_cell_84 (by decide) ?_
    exact g_iret C M dX7_cell_86
theorem ct_X7_cell {Γ : GA} (x1 : Int32) (x2 : Int32) (S : St) : CtI Γ yX7_cell cX7_cell 3 (some .int) 1 [.ref (gX Γ 0), .int x1, .int x2] S (f_X7_cell x1 x2 S) :=
  ctI_of (by decide) (Nat.le_of_ble_eq_true rfl) (fun _ C M => p_X7_cell C M x1 x2 S)
set_option maxRecDepth 100000 in
set_option maxHeartbeats 4000000 in
theorem p_X7_isCart {Γ : GA} {E : EV} (C : Cx Γ E RX7 cX7_isCart 2 0 (some .boolean)) (M : Mx Γ E) (x1 : Int32) (S : St) : G Γ E (QI Γ E) 2 0 [(0, .ref (gX Γ 0)), (1, .int x1)] [] S (f_X7_isCart x1 S) := by
  rw [f_X7_isCart]
  refine g_iload_n (pc := 0) C dX7_isCart_0 1 rfl rfl ?_
  refine g_if_lt (pc := 1) C 16 dX7_isCart_1 (by decide) ?_ ?_
  · refine g_iconst (pc := 16) C (v := 0) dX7_isCart_16 (by decide) ?_
    exact g_zret1 C M rfl dX7_isCart_17
  · refine g_iload_n (pc := 4) C dX7_isCart_4 1 rfl rfl ?_
    refine g_aload_n (pc := 5) C dX7_isCart_5 0 rfl rfl ?_
    refine g_getI (pc := 6) C lk_X7_67 fi_0_9 dX7_isCart_6 ?_
    refine g_icmp_ge (pc := 9) C 16 dX7_isCart_9 (by decide) ?_ ?_
    · refine g_iconst (pc := 16) C (v := 0) dX7_isCart_16 (by decide) ?_
      exact g_zret1 C M rfl dX7_isCart_17
    · refine g_iconst (pc := 12) C (v := 1) dX7_isCart_12 (by decide) ?_
      refine g_goto (pc := 13) C 17 dX7_isCart_13 (by decide) ?_
      exact g_zret1 C M rfl dX7_isCart_17
theorem ct_X7_isCart {Γ : GA} (x1 : Int32) (S : St) : CtI Γ yX7_isCart cX7_isCart 2 (some .boolean) 0 [.ref (gX Γ 0), .int x1] S (f_X7_isCart x1 S) :=
  ctI_of (by decide) (Nat.le_of_ble_eq_true rfl) (fun _ C M => p_X7_isCart C M x1 S)
set_option maxRecDepth 100000 in
set_option maxHeartbeats 4000000 in
theorem p_X7_about {Γ : GA} {E : EV} (C : Cx Γ E RX7 cX7_about 3 1 (some .int)) (M : Mx Γ E) (x1 : Int32) (x2 : Int32) (S : St) : G Γ E (QI Γ E) 3 0 [(0, .ref (gX Γ 0)), (1, .int x1), (2, .int x2)] [] S (f_X7_about x1 x2 S) := by
  rw [f_X7_about]
  refine g_aload_n (pc := 0) C dX7_about_0 0 rfl rfl ?_
  refine g_iload_n (pc := 1) C dX7_about_1 1 rfl rfl ?_
  refine g_callVI (pc := 2) (As := [.int x1]) (st := []) C lv_X7_121 fo_0 rfl (ct_X7_isCart x1 S) (by decide) rfl rfl (Nat.le_of_ble_eq_true rfl) dX7_about_2 (fun r_2 S_1 => ?_)
  refine g_if_ne (pc := 5) C 11 dX7_about_5 (by decide) ?_ ?_
  · refine g_bipush (pc := 8) C (v := (-101)) dX7_about_8 (by decide) ?_
    exact g_iret C M dX7_about_10
  · refine g_iload_n (pc := 11) C dX7_about_11 2 rfl rfl ?_
    refine g_lsw (pc := 12) (off := 28) C 0 40 dX7_about_12 (by decide) (by decide) (by decide) ?_ (fun hs_4 => ?_)
    · refine g_aload_n (pc := 40) C dX7_about_40 0 rfl rfl ?_
      refine g_getR (pc := 41) C lk_X7_25 fr_0_2 dX7_about_41 ?_
      refine g_iload_n (pc := 44) C dX7_about_44 1 rfl rfl ?_
      refine g_aald (pc := 45) C aq_8 dX7_about_45 (fun hj_3 => ?_)
      refine g_getI (pc := 46) C lk_X7_123 (fiC_3 _ hj_3) dX7_about_46 ?_
      exact g_iret C M dX7_about_49
    refine g_lsw (pc := 12) (off := 38) C 1 50 dX7_about_12 (by decide) (by decide) (by decide) ?_ (fun hs_6 => ?_)
    · refine g_aload_n (pc := 50) C dX7_about_50 0 rfl rfl ?_
      refine g_getR (pc := 51) C lk_X7_25 fr_0_2 dX7_about_51 ?_
      refine g_iload_n (pc := 54) C dX7_about_54 1 rfl rfl ?_
      refine g_aald (pc := 55) C aq_8 dX7_about_55 (fun hj_5 => ?_)
      refine g_getI (pc := 56) C lk_X7_126 (fiC_2 _ hj_5) dX7_about_56 ?_
      exact g_iret C M dX7_about_59
    refine g_lsd (pc := 12) C 60 dX7_about_12 (by decide) ((lv_osw hs_4 (by decide)).trans ((lv_osw hs_6 (by decide)).trans rfl)) (by decide) ?_
    refine g_bipush (pc := 60) C (v := (-102)) dX7_about_60 (by decide) ?_
    exact g_iret C M dX7_about_62
theorem ct_X7_about {Γ : GA} (x1 : Int32) (x2 : Int32) (S : St) : CtI Γ yX7_about cX7_about 3 (some .int) 1 [.ref (gX Γ 0), .int x1, .int x2] S (f_X7_about x1 x2 S) :=
  ctI_of (by decide) (Nat.le_of_ble_eq_true rfl) (fun _ C M => p_X7_about C M x1 x2 S)
set_option maxRecDepth 100000 in
set_option maxHeartbeats 4000000 in
theorem p_X7_isLoss {Γ : GA} {E : EV} (C : Cx Γ E RX7 cX7_isLoss 3 1 (some .boolean)) (M : Mx Γ E) (x1 : Int32) (x2 : Int32) (S : St) : G Γ E (QI Γ E) 3 0 [(0, .ref (gX Γ 0)), (1, .int x1), (2, .int x2)] [] S (f_X7_isLoss x1 x2 S) := by
  rw [f_X7_isLoss]
  refine g_aload_n (pc := 0) C dX7_isLoss_0 0 rfl rfl ?_
  refine g_iload_n (pc := 1) C dX7_isLoss_1 1 rfl rfl ?_
  refine g_callVI (pc := 2) (As := [.int x1]) (st := []) C lv_X7_121 fo_0 rfl (ct_X7_isCart x1 S) (by decide) rfl rfl (Nat.le_of_ble_eq_true rfl) dX7_isLoss_2 (fun r_2 S_1 => ?_)
  refine g_if_eq (pc := 5) C 29 dX7_isLoss_5 (by decide) ?_ ?_
  · refine g_iconst (pc := 29) C (v := 0) dX7_isLoss_29 (by decide) ?_
    exact g_zret1 C M rfl dX7_isLoss_30
  · refine g_iload_n (pc := 8) C dX7_isLoss_8 2 rfl rfl ?_
    refine g_if_lt (pc := 9) C 29 dX7_isLoss_9 (by decide) ?_ ?_
    · refine g_iconst (pc := 29) C (v := 0) dX7_isLoss_29 (by decide) ?_
      exact g_zret1 C M rfl dX7_isLoss_30
    · refine g_iload_n (pc := 12) C dX7_isLoss_12 2 rfl rfl ?_
      refine g_aload_n (pc := 13) C dX7_isLoss_13 0 rfl rfl ?_
      refine g_getR (pc := 14) C lk_X7_25 fr_0_2 dX7_isLoss_14 ?_
      refine g_iload_n (pc := 17) C dX7_isLoss_17 1 rfl rfl ?_
      refine g_aald (pc := 18) C aq_8 dX7_isLoss_18 (fun hj_3 => ?_)
      refine g_getI (pc := 19) C lk_X7_126 (fiC_2 _ hj_3) dX7_isLoss_19 ?_
      refine g_icmp_ge (pc := 22) C 29 dX7_isLoss_22 (by decide) ?_ ?_
      · refine g_iconst (pc := 29) C (v := 0) dX7_isLoss_29 (by decide) ?_
        exact g_zret1 C M rfl dX7_isLoss_30
      · refine g_iconst (pc := 25) C (v := 1) dX7_isLoss_25 (by decide) ?_
        refine g_goto (pc := 26) C 30 dX7_isLoss_26 (by decide) ?_
        exact g_zret1 C M rfl dX7_isLoss_30
theorem ct_X7_isLoss {Γ : GA} (x1 : Int32) (x2 : Int32) (S : St) : CtI Γ yX7_isLoss cX7_isLoss 3 (some .boolean) 1 [.ref (gX Γ 0), .int x1, .int x2] S (f_X7_isLoss x1 x2 S) :=
  ctI_of (by decide) (Nat.le_of_ble_eq_true rfl) (fun _ C M => p_X7_isLoss C M x1 x2 S)
set_option maxRecDepth 100000 in
set_option maxHeartbeats 4000000 in
theorem p_X7_loss {Γ : GA} {E : EV} (C : Cx Γ E RX7 cX7_loss 4 2 (some .int)) (M : Mx Γ E) (x1 : Int32) (x2 : Int32) (x3 : Int32) (S : St) : G Γ E (QI Γ E) 4 0 [(0, .ref (gX Γ 0)), (1, .int x1), (2, .int x2), (3, .int x3)] [] S (f_X7_loss x1 x2 x3 S) := by
  rw [f_X7_loss]
  refine g_aload_n (pc := 0) C dX7_loss_0 0 rfl rfl ?_
  refine g_iload_n (pc := 1) C dX7_loss_1 1 rfl rfl ?_
  refine g_iload_n (pc := 2) C dX7_loss_2 2 rfl rfl ?_
  refine g_callVI (pc := 3) (As := [.int x1, .int x2]) (st := []) C lv_X7_127 fo_0 rfl (ct_X7_isLoss x1 x2 S) (by decide) rfl rfl (Nat.le_of_ble_eq_true rfl) dX7_loss_3 (fun r_2 S_1 => ?_)
  refine g_if_ne (pc := 6) C 12 dX7_loss_6 (by decide) ?_ ?_
  · refine g_bipush (pc := 9) C (v := (-101)) dX7_loss_9 (by decide) ?_
    exact g_iret C M dX7_loss_11
  · refine g_iload_n (pc := 12) C dX7_loss_12 3 rfl rfl ?_
    refine g_lsw (pc := 13) (off := 27) C 0 40 dX7_loss_13 (by decide) (by decide) (by decide) ?_ (fun hs_4 => ?_)
    · refine g_aload_n (pc := 40) C dX7_loss_40 0 rfl rfl ?_
      refine g_getR (pc := 41) C lk_X7_25 fr_0_2 dX7_loss_41 ?_
      refine g_iload_n (pc := 44) C dX7_loss_44 1 rfl rfl ?_
      refine g_aald (pc := 45) C aq_8 dX7_loss_45 (fun hj_3 => ?_)
      refine g_getR (pc := 46) C lk_X7_131 (frC_0 _ hj_3) dX7_loss_46 ?_
      refine g_iload_n (pc := 49) C dX7_loss_49 2 rfl rfl ?_
      refine g_iald (pc := 50) C (aiC_1 _ hj_3) dX7_loss_50 ?_
      exact g_iret C M dX7_loss_51
    refine g_lsw (pc := 13) (off := 39) C 1 52 dX7_loss_13 (by decide) (by decide) (by decide) ?_ (fun hs_6 => ?_)
    · refine g_aload_n (pc := 52) C dX7_loss_52 0 rfl rfl ?_
      refine g_getR (pc := 53) C lk_X7_25 fr_0_2 dX7_loss_53 ?_
      refine g_iload_n (pc := 56) C dX7_loss_56 1 rfl rfl ?_
      refine g_aald (pc := 57) C aq_8 dX7_loss_57 (fun hj_5 => ?_)
      refine g_getR (pc := 58) C lk_X7_134 (frC_1 _ hj_5) dX7_loss_58 ?_
      refine g_iload_n (pc := 61) C dX7_loss_61 2 rfl rfl ?_
      refine g_iald (pc := 62) C (aiC_2 _ hj_5) dX7_loss_62 ?_
      exact g_iret C M dX7_loss_63
    refine g_lsd (pc := 13) C 64 dX7_loss_13 (by decide) ((lv_osw hs_4 (by decide)).trans ((lv_osw hs_6 (by decide)).trans rfl)) (by decide) ?_
    refine g_bipush (pc := 64) C (v := (-102)) dX7_loss_64 (by decide) ?_
    exact g_iret C M dX7_loss_66
theorem ct_X7_loss {Γ : GA} (x1 : Int32) (x2 : Int32) (x3 : Int32) (S : St) : CtI Γ yX7_loss cX7_loss 4 (some .int) 2 [.ref (gX Γ 0), .int x1, .int x2, .int x3] S (f_X7_loss x1 x2 x3 S) :=
  ctI_of (by decide) (Nat.le_of_ble_eq_true rfl) (fun _ C M => p_X7_loss C M x1 x2 x3 S)
set_option maxRecDepth 100000 in
set_option maxHeartbeats 4000000 in
theorem p_X7_isWithin {Γ : GA} {E : EV} (C : Cx Γ E RX7 cX7_isWithin 3 0 (some .boolean)) (M : Mx Γ E) (x0 : Int32) (x1 : Int32) (x2 : Int32) (S : St) : G Γ E (QI Γ E) 3 0 [(0, .int x0), (1, .int x1), (2, .int x2)] [] S (f_X7_isWithin x0 x1 x2 S) := by
  rw [f_X7_isWithin]
  refine g_iload_n (pc := 0) C dX7_isWithin_0 0 rfl rfl ?_
  refine g_iload_n (pc := 1) C dX7_isWithin_1 1 rfl rfl ?_
  refine g_icmp_lt (pc := 2) C 14 dX7_isWithin_2 (by decide) ?_ ?_
  · refine g_iconst (pc := 14) C (v := 0) dX7_isWithin_14 (by decide) ?_
    exact g_zret1 C M rfl dX7_isWithin_15
  · refine g_iload_n (pc := 5) C dX7_isWithin_5 0 rfl rfl ?_
    refine g_iload_n (pc := 6) C dX7_isWithin_6 2 rfl rfl ?_
    refine g_icmp_gt (pc := 7) C 14 dX7_isWithin_7 (by decide) ?_ ?_
    · refine g_iconst (pc := 14) C (v := 0) dX7_isWithin_14 (by decide) ?_
      exact g_zret1 C M rfl dX7_isWithin_15
    · refine g_iconst (pc := 10) C (v := 1) dX7_isWithin_10 (by decide) ?_
      refine g_goto (pc := 11) C 15 dX7_isWithin_11 (by decide) ?_
      exact g_zret1 C M rfl dX7_isWithin_15
theorem ct_X7_isWithin {Γ : GA} (x0 : Int32) (x1 : Int32) (x2 : Int32) (S : St) : CtI Γ yX7_isWithin cX7_isWithin 3 (some .boolean) 0 [.int x0, .int x1, .int x2] S (f_X7_isWithin x0 x1 x2 S) :=
  ctI_of (by decide) (Nat.le_of_ble_eq_true rfl) (fun _ C M => p_X7_isWithin C M x0 x1 x2 S)
set_option maxRecDepth 100000 in
set_option maxHeartbeats 4000000 in
theorem p_X7_isOfKind_b19 {Γ : GA} {E : EV} (C : Cx Γ E RX7 cX7_isOfKind 2 0 (some .boolean)) (M : Mx Γ E) (S : St) : G Γ E (QI Γ E) 2 19 [] [] S (f_X7_isOfKind_b19 S) := by
  rw [f_X7_isOfKind_b19]
  refine g_iconst (pc := 19) C (v := 1) dX7_isOfKind_19 (by decide) ?_
  refine g_goto (pc := 20) C 24 dX7_isOfKind_20 (by decide) ?_
  exact g_zret1 C M rfl dX7_isOfKind_24
set_option maxRecDepth 100000 in
set_option maxHeartbeats 4000000 in
theorem p_X7_isOfKind {Γ : GA} {E : EV} (C : Cx Γ E RX7 cX7_isOfKind 2 0 (some .boolean)) (M : Mx Γ E) (x0 : Int32) (x1 : Int32) (S : St) : G Γ E (QI Γ E) 2 0 [(0, .int x0), (1, .int x1)] [] S (f_X7_isOfKind x0 x1 S) := by
  rw [f_X7_isOfKind]
  refine g_iload_n (pc := 0) C dX7_isOfKind_0 1 rfl rfl ?_
  refine g_if_eq (pc := 1) C 19 dX7_isOfKind_1 (by decide) ?_ ?_
  · exact g_sub [] rfl (p_X7_isOfKind_b19 C M S)
  · refine g_iload_n (pc := 4) C dX7_isOfKind_4 1 rfl rfl ?_
    refine g_iload_n (pc := 5) C dX7_isOfKind_5 0 rfl rfl ?_
    refine g_icmp_eq (pc := 6) C 19 dX7_isOfKind_6 (by decide) ?_ ?_
    · exact g_sub [] rfl (p_X7_isOfKind_b19 C M S)
    · refine g_iload_n (pc := 9) C dX7_isOfKind_9 1 rfl rfl ?_
      refine g_iconst (pc := 10) C (v := 1) dX7_isOfKind_10 (by decide) ?_
      refine g_icmp_ne (pc := 11) C 23 dX7_isOfKind_11 (by decide) ?_ ?_
      · refine g_iload_n (pc := 14) C dX7_isOfKind_14 0 rfl rfl ?_
        refine g_iconst (pc := 15) C (v := 2) dX7_isOfKind_15 (by decide) ?_
        refine g_icmp_ne (pc := 16) C 23 dX7_isOfKind_16 (by decide) ?_ ?_
        · exact g_sub [] rfl (p_X7_isOfKind_b19 C M S)
        · refine g_iconst (pc := 23) C (v := 0) dX7_isOfKind_23 (by decide) ?_
          exact g_zret1 C M rfl dX7_isOfKind_24
      · refine g_iconst (pc := 23) C (v := 0) dX7_isOfKind_23 (by decide) ?_
        exact g_zret1 C M rfl dX7_isOfKind_24
theorem ct_X7_isOfKind {Γ : GA} (x0 : Int32) (x1 : Int32) (S : St) : CtI Γ yX7_isOfKind cX7_isOfKind 2 (some .boolean) 0 [.int x0, .int x1] S (f_X7_isOfKind x0 x1 S) :=
  ctI_of (by decide) (Nat.le_of_ble_eq_true rfl) (fun _ C M => p_X7_isOfKind C M x0 x1 S)
set_option maxRecDepth 100000 in
set_option maxHeartbeats 4000000 in
theorem p_X7_as {Γ : GA} {E : EV} (C : Cx Γ E RX7 cX7_as 4 2 (some .int)) (M : Mx Γ E) (x1 : Int32) (x2 : Int32) (x3 : Int32) (S : St) : G Γ E (QI Γ E) 4 0 [(0, .ref (gX Γ 0)), (1, .int x1), (2, .int x2), (3, .int x3)] [] S (f_X7_as x1 x2 x3 S) := by
  rw [f_X7_as]
  refine g_aload_n (pc := 0) C dX7_as_0 0 rfl rfl ?_
  refine g_iload_n (pc := 1) C dX7_as_1 1 rfl rfl ?_
  refine g_iload_n (pc := 2) C dX7_as_2 2 rfl rfl ?_
  refine g_callVI (pc := 3) (As := [.int x1, .int x2]) (st := []) C lv_X7_127 fo_0 rfl (ct_X7_isLoss x1 x2 S) (by decide) rfl rfl (Nat.le_of_ble_eq_true rfl) dX7_as_3 (fun r_2 S_1 => ?_)
  refine g_if_ne (pc := 6) C 12 dX7_as_6 (by decide) ?_ ?_
  · refine g_bipush (pc := 9) C (v := (-101)) dX7_as_9 (by decide) ?_
    exact g_iret C M dX7_as_11
  · refine g_iload_n (pc := 12) C dX7_as_12 3 rfl rfl ?_
    refine g_iconst (pc := 13) C (v := 0) dX7_as_13 (by decide) ?_
    refine g_iconst (pc := 14) C (v := 5) dX7_as_14 (by decide) ?_
    refine g_callSI (pc := 15) (As := [.int x3, .int 0, .int 5]) (st := []) C ls_X7_137 (ct_X7_isWithin x3 0 5 S_1) (by decide) rfl rfl (Nat.le_of_ble_eq_true rfl) dX7_as_15 (fun r_4 S_3 => ?_)
    refine g_if_ne (pc := 18) C 24 dX7_as_18 (by decide) ?_ ?_
    · refine g_bipush (pc := 21) C (v := (-102)) dX7_as_21 (by decide) ?_
      exact g_iret C M dX7_as_23
    · refine g_aload_n (pc := 24) C dX7_as_24 0 rfl rfl ?_
      refine g_getR (pc := 25) C lk_X7_25 fr_0_2 dX7_as_25 ?_
      refine g_iload_n (pc := 28) C dX7_as_28 1 rfl rfl ?_
      refine g_aald (pc := 29) C aq_8 dX7_as_29 (fun hj_5 => ?_)
      refine g_getR (pc := 30) C lk_X7_131 (frC_0 _ hj_5) dX7_as_30 ?_
      refine g_iload_n (pc := 33) C dX7_as_33 2 rfl rfl ?_
      refine g_iald (pc := 34) C (aiC_1 _ hj_5) dX7_as_34 ?_
      refine g_iload_n (pc := 35) C dX7_as_35 3 rfl rfl ?_
      refine g_callSI (pc := 36) (As := [.int (S_3 (9 + 3 * (x1 : Int32).toNatClampNeg + 1) (x2 : Int32).toNatClampNeg), .int x3]) (st := []) C ls_X7_141 (ct_X7_isOfKind (S_3 (9 + 3 * (x1 : Int32).toNatClampNeg + 1) (x2 : Int32).toNatClampNeg) x3 S_3) (by decide) rfl rfl (Nat.le_of_ble_eq_true rfl) dX7_as_36 (fun r_7 S_6 => ?_)
      refine g_if_eq (pc := 39) C 46 dX7_as_39 (by decide) ?_ ?_
      · refine g_iconst (pc := 46) C (v := (-1)) dX7_as_46 (by decide) ?_
        exact g_iret C M dX7_as_47
      · refine g_iload_n (pc := 42) C dX7_as_42 2 rfl rfl ?_
        refine g_goto (pc := 43) C 47 dX7_as_43 (by decide) ?_
        exact g_iret C M dX7_as_47
theorem ct_X7_as {Γ : GA} (x1 : Int32) (x2 : Int32) (x3 : Int32) (S : St) : CtI Γ yX7_as cX7_as 4 (some .int) 2 [.ref (gX Γ 0), .int x1, .int x2, .int x3] S (f_X7_as x1 x2 x3 S) :=
  ctI_of (by decide) (Nat.le_of_ble_eq_true rfl) (fun _ C M => p_X7_as C M x1 x2 x3 S)
set_option maxRecDepth 100000 in
set_option maxHeartbeats 4000000 in
theorem p_X7_weigh {Γ : GA} {E : EV} (C : Cx Γ E RX7 cX7_weigh 4 1 (some .int)) (M : Mx Γ E) (x1 : Int32) (x2 : Int32) (S : St) : G Γ E (QI Γ E) 4 0 [(0, .ref (gX Γ 0)), (1, .int x1), (2, .int x2)] [] S (f_X7_weigh x1 x2 S) := by
  rw [f_X7_weigh]
  refine g_aload_n (pc := 0) C dX7_weigh_0 0 rfl rfl ?_
  refine g_iload_n (pc := 1) C dX7_weigh_1 1 rfl rfl ?_
  refine g_callVI (pc := 2) (As := [.int x1]) (st := []) C lv_X7_121 fo_0 rfl (ct_X7_isCart x1 S) (by decide) rfl rfl (Nat.le_of_ble_eq_true rfl) dX7_weigh_2 (fun r_2 S_1 => ?_)
  refine g_if_ne (pc := 5) C 11 dX7_weigh_5 (by decide) ?_ ?_
  · refine g_bipush (pc := 8) C (v := (-101)) dX7_weigh_8 (by decide) ?_
    exact g_iret C M dX7_weigh_10
  · refine g_iload_n (pc := 11) C dX7_weigh_11 2 rfl rfl ?_
    refine g_bipush (pc := 12) C (v := 10) dX7_weigh_12 (by decide) ?_
    refine g_bipush (pc := 14) C (v := 99) dX7_weigh_14 (by decide) ?_
    refine g_callSI (pc := 16) (As := [.int x2, .int 10, .int 99]) (st := []) C ls_X7_137 (ct_X7_isWithin x2 10 99 S_1) (by decide) rfl rfl (Nat.le_of_ble_eq_true rfl) dX7_weigh_16 (fun r_4 S_3 => ?_)
    refine g_if_ne (pc := 19) C 25 dX7_weigh_19 (by decide) ?_ ?_
    · refine g_bipush (pc := 22) C (v := (-102)) dX7_weigh_22 (by decide) ?_
      exact g_iret C M dX7_weigh_24
    · refine g_aload_n (pc := 25) C dX7_weigh_25 0 rfl rfl ?_
      refine g_getR (pc := 26) C lk_X7_25 fr_0_2 dX7_weigh_26 ?_
      refine g_iload_n (pc := 29) C dX7_weigh_29 1 rfl rfl ?_
      refine g_aald (pc := 30) C aq_8 dX7_weigh_30 (fun hj_5 => ?_)
      refine g_getI (pc := 31) C lk_X7_123 (fiC_3 _ hj_5) dX7_weigh_31 ?_
      refine g_istore_n (pc := 34) C dX7_weigh_34 rfl (by decide) (fun x => [(3, .int x), (0, .ref (gX Γ 0)), (1, .int x1), (2, .int x2)]) (fun _ => rfl) (fun x3_6 => ?_)
      refine g_aload_n (pc := 35) C dX7_weigh_35 1 rfl rfl ?_
      refine g_getR (pc := 36) C lk_X7_25 fr_0_2 dX7_weigh_36 ?_
      refine g_iload_n (pc := 39) C dX7_weigh_39 2 rfl rfl ?_
      refine g_aald (pc := 40) C aq_8 dX7_weigh_40 (fun hj_7 => ?_)
      refine g_iload_n (pc := 41) C dX7_weigh_41 3 rfl rfl ?_
      refine g_putI (pc := 42) C lp_X7_123 (fiC_3 _ hj_7) dX7_weigh_42 (fun S_8 => ?_)
      refine g_iload_n (pc := 45) C dX7_weigh_45 0 rfl rfl ?_
      exact g_iret C M dX7_weigh_46
theorem ct_X7_weigh {Γ : GA} (x1 : Int32) (x2 : Int32) (S : St) : CtI Γ yX7_weigh cX7_weigh 4 (some .int) 1 [.ref (gX Γ 0), .int x1, .int x2] S (f_X7_weigh x1 x2 S) :=
  ctI_of (by decide) (Nat.le_of_ble_eq_true rfl) (fun _ C M => p_X7_weigh C M x1 x2 S)
set_option maxRecDepth 100000 in
set_option maxHeartbeats 4000000 in
theorem p_X7_grip {Γ : GA} {E : EV} (C : Cx Γ E RX7 cX7_grip 3 1 (some .int)) (M : Mx Γ E) (x1 : Int32) (S : St) : G Γ E (QI Γ E) 3 0 [(0, .ref (gX Γ 0)), (1, .int x1)] [] S (f_X7_grip x1 S) := by
  rw [f_X7_grip]
  refine g_iload_n (pc := 0) C dX7_grip_0 1 rfl rfl ?_
  refine g_iconst (pc := 1) C (v := 1) dX7_grip_1 (by decide) ?_
  refine g_bipush (pc := 2) C (v := 99) dX7_grip_2 (by decide) ?_
  refine g_callSI (pc := 4) (As := [.int x1, .int 1, .int 99]) (st := []) C ls_X7_137 (ct_X7_isWithin x1 1 99 S) (by decide) rfl rfl (Nat.le_of_ble_eq_true rfl) dX7_grip_4 (fun r_2 S_1 => ?_)
  refine g_if_ne (pc := 7) C 13 dX7_grip_7 (by decide) ?_ ?_
  · refine g_bipush (pc := 10) C (v := (-102)) dX7_grip_10 (by decide) ?_
    exact g_iret C M dX7_grip_12
  · refine g_aload_n (pc := 13) C dX7_grip_13 0 rfl rfl ?_
    refine g_getI (pc := 14) C lk_X7_71 fi_0_10 dX7_grip_14 ?_
    refine g_istore_n (pc := 17) C dX7_grip_17 rfl (by decide) (fun x => [(2, .int x), (0, .ref (gX Γ 0)), (1, .int x1)]) (fun _ => rfl) (fun x2_3 => ?_)
    refine g_aload_n (pc := 18) C dX7_grip_18 1 rfl rfl ?_
    refine g_iload_n (pc := 19) C dX7_grip_19 2 rfl rfl ?_
    refine g_putI (pc := 20) C lp_X7_71 fi_0_10 dX7_grip_20 (fun S_4 => ?_)
    refine g_iload_n (pc := 23) C dX7_grip_23 0 rfl rfl ?_
    exact g_iret C M dX7_grip_24
theorem ct_X7_grip {Γ : GA} (x1 : Int32) (S : St) : CtI Γ yX7_grip cX7_grip 3 (some .int) 1 [.ref (gX Γ 0), .int x1] S (f_X7_grip x1 S) :=
  ctI_of (by decide) (Nat.le_of_ble_eq_true rfl) (fun _ C M => p_X7_grip C M x1 S)
set_option maxRecDepth 100000 in
set_option maxHeartbeats 4000000 in
theorem p_X7_brake {Γ : GA} {E : EV} (C : Cx Γ E RX7 cX7_brake 4 1 (some .int)) (M : Mx Γ E) (x1 : Int32) (x2 : Int32) (S : St) : G Γ E (QI Γ E) 4 0 [(0, .ref (gX Γ 0)), (1, .int x1), (2, .int x2)] [] S (f_X7_brake x1 x2 S) := by
  rw [f_X7_brake]
  refine g_aload_n (pc := 0) C dX7_brake_0 0 rfl rfl ?_
  refine g_iload_n (pc := 1) C dX7_brake_1 1 rfl rfl ?_
  refine g_callVI (pc := 2) (As := [.int x1]) (st := []) C lv_X7_105 fo_0 rfl (ct_X7_isCell x1 S) (by decide) rfl rfl (Nat.le_of_ble_eq_true rfl) dX7_brake_2 (fun r_2 S_1 => ?_)
  refine g_if_ne (pc := 5) C 11 dX7_brake_5 (by decide) ?_ ?_
  · refine g_bipush (pc := 8) C (v := (-101)) dX7_brake_8 (by decide) ?_
    exact g_iret C M dX7_brake_10
  · refine g_iload_n (pc := 11) C dX7_brake_11 2 rfl rfl ?_
    refine g_iconst (pc := 12) C (v := 0) dX7_brake_12 (by decide) ?_
    refine g_bipush (pc := 13) C (v := 9) dX7_brake_13 (by decide) ?_
    refine g_callSI (pc := 15) (As := [.int x2, .int 0, .int 9]) (st := []) C ls_X7_137 (ct_X7_isWithin x2 0 9 S_1) (by decide) rfl rfl (Nat.le_of_ble_eq_true rfl) dX7_brake_15 (fun r_4 S_3 => ?_)
    refine g_if_ne (pc := 18) C 24 dX7_brake_18 (by decide) ?_ ?_
    · refine g_bipush (pc := 21) C (v := (-102)) dX7_brake_21 (by decide) ?_
      exact g_iret C M dX7_brake_23
    · refine g_aload_n (pc := 24) C dX7_brake_24 0 rfl rfl ?_
      refine g_getR (pc := 25) C lk_X7_19 fr_0_1 dX7_brake_25 ?_
      refine g_getR (pc := 28) C lk_X7_118 fr_3_3 dX7_brake_28 ?_
      refine g_iload_n (pc := 31) C dX7_brake_31 1 rfl rfl ?_
      refine g_iald (pc := 32) C ai_7 dX7_brake_32 ?_
      refine g_istore_n (pc := 33) C dX7_brake_33 rfl (by decide) (fun x => [(3, .int x), (0, .ref (gX Γ 0)), (1, .int x1), (2, .int x2)]) (fun _ => rfl) (fun x3_5 => ?_)
      refine g_aload_n (pc := 34) C dX7_brake_34 1 rfl rfl ?_
      refine g_getR (pc := 35) C lk_X7_19 fr_0_1 dX7_brake_35 ?_
      refine g_getR (pc := 38) C lk_X7_118 fr_3_3 dX7_brake_38 ?_
      refine g_iload_n (pc := 41) C dX7_brake_41 2 rfl rfl ?_
      refine g_iload_n (pc := 42) C dX7_brake_42 3 rfl rfl ?_
      refine g_iast (pc := 43) C ai_7 dX7_brake_43 (fun S_6 => ?_)
      refine g_iload_n (pc := 44) C dX7_brake_44 0 rfl rfl ?_
      exact g_iret C M dX7_brake_45
theorem ct_X7_brake {Γ : GA} (x1 : Int32) (x2 : Int32) (S : St) : CtI Γ yX7_brake cX7_brake 4 (some .int) 1 [.ref (gX Γ 0), .int x1, .int x2] S (f_X7_brake x1 x2 S) :=
  ctI_of (by decide) (Nat.le_of_ble_eq_true rfl) (fun _ C M => p_X7_brake C M x1 x2 S)
set_option maxRecDepth 100000 in
set_option maxHeartbeats 4000000 in
theorem p_X7_isSwing {Γ : GA} {E : EV} (C : Cx Γ E RX7 cX7_isSwing 1 1 (some .boolean)) (M : Mx Γ E) (x0 : Int32) (S : St) : G Γ E (QI Γ E) 1 0 [(0, .int x0)] [] S (f_X7_isSwing x0 S) := by
  rw [f_X7_isSwing]
  refine g_iload_n (pc := 0) C dX7_isSwing_0 0 rfl rfl ?_
  refine g_iconst (pc := 1) C (v := 0) dX7_isSwing_1 (by decide) ?_
  refine g_sipush (pc := 2) C (v := 9999) dX7_isSwing_2 (by decide) ?_
  refine g_callSI (pc := 5) (As := [.int x0, .int 0, .int 9999]) (st := []) C ls_X7_137 (ct_X7_isWithin x0 0 9999 S) (by decide) rfl rfl (Nat.le_of_ble_eq_true rfl) dX7_isSwing_5 (fun r_2 S_1 => ?_)
  exact g_zret C M dX7_isSwing_8
theorem ct_X7_isSwing {Γ : GA} (x0 : Int32) (S : St) : CtI Γ yX7_isSwing cX7_isSwing 1 (some .boolean) 1 [.int x0] S (f_X7_isSwing x0 S) :=
  ctI_of (by decide) (Nat.le_of_ble_eq_true rfl) (fun _ C M => p_X7_isSwing C M x0 S)
set_option maxRecDepth 100000 in
set_option maxHeartbeats 4000000 in
theorem p_X7_refusalOfRun {Γ : GA} {E : EV} (C : Cx Γ E RX7 cX7_refusalOfRun 4 2 (some .int)) (M : Mx Γ E) (x1 : Int32) (x2 : Int32) (x3 : Int32) (S : St) : G Γ E (QI Γ E) 4 0 [(0, .ref (gX Γ 0)), (1, .int x1), (2, .int x2), (3, .int x3)] [] S (f_X7_refusalOfRun x1 x2 x3 S) := by
  rw [f_X7_refusalOfRun]
  refine g_aload_n (pc := 0) C dX7_refusalOfRun_0 0 rfl rfl ?_
  refine g_iload_n (pc := 1) C dX7_refusalOfRun_1 1 rfl rfl ?_
  refine g_callVI (pc := 2) (As := [.int x1]) (st := []) C lv_X7_121 fo_0 rfl (ct_X7_isCart x1 S) (by decide) rfl rfl (Nat.le_of_ble_eq_true rfl) dX7_refusalOfRun_2 (fun r_2 S_1 => ?_)
  refine g_if_ne (pc := 5) C 11 dX7_refusalOfRun_5 (by decide) ?_ ?_
  · refine g_bipush (pc := 8) C (v := (-101)) dX7_refusalOfRun_8 (by decide) ?_
    exact g_iret C M dX7_refusalOfRun_10
  · refine g_aload_n (pc := 11) C dX7_refusalOfRun_11 0 rfl rfl ?_
    refine g_getR (pc := 12) C lk_X7_19 fr_0_1 dX7_refusalOfRun_12 ?_
    refine g_getI (pc := 15) C lk_X7_100 fi_3_4 dX7_refusalOfRun_15 ?_
    refine g_if_ne (pc := 18) C 24 dX7_refusalOfRun_18 (by decide) ?_ ?_
    · refine g_bipush (pc := 21) C (v := (-103)) dX7_refusalOfRun_21 (by decide) ?_
      exact g_iret C M dX7_refusalOfRun_23
    · refine g_iload_n (pc := 24) C dX7_refusalOfRun_24 2 rfl rfl ?_
      refine g_callSI (pc := 25) (As := [.int x2]) (st := []) C ls_X7_156 (ct_X7_isSwing x2 S_1) (by decide) rfl rfl (Nat.le_of_ble_eq_true rfl) dX7_refusalOfRun_25 (fun r_4 S_3 => ?_)
      refine g_if_eq (pc := 28) C 39 dX7_refusalOfRun_28 (by decide) ?_ ?_
      · refine g_bipush (pc := 39) C (v := (-102)) dX7_refusalOfRun_39 (by decide) ?_
        exact g_iret C M dX7_refusalOfRun_41
      · refine g_iload_n (pc := 31) C dX7_refusalOfRun_31 3 rfl rfl ?_
        refine g_if_eq (pc := 32) C 39 dX7_refusalOfRun_32 (by decide) ?_ ?_
        · refine g_bipush (pc := 39) C (v := (-102)) dX7_refusalOfRun_39 (by decide) ?_
          exact g_iret C M dX7_refusalOfRun_41
        · refine g_iconst (pc := 35) C (v := 0) dX7_refusalOfRun_35 (by decide) ?_
          refine g_goto (pc := 36) C 41 dX7_refusalOfRun_36 (by decide) ?_
          exact g_iret C M dX7_refusalOfRun_41
theorem ct_X7_refusalOfRun {Γ : GA} (x1 : Int32) (x2 : Int32) (x3 : Int32) (S : St) : CtI Γ yX7_refusalOfRun cX7_refusalOfRun 4 (some .int) 2 [.ref (gX Γ 0), .int x1, .int x2, .int x3] S (f_X7_refusalOfRun x1 x2 x3 S) :=
  ctI_of (by decide) (Nat.le_of_ble_eq_true rfl) (fun _ C M => p_X7_refusalOfRun C M x1 x2 x3 S)
set_option maxRecDepth 100000 in
set_option maxHeartbeats 4000000 in
theorem p_X6_mount {Γ : GA} {E : EV} (C : Cx Γ E RX6 cX6_mount 3 1 none) (M : Mx Γ E) (j : Nat) (hj : j < 8) (x2 : Int32) (S : St) : G Γ E (QV Γ E) 3 0 [(0, .ref (gX Γ 44)), (1, .ref (gX Γ (9 + 3 * j))), (2, .int x2)] [] S (f_X6_mount j x2 S) := by
  rw [f_X6_mount]
  refine g_aload_n (pc := 0) C dX6_mount_0 1 rfl rfl ?_
  refine g_getR (pc := 1) C lk_X6_59 (frC_0 _ hj) dX6_mount_1 ?_
  refine g_iconst (pc := 4) C (v := 0) dX6_mount_4 (by decide) ?_
  refine g_aload_n (pc := 5) C dX6_mount_5 0 rfl rfl ?_
  refine g_getR (pc := 6) C lk_X6_9 fr_44_1 dX6_mount_6 ?_
  refine g_iconst (pc := 9) C (v := 0) dX6_mount_9 (by decide) ?_
  refine g_iconst (pc := 10) C (v := 5) dX6_mount_10 (by decide) ?_
  refine g_copy (pc := 11) C (aiC_1 _ hj) ai_45 kw_X6_62 kw_ac1 kw_ac2 kw_ac3 (by decide) (by decide) (by decide) (by decide) (by decide) (Nat.le_of_ble_eq_true rfl) dX6_mount_11 (fun S_1 => ?_)
  refine g_aload_n (pc := 14) C dX6_mount_14 1 rfl rfl ?_
  refine g_getR (pc := 15) C lk_X6_68 (frC_1 _ hj) dX6_mount_15 ?_
  refine g_iconst (pc := 18) C (v := 0) dX6_mount_18 (by decide) ?_
  refine g_aload_n (pc := 19) C dX6_mount_19 0 rfl rfl ?_
  refine g_getR (pc := 20) C lk_X6_15 fr_44_2 dX6_mount_20 ?_
  refine g_iconst (pc := 23) C (v := 0) dX6_mount_23 (by decide) ?_
  refine g_iconst (pc := 24) C (v := 5) dX6_mount_24 (by decide) ?_
  refine g_copy (pc := 25) C (aiC_2 _ hj) ai_46 kw_X6_62 kw_ac1 kw_ac2 kw_ac3 (by decide) (by decide) (by decide) (by decide) (by decide) (Nat.le_of_ble_eq_true rfl) dX6_mount_25 (fun S_2 => ?_)
  refine g_aload_n (pc := 28) C dX6_mount_28 0 rfl rfl ?_
  refine g_getR (pc := 29) C lk_X6_55 fr_44_0 dX6_mount_29 ?_
  refine g_getR (pc := 32) C lk_X6_69 fr_3_3 dX6_mount_32 ?_
  refine g_iconst (pc := 35) C (v := 0) dX6_mount_35 (by decide) ?_
  refine g_aload_n (pc := 36) C dX6_mount_36 0 rfl rfl ?_
  refine g_getR (pc := 37) C lk_X6_21 fr_44_4 dX6_mount_37 ?_
  refine g_iconst (pc := 40) C (v := 0) dX6_mount_40 (by decide) ?_
  refine g_bipush (pc := 41) C (v := 12) dX6_mount_41 (by decide) ?_
  refine g_copy (pc := 43) C ai_7 ai_48 kw_X6_62 kw_ac1 kw_ac2 kw_ac3 (by decide) (by decide) (by decide) (by decide) (by decide) (Nat.le_of_ble_eq_true rfl) dX6_mount_43 (fun S_3 => ?_)
  refine g_aload_n (pc := 46) C dX6_mount_46 0 rfl rfl ?_
  refine g_getR (pc := 47) C lk_X6_18 fr_44_3 dX6_mount_47 ?_
  refine g_iconst (pc := 50) C (v := 0) dX6_mount_50 (by decide) ?_
  refine g_callSV (pc := 51) (As := [.ref (gX Γ 47), .int 0]) (st := []) C ls_X6_72 (ct_fill _ _ ai_47 0 S_3) (by decide) rfl rfl (Nat.le_of_ble_eq_true rfl) dX6_mount_51 (fun r_5 S_4 => ?_)
  refine g_aload_n (pc := 54) C dX6_mount_54 0 rfl rfl ?_
  refine g_aload_n (pc := 55) C dX6_mount_55 1 rfl rfl ?_
  refine g_getI (pc := 56) C lk_X6_78 (fiC_2 _ hj) dX6_mount_56 ?_
  refine g_putI (pc := 59) C lp_X6_24 fi_44_5 dX6_mount_59 (fun S_6 => ?_)
  refine g_aload_n (pc := 62) C dX6_mount_62 0 rfl rfl ?_
  refine g_aload_n (pc := 63) C dX6_mount_63 1 rfl rfl ?_
  refine g_getI (pc := 64) C lk_X6_79 (fiC_3 _ hj) dX6_mount_64 ?_
  refine g_putI (pc := 67) C lp_X6_28 fi_44_6 dX6_mount_67 (fun S_7 => ?_)
  refine g_aload_n (pc := 70) C dX6_mount_70 0 rfl rfl ?_
  refine g_iload_n (pc := 71) C dX6_mount_71 2 rfl rfl ?_
  refine g_putI (pc := 72) C lp_X6_31 fi_44_7 dX6_mount_72 (fun S_8 => ?_)
  exact g_vret C M dX6_mount_75
theorem ct_X6_mount {Γ : GA} (j : Nat) (hj : j < 8) (x2 : Int32) (S : St) : CtV Γ yX6_mount cX6_mount 3 none 1 [.ref (gX Γ 44), .ref (gX Γ (9 + 3 * j)), .int x2] S (f_X6_mount j x2 S) :=
  ctV_of (by decide) (Nat.le_of_ble_eq_true rfl) (fun _ C M => p_X6_mount C M j hj x2 S)
set_option maxRecDepth 100000 in
set_option maxHeartbeats 4000000 in
theorem p_X6_root_b25 {Γ : GA} {E : EV} (C : Cx Γ E RX6 cX6_root 3 0 (some .int)) (M : Mx Γ E) (k6 : Int32 → Int32 → Int32 → St → Option (Int32 × St)) (hk6 : ∀ (x0 : Int32) (x1 : Int32) (x2 : Int32) (S : St), G Γ E (QI Γ E) 3 6 [(0, .int x0), (1, .int x1), (2, .int x2)] [] S (k6 x0 x1 x2 S)) (x0 : Int32) (x1 : Int32) (x2 : Int32) (S : St) : G Γ E (QI Γ E) 3 25 [(0, .int x0), (1, .int x1), (2, .int x2)] [] S (f_X6_root_b25 k6 x0 x1 x2 S) := by
  rw [f_X6_root_b25]
  refine g_iload_n (pc := 25) C dX6_root_25 2 rfl rfl ?_
  refine g_iconst (pc := 26) C (v := 2) dX6_root_26 (by decide) ?_
  refine g_idiv (pc := 27) C dX6_root_27 ?_
  refine g_istore_n (pc := 28) C dX6_root_28 rfl (by decide) (fun x => [(2, .int x), (0, .int x0), (1, .int x1)]) (fun _ => rfl) (fun x2_1 => ?_)
  refine g_goto (pc := 29) C 6 dX6_root_29 (by decide) ?_
  exact g_sub [1, 2, 0] rfl (hk6 x0 x1 x2_1 S)
set_option maxRecDepth 100000 in
set_option maxHeartbeats 4000000 in
theorem p_X6_root_l6 {Γ : GA} {E : EV} (C : Cx Γ E RX6 cX6_root 3 0 (some .int)) (M : Mx Γ E) : ∀ (n : Nat) (x0 : Int32) (x1 : Int32) (x2 : Int32) (S : St), G Γ E (QI Γ E) 3 6 [(0, .int x0), (1, .int x1), (2, .int x2)] [] S (f_X6_root_l6 n x0 x1 x2 S) := by
  intro n
  induction n with
  | zero => intro x0 x1 x2 S; exact g_none
  | succ n ih =>
    intro x0 x1 x2 S
    rw [f_X6_root_l6]
    refine g_iload_n (pc := 6) C dX6_root_6 2 rfl rfl ?_
    refine g_if_le (pc := 7) C 32 dX6_root_7 (by decide) ?_ ?_
    · refine g_iload_n (pc := 32) C dX6_root_32 1 rfl rfl ?_
      exact g_iret C M dX6_root_33
    · refine g_iload_n (pc := 10) C dX6_root_10 1 rfl rfl ?_
      refine g_iload_n (pc := 11) C dX6_root_11 2 rfl rfl ?_
      refine g_iadd (pc := 12) C dX6_root_12 ?_
      refine g_iload_n (pc := 13) C dX6_root_13 1 rfl rfl ?_
      refine g_iload_n (pc := 14) C dX6_root_14 2 rfl rfl ?_
      refine g_iadd (pc := 15) C dX6_root_15 ?_
      refine g_imul (pc := 16) C dX6_root_16 ?_
      refine g_iload_n (pc := 17) C dX6_root_17 0 rfl rfl ?_
      refine g_icmp_gt (pc := 18) C 25 dX6_root_18 (by decide) ?_ ?_
      · exact g_sub [0, 1, 2] rfl (p_X6_root_b25 C M (f_X6_root_l6 n) ih x0 x1 x2 S)
      · refine g_iload_n (pc := 21) C dX6_root_21 1 rfl rfl ?_
        refine g_iload_n (pc := 22) C dX6_root_22 2 rfl rfl ?_
        refine g_iadd (pc := 23) C dX6_root_23 ?_
        refine g_istore_n (pc := 24) C dX6_root_24 rfl (by decide) (fun x => [(1, .int x), (0, .int x0), (2, .int x2)]) (fun _ => rfl) (fun x1_2 => ?_)
        exact g_sub [1, 0, 2] rfl (p_X6_root_b25 C M (f_X6_root_l6 n) ih x0 x1_2 x2 S)
set_option maxRecDepth 100000 in
set_option maxHeartbeats 4000000 in
theorem p_X6_root {Γ : GA} {E : EV} (C : Cx Γ E RX6 cX6_root 3 0 (some .int)) (M : Mx Γ E) (x0 : Int32) (S : St) : G Γ E (QI Γ E) 3 0 [(0, .int x0)] [] S (f_X6_root x0 S) := by
  rw [f_X6_root]
  refine g_iconst (pc := 0) C (v := 0) dX6_root_0 (by decide) ?_
  refine g_istore_n0 (pc := 1) C dX6_root_1 rfl (by decide) (lv' := [(1, .int 0), (0, .int x0)]) rfl ?_
  refine g_sipush (pc := 2) C (v := 128) dX6_root_2 (by decide) ?_
  refine g_istore_n0 (pc := 5) C dX6_root_5 rfl (by decide) (lv' := [(2, .int 128), (1, .int 0), (0, .int x0)]) rfl ?_
  exact g_sub [2, 1, 0] rfl (p_X6_root_l6 C M FU x0 0 128 S)
theorem ct_X6_root {Γ : GA} (x0 : Int32) (S : St) : CtI Γ yX6_root cX6_root 3 (some .int) 0 [.int x0] S (f_X6_root x0 S) :=
  ctI_of (by decide) (Nat.le_of_ble_eq_true rfl) (fun _ C M => p_X6_root C M x0 S)
