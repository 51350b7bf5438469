theorem mem_places {big ws : List Cond} (ps : List Nat) (hp : ws = ps.filterMap (fun i => big[i]?)) : ∀ w ∈ ws, w ∈ big := by
  intro w hw
  rw [hp] at hw
  obtain ⟨i, -, hi⟩ := List.mem_filterMap.mp hw
  exact List.mem_of_getElem? hi
theorem uw_7 : ∀ w ∈ u_ws RX7 TX7 11, w ∈ WT := fun w hw => mem_WT (mem_places [336, 338, 340, 342, 344, 346, 348, 350, 352, 354, 356] (by decide +kernel) w hw) (List.all_eq_true.mp (show (u_ws RX7 TX7 11).all goodWord = true by decide +kernel) w hw)
theorem lk_X7_12 : LK RX7 12 7 0 := ⟨_, _, _, rfl, by decide, uw_7, Or.inl (mem_WT (List.mem_of_getElem? (i := 325) (by decide +kernel)) rfl)⟩
theorem fr_0_0 : FR 0 7 0 1 := ⟨by decide, fun _ _ => ⟨_, rfl, rfl⟩⟩
theorem uw_5 : ∀ w ∈ u_ws RX5 TX5 2, w ∈ WT := fun w hw => mem_WT (mem_places [119, 121] (by decide +kernel) w hw) (List.all_eq_true.mp (show (u_ws RX5 TX5 2).all goodWord = true by decide +kernel) w hw)
theorem lk_X7_78 : LK RX7 78 5 1 := ⟨_, _, _, rfl, by decide, uw_5, Or.inr ⟨"CartsDownHill", List.mem_of_getElem? (i := 118) (by decide +kernel)⟩⟩
theorem fi_1_1 : FI 1 5 1 := ⟨by decide, fun _ _ => ⟨_, rfl, rfl, Nat.le_of_ble_eq_true rfl, fun _ => rfl⟩⟩
theorem ls_X7_74 : LSt RX7 74 yX7_codeAt cX7_codeAt 3 (some .int) 2 := ⟨⟨mem_WT (List.mem_of_getElem? (i := 365) (by decide +kernel)) rfl, mem_WT (List.mem_of_getElem? (i := 81) (by decide +kernel)) rfl, by decide +kernel, by decide, Or.inl (mem_WT (List.mem_of_getElem? (i := 363) (by decide +kernel)) rfl)⟩, mem_WT (List.mem_of_getElem? (i := 364) (by decide +kernel)) rfl⟩
theorem lv_X7_81 : LVi RX7 81 yX5_put cX5_put 2 none 1 := ⟨⟨mem_WT (List.mem_of_getElem? (i := 369) (by decide +kernel)) rfl, mem_WT (List.mem_of_getElem? (i := 82) (by decide +kernel)) rfl, by decide +kernel, by decide, Or.inr ⟨"CartsDownHill", List.mem_of_getElem? (i := 366) (by decide +kernel)⟩⟩, mem_WT (List.mem_of_getElem? (i := 368) (by decide +kernel)) rfl, mem_WT (List.mem_of_getElem? (i := 0) (by decide +kernel)) rfl⟩
theorem lk_X5_15 : LK RX5 15 5 1 := ⟨_, _, _, rfl, by decide, uw_5, Or.inl (mem_WT (List.mem_of_getElem? (i := 115) (by decide +kernel)) rfl)⟩
theorem lk_X5_9 : LK RX5 9 5 0 := ⟨_, _, _, rfl, by decide, uw_5, Or.inl (mem_WT (List.mem_of_getElem? (i := 113) (by decide +kernel)) rfl)⟩
theorem fr_1_0 : FR 1 5 0 2 := ⟨by decide, fun _ _ => ⟨_, rfl, rfl⟩⟩
theorem ai_2 : AI 2 50 := ⟨by decide, by decide, fun _ _ => rfl⟩
theorem lp_X5_15 : LPu RX5 15 5 1 .int := ⟨_, _, _, tyX5, rfl, by decide, uw_5, tyX5_ok, nmX5, rfl, by decide +kernel, Or.inl (mem_WT (List.mem_of_getElem? (i := 115) (by decide +kernel)) rfl)⟩
theorem fo_1 : FO 1 5 := ⟨by decide, fun _ _ => ⟨_, rfl⟩⟩
theorem lp_X7_78 : LPu RX7 78 5 1 .int := ⟨_, _, _, tyX5, rfl, by decide, uw_5, tyX5_ok, nmX5, rfl, by decide +kernel, Or.inr ⟨"CartsDownHill", List.mem_of_getElem? (i := 118) (by decide +kernel)⟩⟩
theorem lv_X7_85 : LVi RX7 85 yX5_hillFault cX5_hillFault 3 (some .int) 0 := ⟨⟨mem_WT (List.mem_of_getElem? (i := 381) (by decide +kernel)) rfl, mem_WT (List.mem_of_getElem? (i := 82) (by decide +kernel)) rfl, by decide +kernel, by decide, Or.inr ⟨"CartsDownHill", List.mem_of_getElem? (i := 378) (by decide +kernel)⟩⟩, mem_WT (List.mem_of_getElem? (i := 380) (by decide +kernel)) rfl, mem_WT (List.mem_of_getElem? (i := 1) (by decide +kernel)) rfl⟩
theorem lv_X5_26 : LVi RX5 26 yX5_fitsHill cX5_fitsHill 5 (some .boolean) 2 := ⟨⟨mem_WT (List.mem_of_getElem? (i := 385) (by decide +kernel)) rfl, mem_WT (List.mem_of_getElem? (i := 82) (by decide +kernel)) rfl, by decide +kernel, by decide, Or.inl (mem_WT (List.mem_of_getElem? (i := 382) (by decide +kernel)) rfl)⟩, mem_WT (List.mem_of_getElem? (i := 384) (by decide +kernel)) rfl, mem_WT (List.mem_of_getElem? (i := 2) (by decide +kernel)) rfl⟩
theorem lv_X5_19 : LVi RX5 19 yX5_at cX5_at 2 (some .int) 1 := ⟨⟨mem_WT (List.mem_of_getElem? (i := 389) (by decide +kernel)) rfl, mem_WT (List.mem_of_getElem? (i := 82) (by decide +kernel)) rfl, by decide +kernel, by decide, Or.inl (mem_WT (List.mem_of_getElem? (i := 386) (by decide +kernel)) rfl)⟩, mem_WT (List.mem_of_getElem? (i := 388) (by decide +kernel)) rfl, mem_WT (List.mem_of_getElem? (i := 3) (by decide +kernel)) rfl⟩
theorem lv_X5_30 : LVi RX5 30 yX5_isDigit cX5_isDigit 3 (some .boolean) 2 := ⟨⟨mem_WT (List.mem_of_getElem? (i := 393) (by decide +kernel)) rfl, mem_WT (List.mem_of_getElem? (i := 82) (by decide +kernel)) rfl, by decide +kernel, by decide, Or.inl (mem_WT (List.mem_of_getElem? (i := 390) (by decide +kernel)) rfl)⟩, mem_WT (List.mem_of_getElem? (i := 392) (by decide +kernel)) rfl, mem_WT (List.mem_of_getElem? (i := 4) (by decide +kernel)) rfl⟩
theorem lv_X5_23 : LVi RX5 23 yX5_digitAt cX5_digitAt 2 (some .int) 1 := ⟨⟨mem_WT (List.mem_of_getElem? (i := 397) (by decide +kernel)) rfl, mem_WT (List.mem_of_getElem? (i := 82) (by decide +kernel)) rfl, by decide +kernel, by decide, Or.inl (mem_WT (List.mem_of_getElem? (i := 394) (by decide +kernel)) rfl)⟩, mem_WT (List.mem_of_getElem? (i := 396) (by decide +kernel)) rfl, mem_WT (List.mem_of_getElem? (i := 5) (by decide +kernel)) rfl⟩
theorem lv_X7_89 : LVi RX7 89 yX5_cartFault cX5_cartFault 2 (some .int) 0 := ⟨⟨mem_WT (List.mem_of_getElem? (i := 401) (by decide +kernel)) rfl, mem_WT (List.mem_of_getElem? (i := 82) (by decide +kernel)) rfl, by decide +kernel, by decide, Or.inr ⟨"CartsDownHill", List.mem_of_getElem? (i := 398) (by decide +kernel)⟩⟩, mem_WT (List.mem_of_getElem? (i := 400) (by decide +kernel)) rfl, mem_WT (List.mem_of_getElem? (i := 6) (by decide +kernel)) rfl⟩
theorem lv_X5_41 : LVi RX5 41 yX5_fitsCart cX5_fitsCart 2 (some .boolean) 1 := ⟨⟨mem_WT (List.mem_of_getElem? (i := 405) (by decide +kernel)) rfl, mem_WT (List.mem_of_getElem? (i := 82) (by decide +kernel)) rfl, by decide +kernel, by decide, Or.inl (mem_WT (List.mem_of_getElem? (i := 402) (by decide +kernel)) rfl)⟩, mem_WT (List.mem_of_getElem? (i := 404) (by decide +kernel)) rfl, mem_WT (List.mem_of_getElem? (i := 7) (by decide +kernel)) rfl⟩
theorem lv_X5_45 : LVi RX5 45 yX5_kindAt cX5_kindAt 2 (some .int) 1 := ⟨⟨mem_WT (List.mem_of_getElem? (i := 409) (by decide +kernel)) rfl, mem_WT (List.mem_of_getElem? (i := 82) (by decide +kernel)) rfl, by decide +kernel, by decide, Or.inl (mem_WT (List.mem_of_getElem? (i := 406) (by decide +kernel)) rfl)⟩, mem_WT (List.mem_of_getElem? (i := 408) (by decide +kernel)) rfl, mem_WT (List.mem_of_getElem? (i := 8) (by decide +kernel)) rfl⟩
theorem lv_X5_53 : LVi RX5 53 yJ0_indexOf_0f7a4 cJ0_indexOf_0f7a4 2 (some .int) 1 := ⟨⟨mem_WT (List.mem_of_getElem? (i := 414) (by decide +kernel)) rfl, mem_WT (List.mem_of_getElem? (i := 90) (by decide +kernel)) rfl, by decide +kernel, by decide, Or.inl (mem_WT (List.mem_of_getElem? (i := 411) (by decide +kernel)) rfl)⟩, mem_WT (List.mem_of_getElem? (i := 412) (by decide +kernel)) rfl, mem_WT (List.mem_of_getElem? (i := 413) (by decide +kernel)) rfl⟩
theorem lv_X7_92 : LVi RX7 92 yX5_isHill cX5_isHill 2 (some .boolean) 0 := ⟨⟨mem_WT (List.mem_of_getElem? (i := 505) (by decide +kernel)) rfl, mem_WT (List.mem_of_getElem? (i := 82) (by decide +kernel)) rfl, by decide +kernel, by decide, Or.inr ⟨"CartsDownHill", List.mem_of_getElem? (i := 502) (by decide +kernel)⟩⟩, mem_WT (List.mem_of_getElem? (i := 504) (by decide +kernel)) rfl, mem_WT (List.mem_of_getElem? (i := 9) (by decide +kernel)) rfl⟩
theorem lv_X5_34 : LVi RX5 34 yX5_hillFault cX5_hillFault 3 (some .int) 0 := ⟨⟨mem_WT (List.mem_of_getElem? (i := 381) (by decide +kernel)) rfl, mem_WT (List.mem_of_getElem? (i := 82) (by decide +kernel)) rfl, by decide +kernel, by decide, Or.inl (mem_WT (List.mem_of_getElem? (i := 506) (by decide +kernel)) rfl)⟩, mem_WT (List.mem_of_getElem? (i := 380) (by decide +kernel)) rfl, mem_WT (List.mem_of_getElem? (i := 1) (by decide +kernel)) rfl⟩
theorem lv_X5_38 : LVi RX5 38 yX5_commas cX5_commas 3 (some .int) 0 := ⟨⟨mem_WT (List.mem_of_getElem? (i := 510) (by decide +kernel)) rfl, mem_WT (List.mem_of_getElem? (i := 82) (by decide +kernel)) rfl, by decide +kernel, by decide, Or.inl (mem_WT (List.mem_of_getElem? (i := 507) (by decide +kernel)) rfl)⟩, mem_WT (List.mem_of_getElem? (i := 509) (by decide +kernel)) rfl, mem_WT (List.mem_of_getElem? (i := 10) (by decide +kernel)) rfl⟩
theorem lk_X7_19 : LK RX7 19 7 1 := ⟨_, _, _, rfl, by decide, uw_7, Or.inl (mem_WT (List.mem_of_getElem? (i := 326) (by decide +kernel)) rfl)⟩
theorem fr_0_1 : FR 0 7 1 3 := ⟨by decide, fun _ _ => ⟨_, rfl, rfl⟩⟩
theorem lv_X7_96 : LVi RX7 96 yX3_read cX3_read 4 none 1 := ⟨⟨mem_WT (List.mem_of_getElem? (i := 514) (by decide +kernel)) rfl, mem_WT (List.mem_of_getElem? (i := 83) (by decide +kernel)) rfl, by decide +kernel, by decide, Or.inr ⟨"CartsDownHill", List.mem_of_getElem? (i := 511) (by decide +kernel)⟩⟩, mem_WT (List.mem_of_getElem? (i := 513) (by decide +kernel)) rfl, mem_WT (List.mem_of_getElem? (i := 11) (by decide +kernel)) rfl⟩
theorem uw_3 : ∀ w ∈ u_ws RX3 TX3 6, w ∈ WT := fun w hw => mem_WT (mem_places [148, 150, 152, 154, 156, 158] (by decide +kernel) w hw) (List.all_eq_true.mp (show (u_ws RX3 TX3 6).all goodWord = true by decide +kernel) w hw)
theorem lk_X3_15 : LK RX3 15 3 1 := ⟨_, _, _, rfl, by decide, uw_3, Or.inl (mem_WT (List.mem_of_getElem? (i := 134) (by decide +kernel)) rfl)⟩
theorem fr_3_1 : FR 3 3 1 5 := ⟨by decide, fun _ _ => ⟨_, rfl, rfl⟩⟩
theorem ls_X3_31 : LSt RX3 31 yJ7_fill_53178 cJ7_fill_53178 4 none 2 := ⟨⟨mem_WT (List.mem_of_getElem? (i := 517) (by decide +kernel)) rfl, mem_WT (List.mem_of_getElem? (i := 96) (by decide +kernel)) rfl, by decide +kernel, by decide, Or.inl (mem_WT (List.mem_of_getElem? (i := 515) (by decide +kernel)) rfl)⟩, mem_WT (List.mem_of_getElem? (i := 516) (by decide +kernel)) rfl⟩
theorem ai_5 : AI 5 12 := ⟨by decide, by decide, fun _ _ => rfl⟩
theorem lk_X3_18 : LK RX3 18 3 2 := ⟨_, _, _, rfl, by decide, uw_3, Or.inl (mem_WT (List.mem_of_getElem? (i := 137) (by decide +kernel)) rfl)⟩
theorem fr_3_2 : FR 3 3 2 6 := ⟨by decide, fun _ _ => ⟨_, rfl, rfl⟩⟩
theorem ai_6 : AI 6 12 := ⟨by decide, by decide, fun _ _ => rfl⟩
theorem lk_X3_21 : LK RX3 21 3 3 := ⟨_, _, _, rfl, by decide, uw_3, Or.inl (mem_WT (List.mem_of_getElem? (i := 140) (by decide +kernel)) rfl)⟩
theorem fr_3_3 : FR 3 3 3 7 := ⟨by decide, fun _ _ => ⟨_, rfl, rfl⟩⟩
theorem ai_7 : AI 7 12 := ⟨by decide, by decide, fun _ _ => rfl⟩
theorem lk_X3_37 : LK RX3 37 5 1 := ⟨_, _, _, rfl, by decide, uw_5, Or.inr ⟨"CartsDownHill", List.mem_of_getElem? (i := 117) (by decide +kernel)⟩⟩
theorem kw_X3_51 : Cond.methodLink RX3 51 Lib.Math.min.name ∈ WT := mem_WT (List.mem_of_getElem? (i := 524) (by decide +kernel)) rfl
theorem kw_mmin1 : Cond.static Lib.Math.min.name ∈ WT := mem_WT (List.mem_of_getElem? (i := 443) (by decide +kernel)) rfl
theorem kw_m2 : Cond.initialized "java/lang/Math" ∈ WT := mem_WT (List.mem_of_getElem? (i := 92) (by decide +kernel)) rfl
theorem kw_mmin3 : Cond.code Lib.Math.min.name Lib.Math.min.code 2 (some .int) ∈ WT := mem_WT (List.mem_of_getElem? (i := 444) (by decide +kernel)) rfl
theorem lp_X3_24 : LPu RX3 24 3 4 .int := ⟨_, _, _, tyX3, rfl, by decide, uw_3, tyX3_ok, nmX3, rfl, by decide +kernel, Or.inl (mem_WT (List.mem_of_getElem? (i := 143) (by decide +kernel)) rfl)⟩
theorem lk_X3_28 : LK RX3 28 3 5 := ⟨_, _, _, rfl, by decide, uw_3, Or.inl (mem_WT (List.mem_of_getElem? (i := 146) (by decide +kernel)) rfl)⟩
theorem fi_3_5 : FI 3 3 5 := ⟨by decide, fun _ _ => ⟨_, rfl, rfl, Nat.le_of_ble_eq_true rfl, fun _ => rfl⟩⟩
theorem lp_X3_28 : LPu RX3 28 3 5 .int := ⟨_, _, _, tyX3, rfl, by decide, uw_3, tyX3_ok, nmX3, rfl, by decide +kernel, Or.inl (mem_WT (List.mem_of_getElem? (i := 146) (by decide +kernel)) rfl)⟩
theorem fi_3_4 : FI 3 3 4 := ⟨by decide, fun _ _ => ⟨_, rfl, rfl, Nat.le_of_ble_eq_true rfl, fun _ => rfl⟩⟩
theorem lv_X3_40 : LVi RX3 40 yX5_at cX5_at 2 (some .int) 1 := ⟨⟨mem_WT (List.mem_of_getElem? (i := 389) (by decide +kernel)) rfl, mem_WT (List.mem_of_getElem? (i := 82) (by decide +kernel)) rfl, by decide +kernel, by decide, Or.inr ⟨"CartsDownHill", List.mem_of_getElem? (i := 518) (by decide +kernel)⟩⟩, mem_WT (List.mem_of_getElem? (i := 388) (by decide +kernel)) rfl, mem_WT (List.mem_of_getElem? (i := 3) (by decide +kernel)) rfl⟩
theorem lv_X3_44 : LVi RX3 44 yX5_digitAt cX5_digitAt 2 (some .int) 1 := ⟨⟨mem_WT (List.mem_of_getElem? (i := 397) (by decide +kernel)) rfl, mem_WT (List.mem_of_getElem? (i := 82) (by decide +kernel)) rfl, by decide +kernel, by decide, Or.inr ⟨"CartsDownHill", List.mem_of_getElem? (i := 519) (by decide +kernel)⟩⟩, mem_WT (List.mem_of_getElem? (i := 396) (by decide +kernel)) rfl, mem_WT (List.mem_of_getElem? (i := 5) (by decide +kernel)) rfl⟩
theorem lv_X3_47 : LVi RX3 47 yX3_readDrop cX3_readDrop 4 none 3 := ⟨⟨mem_WT (List.mem_of_getElem? (i := 523) (by decide +kernel)) rfl, mem_WT (List.mem_of_getElem? (i := 83) (by decide +kernel)) rfl, by decide +kernel, by decide, Or.inl (mem_WT (List.mem_of_getElem? (i := 520) (by decide +kernel)) rfl)⟩, mem_WT (List.mem_of_getElem? (i := 522) (by decide +kernel)) rfl, mem_WT (List.mem_of_getElem? (i := 12) (by decide +kernel)) rfl⟩
theorem lk_X3_9 : LK RX3 9 3 0 := ⟨_, _, _, rfl, by decide, uw_3, Or.inl (mem_WT (List.mem_of_getElem? (i := 131) (by decide +kernel)) rfl)⟩
theorem fr_3_0 : FR 3 3 0 4 := ⟨by decide, fun _ _ => ⟨_, rfl, rfl⟩⟩
theorem ai_4 : AI 4 12 := ⟨by decide, by decide, fun _ _ => rfl⟩
theorem fo_3 : FO 3 3 := ⟨by decide, fun _ _ => ⟨_, rfl⟩⟩
theorem lk_X7_100 : LK RX7 100 3 4 := ⟨_, _, _, rfl, by decide, uw_3, Or.inr ⟨"CartsDownHill", List.mem_of_getElem? (i := 145) (by decide +kernel)⟩⟩
theorem lv_X7_101 : LVi RX7 101 yX5_isCart cX5_isCart 1 (some .boolean) 0 := ⟨⟨mem_WT (List.mem_of_getElem? (i := 532) (by decide +kernel)) rfl, mem_WT (List.mem_of_getElem? (i := 82) (by decide +kernel)) rfl, by decide +kernel, by decide, Or.inr ⟨"CartsDownHill", List.mem_of_getElem? (i := 529) (by decide +kernel)⟩⟩, mem_WT (List.mem_of_getElem? (i := 531) (by decide +kernel)) rfl, mem_WT (List.mem_of_getElem? (i := 13) (by decide +kernel)) rfl⟩
theorem lv_X5_48 : LVi RX5 48 yX5_cartFault cX5_cartFault 2 (some .int) 0 := ⟨⟨mem_WT (List.mem_of_getElem? (i := 401) (by decide +kernel)) rfl, mem_WT (List.mem_of_getElem? (i := 82) (by decide +kernel)) rfl, by decide +kernel, by decide, Or.inl (mem_WT (List.mem_of_getElem? (i := 533) (by decide +kernel)) rfl)⟩, mem_WT (List.mem_of_getElem? (i := 400) (by decide +kernel)) rfl, mem_WT (List.mem_of_getElem? (i := 6) (by decide +kernel)) rfl⟩
theorem lk_X7_67 : LK RX7 67 7 9 := ⟨_, _, _, rfl, by decide, uw_7, Or.inl (mem_WT (List.mem_of_getElem? (i := 334) (by decide +kernel)) rfl)⟩
theorem fi_0_9 : FI 0 7 9 := ⟨by decide, fun _ _ => ⟨_, rfl, rfl, Nat.le_of_ble_eq_true rfl, fun _ => rfl⟩⟩
theorem lk_X7_25 : LK RX7 25 7 2 := ⟨_, _, _, rfl, by decide, uw_7, Or.inl (mem_WT (List.mem_of_getElem? (i := 327) (by decide +kernel)) rfl)⟩
theorem fr_0_2 : FR 0 7 2 8 := ⟨by decide, fun _ _ => ⟨_, rfl, rfl⟩⟩
theorem aq_8 : AQ 8 8 (fun i => 9 + 3 * i) := ⟨by decide, fun _ _ => rfl⟩
theorem lv_X7_104 : LVi RX7 104 yX1_read cX1_read 3 none 1 := ⟨⟨mem_WT (List.mem_of_getElem? (i := 537) (by decide +kernel)) rfl, mem_WT (List.mem_of_getElem? (i := 84) (by decide +kernel)) rfl, by decide +kernel, by decide, Or.inr ⟨"CartsDownHill", List.mem_of_getElem? (i := 534) (by decide +kernel)⟩⟩, mem_WT (List.mem_of_getElem? (i := 536) (by decide +kernel)) rfl, mem_WT (List.mem_of_getElem? (i := 14) (by decide +kernel)) rfl⟩
theorem lv_X1_25 : LVi RX1 25 yX5_digitAt cX5_digitAt 2 (some .int) 1 := ⟨⟨mem_WT (List.mem_of_getElem? (i := 397) (by decide +kernel)) rfl, mem_WT (List.mem_of_getElem? (i := 82) (by decide +kernel)) rfl, by decide +kernel, by decide, Or.inr ⟨"CartsDownHill", List.mem_of_getElem? (i := 538) (by decide +kernel)⟩⟩, mem_WT (List.mem_of_getElem? (i := 396) (by decide +kernel)) rfl, mem_WT (List.mem_of_getElem? (i := 5) (by decide +kernel)) rfl⟩
theorem uw_1 : ∀ w ∈ u_ws RX1 TX1 4, w ∈ WT := fun w hw => mem_WT (mem_places [180, 182, 184, 186] (by decide +kernel) w hw) (List.all_eq_true.mp (show (u_ws RX1 TX1 4).all goodWord = true by decide +kernel) w hw)
theorem lp_X1_22 : LPu RX1 22 1 3 .int := ⟨_, _, _, tyX1, rfl, by decide, uw_1, tyX1_ok, nmX1, rfl, by decide +kernel, Or.inl (mem_WT (List.mem_of_getElem? (i := 177) (by decide +kernel)) rfl)⟩
theorem lp_X1_18 : LPu RX1 18 1 2 .int := ⟨_, _, _, tyX1, rfl, by decide, uw_1, tyX1_ok, nmX1, rfl, by decide +kernel, Or.inl (mem_WT (List.mem_of_getElem? (i := 174) (by decide +kernel)) rfl)⟩
theorem lk_X1_31 : LK RX1 31 5 1 := ⟨_, _, _, rfl, by decide, uw_5, Or.inr ⟨"CartsDownHill", List.mem_of_getElem? (i := 116) (by decide +kernel)⟩⟩
theorem lk_X1_18 : LK RX1 18 1 2 := ⟨_, _, _, rfl, by decide, uw_1, Or.inl (mem_WT (List.mem_of_getElem? (i := 174) (by decide +kernel)) rfl)⟩
theorem fiC_2 : ∀ j : Nat, j < 8 → FI (9 + 3 * j) 1 2
  | 0, _ => ⟨by decide, fun _ _ => ⟨_, rfl, rfl, Nat.le_of_ble_eq_true rfl, fun _ => rfl⟩⟩
  | 1, _ => ⟨by decide, fun _ _ => ⟨_, rfl, rfl, Nat.le_of_ble_eq_true rfl, fun _ => rfl⟩⟩
  | 2, _ => ⟨by decide, fun _ _ => ⟨_, rfl, rfl, Nat.le_of_ble_eq_true rfl, fun _ => rfl⟩⟩
  | 3, _ => ⟨by decide, fun _ _ => ⟨_, rfl, rfl, Nat.le_of_ble_eq_true rfl, fun _ => rfl⟩⟩
  | 4, _ => ⟨by decide, fun _ _ => ⟨_, rfl, rfl, Nat.le_of_ble_eq_true rfl, fun _ => rfl⟩⟩
  | 5, _ => ⟨by decide, fun _ _ => ⟨_, rfl, rfl, Nat.le_of_ble_eq_true rfl, fun _ => rfl⟩⟩
  | 6, _ => ⟨by decide, fun _ _ => ⟨_, rfl, rfl, Nat.le_of_ble_eq_true rfl, fun _ => rfl⟩⟩
  | 7, _ => ⟨by decide, fun _ _ => ⟨_, rfl, rfl, Nat.le_of_ble_eq_true rfl, fun _ => rfl⟩⟩
  | j + 8, h => absurd h (by omega)
theorem lk_X1_9 : LK RX1 9 1 0 := ⟨_, _, _, rfl, by decide, uw_1, Or.inl (mem_WT (List.mem_of_getElem? (i := 168) (by decide +kernel)) rfl)⟩
theorem frC_0 : ∀ j : Nat, j < 8 → FR (9 + 3 * j) 1 0 (9 + 3 * j + 1)
  | 0, _ => ⟨by decide, fun _ _ => ⟨_, rfl, rfl⟩⟩
  | 1, _ => ⟨by decide, fun _ _ => ⟨_, rfl, rfl⟩⟩
  | 2, _ => ⟨by decide, fun _ _ => ⟨_, rfl, rfl⟩⟩
  | 3, _ => ⟨by decide, fun _ _ => ⟨_, rfl, rfl⟩⟩
  | 4, _ => ⟨by decide, fun _ _ => ⟨_, rfl, rfl⟩⟩
  | 5, _ => ⟨by decide, fun _ _ => ⟨_, rfl, rfl⟩⟩
  | 6, _ => ⟨by decide, fun _ _ => ⟨_, rfl, rfl⟩⟩
  | 7, _ => ⟨by decide, fun _ _ => ⟨_, rfl, rfl⟩⟩
  | j + 8, h => absurd h (by omega)
theorem lv_X1_32 : LVi RX1 32 yX5_kindAt cX5_kindAt 2 (some .int) 1 := ⟨⟨mem_WT (List.mem_of_getElem? (i := 409) (by decide +kernel)) rfl, mem_WT (List.mem_of_getElem? (i := 82) (by decide +kernel)) rfl, by decide +kernel, by decide, Or.inr ⟨"CartsDownHill", List.mem_of_getElem? (i := 539) (by decide +kernel)⟩⟩, mem_WT (List.mem_of_getElem? (i := 408) (by decide +kernel)) rfl, mem_WT (List.mem_of_getElem? (i := 8) (by decide +kernel)) rfl⟩
theorem aiC_1 : ∀ j : Nat, j < 8 → AI (9 + 3 * j + 1) 5
  | 0, _ => ⟨by decide, by decide, fun _ _ => rfl⟩
  | 1, _ => ⟨by decide, by decide, fun _ _ => rfl⟩
  | 2, _ => ⟨by decide, by decide, fun _ _ => rfl⟩
  | 3, _ => ⟨by decide, by decide, fun _ _ => rfl⟩
  | 4, _ => ⟨by decide, by decide, fun _ _ => rfl⟩
  | 5, _ => ⟨by decide, by decide, fun _ _ => rfl⟩
  | 6, _ => ⟨by decide, by decide, fun _ _ => rfl⟩
  | 7, _ => ⟨by decide, by decide, fun _ _ => rfl⟩
  | j + 8, h => absurd h (by omega)
theorem lk_X1_15 : LK RX1 15 1 1 := ⟨_, _, _, rfl, by decide, uw_1, Or.inl (mem_WT (List.mem_of_getElem? (i := 171) (by decide +kernel)) rfl)⟩
theorem frC_1 : ∀ j : Nat, j < 8 → FR (9 + 3 * j) 1 1 (9 + 3 * j + 2)
  | 0, _ => ⟨by decide, fun _ _ => ⟨_, rfl, rfl⟩⟩
  | 1, _ => ⟨by decide, fun _ _ => ⟨_, rfl, rfl⟩⟩
  | 2, _ => ⟨by decide, fun _ _ => ⟨_, rfl, rfl⟩⟩
  | 3, _ => ⟨by decide, fun _ _ => ⟨_, rfl, rfl⟩⟩
  | 4, _ => ⟨by decide, fun _ _ => ⟨_, rfl, rfl⟩⟩
  | 5, _ => ⟨by decide, fun _ _ => ⟨_, rfl, rfl⟩⟩
  | 6, _ => ⟨by decide, fun _ _ => ⟨_, rfl, rfl⟩⟩
  | 7, _ => ⟨by decide, fun _ _ => ⟨_, rfl, rfl⟩⟩
  | j + 8, h => absurd h (by omega)
theorem aiC_2 : ∀ j : Nat, j < 8 → AI (9 + 3 * j + 2) 5
  | 0, _ => ⟨by decide, by decide, fun _ _ => rfl⟩
  | 1, _ => ⟨by decide, by decide, fun _ _ => rfl⟩
  | 2, _ => ⟨by decide, by decide, fun _ _ => rfl⟩
  | 3, _ => ⟨by decide, by decide, fun _ _ => rfl⟩
  | 4, _ => ⟨by decide, by decide, fun _ _ => rfl⟩
  | 5, _ => ⟨by decide, by decide, fun _ _ => rfl⟩
  | 6, _ => ⟨by decide, by decide, fun _ _ => rfl⟩
  | 7, _ => ⟨by decide, by decide, fun _ _ => rfl⟩
  | j + 8, h => absurd h (by omega)
theorem fiC_3 : ∀ j : Nat, j < 8 → FI (9 + 3 * j) 1 3
  | 0, _ => ⟨by decide, fun _ _ => ⟨_, rfl, rfl, Nat.le_of_ble_eq_true rfl, fun _ => rfl⟩⟩
  | 1, _ => ⟨by decide, fun _ _ => ⟨_, rfl, rfl, Nat.le_of_ble_eq_true rfl, fun _ => rfl⟩⟩
  | 2, _ => ⟨by decide, fun _ _ => ⟨_, rfl, rfl, Nat.le_of_ble_eq_true rfl, fun _ => rfl⟩⟩
  | 3, _ => ⟨by decide, fun _ _ => ⟨_, rfl, rfl, Nat.le_of_ble_eq_true rfl, fun _ => rfl⟩⟩
  | 4, _ => ⟨by decide, fun _ _ => ⟨_, rfl, rfl, Nat.le_of_ble_eq_true rfl, fun _ => rfl⟩⟩
  | 5, _ => ⟨by decide, fun _ _ => ⟨_, rfl, rfl, Nat.le_of_ble_eq_true rfl, fun _ => rfl⟩⟩
  | 6, _ => ⟨by decide, fun _ _ => ⟨_, rfl, rfl, Nat.le_of_ble_eq_true rfl, fun _ => rfl⟩⟩
  | 7, _ => ⟨by decide, fun _ _ => ⟨_, rfl, rfl, Nat.le_of_ble_eq_true rfl, fun _ => rfl⟩⟩
  | j + 8, h => absurd h (by omega)
theorem lp_X7_67 : LPu RX7 67 7 9 .int := ⟨_, _, _, tyX7, rfl, by decide, uw_7, tyX7_ok, nmX7, rfl, by decide +kernel, Or.inl (mem_WT (List.mem_of_getElem? (i := 334) (by decide +kernel)) rfl)⟩
theorem foC : ∀ j : Nat, j < 8 → FO (9 + 3 * j) 1
  | 0, _ => ⟨by decide, fun _ _ => ⟨_, rfl⟩⟩
  | 1, _ => ⟨by decide, fun _ _ => ⟨_, rfl⟩⟩
  | 2, _ => ⟨by decide, fun _ _ => ⟨_, rfl⟩⟩
  | 3, _ => ⟨by decide, fun _ _ => ⟨_, rfl⟩⟩
  | 4, _ => ⟨by decide, fun _ _ => ⟨_, rfl⟩⟩
  | 5, _ => ⟨by decide, fun _ _ => ⟨_, rfl⟩⟩
  | 6, _ => ⟨by decide, fun _ _ => ⟨_, rfl⟩⟩
  | 7, _ => ⟨by decide, fun _ _ => ⟨_, rfl⟩⟩
  | j + 8, h => absurd h (by omega)
theorem lv_X7_105 : LVi RX7 105 yX7_isCell cX7_isCell 2 (some .boolean) 1 := ⟨⟨mem_WT (List.mem_of_getElem? (i := 547) (by decide +kernel)) rfl, mem_WT (List.mem_of_getElem? (i := 81) (by decide +kernel)) rfl, by decide +kernel, by decide, Or.inl (mem_WT (List.mem_of_getElem? (i := 544) (by decide +kernel)) rfl)⟩, mem_WT (List.mem_of_getElem? (i := 546) (by decide +kernel)) rfl, mem_WT (List.mem_of_getElem? (i := 15) (by decide +kernel)) rfl⟩
theorem lk_X7_109 : LK RX7 109 3 0 := ⟨_, _, _, rfl, by decide, uw_3, Or.inr ⟨"CartsDownHill", List.mem_of_getElem? (i := 133) (by decide +kernel)⟩⟩
theorem lk_X7_112 : LK RX7 112 3 1 := ⟨_, _, _, rfl, by decide, uw_3, Or.inr ⟨"CartsDownHill", List.mem_of_getElem? (i := 136) (by decide +kernel)⟩⟩
theorem lk_X7_115 : LK RX7 115 3 2 := ⟨_, _, _, rfl, by decide, uw_3, Or.inr ⟨"CartsDownHill", List.mem_of_getElem? (i := 139) (by decide +kernel)⟩⟩
theorem lk_X7_118 : LK RX7 118 3 3 := ⟨_, _, _, rfl, by decide, uw_3, Or.inr ⟨"CartsDownHill", List.mem_of_getElem? (i := 142) (by decide +kernel)⟩⟩
theorem fo_0 : FO 0 7 := ⟨by decide, fun _ _ => ⟨_, rfl⟩⟩
theorem lv_X7_121 : LVi RX7 121 yX7_isCart cX7_isCart 2 (some .boolean) 1 := ⟨⟨mem_WT (List.mem_of_getElem? (i := 555) (by decide +kernel)) rfl, mem_WT (List.mem_of_getElem? (i := 81) (by decide +kernel)) rfl, by decide +kernel, by decide, Or.inl (mem_WT (List.mem_of_getElem? (i := 552) (by decide +kernel)) rfl)⟩, mem_WT (List.mem_of_getElem? (i := 554) (by decide +kernel)) rfl, mem_WT (List.mem_of_getElem? (i := 16) (by decide +kernel)) rfl⟩
theorem lk_X7_123 : LK RX7 123 1 3 := ⟨_, _, _, rfl, by decide, uw_1, Or.inr ⟨"CartsDownHill", List.mem_of_getElem? (i := 179) (by decide +kernel)⟩⟩
theorem lk_X7_126 : LK RX7 126 1 2 := ⟨_, _, _, rfl, by decide, uw_1, Or.inr ⟨"CartsDownHill", List.mem_of_getElem? (i := 176) (by decide +kernel)⟩⟩
theorem lv_X7_127 : LVi RX7 127 yX7_isLoss cX7_isLoss 3 (some .boolean) 2 := ⟨⟨mem_WT (List.mem_of_getElem? (i := 563) (by decide +kernel)) rfl, mem_WT (List.mem_of_getElem? (i := 81) (by decide +kernel)) rfl, by decide +kernel, by decide, Or.inl (mem_WT (List.mem_of_getElem? (i := 560) (by decide +kernel)) rfl)⟩, mem_WT (List.mem_of_getElem? (i := 562) (by decide +kernel)) rfl, mem_WT (List.mem_of_getElem? (i := 17) (by decide +kernel)) rfl⟩
theorem lk_X7_131 : LK RX7 131 1 0 := ⟨_, _, _, rfl, by decide, uw_1, Or.inr ⟨"CartsDownHill", List.mem_of_getElem? (i := 170) (by decide +kernel)⟩⟩
theorem lk_X7_134 : LK RX7 134 1 1 := ⟨_, _, _, rfl, by decide, uw_1, Or.inr ⟨"CartsDownHill", List.mem_of_getElem? (i := 173) (by decide +kernel)⟩⟩
theorem ls_X7_137 : LSt RX7 137 yX7_isWithin cX7_isWithin 3 (some .boolean) 3 := ⟨⟨mem_WT (List.mem_of_getElem? (i := 570) (by decide +kernel)) rfl, mem_WT (List.mem_of_getElem? (i := 81) (by decide +kernel)) rfl, by decide +kernel, by decide, Or.inl (mem_WT (List.mem_of_getElem? (i := 568) (by decide +kernel)) rfl)⟩, mem_WT (List.mem_of_getElem? (i := 569) (by decide +kernel)) rfl⟩
theorem ls_X7_141 : LSt RX7 141 yX7_isOfKind cX7_isOfKind 2 (some .boolean) 2 := ⟨⟨mem_WT (List.mem_of_getElem? (i := 573) (by decide +kernel)) rfl, mem_WT (List.mem_of_getElem? (i := 81) (by decide +kernel)) rfl, by decide +kernel, by decide, Or.inl (mem_WT (List.mem_of_getElem? (i := 571) (by decide +kernel)) rfl)⟩, mem_WT (List.mem_of_getElem? (i := 572) (by decide +kernel)) rfl⟩
theorem lp_X7_123 : LPu RX7 123 1 3 .int := ⟨_, _, _, tyX1, rfl, by decide, uw_1, tyX1_ok, nmX1, rfl, by decide +kernel, Or.inr ⟨"CartsDownHill", List.mem_of_getElem? (i := 179) (by decide +kernel)⟩⟩
theorem lk_X7_71 : LK RX7 71 7 10 := ⟨_, _, _, rfl, by decide, uw_7, Or.inl (mem_WT (List.mem_of_getElem? (i := 335) (by decide +kernel)) rfl)⟩
theorem fi_0_10 : FI 0 7 10 := ⟨by decide, fun _ _ => ⟨_, rfl, rfl, Nat.le_of_ble_eq_true rfl, fun _ => rfl⟩⟩
theorem lp_X7_71 : LPu RX7 71 7 10 .int := ⟨_, _, _, tyX7, rfl, by decide, uw_7, tyX7_ok, nmX7, rfl, by decide +kernel, Or.inl (mem_WT (List.mem_of_getElem? (i := 335) (by decide +kernel)) rfl)⟩
theorem lv_X7_144 : LVi RX7 144 yX7_refusalOfRun cX7_refusalOfRun 4 (some .int) 3 := ⟨⟨mem_WT (List.mem_of_getElem? (i := 593) (by decide +kernel)) rfl, mem_WT (List.mem_of_getElem? (i := 81) (by decide +kernel)) rfl, by decide +kernel, by decide, Or.inl (mem_WT (List.mem_of_getElem? (i := 590) (by decide +kernel)) rfl)⟩, mem_WT (List.mem_of_getElem? (i := 592) (by decide +kernel)) rfl, mem_WT (List.mem_of_getElem? (i := 18) (by decide +kernel)) rfl⟩
theorem ls_X7_156 : LSt RX7 156 yX7_isSwing cX7_isSwing 1 (some .boolean) 1 := ⟨⟨mem_WT (List.mem_of_getElem? (i := 596) (by decide +kernel)) rfl, mem_WT (List.mem_of_getElem? (i := 81) (by decide +kernel)) rfl, by decide +kernel, by decide, Or.inl (mem_WT (List.mem_of_getElem? (i := 594) (by decide +kernel)) rfl)⟩, mem_WT (List.mem_of_getElem? (i := 595) (by decide +kernel)) rfl⟩
theorem lv_X7_148 : LVi RX7 148 yX7_goDown cX7_goDown 3 none 2 := ⟨⟨mem_WT (List.mem_of_getElem? (i := 600) (by decide +kernel)) rfl, mem_WT (List.mem_of_getElem? (i := 81) (by decide +kernel)) rfl, by decide +kernel, by decide, Or.inl (mem_WT (List.mem_of_getElem? (i := 597) (by decide +kernel)) rfl)⟩, mem_WT (List.mem_of_getElem? (i := 599) (by decide +kernel)) rfl, mem_WT (List.mem_of_getElem? (i := 19) (by decide +kernel)) rfl⟩
theorem lk_X7_49 : LK RX7 49 7 5 := ⟨_, _, _, rfl, by decide, uw_7, Or.inl (mem_WT (List.mem_of_getElem? (i := 330) (by decide +kernel)) rfl)⟩
theorem fr_0_5 : FR 0 7 5 44 := ⟨by decide, fun _ _ => ⟨_, rfl, rfl⟩⟩
theorem lv_X7_168 : LVi RX7 168 yX6_mount cX6_mount 3 none 2 := ⟨⟨mem_WT (List.mem_of_getElem? (i := 604) (by decide +kernel)) rfl, mem_WT (List.mem_of_getElem? (i := 87) (by decide +kernel)) rfl, by decide +kernel, by decide, Or.inr ⟨"CartsDownHill", List.mem_of_getElem? (i := 601) (by decide +kernel)⟩⟩, mem_WT (List.mem_of_getElem? (i := 603) (by decide +kernel)) rfl, mem_WT (List.mem_of_getElem? (i := 20) (by decide +kernel)) rfl⟩
theorem lk_X6_59 : LK RX6 59 1 0 := ⟨_, _, _, rfl, by decide, uw_1, Or.inr ⟨"CartsDownHill", List.mem_of_getElem? (i := 169) (by decide +kernel)⟩⟩
theorem uw_6 : ∀ w ∈ u_ws RX6 TX6 15, w ∈ WT := fun w hw => mem_WT (mem_places [275, 277, 279, 281, 283, 285, 287, 289, 291, 293, 295, 297, 299, 301, 303] (by decide +kernel) w hw) (List.all_eq_true.mp (show (u_ws RX6 TX6 15).all goodWord = true by decide +kernel) w hw)
theorem lk_X6_9 : LK RX6 9 6 1 := ⟨_, _, _, rfl, by decide, uw_6, Or.inl (mem_WT (List.mem_of_getElem? (i := 252) (by decide +kernel)) rfl)⟩
theorem fr_44_1 : FR 44 6 1 45 := ⟨by decide, fun _ _ => ⟨_, rfl, rfl⟩⟩
theorem ai_45 : AI 45 5 := ⟨by decide, by decide, fun _ _ => rfl⟩
theorem kw_X6_62 : Cond.methodLink RX6 62 arraycopyName ∈ WT := mem_WT (List.mem_of_getElem? (i := 605) (by decide +kernel)) rfl
theorem kw_ac1 : Cond.native arraycopyName ∈ WT := mem_WT (List.mem_of_getElem? (i := 607) (by decide +kernel)) rfl
theorem kw_ac2 : Cond.static arraycopyName ∈ WT := mem_WT (List.mem_of_getElem? (i := 606) (by decide +kernel)) rfl
theorem kw_ac3 : Cond.initialized "java/lang/System" ∈ WT := mem_WT (List.mem_of_getElem? (i := 97) (by decide +kernel)) rfl
theorem lk_X6_68 : LK RX6 68 1 1 := ⟨_, _, _, rfl, by decide, uw_1, Or.inr ⟨"CartsDownHill", List.mem_of_getElem? (i := 172) (by decide +kernel)⟩⟩
theorem lk_X6_15 : LK RX6 15 6 2 := ⟨_, _, _, rfl, by decide, uw_6, Or.inl (mem_WT (List.mem_of_getElem? (i := 253) (by decide +kernel)) rfl)⟩
theorem fr_44_2 : FR 44 6 2 46 := ⟨by decide, fun _ _ => ⟨_, rfl, rfl⟩⟩
theorem ai_46 : AI 46 5 := ⟨by decide, by decide, fun _ _ => rfl⟩
theorem lk_X6_55 : LK RX6 55 6 0 := ⟨_, _, _, rfl, by decide, uw_6, Or.inl (mem_WT (List.mem_of_getElem? (i := 251) (by decide +kernel)) rfl)⟩
theorem fr_44_0 : FR 44 6 0 3 := ⟨by decide, fun _ _ => ⟨_, rfl, rfl⟩⟩
theorem lk_X6_69 : LK RX6 69 3 3 := ⟨_, _, _, rfl, by decide, uw_3, Or.inr ⟨"CartsDownHill", List.mem_of_getElem? (i := 141) (by decide +kernel)⟩⟩
theorem lk_X6_21 : LK RX6 21 6 4 := ⟨_, _, _, rfl, by decide, uw_6, Or.inl (mem_WT (List.mem_of_getElem? (i := 256) (by decide +kernel)) rfl)⟩
theorem fr_44_4 : FR 44 6 4 48 := ⟨by decide, fun _ _ => ⟨_, rfl, rfl⟩⟩
theorem ai_48 : AI 48 12 := ⟨by decide, by decide, fun _ _ => rfl⟩
theorem lk_X6_18 : LK RX6 18 6 3 := ⟨_, _, _, rfl, by decide, uw_6, Or.inl (mem_WT (List.mem_of_getElem? (i := 254) (by decide +kernel)) rfl)⟩
theorem fr_44_3 : FR 44 6 3 47 := ⟨by decide, fun _ _ => ⟨_, rfl, rfl⟩⟩
theorem ls_X6_72 : LSt RX6 72 yJ7_fill_53178 cJ7_fill_53178 4 none 2 := ⟨⟨mem_WT (List.mem_of_getElem? (i := 517) (by decide +kernel)) rfl, mem_WT (List.mem_of_getElem? (i := 96) (by decide +kernel)) rfl, by decide +kernel, by decide, Or.inl (mem_WT (List.mem_of_getElem? (i := 608) (by decide +kernel)) rfl)⟩, mem_WT (List.mem_of_getElem? (i := 516) (by decide +kernel)) rfl⟩
theorem ai_47 : AI 47 5 := ⟨by decide, by decide, fun _ _ => rfl⟩
theorem lk_X6_78 : LK RX6 78 1 2 := ⟨_, _, _, rfl, by decide, uw_1, Or.inr ⟨"CartsDownHill", List.mem_of_getElem? (i := 175) (by decide +kernel)⟩⟩
theorem lp_X6_24 : LPu RX6 24 6 5 .int := ⟨_, _, _, tyX6, rfl, by decide, uw_6, tyX6_ok, nmX6, rfl, by decide +kernel, Or.inl (mem_WT (List.mem_of_getElem? (i := 258) (by decide +kernel)) rfl)⟩
theorem lk_X6_79 : LK RX6 79 1 3 := ⟨_, _, _, rfl, by decide, uw_1, Or.inr ⟨"CartsDownHill", List.mem_of_getElem? (i := 178) (by decide +kernel)⟩⟩
theorem lp_X6_28 : LPu RX6 28 6 6 .int := ⟨_, _, _, tyX6, rfl, by decide, uw_6, tyX6_ok, nmX6, rfl, by decide +kernel, Or.inl (mem_WT (List.mem_of_getElem? (i := 260) (by decide +kernel)) rfl)⟩
theorem lp_X6_31 : LPu RX6 31 6 7 .int := ⟨_, _, _, tyX6, rfl, by decide, uw_6, tyX6_ok, nmX6, rfl, by decide +kernel, Or.inl (mem_WT (List.mem_of_getElem? (i := 262) (by decide +kernel)) rfl)⟩
theorem fi_44_7 : FI 44 6 7 := ⟨by decide, fun _ _ => ⟨_, rfl, rfl, Nat.le_of_ble_eq_true rfl, fun _ => rfl⟩⟩
theorem fi_44_6 : FI 44 6 6 := ⟨by decide, fun _ _ => ⟨_, rfl, rfl, Nat.le_of_ble_eq_true rfl, fun _ => rfl⟩⟩
theorem fi_44_5 : FI 44 6 5 := ⟨by decide, fun _ _ => ⟨_, rfl, rfl, Nat.le_of_ble_eq_true rfl, fun _ => rfl⟩⟩
theorem lv_X7_195 : LVi RX7 195 yX6_go cX6_go 3 none 1 := ⟨⟨mem_WT (List.mem_of_getElem? (i := 612) (by decide +kernel)) rfl, mem_WT (List.mem_of_getElem? (i := 87) (by decide +kernel)) rfl, by decide +kernel, by decide, Or.inr ⟨"CartsDownHill", List.mem_of_getElem? (i := 609) (by decide +kernel)⟩⟩, mem_WT (List.mem_of_getElem? (i := 611) (by decide +kernel)) rfl, mem_WT (List.mem_of_getElem? (i := 21) (by decide +kernel)) rfl⟩
theorem lk_X6_49 : LK RX6 49 6 13 := ⟨_, _, _, rfl, by decide, uw_6, Or.inl (mem_WT (List.mem_of_getElem? (i := 271) (by decide +kernel)) rfl)⟩
theorem fr_44_13 : FR 44 6 13 49 := ⟨by decide, fun _ _ => ⟨_, rfl, rfl⟩⟩
theorem ai_49 : AI 49 5 := ⟨by decide, by decide, fun _ _ => rfl⟩
theorem lk_X6_52 : LK RX6 52 6 14 := ⟨_, _, _, rfl, by decide, uw_6, Or.inl (mem_WT (List.mem_of_getElem? (i := 273) (by decide +kernel)) rfl)⟩
theorem fr_44_14 : FR 44 6 14 50 := ⟨by decide, fun _ _ => ⟨_, rfl, rfl⟩⟩
theorem ai_50 : AI 50 12 := ⟨by decide, by decide, fun _ _ => rfl⟩
theorem lp_X6_34 : LPu RX6 34 6 8 .int := ⟨_, _, _, tyX6, rfl, by decide, uw_6, tyX6_ok, nmX6, rfl, by decide +kernel, Or.inl (mem_WT (List.mem_of_getElem? (i := 263) (by decide +kernel)) rfl)⟩
theorem lp_X6_40 : LPu RX6 40 6 10 .int := ⟨_, _, _, tyX6, rfl, by decide, uw_6, tyX6_ok, nmX6, rfl, by decide +kernel, Or.inl (mem_WT (List.mem_of_getElem? (i := 266) (by decide +kernel)) rfl)⟩
theorem lp_X6_43 : LPu RX6 43 6 11 .int := ⟨_, _, _, tyX6, rfl, by decide, uw_6, tyX6_ok, nmX6, rfl, by decide +kernel, Or.inl (mem_WT (List.mem_of_getElem? (i := 268) (by decide +kernel)) rfl)⟩
theorem lp_X6_46 : LPu RX6 46 6 12 .int := ⟨_, _, _, tyX6, rfl, by decide, uw_6, tyX6_ok, nmX6, rfl, by decide +kernel, Or.inl (mem_WT (List.mem_of_getElem? (i := 269) (by decide +kernel)) rfl)⟩
theorem lk_X6_34 : LK RX6 34 6 8 := ⟨_, _, _, rfl, by decide, uw_6, Or.inl (mem_WT (List.mem_of_getElem? (i := 263) (by decide +kernel)) rfl)⟩
theorem fi_44_8 : FI 44 6 8 := ⟨by decide, fun _ _ => ⟨_, rfl, rfl, Nat.le_of_ble_eq_true rfl, fun _ => rfl⟩⟩
theorem lk_X6_80 : LK RX6 80 3 4 := ⟨_, _, _, rfl, by decide, uw_3, Or.inr ⟨"CartsDownHill", List.mem_of_getElem? (i := 144) (by decide +kernel)⟩⟩
theorem lp_X6_37 : LPu RX6 37 6 9 .int := ⟨_, _, _, tyX6, rfl, by decide, uw_6, tyX6_ok, nmX6, rfl, by decide +kernel, Or.inl (mem_WT (List.mem_of_getElem? (i := 265) (by decide +kernel)) rfl)⟩
theorem lv_X6_81 : LVi RX6 81 yX6_goThrough cX6_goThrough 6 none 1 := ⟨⟨mem_WT (List.mem_of_getElem? (i := 616) (by decide +kernel)) rfl, mem_WT (List.mem_of_getElem? (i := 87) (by decide +kernel)) rfl, by decide +kernel, by decide, Or.inl (mem_WT (List.mem_of_getElem? (i := 613) (by decide +kernel)) rfl)⟩, mem_WT (List.mem_of_getElem? (i := 615) (by decide +kernel)) rfl, mem_WT (List.mem_of_getElem? (i := 22) (by decide +kernel)) rfl⟩
theorem lk_X6_43 : LK RX6 43 6 11 := ⟨_, _, _, rfl, by decide, uw_6, Or.inl (mem_WT (List.mem_of_getElem? (i := 268) (by decide +kernel)) rfl)⟩
theorem fi_44_11 : FI 44 6 11 := ⟨by decide, fun _ _ => ⟨_, rfl, rfl, Nat.le_of_ble_eq_true rfl, fun _ => rfl⟩⟩
theorem lk_X6_85 : LK RX6 85 3 0 := ⟨_, _, _, rfl, by decide, uw_3, Or.inr ⟨"CartsDownHill", List.mem_of_getElem? (i := 132) (by decide +kernel)⟩⟩
theorem lk_X6_24 : LK RX6 24 6 5 := ⟨_, _, _, rfl, by decide, uw_6, Or.inl (mem_WT (List.mem_of_getElem? (i := 258) (by decide +kernel)) rfl)⟩
theorem lk_X6_46 : LK RX6 46 6 12 := ⟨_, _, _, rfl, by decide, uw_6, Or.inl (mem_WT (List.mem_of_getElem? (i := 269) (by decide +kernel)) rfl)⟩
theorem fi_44_12 : FI 44 6 12 := ⟨by decide, fun _ _ => ⟨_, rfl, rfl, Nat.le_of_ble_eq_true rfl, fun _ => rfl⟩⟩
theorem lk_X6_40 : LK RX6 40 6 10 := ⟨_, _, _, rfl, by decide, uw_6, Or.inl (mem_WT (List.mem_of_getElem? (i := 266) (by decide +kernel)) rfl)⟩
theorem fi_44_10 : FI 44 6 10 := ⟨by decide, fun _ _ => ⟨_, rfl, rfl, Nat.le_of_ble_eq_true rfl, fun _ => rfl⟩⟩
theorem ls_X6_98 : LSt RX6 98 yX6_root cX6_root 3 (some .int) 1 := ⟨⟨mem_WT (List.mem_of_getElem? (i := 626) (by decide +kernel)) rfl, mem_WT (List.mem_of_getElem? (i := 87) (by decide +kernel)) rfl, by decide +kernel, by decide, Or.inl (mem_WT (List.mem_of_getElem? (i := 624) (by decide +kernel)) rfl)⟩, mem_WT (List.mem_of_getElem? (i := 625) (by decide +kernel)) rfl⟩
theorem ls_X6_102 : LSt RX6 102 yX7_by cX7_by 2 (some .int) 2 := ⟨⟨mem_WT (List.mem_of_getElem? (i := 623) (by decide +kernel)) rfl, mem_WT (List.mem_of_getElem? (i := 81) (by decide +kernel)) rfl, by decide +kernel, by decide, Or.inr ⟨"CartsDownHill", List.mem_of_getElem? (i := 621) (by decide +kernel)⟩⟩, mem_WT (List.mem_of_getElem? (i := 622) (by decide +kernel)) rfl⟩
theorem lk_X6_88 : LK RX6 88 3 1 := ⟨_, _, _, rfl, by decide, uw_3, Or.inr ⟨"CartsDownHill", List.mem_of_getElem? (i := 135) (by decide +kernel)⟩⟩
theorem lv_X6_106 : LVi RX6 106 yX6_bearable cX6_bearable 2 (some .int) 1 := ⟨⟨mem_WT (List.mem_of_getElem? (i := 630) (by decide +kernel)) rfl, mem_WT (List.mem_of_getElem? (i := 87) (by decide +kernel)) rfl, by decide +kernel, by decide, Or.inl (mem_WT (List.mem_of_getElem? (i := 627) (by decide +kernel)) rfl)⟩, mem_WT (List.mem_of_getElem? (i := 629) (by decide +kernel)) rfl, mem_WT (List.mem_of_getElem? (i := 24) (by decide +kernel)) rfl⟩
theorem lk_X6_31 : LK RX6 31 6 7 := ⟨_, _, _, rfl, by decide, uw_6, Or.inl (mem_WT (List.mem_of_getElem? (i := 262) (by decide +kernel)) rfl)⟩
theorem fo_44 : FO 44 6 := ⟨by decide, fun _ _ => ⟨_, rfl⟩⟩
theorem lk_X6_91 : LK RX6 91 3 2 := ⟨_, _, _, rfl, by decide, uw_3, Or.inr ⟨"CartsDownHill", List.mem_of_getElem? (i := 138) (by decide +kernel)⟩⟩
theorem lv_X6_94 : LVi RX6 94 yX6_takes cX6_takes 7 (some .int) 5 := ⟨⟨mem_WT (List.mem_of_getElem? (i := 620) (by decide +kernel)) rfl, mem_WT (List.mem_of_getElem? (i := 87) (by decide +kernel)) rfl, by decide +kernel, by decide, Or.inl (mem_WT (List.mem_of_getElem? (i := 617) (by decide +kernel)) rfl)⟩, mem_WT (List.mem_of_getElem? (i := 619) (by decide +kernel)) rfl, mem_WT (List.mem_of_getElem? (i := 23) (by decide +kernel)) rfl⟩
theorem lk_X6_28 : LK RX6 28 6 6 := ⟨_, _, _, rfl, by decide, uw_6, Or.inl (mem_WT (List.mem_of_getElem? (i := 260) (by decide +kernel)) rfl)⟩
theorem fi_44_9 : FI 44 6 9 := ⟨by decide, fun _ _ => ⟨_, rfl, rfl, Nat.le_of_ble_eq_true rfl, fun _ => rfl⟩⟩
theorem lv_X7_152 : LVi RX7 152 yX6_tell cX6_tell 2 (some .int) 1 := ⟨⟨mem_WT (List.mem_of_getElem? (i := 634) (by decide +kernel)) rfl, mem_WT (List.mem_of_getElem? (i := 87) (by decide +kernel)) rfl, by decide +kernel, by decide, Or.inr ⟨"CartsDownHill", List.mem_of_getElem? (i := 631) (by decide +kernel)⟩⟩, mem_WT (List.mem_of_getElem? (i := 633) (by decide +kernel)) rfl, mem_WT (List.mem_of_getElem? (i := 25) (by decide +kernel)) rfl⟩
theorem lk_X6_37 : LK RX6 37 6 9 := ⟨_, _, _, rfl, by decide, uw_6, Or.inl (mem_WT (List.mem_of_getElem? (i := 265) (by decide +kernel)) rfl)⟩
theorem lk_X7_159 : LK RX7 159 6 14 := ⟨_, _, _, rfl, by decide, uw_6, Or.inr ⟨"CartsDownHill", List.mem_of_getElem? (i := 274) (by decide +kernel)⟩⟩
theorem lk_X7_162 : LK RX7 162 6 12 := ⟨_, _, _, rfl, by decide, uw_6, Or.inr ⟨"CartsDownHill", List.mem_of_getElem? (i := 270) (by decide +kernel)⟩⟩
theorem lk_X7_165 : LK RX7 165 6 13 := ⟨_, _, _, rfl, by decide, uw_6, Or.inr ⟨"CartsDownHill", List.mem_of_getElem? (i := 272) (by decide +kernel)⟩⟩
theorem lk_X7_56 : LK RX7 56 7 6 := ⟨_, _, _, rfl, by decide, uw_7, Or.inl (mem_WT (List.mem_of_getElem? (i := 331) (by decide +kernel)) rfl)⟩
theorem fr_0_6 : FR 0 7 6 51 := ⟨by decide, fun _ _ => ⟨_, rfl, rfl⟩⟩
theorem lv_X7_172 : LVi RX7 172 yX0_clear cX0_clear 1 none 0 := ⟨⟨mem_WT (List.mem_of_getElem? (i := 650) (by decide +kernel)) rfl, mem_WT (List.mem_of_getElem? (i := 88) (by decide +kernel)) rfl, by decide +kernel, by decide, Or.inr ⟨"CartsDownHill", List.mem_of_getElem? (i := 647) (by decide +kernel)⟩⟩, mem_WT (List.mem_of_getElem? (i := 649) (by decide +kernel)) rfl, mem_WT (List.mem_of_getElem? (i := 26) (by decide +kernel)) rfl⟩
theorem uw_0 : ∀ w ∈ u_ws RX0 TX0 3, w ∈ WT := fun w hw => mem_WT (mem_places [318, 320, 322] (by decide +kernel) w hw) (List.all_eq_true.mp (show (u_ws RX0 TX0 3).all goodWord = true by decide +kernel) w hw)
theorem lp_X0_9 : LPu RX0 9 0 0 .int := ⟨_, _, _, tyX0, rfl, by decide, uw_0, tyX0_ok, nmX0, rfl, by decide +kernel, Or.inl (mem_WT (List.mem_of_getElem? (i := 312) (by decide +kernel)) rfl)⟩
theorem lp_X0_15 : LPu RX0 15 0 1 .int := ⟨_, _, _, tyX0, rfl, by decide, uw_0, tyX0_ok, nmX0, rfl, by decide +kernel, Or.inl (mem_WT (List.mem_of_getElem? (i := 314) (by decide +kernel)) rfl)⟩
theorem fi_51_1 : FI 51 0 1 := ⟨by decide, fun _ _ => ⟨_, rfl, rfl, Nat.le_of_ble_eq_true rfl, fun _ => rfl⟩⟩
theorem fi_51_0 : FI 51 0 0 := ⟨by decide, fun _ _ => ⟨_, rfl, rfl, Nat.le_of_ble_eq_true rfl, fun _ => rfl⟩⟩
theorem lk_X7_178 : LK RX7 178 0 0 := ⟨_, _, _, rfl, by decide, uw_0, Or.inr ⟨"CartsDownHill", List.mem_of_getElem? (i := 313) (by decide +kernel)⟩⟩
theorem lv_X7_181 : LVi RX7 181 yX7_isBraked cX7_isBraked 2 (some .boolean) 1 := ⟨⟨mem_WT (List.mem_of_getElem? (i := 670) (by decide +kernel)) rfl, mem_WT (List.mem_of_getElem? (i := 81) (by decide +kernel)) rfl, by decide +kernel, by decide, Or.inl (mem_WT (List.mem_of_getElem? (i := 667) (by decide +kernel)) rfl)⟩, mem_WT (List.mem_of_getElem? (i := 669) (by decide +kernel)) rfl, mem_WT (List.mem_of_getElem? (i := 30) (by decide +kernel)) rfl⟩
theorem lv_X7_342 : LVi RX7 342 yX3_bendAt cX3_bendAt 4 (some .int) 1 := ⟨⟨mem_WT (List.mem_of_getElem? (i := 662) (by decide +kernel)) rfl, mem_WT (List.mem_of_getElem? (i := 83) (by decide +kernel)) rfl, by decide +kernel, by decide, Or.inr ⟨"CartsDownHill", List.mem_of_getElem? (i := 659) (by decide +kernel)⟩⟩, mem_WT (List.mem_of_getElem? (i := 661) (by decide +kernel)) rfl, mem_WT (List.mem_of_getElem? (i := 28) (by decide +kernel)) rfl⟩
theorem lk_X3_24 : LK RX3 24 3 4 := ⟨_, _, _, rfl, by decide, uw_3, Or.inl (mem_WT (List.mem_of_getElem? (i := 143) (by decide +kernel)) rfl)⟩
theorem lk_X7_184 : LK RX7 184 0 1 := ⟨_, _, _, rfl, by decide, uw_0, Or.inr ⟨"CartsDownHill", List.mem_of_getElem? (i := 315) (by decide +kernel)⟩⟩
theorem ls_X7_187 : LSt RX7 187 yX7_choice cX7_choice 2 (some .int) 2 := ⟨⟨mem_WT (List.mem_of_getElem? (i := 658) (by decide +kernel)) rfl, mem_WT (List.mem_of_getElem? (i := 81) (by decide +kernel)) rfl, by decide +kernel, by decide, Or.inl (mem_WT (List.mem_of_getElem? (i := 656) (by decide +kernel)) rfl)⟩, mem_WT (List.mem_of_getElem? (i := 657) (by decide +kernel)) rfl⟩
theorem lv_X7_175 : LVi RX7 175 yX7_tryBrakes cX7_tryBrakes 6 none 2 := ⟨⟨mem_WT (List.mem_of_getElem? (i := 654) (by decide +kernel)) rfl, mem_WT (List.mem_of_getElem? (i := 81) (by decide +kernel)) rfl, by decide +kernel, by decide, Or.inl (mem_WT (List.mem_of_getElem? (i := 651) (by decide +kernel)) rfl)⟩, mem_WT (List.mem_of_getElem? (i := 653) (by decide +kernel)) rfl, mem_WT (List.mem_of_getElem? (i := 27) (by decide +kernel)) rfl⟩
theorem lk_X7_345 : LK RX7 345 6 4 := ⟨_, _, _, rfl, by decide, uw_6, Or.inr ⟨"CartsDownHill", List.mem_of_getElem? (i := 257) (by decide +kernel)⟩⟩
theorem ls_X7_346 : LSt RX7 346 yJ7_fill_53178 cJ7_fill_53178 4 none 2 := ⟨⟨mem_WT (List.mem_of_getElem? (i := 517) (by decide +kernel)) rfl, mem_WT (List.mem_of_getElem? (i := 96) (by decide +kernel)) rfl, by decide +kernel, by decide, Or.inl (mem_WT (List.mem_of_getElem? (i := 655) (by decide +kernel)) rfl)⟩, mem_WT (List.mem_of_getElem? (i := 516) (by decide +kernel)) rfl⟩
theorem lk_X7_198 : LK RX7 198 6 8 := ⟨_, _, _, rfl, by decide, uw_6, Or.inr ⟨"CartsDownHill", List.mem_of_getElem? (i := 264) (by decide +kernel)⟩⟩
theorem lk_X7_201 : LK RX7 201 6 10 := ⟨_, _, _, rfl, by decide, uw_6, Or.inr ⟨"CartsDownHill", List.mem_of_getElem? (i := 267) (by decide +kernel)⟩⟩
theorem lv_X7_202 : LVi RX7 202 yX0_offer cX0_offer 3 (some .boolean) 2 := ⟨⟨mem_WT (List.mem_of_getElem? (i := 666) (by decide +kernel)) rfl, mem_WT (List.mem_of_getElem? (i := 88) (by decide +kernel)) rfl, by decide +kernel, by decide, Or.inr ⟨"CartsDownHill", List.mem_of_getElem? (i := 663) (by decide +kernel)⟩⟩, mem_WT (List.mem_of_getElem? (i := 665) (by decide +kernel)) rfl, mem_WT (List.mem_of_getElem? (i := 29) (by decide +kernel)) rfl⟩
theorem lk_X0_9 : LK RX0 9 0 0 := ⟨_, _, _, rfl, by decide, uw_0, Or.inl (mem_WT (List.mem_of_getElem? (i := 312) (by decide +kernel)) rfl)⟩
theorem fo_51 : FO 51 0 := ⟨by decide, fun _ _ => ⟨_, rfl⟩⟩
theorem lk_X7_191 : LK RX7 191 6 6 := ⟨_, _, _, rfl, by decide, uw_6, Or.inr ⟨"CartsDownHill", List.mem_of_getElem? (i := 261) (by decide +kernel)⟩⟩
theorem ls_X7_192 : LSt RX7 192 yX7_by cX7_by 2 (some .int) 2 := ⟨⟨mem_WT (List.mem_of_getElem? (i := 623) (by decide +kernel)) rfl, mem_WT (List.mem_of_getElem? (i := 81) (by decide +kernel)) rfl, by decide +kernel, by decide, Or.inl (mem_WT (List.mem_of_getElem? (i := 675) (by decide +kernel)) rfl)⟩, mem_WT (List.mem_of_getElem? (i := 622) (by decide +kernel)) rfl⟩
theorem lk_X7_215 : LK RX7 215 6 5 := ⟨_, _, _, rfl, by decide, uw_6, Or.inr ⟨"CartsDownHill", List.mem_of_getElem? (i := 259) (by decide +kernel)⟩⟩
theorem lk_X7_216 : LK RX7 216 0 2 := ⟨_, _, _, rfl, by decide, uw_0, Or.inr ⟨"CartsDownHill", List.mem_of_getElem? (i := 317) (by decide +kernel)⟩⟩
theorem fr_51_2 : FR 51 0 2 52 := ⟨by decide, fun _ _ => ⟨_, rfl, rfl⟩⟩
theorem ai_52 : AI 52 5 := ⟨by decide, by decide, fun _ _ => rfl⟩
theorem lv_X7_212 : LVi RX7 212 yX6_spendNext cX6_spendNext 4 (some .boolean) 1 := ⟨⟨mem_WT (List.mem_of_getElem? (i := 688) (by decide +kernel)) rfl, mem_WT (List.mem_of_getElem? (i := 87) (by decide +kernel)) rfl, by decide +kernel, by decide, Or.inr ⟨"CartsDownHill", List.mem_of_getElem? (i := 685) (by decide +kernel)⟩⟩, mem_WT (List.mem_of_getElem? (i := 687) (by decide +kernel)) rfl, mem_WT (List.mem_of_getElem? (i := 32) (by decide +kernel)) rfl⟩
theorem lk_X7_205 : LK RX7 205 6 3 := ⟨_, _, _, rfl, by decide, uw_6, Or.inr ⟨"CartsDownHill", List.mem_of_getElem? (i := 255) (by decide +kernel)⟩⟩
theorem lv_X7_208 : LVi RX7 208 yX0_keepRow cX0_keepRow 2 none 1 := ⟨⟨mem_WT (List.mem_of_getElem? (i := 683) (by decide +kernel)) rfl, mem_WT (List.mem_of_getElem? (i := 88) (by decide +kernel)) rfl, by decide +kernel, by decide, Or.inr ⟨"CartsDownHill", List.mem_of_getElem? (i := 680) (by decide +kernel)⟩⟩, mem_WT (List.mem_of_getElem? (i := 682) (by decide +kernel)) rfl, mem_WT (List.mem_of_getElem? (i := 31) (by decide +kernel)) rfl⟩
theorem lk_X0_18 : LK RX0 18 0 2 := ⟨_, _, _, rfl, by decide, uw_0, Or.inl (mem_WT (List.mem_of_getElem? (i := 316) (by decide +kernel)) rfl)⟩
theorem kw_X0_22 : Cond.methodLink RX0 22 arraycopyName ∈ WT := mem_WT (List.mem_of_getElem? (i := 684) (by decide +kernel)) rfl
theorem lv_X7_219 : LVi RX7 219 yX7_timeAt cX7_timeAt 4 (some .int) 3 := ⟨⟨mem_WT (List.mem_of_getElem? (i := 696) (by decide +kernel)) rfl, mem_WT (List.mem_of_getElem? (i := 81) (by decide +kernel)) rfl, by decide +kernel, by decide, Or.inl (mem_WT (List.mem_of_getElem? (i := 693) (by decide +kernel)) rfl)⟩, mem_WT (List.mem_of_getElem? (i := 695) (by decide +kernel)) rfl, mem_WT (List.mem_of_getElem? (i := 33) (by decide +kernel)) rfl⟩
theorem lp_X7_191 : LPu RX7 191 6 6 .int := ⟨_, _, _, tyX6, rfl, by decide, uw_6, tyX6_ok, nmX6, rfl, by decide +kernel, Or.inr ⟨"CartsDownHill", List.mem_of_getElem? (i := 261) (by decide +kernel)⟩⟩
theorem lv_X7_339 : LVi RX7 339 yX6_timeIfDown cX6_timeIfDown 1 (some .int) 0 := ⟨⟨mem_WT (List.mem_of_getElem? (i := 700) (by decide +kernel)) rfl, mem_WT (List.mem_of_getElem? (i := 87) (by decide +kernel)) rfl, by decide +kernel, by decide, Or.inr ⟨"CartsDownHill", List.mem_of_getElem? (i := 697) (by decide +kernel)⟩⟩, mem_WT (List.mem_of_getElem? (i := 699) (by decide +kernel)) rfl, mem_WT (List.mem_of_getElem? (i := 34) (by decide +kernel)) rfl⟩
theorem lv_X7_223 : LVi RX7 223 yX7_apartBy cX7_apartBy 7 (some .int) 2 := ⟨⟨mem_WT (List.mem_of_getElem? (i := 708) (by decide +kernel)) rfl, mem_WT (List.mem_of_getElem? (i := 81) (by decide +kernel)) rfl, by decide +kernel, by decide, Or.inl (mem_WT (List.mem_of_getElem? (i := 705) (by decide +kernel)) rfl)⟩, mem_WT (List.mem_of_getElem? (i := 707) (by decide +kernel)) rfl, mem_WT (List.mem_of_getElem? (i := 35) (by decide +kernel)) rfl⟩
theorem kw_X7_276 : Cond.methodLink RX7 276 Lib.Math.min.name ∈ WT := mem_WT (List.mem_of_getElem? (i := 709) (by decide +kernel)) rfl
theorem kw_X7_352 : Cond.methodLink RX7 352 Lib.Math.max.name ∈ WT := mem_WT (List.mem_of_getElem? (i := 710) (by decide +kernel)) rfl
theorem kw_mmax1 : Cond.static Lib.Math.max.name ∈ WT := mem_WT (List.mem_of_getElem? (i := 440) (by decide +kernel)) rfl
theorem kw_mmax3 : Cond.code Lib.Math.max.name Lib.Math.max.code 2 (some .int) ∈ WT := mem_WT (List.mem_of_getElem? (i := 441) (by decide +kernel)) rfl
theorem lv_X7_226 : LVi RX7 226 yX7_flatCells cX7_flatCells 3 (some .int) 2 := ⟨⟨mem_WT (List.mem_of_getElem? (i := 718) (by decide +kernel)) rfl, mem_WT (List.mem_of_getElem? (i := 81) (by decide +kernel)) rfl, by decide +kernel, by decide, Or.inl (mem_WT (List.mem_of_getElem? (i := 715) (by decide +kernel)) rfl)⟩, mem_WT (List.mem_of_getElem? (i := 717) (by decide +kernel)) rfl, mem_WT (List.mem_of_getElem? (i := 36) (by decide +kernel)) rfl⟩
theorem lv_X7_355 : LVi RX7 355 yX6_goFlat cX6_goFlat 8 (some .int) 3 := ⟨⟨mem_WT (List.mem_of_getElem? (i := 722) (by decide +kernel)) rfl, mem_WT (List.mem_of_getElem? (i := 87) (by decide +kernel)) rfl, by decide +kernel, by decide, Or.inr ⟨"CartsDownHill", List.mem_of_getElem? (i := 719) (by decide +kernel)⟩⟩, mem_WT (List.mem_of_getElem? (i := 721) (by decide +kernel)) rfl, mem_WT (List.mem_of_getElem? (i := 37) (by decide +kernel)) rfl⟩
theorem lk_X7_33 : LK RX7 33 7 3 := ⟨_, _, _, rfl, by decide, uw_7, Or.inl (mem_WT (List.mem_of_getElem? (i := 328) (by decide +kernel)) rfl)⟩
theorem fr_0_3 : FR 0 7 3 33 := ⟨by decide, fun _ _ => ⟨_, rfl, rfl⟩⟩
theorem uw_2 : ∀ w ∈ u_ws RX2 TX2 4, w ∈ WT := fun w hw => mem_WT (mem_places [203, 205, 207, 209] (by decide +kernel) w hw) (List.all_eq_true.mp (show (u_ws RX2 TX2 4).all goodWord = true by decide +kernel) w hw)
theorem lk_X7_229 : LK RX7 229 2 3 := ⟨_, _, _, rfl, by decide, uw_2, Or.inr ⟨"CartsDownHill", List.mem_of_getElem? (i := 202) (by decide +kernel)⟩⟩
theorem fi_33_3 : FI 33 2 3 := ⟨by decide, fun _ _ => ⟨_, rfl, rfl, Nat.le_of_ble_eq_true rfl, fun _ => rfl⟩⟩
theorem lv_X7_230 : LVi RX7 230 yX2_put cX2_put 4 none 3 := ⟨⟨mem_WT (List.mem_of_getElem? (i := 730) (by decide +kernel)) rfl, mem_WT (List.mem_of_getElem? (i := 85) (by decide +kernel)) rfl, by decide +kernel, by decide, Or.inr ⟨"CartsDownHill", List.mem_of_getElem? (i := 727) (by decide +kernel)⟩⟩, mem_WT (List.mem_of_getElem? (i := 729) (by decide +kernel)) rfl, mem_WT (List.mem_of_getElem? (i := 38) (by decide +kernel)) rfl⟩
theorem lk_X2_21 : LK RX2 21 2 3 := ⟨_, _, _, rfl, by decide, uw_2, Or.inl (mem_WT (List.mem_of_getElem? (i := 201) (by decide +kernel)) rfl)⟩
theorem lk_X2_9 : LK RX2 9 2 0 := ⟨_, _, _, rfl, by decide, uw_2, Or.inl (mem_WT (List.mem_of_getElem? (i := 195) (by decide +kernel)) rfl)⟩
theorem fr_33_0 : FR 33 2 0 34 := ⟨by decide, fun _ _ => ⟨_, rfl, rfl⟩⟩
theorem ai_34 : AI 34 8 := ⟨by decide, by decide, fun _ _ => rfl⟩
theorem lk_X2_15 : LK RX2 15 2 1 := ⟨_, _, _, rfl, by decide, uw_2, Or.inl (mem_WT (List.mem_of_getElem? (i := 197) (by decide +kernel)) rfl)⟩
theorem fr_33_1 : FR 33 2 1 35 := ⟨by decide, fun _ _ => ⟨_, rfl, rfl⟩⟩
theorem ai_35 : AI 35 8 := ⟨by decide, by decide, fun _ _ => rfl⟩
theorem lk_X2_18 : LK RX2 18 2 2 := ⟨_, _, _, rfl, by decide, uw_2, Or.inl (mem_WT (List.mem_of_getElem? (i := 199) (by decide +kernel)) rfl)⟩
theorem fr_33_2 : FR 33 2 2 36 := ⟨by decide, fun _ _ => ⟨_, rfl, rfl⟩⟩
theorem ai_36 : AI 36 8 := ⟨by decide, by decide, fun _ _ => rfl⟩
theorem lp_X2_21 : LPu RX2 21 2 3 .int := ⟨_, _, _, tyX2, rfl, by decide, uw_2, tyX2_ok, nmX2, rfl, by decide +kernel, Or.inl (mem_WT (List.mem_of_getElem? (i := 201) (by decide +kernel)) rfl)⟩
theorem fo_33 : FO 33 2 := ⟨by decide, fun _ _ => ⟨_, rfl⟩⟩
theorem lv_X7_233 : LVi RX7 233 yX7_allCoastsAreSo cX7_allCoastsAreSo 4 (some .boolean) 1 := ⟨⟨mem_WT (List.mem_of_getElem? (i := 738) (by decide +kernel)) rfl, mem_WT (List.mem_of_getElem? (i := 81) (by decide +kernel)) rfl, by decide +kernel, by decide, Or.inl (mem_WT (List.mem_of_getElem? (i := 735) (by decide +kernel)) rfl)⟩, mem_WT (List.mem_of_getElem? (i := 737) (by decide +kernel)) rfl, mem_WT (List.mem_of_getElem? (i := 39) (by decide +kernel)) rfl⟩
theorem lk_X7_321 : LK RX7 321 2 0 := ⟨_, _, _, rfl, by decide, uw_2, Or.inr ⟨"CartsDownHill", List.mem_of_getElem? (i := 196) (by decide +kernel)⟩⟩
theorem lk_X7_327 : LK RX7 327 2 2 := ⟨_, _, _, rfl, by decide, uw_2, Or.inr ⟨"CartsDownHill", List.mem_of_getElem? (i := 200) (by decide +kernel)⟩⟩
theorem lk_X7_324 : LK RX7 324 2 1 := ⟨_, _, _, rfl, by decide, uw_2, Or.inr ⟨"CartsDownHill", List.mem_of_getElem? (i := 198) (by decide +kernel)⟩⟩
theorem lv_X7_236 : LVi RX7 236 yX7_timeOf cX7_timeOf 3 (some .int) 2 := ⟨⟨mem_WT (List.mem_of_getElem? (i := 746) (by decide +kernel)) rfl, mem_WT (List.mem_of_getElem? (i := 81) (by decide +kernel)) rfl, by decide +kernel, by decide, Or.inl (mem_WT (List.mem_of_getElem? (i := 743) (by decide +kernel)) rfl)⟩, mem_WT (List.mem_of_getElem? (i := 745) (by decide +kernel)) rfl, mem_WT (List.mem_of_getElem? (i := 40) (by decide +kernel)) rfl⟩
theorem ls_X7_239 : LSt RX7 239 yX7_tenths cX7_tenths 4 (some .int) 3 := ⟨⟨mem_WT (List.mem_of_getElem? (i := 749) (by decide +kernel)) rfl, mem_WT (List.mem_of_getElem? (i := 81) (by decide +kernel)) rfl, by decide +kernel, by decide, Or.inl (mem_WT (List.mem_of_getElem? (i := 747) (by decide +kernel)) rfl)⟩, mem_WT (List.mem_of_getElem? (i := 748) (by decide +kernel)) rfl⟩
theorem kw_X7_358 : Cond.methodLink RX7 358 Lib.Math.abs.name ∈ WT := mem_WT (List.mem_of_getElem? (i := 750) (by decide +kernel)) rfl
theorem kw_mabs1 : Cond.static Lib.Math.abs.name ∈ WT := mem_WT (List.mem_of_getElem? (i := 751) (by decide +kernel)) rfl
theorem kw_mabs3 : Cond.code Lib.Math.abs.name Lib.Math.abs.code 1 (some .int) ∈ WT := mem_WT (List.mem_of_getElem? (i := 752) (by decide +kernel)) rfl
theorem lv_X7_242 : LVi RX7 242 yX7_refusalOfFour cX7_refusalOfFour 6 (some .int) 4 := ⟨⟨mem_WT (List.mem_of_getElem? (i := 760) (by decide +kernel)) rfl, mem_WT (List.mem_of_getElem? (i := 81) (by decide +kernel)) rfl, by decide +kernel, by decide, Or.inl (mem_WT (List.mem_of_getElem? (i := 757) (by decide +kernel)) rfl)⟩, mem_WT (List.mem_of_getElem? (i := 759) (by decide +kernel)) rfl, mem_WT (List.mem_of_getElem? (i := 41) (by decide +kernel)) rfl⟩
theorem lv_X7_246 : LVi RX7 246 yX7_takeTimes cX7_takeTimes 6 none 5 := ⟨⟨mem_WT (List.mem_of_getElem? (i := 764) (by decide +kernel)) rfl, mem_WT (List.mem_of_getElem? (i := 81) (by decide +kernel)) rfl, by decide +kernel, by decide, Or.inl (mem_WT (List.mem_of_getElem? (i := 761) (by decide +kernel)) rfl)⟩, mem_WT (List.mem_of_getElem? (i := 763) (by decide +kernel)) rfl, mem_WT (List.mem_of_getElem? (i := 42) (by decide +kernel)) rfl⟩
theorem lk_X7_60 : LK RX7 60 7 7 := ⟨_, _, _, rfl, by decide, uw_7, Or.inl (mem_WT (List.mem_of_getElem? (i := 332) (by decide +kernel)) rfl)⟩
theorem fr_0_7 : FR 0 7 7 53 := ⟨by decide, fun _ _ => ⟨_, rfl, rfl⟩⟩
theorem ai_53 : AI 53 4 := ⟨by decide, by decide, fun _ _ => rfl⟩
theorem lv_X7_250 : LVi RX7 250 yX7_thousandths cX7_thousandths 10 (some .int) 3 := ⟨⟨mem_WT (List.mem_of_getElem? (i := 768) (by decide +kernel)) rfl, mem_WT (List.mem_of_getElem? (i := 81) (by decide +kernel)) rfl, by decide +kernel, by decide, Or.inl (mem_WT (List.mem_of_getElem? (i := 765) (by decide +kernel)) rfl)⟩, mem_WT (List.mem_of_getElem? (i := 767) (by decide +kernel)) rfl, mem_WT (List.mem_of_getElem? (i := 43) (by decide +kernel)) rfl⟩
theorem kc_X7_253 : Cond.constantLong RX7 253 1000 ∈ WT := mem_WT (List.mem_of_getElem? (i := 769) (by decide +kernel)) rfl
theorem ls_X7_255 : LSt RX7 255 yX7_lowest cX7_lowest 12 (some .long) 3 := ⟨⟨mem_WT (List.mem_of_getElem? (i := 772) (by decide +kernel)) rfl, mem_WT (List.mem_of_getElem? (i := 81) (by decide +kernel)) rfl, by decide +kernel, by decide, Or.inl (mem_WT (List.mem_of_getElem? (i := 770) (by decide +kernel)) rfl)⟩, mem_WT (List.mem_of_getElem? (i := 771) (by decide +kernel)) rfl⟩
theorem lv_X7_259 : LVi RX7 259 yX7_quickestOfFour cX7_quickestOfFour 4 (some .int) 0 := ⟨⟨mem_WT (List.mem_of_getElem? (i := 780) (by decide +kernel)) rfl, mem_WT (List.mem_of_getElem? (i := 81) (by decide +kernel)) rfl, by decide +kernel, by decide, Or.inl (mem_WT (List.mem_of_getElem? (i := 777) (by decide +kernel)) rfl)⟩, mem_WT (List.mem_of_getElem? (i := 779) (by decide +kernel)) rfl, mem_WT (List.mem_of_getElem? (i := 44) (by decide +kernel)) rfl⟩
theorem lv_X7_262 : LVi RX7 262 yX7_weighBends cX7_weighBends 4 none 1 := ⟨⟨mem_WT (List.mem_of_getElem? (i := 788) (by decide +kernel)) rfl, mem_WT (List.mem_of_getElem? (i := 81) (by decide +kernel)) rfl, by decide +kernel, by decide, Or.inl (mem_WT (List.mem_of_getElem? (i := 785) (by decide +kernel)) rfl)⟩, mem_WT (List.mem_of_getElem? (i := 787) (by decide +kernel)) rfl, mem_WT (List.mem_of_getElem? (i := 45) (by decide +kernel)) rfl⟩
theorem lk_X7_64 : LK RX7 64 7 8 := ⟨_, _, _, rfl, by decide, uw_7, Or.inl (mem_WT (List.mem_of_getElem? (i := 333) (by decide +kernel)) rfl)⟩
theorem fr_0_8 : FR 0 7 8 54 := ⟨by decide, fun _ _ => ⟨_, rfl, rfl⟩⟩
theorem ai_54 : AI 54 4 := ⟨by decide, by decide, fun _ _ => rfl⟩
theorem lv_X7_361 : LVi RX7 361 yX6_bearable cX6_bearable 2 (some .int) 1 := ⟨⟨mem_WT (List.mem_of_getElem? (i := 630) (by decide +kernel)) rfl, mem_WT (List.mem_of_getElem? (i := 87) (by decide +kernel)) rfl, by decide +kernel, by decide, Or.inr ⟨"CartsDownHill", List.mem_of_getElem? (i := 789) (by decide +kernel)⟩⟩, mem_WT (List.mem_of_getElem? (i := 629) (by decide +kernel)) rfl, mem_WT (List.mem_of_getElem? (i := 24) (by decide +kernel)) rfl⟩
theorem ls_X7_364 : LSt RX7 364 yX7_safeHundredths cX7_safeHundredths 3 (some .int) 3 := ⟨⟨mem_WT (List.mem_of_getElem? (i := 792) (by decide +kernel)) rfl, mem_WT (List.mem_of_getElem? (i := 81) (by decide +kernel)) rfl, by decide +kernel, by decide, Or.inl (mem_WT (List.mem_of_getElem? (i := 790) (by decide +kernel)) rfl)⟩, mem_WT (List.mem_of_getElem? (i := 791) (by decide +kernel)) rfl⟩
theorem lv_X7_265 : LVi RX7 265 yX7_stayingWith cX7_stayingWith 6 (some .long) 1 := ⟨⟨mem_WT (List.mem_of_getElem? (i := 796) (by decide +kernel)) rfl, mem_WT (List.mem_of_getElem? (i := 81) (by decide +kernel)) rfl, by decide +kernel, by decide, Or.inl (mem_WT (List.mem_of_getElem? (i := 793) (by decide +kernel)) rfl)⟩, mem_WT (List.mem_of_getElem? (i := 795) (by decide +kernel)) rfl, mem_WT (List.mem_of_getElem? (i := 46) (by decide +kernel)) rfl⟩
theorem kc_X7_367 : Cond.constantLong RX7 367 100 ∈ WT := mem_WT (List.mem_of_getElem? (i := 797) (by decide +kernel)) rfl
theorem kc_X7_269 : Cond.constantLong RX7 269 100000000 ∈ WT := mem_WT (List.mem_of_getElem? (i := 798) (by decide +kernel)) rfl
theorem lv_X7_271 : LVi RX7 271 yX3_bends cX3_bends 3 (some .int) 0 := ⟨⟨mem_WT (List.mem_of_getElem? (i := 806) (by decide +kernel)) rfl, mem_WT (List.mem_of_getElem? (i := 83) (by decide +kernel)) rfl, by decide +kernel, by decide, Or.inr ⟨"CartsDownHill", List.mem_of_getElem? (i := 803) (by decide +kernel)⟩⟩, mem_WT (List.mem_of_getElem? (i := 805) (by decide +kernel)) rfl, mem_WT (List.mem_of_getElem? (i := 47) (by decide +kernel)) rfl⟩
theorem kc_X7_274 : Cond.constantLong RX7 274 (-1) ∈ WT := mem_WT (List.mem_of_getElem? (i := 807) (by decide +kernel)) rfl
theorem ls_X7_281 : LSt RX7 281 yJ6_bitCount_0f7a4 cJ6_bitCount_0f7a4 1 (some .int) 1 := ⟨⟨mem_WT (List.mem_of_getElem? (i := 810) (by decide +kernel)) rfl, mem_WT (List.mem_of_getElem? (i := 98) (by decide +kernel)) rfl, by decide +kernel, by decide, Or.inl (mem_WT (List.mem_of_getElem? (i := 808) (by decide +kernel)) rfl)⟩, mem_WT (List.mem_of_getElem? (i := 809) (by decide +kernel)) rfl⟩
theorem kc_J6_265 : Cond.constant RJ6 265 1431655765 ∈ WT := mem_WT (List.mem_of_getElem? (i := 811) (by decide +kernel)) rfl
theorem kc_J6_266 : Cond.constant RJ6 266 858993459 ∈ WT := mem_WT (List.mem_of_getElem? (i := 812) (by decide +kernel)) rfl
theorem kc_J6_267 : Cond.constant RJ6 267 252645135 ∈ WT := mem_WT (List.mem_of_getElem? (i := 813) (by decide +kernel)) rfl
theorem lk_X7_40 : LK RX7 40 7 4 := ⟨_, _, _, rfl, by decide, uw_7, Or.inl (mem_WT (List.mem_of_getElem? (i := 329) (by decide +kernel)) rfl)⟩
theorem fr_0_4 : FR 0 7 4 37 := ⟨by decide, fun _ _ => ⟨_, rfl, rfl⟩⟩
theorem lk_X7_286 : LK RX7 286 3 5 := ⟨_, _, _, rfl, by decide, uw_3, Or.inr ⟨"CartsDownHill", List.mem_of_getElem? (i := 147) (by decide +kernel)⟩⟩
theorem uw_4 : ∀ w ∈ u_ws RX4 TX4 6, w ∈ WT := fun w hw => mem_WT (mem_places [232, 234, 236, 238, 240, 242] (by decide +kernel) w hw) (List.all_eq_true.mp (show (u_ws RX4 TX4 6).all goodWord = true by decide +kernel) w hw)
theorem lp_X7_289 : LPu RX7 289 4 5 .int := ⟨_, _, _, tyX4, rfl, by decide, uw_4, tyX4_ok, nmX4, rfl, by decide +kernel, Or.inr ⟨"CartsDownHill", List.mem_of_getElem? (i := 231) (by decide +kernel)⟩⟩
theorem lp_X7_292 : LPu RX7 292 4 4 .int := ⟨_, _, _, tyX4, rfl, by decide, uw_4, tyX4_ok, nmX4, rfl, by decide +kernel, Or.inr ⟨"CartsDownHill", List.mem_of_getElem? (i := 229) (by decide +kernel)⟩⟩
theorem lp_X7_293 : LPu RX7 293 4 3 .int := ⟨_, _, _, tyX4, rfl, by decide, uw_4, tyX4_ok, nmX4, rfl, by decide +kernel, Or.inr ⟨"CartsDownHill", List.mem_of_getElem? (i := 227) (by decide +kernel)⟩⟩
theorem lk_X7_297 : LK RX7 297 4 1 := ⟨_, _, _, rfl, by decide, uw_4, Or.inr ⟨"CartsDownHill", List.mem_of_getElem? (i := 223) (by decide +kernel)⟩⟩
theorem fr_37_1 : FR 37 4 1 39 := ⟨by decide, fun _ _ => ⟨_, rfl, rfl⟩⟩
theorem ai_39 : AI 39 12 := ⟨by decide, by decide, fun _ _ => rfl⟩
theorem kw_X7_298 : Cond.methodLink RX7 298 arraycopyName ∈ WT := mem_WT (List.mem_of_getElem? (i := 818) (by decide +kernel)) rfl
theorem lk_X7_304 : LK RX7 304 4 2 := ⟨_, _, _, rfl, by decide, uw_4, Or.inr ⟨"CartsDownHill", List.mem_of_getElem? (i := 225) (by decide +kernel)⟩⟩
theorem fr_37_2 : FR 37 4 2 40 := ⟨by decide, fun _ _ => ⟨_, rfl, rfl⟩⟩
theorem lv_X7_305 : LVi RX7 305 yX2_copy cX2_copy 2 none 1 := ⟨⟨mem_WT (List.mem_of_getElem? (i := 822) (by decide +kernel)) rfl, mem_WT (List.mem_of_getElem? (i := 85) (by decide +kernel)) rfl, by decide +kernel, by decide, Or.inr ⟨"CartsDownHill", List.mem_of_getElem? (i := 819) (by decide +kernel)⟩⟩, mem_WT (List.mem_of_getElem? (i := 821) (by decide +kernel)) rfl, mem_WT (List.mem_of_getElem? (i := 48) (by decide +kernel)) rfl⟩
theorem fr_40_0 : FR 40 2 0 41 := ⟨by decide, fun _ _ => ⟨_, rfl, rfl⟩⟩
theorem ai_41 : AI 41 8 := ⟨by decide, by decide, fun _ _ => rfl⟩
theorem kw_X2_25 : Cond.methodLink RX2 25 arraycopyName ∈ WT := mem_WT (List.mem_of_getElem? (i := 823) (by decide +kernel)) rfl
theorem fr_40_1 : FR 40 2 1 42 := ⟨by decide, fun _ _ => ⟨_, rfl, rfl⟩⟩
theorem ai_42 : AI 42 8 := ⟨by decide, by decide, fun _ _ => rfl⟩
theorem fr_40_2 : FR 40 2 2 43 := ⟨by decide, fun _ _ => ⟨_, rfl, rfl⟩⟩
theorem ai_43 : AI 43 8 := ⟨by decide, by decide, fun _ _ => rfl⟩
theorem fi_40_3 : FI 40 2 3 := ⟨by decide, fun _ _ => ⟨_, rfl, rfl, Nat.le_of_ble_eq_true rfl, fun _ => rfl⟩⟩
theorem fo_40 : FO 40 2 := ⟨by decide, fun _ _ => ⟨_, rfl⟩⟩
theorem lk_X7_294 : LK RX7 294 4 0 := ⟨_, _, _, rfl, by decide, uw_4, Or.inr ⟨"CartsDownHill", List.mem_of_getElem? (i := 221) (by decide +kernel)⟩⟩
theorem fr_37_0 : FR 37 4 0 38 := ⟨by decide, fun _ _ => ⟨_, rfl, rfl⟩⟩
theorem ai_38 : AI 38 8 := ⟨by decide, by decide, fun _ _ => rfl⟩
theorem fi_37_3 : FI 37 4 3 := ⟨by decide, fun _ _ => ⟨_, rfl, rfl, Nat.le_of_ble_eq_true rfl, fun _ => rfl⟩⟩
theorem fi_37_4 : FI 37 4 4 := ⟨by decide, fun _ _ => ⟨_, rfl, rfl, Nat.le_of_ble_eq_true rfl, fun _ => rfl⟩⟩
theorem fi_37_5 : FI 37 4 5 := ⟨by decide, fun _ _ => ⟨_, rfl, rfl, Nat.le_of_ble_eq_true rfl, fun _ => rfl⟩⟩
theorem lk_X7_289 : LK RX7 289 4 5 := ⟨_, _, _, rfl, by decide, uw_4, Or.inr ⟨"CartsDownHill", List.mem_of_getElem? (i := 231) (by decide +kernel)⟩⟩
theorem lk_X7_292 : LK RX7 292 4 4 := ⟨_, _, _, rfl, by decide, uw_4, Or.inr ⟨"CartsDownHill", List.mem_of_getElem? (i := 229) (by decide +kernel)⟩⟩
theorem lk_X7_293 : LK RX7 293 4 3 := ⟨_, _, _, rfl, by decide, uw_4, Or.inr ⟨"CartsDownHill", List.mem_of_getElem? (i := 227) (by decide +kernel)⟩⟩
theorem kc_X7_309 : Cond.constantLong RX7 309 491 ∈ WT := mem_WT (List.mem_of_getElem? (i := 836) (by decide +kernel)) rfl
theorem lv_X7_330 : LVi RX7 330 yX7_rubs cX7_rubs 3 (some .int) 0 := ⟨⟨mem_WT (List.mem_of_getElem? (i := 734) (by decide +kernel)) rfl, mem_WT (List.mem_of_getElem? (i := 81) (by decide +kernel)) rfl, by decide +kernel, by decide, Or.inl (mem_WT (List.mem_of_getElem? (i := 846) (by decide +kernel)) rfl)⟩, mem_WT (List.mem_of_getElem? (i := 732) (by decide +kernel)) rfl, mem_WT (List.mem_of_getElem? (i := 733) (by decide +kernel)) rfl⟩
theorem ls_X7_314 : LSt RX7 314 yX7_mixed cX7_mixed 3 (some .long) 2 := ⟨⟨mem_WT (List.mem_of_getElem? (i := 840) (by decide +kernel)) rfl, mem_WT (List.mem_of_getElem? (i := 81) (by decide +kernel)) rfl, by decide +kernel, by decide, Or.inl (mem_WT (List.mem_of_getElem? (i := 838) (by decide +kernel)) rfl)⟩, mem_WT (List.mem_of_getElem? (i := 839) (by decide +kernel)) rfl⟩
theorem kc_X7_369 : Cond.constantLong RX7 369 31 ∈ WT := mem_WT (List.mem_of_getElem? (i := 841) (by decide +kernel)) rfl
theorem lv_X7_336 : LVi RX7 336 yX7_count cX7_count 2 (some .int) 1 := ⟨⟨mem_WT (List.mem_of_getElem? (i := 831) (by decide +kernel)) rfl, mem_WT (List.mem_of_getElem? (i := 81) (by decide +kernel)) rfl, by decide +kernel, by decide, Or.inl (mem_WT (List.mem_of_getElem? (i := 847) (by decide +kernel)) rfl)⟩, mem_WT (List.mem_of_getElem? (i := 829) (by decide +kernel)) rfl, mem_WT (List.mem_of_getElem? (i := 830) (by decide +kernel)) rfl⟩
theorem lk_X7_333 : LK RX7 333 5 0 := ⟨_, _, _, rfl, by decide, uw_5, Or.inr ⟨"CartsDownHill", List.mem_of_getElem? (i := 114) (by decide +kernel)⟩⟩
theorem lv_X7_318 : LVi RX7 318 yX7_mixedCart cX7_mixedCart 7 (some .long) 2 := ⟨⟨mem_WT (List.mem_of_getElem? (i := 845) (by decide +kernel)) rfl, mem_WT (List.mem_of_getElem? (i := 81) (by decide +kernel)) rfl, by decide +kernel, by decide, Or.inl (mem_WT (List.mem_of_getElem? (i := 842) (by decide +kernel)) rfl)⟩, mem_WT (List.mem_of_getElem? (i := 844) (by decide +kernel)) rfl, mem_WT (List.mem_of_getElem? (i := 49) (by decide +kernel)) rfl⟩
theorem lv_X7_311 : LVi RX7 311 yX7_cell cX7_cell 3 (some .int) 2 := ⟨⟨mem_WT (List.mem_of_getElem? (i := 543) (by decide +kernel)) rfl, mem_WT (List.mem_of_getElem? (i := 81) (by decide +kernel)) rfl, by decide +kernel, by decide, Or.inl (mem_WT (List.mem_of_getElem? (i := 837) (by decide +kernel)) rfl)⟩, mem_WT (List.mem_of_getElem? (i := 541) (by decide +kernel)) rfl, mem_WT (List.mem_of_getElem? (i := 542) (by decide +kernel)) rfl⟩
theorem uw_8 : ∀ w ∈ u_ws RX8 TX8 40, w ∈ WT := fun w hw => mem_WT (mem_places [894, 896, 898, 900, 902, 904, 906, 908, 910, 912, 914, 916, 918, 920, 922, 924, 926, 928, 930, 932, 934, 936, 938, 940, 942, 944, 946, 948, 950, 952, 954, 956, 958, 960, 962, 964, 966, 968, 970, 972] (by decide +kernel) w hw) (List.all_eq_true.mp (show (u_ws RX8 TX8 40).all goodWord = true by decide +kernel) w hw)
theorem lk_X8_76 : LK RX8 76 8 1 := ⟨_, _, _, rfl, by decide, uw_8, Or.inl (mem_WT (List.mem_of_getElem? (i := 855) (by decide +kernel)) rfl)⟩
theorem fi_55_1 : FI 55 8 1 := ⟨by decide, fun _ _ => ⟨_, rfl, rfl, Nat.le_of_ble_eq_true rfl, fun _ => rfl⟩⟩
theorem lk_X8_7 : LK RX8 7 8 0 := ⟨_, _, _, rfl, by decide, uw_8, Or.inl (mem_WT (List.mem_of_getElem? (i := 854) (by decide +kernel)) rfl)⟩
theorem fr_55_0 : FR 55 8 0 56 := ⟨by decide, fun _ _ => ⟨_, rfl, rfl⟩⟩
theorem kc_X8_74 : Cond.constantLong RX8 74 255 ∈ WT := mem_WT (List.mem_of_getElem? (i := 979) (by decide +kernel)) rfl
theorem ai_56 : AI 56 50 := ⟨by decide, by decide, fun _ _ => rfl⟩
theorem lp_X8_76 : LPu RX8 76 8 1 .int := ⟨_, _, _, tyX8, rfl, by decide, uw_8, tyX8_ok, nmX8, rfl, by decide +kernel, Or.inl (mem_WT (List.mem_of_getElem? (i := 855) (by decide +kernel)) rfl)⟩
theorem ls_X8_89 : LSt RX8 89 yX8_in cX8_in 6 (some .boolean) 3 := ⟨⟨mem_WT (List.mem_of_getElem? (i := 990) (by decide +kernel)) rfl, mem_WT (List.mem_of_getElem? (i := 89) (by decide +kernel)) rfl, by decide +kernel, by decide, Or.inl (mem_WT (List.mem_of_getElem? (i := 988) (by decide +kernel)) rfl)⟩, mem_WT (List.mem_of_getElem? (i := 989) (by decide +kernel)) rfl⟩
theorem lv_X8_113 : LVi RX8 113 yX8_faultOf cX8_faultOf 3 (some .int) 1 := ⟨⟨mem_WT (List.mem_of_getElem? (i := 994) (by decide +kernel)) rfl, mem_WT (List.mem_of_getElem? (i := 89) (by decide +kernel)) rfl, by decide +kernel, by decide, Or.inl (mem_WT (List.mem_of_getElem? (i := 991) (by decide +kernel)) rfl)⟩, mem_WT (List.mem_of_getElem? (i := 993) (by decide +kernel)) rfl, mem_WT (List.mem_of_getElem? (i := 50) (by decide +kernel)) rfl⟩
theorem lp_X8_82 : LPu RX8 82 8 2 .int := ⟨_, _, _, tyX8, rfl, by decide, uw_8, tyX8_ok, nmX8, rfl, by decide +kernel, Or.inl (mem_WT (List.mem_of_getElem? (i := 856) (by decide +kernel)) rfl)⟩
theorem lp_X8_79 : LPu RX8 79 8 3 .int := ⟨_, _, _, tyX8, rfl, by decide, uw_8, tyX8_ok, nmX8, rfl, by decide +kernel, Or.inl (mem_WT (List.mem_of_getElem? (i := 857) (by decide +kernel)) rfl)⟩
theorem lv_X8_106 : LVi RX8 106 yX8_goHill cX8_goHill 3 (some .boolean) 1 := ⟨⟨mem_WT (List.mem_of_getElem? (i := 998) (by decide +kernel)) rfl, mem_WT (List.mem_of_getElem? (i := 89) (by decide +kernel)) rfl, by decide +kernel, by decide, Or.inl (mem_WT (List.mem_of_getElem? (i := 995) (by decide +kernel)) rfl)⟩, mem_WT (List.mem_of_getElem? (i := 997) (by decide +kernel)) rfl, mem_WT (List.mem_of_getElem? (i := 51) (by decide +kernel)) rfl⟩
theorem lk_X8_79 : LK RX8 79 8 3 := ⟨_, _, _, rfl, by decide, uw_8, Or.inl (mem_WT (List.mem_of_getElem? (i := 857) (by decide +kernel)) rfl)⟩
theorem fi_55_3 : FI 55 8 3 := ⟨by decide, fun _ _ => ⟨_, rfl, rfl, Nat.le_of_ble_eq_true rfl, fun _ => rfl⟩⟩
theorem lk_X8_82 : LK RX8 82 8 2 := ⟨_, _, _, rfl, by decide, uw_8, Or.inl (mem_WT (List.mem_of_getElem? (i := 856) (by decide +kernel)) rfl)⟩
theorem fi_55_2 : FI 55 8 2 := ⟨by decide, fun _ _ => ⟨_, rfl, rfl, Nat.le_of_ble_eq_true rfl, fun _ => rfl⟩⟩
theorem lk_X8_13 : LK RX8 13 8 5 := ⟨_, _, _, rfl, by decide, uw_8, Or.inl (mem_WT (List.mem_of_getElem? (i := 859) (by decide +kernel)) rfl)⟩
theorem fr_55_5 : FR 55 8 5 57 := ⟨by decide, fun _ _ => ⟨_, rfl, rfl⟩⟩
theorem ai_57 : AI 57 36 := ⟨by decide, by decide, fun _ _ => rfl⟩
theorem kc_X8_85 : Cond.constantLong RX8 85 48 ∈ WT := mem_WT (List.mem_of_getElem? (i := 999) (by decide +kernel)) rfl
theorem kc_X8_87 : Cond.constantLong RX8 87 57 ∈ WT := mem_WT (List.mem_of_getElem? (i := 1000) (by decide +kernel)) rfl
theorem lv_X8_93 : LVi RX8 93 yX8_goNext cX8_goNext 3 (some .boolean) 2 := ⟨⟨mem_WT (List.mem_of_getElem? (i := 1004) (by decide +kernel)) rfl, mem_WT (List.mem_of_getElem? (i := 89) (by decide +kernel)) rfl, by decide +kernel, by decide, Or.inl (mem_WT (List.mem_of_getElem? (i := 1001) (by decide +kernel)) rfl)⟩, mem_WT (List.mem_of_getElem? (i := 1003) (by decide +kernel)) rfl, mem_WT (List.mem_of_getElem? (i := 52) (by decide +kernel)) rfl⟩
theorem fo_55 : FO 55 8 := ⟨by decide, fun _ _ => ⟨_, rfl⟩⟩
theorem kc_X8_97 : Cond.constantLong RX8 97 49 ∈ WT := mem_WT (List.mem_of_getElem? (i := 1005) (by decide +kernel)) rfl
theorem lv_X8_110 : LVi RX8 110 yX8_goCart cX8_goCart 3 (some .boolean) 1 := ⟨⟨mem_WT (List.mem_of_getElem? (i := 1009) (by decide +kernel)) rfl, mem_WT (List.mem_of_getElem? (i := 89) (by decide +kernel)) rfl, by decide +kernel, by decide, Or.inl (mem_WT (List.mem_of_getElem? (i := 1006) (by decide +kernel)) rfl)⟩, mem_WT (List.mem_of_getElem? (i := 1008) (by decide +kernel)) rfl, mem_WT (List.mem_of_getElem? (i := 53) (by decide +kernel)) rfl⟩
theorem lp_X8_99 : LPu RX8 99 8 4 .int := ⟨_, _, _, tyX8, rfl, by decide, uw_8, tyX8_ok, nmX8, rfl, by decide +kernel, Or.inl (mem_WT (List.mem_of_getElem? (i := 858) (by decide +kernel)) rfl)⟩
theorem fi_55_4 : FI 55 8 4 := ⟨by decide, fun _ _ => ⟨_, rfl, rfl, Nat.le_of_ble_eq_true rfl, fun _ => rfl⟩⟩
theorem lk_X8_99 : LK RX8 99 8 4 := ⟨_, _, _, rfl, by decide, uw_8, Or.inl (mem_WT (List.mem_of_getElem? (i := 858) (by decide +kernel)) rfl)⟩
theorem ls_X8_102 : LSt RX8 102 yX8_kindOf cX8_kindOf 1 (some .int) 1 := ⟨⟨mem_WT (List.mem_of_getElem? (i := 1012) (by decide +kernel)) rfl, mem_WT (List.mem_of_getElem? (i := 89) (by decide +kernel)) rfl, by decide +kernel, by decide, Or.inl (mem_WT (List.mem_of_getElem? (i := 1010) (by decide +kernel)) rfl)⟩, mem_WT (List.mem_of_getElem? (i := 1011) (by decide +kernel)) rfl⟩
theorem lp_X8_116 : LPu RX8 116 8 6 .int := ⟨_, _, _, tyX8, rfl, by decide, uw_8, tyX8_ok, nmX8, rfl, by decide +kernel, Or.inl (mem_WT (List.mem_of_getElem? (i := 860) (by decide +kernel)) rfl)⟩
theorem lk_X8_116 : LK RX8 116 8 6 := ⟨_, _, _, rfl, by decide, uw_8, Or.inl (mem_WT (List.mem_of_getElem? (i := 860) (by decide +kernel)) rfl)⟩
theorem fi_55_6 : FI 55 8 6 := ⟨by decide, fun _ _ => ⟨_, rfl, rfl, Nat.le_of_ble_eq_true rfl, fun _ => rfl⟩⟩
theorem lk_X8_119 : LK RX8 119 8 7 := ⟨_, _, _, rfl, by decide, uw_8, Or.inl (mem_WT (List.mem_of_getElem? (i := 861) (by decide +kernel)) rfl)⟩
theorem fi_55_7 : FI 55 8 7 := ⟨by decide, fun _ _ => ⟨_, rfl, rfl, Nat.le_of_ble_eq_true rfl, fun _ => rfl⟩⟩
theorem lp_X8_119 : LPu RX8 119 8 7 .int := ⟨_, _, _, tyX8, rfl, by decide, uw_8, tyX8_ok, nmX8, rfl, by decide +kernel, Or.inl (mem_WT (List.mem_of_getElem? (i := 861) (by decide +kernel)) rfl)⟩
theorem lk_X8_16 : LK RX8 16 8 8 := ⟨_, _, _, rfl, by decide, uw_8, Or.inl (mem_WT (List.mem_of_getElem? (i := 862) (by decide +kernel)) rfl)⟩
theorem fr_55_8 : FR 55 8 8 58 := ⟨by decide, fun _ _ => ⟨_, rfl, rfl⟩⟩
theorem ai_58 : AI 58 12 := ⟨by decide, by decide, fun _ _ => rfl⟩
theorem lk_X8_19 : LK RX8 19 8 9 := ⟨_, _, _, rfl, by decide, uw_8, Or.inl (mem_WT (List.mem_of_getElem? (i := 863) (by decide +kernel)) rfl)⟩
theorem fr_55_9 : FR 55 8 9 59 := ⟨by decide, fun _ _ => ⟨_, rfl, rfl⟩⟩
theorem ai_59 : AI 59 12 := ⟨by decide, by decide, fun _ _ => rfl⟩
theorem lk_X8_22 : LK RX8 22 8 10 := ⟨_, _, _, rfl, by decide, uw_8, Or.inl (mem_WT (List.mem_of_getElem? (i := 864) (by decide +kernel)) rfl)⟩
theorem fr_55_10 : FR 55 8 10 60 := ⟨by decide, fun _ _ => ⟨_, rfl, rfl⟩⟩
theorem ai_60 : AI 60 12 := ⟨by decide, by decide, fun _ _ => rfl⟩
theorem lk_X8_25 : LK RX8 25 8 11 := ⟨_, _, _, rfl, by decide, uw_8, Or.inl (mem_WT (List.mem_of_getElem? (i := 865) (by decide +kernel)) rfl)⟩
theorem fr_55_11 : FR 55 8 11 61 := ⟨by decide, fun _ _ => ⟨_, rfl, rfl⟩⟩
theorem ai_61 : AI 61 12 := ⟨by decide, by decide, fun _ _ => rfl⟩
theorem lk_X8_122 : LK RX8 122 8 12 := ⟨_, _, _, rfl, by decide, uw_8, Or.inl (mem_WT (List.mem_of_getElem? (i := 866) (by decide +kernel)) rfl)⟩
theorem fi_55_12 : FI 55 8 12 := ⟨by decide, fun _ _ => ⟨_, rfl, rfl, Nat.le_of_ble_eq_true rfl, fun _ => rfl⟩⟩
theorem lk_X8_28 : LK RX8 28 8 13 := ⟨_, _, _, rfl, by decide, uw_8, Or.inl (mem_WT (List.mem_of_getElem? (i := 867) (by decide +kernel)) rfl)⟩
theorem fr_55_13 : FR 55 8 13 62 := ⟨by decide, fun _ _ => ⟨_, rfl, rfl⟩⟩
theorem ai_62 : AI 62 8 := ⟨by decide, by decide, fun _ _ => rfl⟩
theorem lk_X8_31 : LK RX8 31 8 14 := ⟨_, _, _, rfl, by decide, uw_8, Or.inl (mem_WT (List.mem_of_getElem? (i := 868) (by decide +kernel)) rfl)⟩
theorem fr_55_14 : FR 55 8 14 63 := ⟨by decide, fun _ _ => ⟨_, rfl, rfl⟩⟩
theorem ai_63 : AI 63 8 := ⟨by decide, by decide, fun _ _ => rfl⟩
theorem lp_X8_122 : LPu RX8 122 8 12 .int := ⟨_, _, _, tyX8, rfl, by decide, uw_8, tyX8_ok, nmX8, rfl, by decide +kernel, Or.inl (mem_WT (List.mem_of_getElem? (i := 866) (by decide +kernel)) rfl)⟩
theorem lk_X8_34 : LK RX8 34 8 15 := ⟨_, _, _, rfl, by decide, uw_8, Or.inl (mem_WT (List.mem_of_getElem? (i := 869) (by decide +kernel)) rfl)⟩
theorem fr_55_15 : FR 55 8 15 64 := ⟨by decide, fun _ _ => ⟨_, rfl, rfl⟩⟩
theorem ai_64 : AI 64 80 := ⟨by decide, by decide, fun _ _ => rfl⟩
theorem lv_X8_125 : LVi RX8 125 yX8_isCell cX8_isCell 2 (some .boolean) 1 := ⟨⟨mem_WT (List.mem_of_getElem? (i := 1028) (by decide +kernel)) rfl, mem_WT (List.mem_of_getElem? (i := 89) (by decide +kernel)) rfl, by decide +kernel, by decide, Or.inl (mem_WT (List.mem_of_getElem? (i := 1025) (by decide +kernel)) rfl)⟩, mem_WT (List.mem_of_getElem? (i := 1027) (by decide +kernel)) rfl, mem_WT (List.mem_of_getElem? (i := 54) (by decide +kernel)) rfl⟩
theorem lv_X8_128 : LVi RX8 128 yX8_cellOf cX8_cellOf 3 (some .int) 2 := ⟨⟨mem_WT (List.mem_of_getElem? (i := 1032) (by decide +kernel)) rfl, mem_WT (List.mem_of_getElem? (i := 89) (by decide +kernel)) rfl, by decide +kernel, by decide, Or.inl (mem_WT (List.mem_of_getElem? (i := 1029) (by decide +kernel)) rfl)⟩, mem_WT (List.mem_of_getElem? (i := 1031) (by decide +kernel)) rfl, mem_WT (List.mem_of_getElem? (i := 55) (by decide +kernel)) rfl⟩
theorem lv_X8_132 : LVi RX8 132 yX8_isCart cX8_isCart 2 (some .boolean) 1 := ⟨⟨mem_WT (List.mem_of_getElem? (i := 1040) (by decide +kernel)) rfl, mem_WT (List.mem_of_getElem? (i := 89) (by decide +kernel)) rfl, by decide +kernel, by decide, Or.inl (mem_WT (List.mem_of_getElem? (i := 1037) (by decide +kernel)) rfl)⟩, mem_WT (List.mem_of_getElem? (i := 1039) (by decide +kernel)) rfl, mem_WT (List.mem_of_getElem? (i := 56) (by decide +kernel)) rfl⟩
theorem lv_X8_135 : LVi RX8 135 yX8_isLoss cX8_isLoss 3 (some .boolean) 2 := ⟨⟨mem_WT (List.mem_of_getElem? (i := 1048) (by decide +kernel)) rfl, mem_WT (List.mem_of_getElem? (i := 89) (by decide +kernel)) rfl, by decide +kernel, by decide, Or.inl (mem_WT (List.mem_of_getElem? (i := 1045) (by decide +kernel)) rfl)⟩, mem_WT (List.mem_of_getElem? (i := 1047) (by decide +kernel)) rfl, mem_WT (List.mem_of_getElem? (i := 57) (by decide +kernel)) rfl⟩
theorem kc_X8_138 : Cond.constantLong RX8 138 5 ∈ WT := mem_WT (List.mem_of_getElem? (i := 1053) (by decide +kernel)) rfl
theorem kc_X8_140 : Cond.constantLong RX8 140 10 ∈ WT := mem_WT (List.mem_of_getElem? (i := 1058) (by decide +kernel)) rfl
theorem kc_X8_142 : Cond.constantLong RX8 142 99 ∈ WT := mem_WT (List.mem_of_getElem? (i := 1059) (by decide +kernel)) rfl
theorem lk_X8_67 : LK RX8 67 8 16 := ⟨_, _, _, rfl, by decide, uw_8, Or.inl (mem_WT (List.mem_of_getElem? (i := 870) (by decide +kernel)) rfl)⟩
theorem fi_55_16 : FI 55 8 16 := ⟨by decide, fun _ _ => ⟨_, rfl, rfl, Nat.le_of_ble_eq_true rfl, fun _ => rfl⟩⟩
theorem lp_X8_67 : LPu RX8 67 8 16 .int := ⟨_, _, _, tyX8, rfl, by decide, uw_8, tyX8_ok, nmX8, rfl, by decide +kernel, Or.inl (mem_WT (List.mem_of_getElem? (i := 870) (by decide +kernel)) rfl)⟩
theorem kc_X8_144 : Cond.constantLong RX8 144 9 ∈ WT := mem_WT (List.mem_of_getElem? (i := 1068) (by decide +kernel)) rfl
theorem lv_X8_182 : LVi RX8 182 yX8_lacks cX8_lacks 1 (some .boolean) 0 := ⟨⟨mem_WT (List.mem_of_getElem? (i := 1076) (by decide +kernel)) rfl, mem_WT (List.mem_of_getElem? (i := 89) (by decide +kernel)) rfl, by decide +kernel, by decide, Or.inl (mem_WT (List.mem_of_getElem? (i := 1073) (by decide +kernel)) rfl)⟩, mem_WT (List.mem_of_getElem? (i := 1075) (by decide +kernel)) rfl, mem_WT (List.mem_of_getElem? (i := 58) (by decide +kernel)) rfl⟩
theorem ls_X8_186 : LSt RX8 186 yX8_isSwing cX8_isSwing 1 (some .boolean) 1 := ⟨⟨mem_WT (List.mem_of_getElem? (i := 1079) (by decide +kernel)) rfl, mem_WT (List.mem_of_getElem? (i := 89) (by decide +kernel)) rfl, by decide +kernel, by decide, Or.inl (mem_WT (List.mem_of_getElem? (i := 1077) (by decide +kernel)) rfl)⟩, mem_WT (List.mem_of_getElem? (i := 1078) (by decide +kernel)) rfl⟩
theorem kc_X8_180 : Cond.constantLong RX8 180 9999 ∈ WT := mem_WT (List.mem_of_getElem? (i := 1080) (by decide +kernel)) rfl
theorem kc_X8_189 : Cond.constantLong RX8 189 3 ∈ WT := mem_WT (List.mem_of_getElem? (i := 1081) (by decide +kernel)) rfl
theorem lv_X8_191 : LVi RX8 191 yX8_take cX8_take 3 none 1 := ⟨⟨mem_WT (List.mem_of_getElem? (i := 1085) (by decide +kernel)) rfl, mem_WT (List.mem_of_getElem? (i := 89) (by decide +kernel)) rfl, by decide +kernel, by decide, Or.inl (mem_WT (List.mem_of_getElem? (i := 1082) (by decide +kernel)) rfl)⟩, mem_WT (List.mem_of_getElem? (i := 1084) (by decide +kernel)) rfl, mem_WT (List.mem_of_getElem? (i := 59) (by decide +kernel)) rfl⟩
theorem lp_X8_146 : LPu RX8 146 8 17 .int := ⟨_, _, _, tyX8, rfl, by decide, uw_8, tyX8_ok, nmX8, rfl, by decide +kernel, Or.inl (mem_WT (List.mem_of_getElem? (i := 871) (by decide +kernel)) rfl)⟩
theorem lp_X8_149 : LPu RX8 149 8 18 .int := ⟨_, _, _, tyX8, rfl, by decide, uw_8, tyX8_ok, nmX8, rfl, by decide +kernel, Or.inl (mem_WT (List.mem_of_getElem? (i := 872) (by decide +kernel)) rfl)⟩
theorem lk_X8_149 : LK RX8 149 8 18 := ⟨_, _, _, rfl, by decide, uw_8, Or.inl (mem_WT (List.mem_of_getElem? (i := 872) (by decide +kernel)) rfl)⟩
theorem fi_55_18 : FI 55 8 18 := ⟨by decide, fun _ _ => ⟨_, rfl, rfl, Nat.le_of_ble_eq_true rfl, fun _ => rfl⟩⟩
theorem lk_X8_43 : LK RX8 43 8 21 := ⟨_, _, _, rfl, by decide, uw_8, Or.inl (mem_WT (List.mem_of_getElem? (i := 875) (by decide +kernel)) rfl)⟩
theorem fr_55_21 : FR 55 8 21 67 := ⟨by decide, fun _ _ => ⟨_, rfl, rfl⟩⟩
theorem ai_67 : AI 67 12 := ⟨by decide, by decide, fun _ _ => rfl⟩
theorem lk_X8_37 : LK RX8 37 8 19 := ⟨_, _, _, rfl, by decide, uw_8, Or.inl (mem_WT (List.mem_of_getElem? (i := 873) (by decide +kernel)) rfl)⟩
theorem fr_55_19 : FR 55 8 19 65 := ⟨by decide, fun _ _ => ⟨_, rfl, rfl⟩⟩
theorem ai_65 : AI 65 6 := ⟨by decide, by decide, fun _ _ => rfl⟩
theorem lk_X8_40 : LK RX8 40 8 20 := ⟨_, _, _, rfl, by decide, uw_8, Or.inl (mem_WT (List.mem_of_getElem? (i := 874) (by decide +kernel)) rfl)⟩
theorem fr_55_20 : FR 55 8 20 66 := ⟨by decide, fun _ _ => ⟨_, rfl, rfl⟩⟩
theorem ai_66 : AI 66 6 := ⟨by decide, by decide, fun _ _ => rfl⟩
theorem fi_55_17 : FI 55 8 17 := ⟨by decide, fun _ _ => ⟨_, rfl, rfl, Nat.le_of_ble_eq_true rfl, fun _ => rfl⟩⟩
theorem lv_X8_195 : LVi RX8 195 yX8_go cX8_go 3 none 1 := ⟨⟨mem_WT (List.mem_of_getElem? (i := 1089) (by decide +kernel)) rfl, mem_WT (List.mem_of_getElem? (i := 89) (by decide +kernel)) rfl, by decide +kernel, by decide, Or.inl (mem_WT (List.mem_of_getElem? (i := 1086) (by decide +kernel)) rfl)⟩, mem_WT (List.mem_of_getElem? (i := 1088) (by decide +kernel)) rfl, mem_WT (List.mem_of_getElem? (i := 60) (by decide +kernel)) rfl⟩
theorem lp_X8_152 : LPu RX8 152 8 25 .int := ⟨_, _, _, tyX8, rfl, by decide, uw_8, tyX8_ok, nmX8, rfl, by decide +kernel, Or.inl (mem_WT (List.mem_of_getElem? (i := 879) (by decide +kernel)) rfl)⟩
theorem lp_X8_162 : LPu RX8 162 8 24 .int := ⟨_, _, _, tyX8, rfl, by decide, uw_8, tyX8_ok, nmX8, rfl, by decide +kernel, Or.inl (mem_WT (List.mem_of_getElem? (i := 878) (by decide +kernel)) rfl)⟩
theorem lp_X8_165 : LPu RX8 165 8 22 .int := ⟨_, _, _, tyX8, rfl, by decide, uw_8, tyX8_ok, nmX8, rfl, by decide +kernel, Or.inl (mem_WT (List.mem_of_getElem? (i := 876) (by decide +kernel)) rfl)⟩
theorem lp_X8_168 : LPu RX8 168 8 23 .int := ⟨_, _, _, tyX8, rfl, by decide, uw_8, tyX8_ok, nmX8, rfl, by decide +kernel, Or.inl (mem_WT (List.mem_of_getElem? (i := 877) (by decide +kernel)) rfl)⟩
theorem lp_X8_159 : LPu RX8 159 8 28 .int := ⟨_, _, _, tyX8, rfl, by decide, uw_8, tyX8_ok, nmX8, rfl, by decide +kernel, Or.inl (mem_WT (List.mem_of_getElem? (i := 882) (by decide +kernel)) rfl)⟩
theorem lv_X8_171 : LVi RX8 171 yX8_goCell cX8_goCell 6 (some .int) 1 := ⟨⟨mem_WT (List.mem_of_getElem? (i := 1093) (by decide +kernel)) rfl, mem_WT (List.mem_of_getElem? (i := 89) (by decide +kernel)) rfl, by decide +kernel, by decide, Or.inl (mem_WT (List.mem_of_getElem? (i := 1090) (by decide +kernel)) rfl)⟩, mem_WT (List.mem_of_getElem? (i := 1092) (by decide +kernel)) rfl, mem_WT (List.mem_of_getElem? (i := 61) (by decide +kernel)) rfl⟩
theorem lk_X8_152 : LK RX8 152 8 25 := ⟨_, _, _, rfl, by decide, uw_8, Or.inl (mem_WT (List.mem_of_getElem? (i := 879) (by decide +kernel)) rfl)⟩
theorem fi_55_25 : FI 55 8 25 := ⟨by decide, fun _ _ => ⟨_, rfl, rfl, Nat.le_of_ble_eq_true rfl, fun _ => rfl⟩⟩
theorem lk_X8_159 : LK RX8 159 8 28 := ⟨_, _, _, rfl, by decide, uw_8, Or.inl (mem_WT (List.mem_of_getElem? (i := 882) (by decide +kernel)) rfl)⟩
theorem fi_55_28 : FI 55 8 28 := ⟨by decide, fun _ _ => ⟨_, rfl, rfl, Nat.le_of_ble_eq_true rfl, fun _ => rfl⟩⟩
theorem lv_X8_155 : LVi RX8 155 yX8_takes cX8_takes 7 (some .int) 5 := ⟨⟨mem_WT (List.mem_of_getElem? (i := 1097) (by decide +kernel)) rfl, mem_WT (List.mem_of_getElem? (i := 89) (by decide +kernel)) rfl, by decide +kernel, by decide, Or.inl (mem_WT (List.mem_of_getElem? (i := 1094) (by decide +kernel)) rfl)⟩, mem_WT (List.mem_of_getElem? (i := 1096) (by decide +kernel)) rfl, mem_WT (List.mem_of_getElem? (i := 62) (by decide +kernel)) rfl⟩
theorem lk_X8_146 : LK RX8 146 8 17 := ⟨_, _, _, rfl, by decide, uw_8, Or.inl (mem_WT (List.mem_of_getElem? (i := 871) (by decide +kernel)) rfl)⟩
theorem lk_X8_49 : LK RX8 49 8 27 := ⟨_, _, _, rfl, by decide, uw_8, Or.inl (mem_WT (List.mem_of_getElem? (i := 881) (by decide +kernel)) rfl)⟩
theorem fr_55_27 : FR 55 8 27 69 := ⟨by decide, fun _ _ => ⟨_, rfl, rfl⟩⟩
theorem ai_69 : AI 69 6 := ⟨by decide, by decide, fun _ _ => rfl⟩
theorem lk_X8_46 : LK RX8 46 8 26 := ⟨_, _, _, rfl, by decide, uw_8, Or.inl (mem_WT (List.mem_of_getElem? (i := 880) (by decide +kernel)) rfl)⟩
theorem fr_55_26 : FR 55 8 26 68 := ⟨by decide, fun _ _ => ⟨_, rfl, rfl⟩⟩
theorem ai_68 : AI 68 12 := ⟨by decide, by decide, fun _ _ => rfl⟩
theorem lk_X8_162 : LK RX8 162 8 24 := ⟨_, _, _, rfl, by decide, uw_8, Or.inl (mem_WT (List.mem_of_getElem? (i := 878) (by decide +kernel)) rfl)⟩
theorem fi_55_24 : FI 55 8 24 := ⟨by decide, fun _ _ => ⟨_, rfl, rfl, Nat.le_of_ble_eq_true rfl, fun _ => rfl⟩⟩
theorem ls_X8_174 : LSt RX8 174 yX8_root cX8_root 2 (some .int) 1 := ⟨⟨mem_WT (List.mem_of_getElem? (i := 1100) (by decide +kernel)) rfl, mem_WT (List.mem_of_getElem? (i := 89) (by decide +kernel)) rfl, by decide +kernel, by decide, Or.inl (mem_WT (List.mem_of_getElem? (i := 1098) (by decide +kernel)) rfl)⟩, mem_WT (List.mem_of_getElem? (i := 1099) (by decide +kernel)) rfl⟩
theorem lv_X8_177 : LVi RX8 177 yX8_bearable cX8_bearable 2 (some .int) 1 := ⟨⟨mem_WT (List.mem_of_getElem? (i := 1104) (by decide +kernel)) rfl, mem_WT (List.mem_of_getElem? (i := 89) (by decide +kernel)) rfl, by decide +kernel, by decide, Or.inl (mem_WT (List.mem_of_getElem? (i := 1101) (by decide +kernel)) rfl)⟩, mem_WT (List.mem_of_getElem? (i := 1103) (by decide +kernel)) rfl, mem_WT (List.mem_of_getElem? (i := 63) (by decide +kernel)) rfl⟩
theorem fi_55_23 : FI 55 8 23 := ⟨by decide, fun _ _ => ⟨_, rfl, rfl, Nat.le_of_ble_eq_true rfl, fun _ => rfl⟩⟩
theorem fi_55_22 : FI 55 8 22 := ⟨by decide, fun _ _ => ⟨_, rfl, rfl, Nat.le_of_ble_eq_true rfl, fun _ => rfl⟩⟩
theorem lk_X8_165 : LK RX8 165 8 22 := ⟨_, _, _, rfl, by decide, uw_8, Or.inl (mem_WT (List.mem_of_getElem? (i := 876) (by decide +kernel)) rfl)⟩
theorem lk_X8_168 : LK RX8 168 8 23 := ⟨_, _, _, rfl, by decide, uw_8, Or.inl (mem_WT (List.mem_of_getElem? (i := 877) (by decide +kernel)) rfl)⟩
theorem kc_X8_201 : Cond.constantLong RX8 201 4 ∈ WT := mem_WT (List.mem_of_getElem? (i := 1117) (by decide +kernel)) rfl
theorem lv_X8_203 : LVi RX8 203 yX8_isBraked cX8_isBraked 2 (some .boolean) 1 := ⟨⟨mem_WT (List.mem_of_getElem? (i := 1121) (by decide +kernel)) rfl, mem_WT (List.mem_of_getElem? (i := 89) (by decide +kernel)) rfl, by decide +kernel, by decide, Or.inl (mem_WT (List.mem_of_getElem? (i := 1118) (by decide +kernel)) rfl)⟩, mem_WT (List.mem_of_getElem? (i := 1120) (by decide +kernel)) rfl, mem_WT (List.mem_of_getElem? (i := 64) (by decide +kernel)) rfl⟩
theorem lv_X8_198 : LVi RX8 198 yX8_bendAt cX8_bendAt 4 (some .int) 1 := ⟨⟨mem_WT (List.mem_of_getElem? (i := 1125) (by decide +kernel)) rfl, mem_WT (List.mem_of_getElem? (i := 89) (by decide +kernel)) rfl, by decide +kernel, by decide, Or.inl (mem_WT (List.mem_of_getElem? (i := 1122) (by decide +kernel)) rfl)⟩, mem_WT (List.mem_of_getElem? (i := 1124) (by decide +kernel)) rfl, mem_WT (List.mem_of_getElem? (i := 65) (by decide +kernel)) rfl⟩
theorem kc_X8_206 : Cond.constantLong RX8 206 6 ∈ WT := mem_WT (List.mem_of_getElem? (i := 1134) (by decide +kernel)) rfl
theorem lv_X8_208 : LVi RX8 208 yX8_timeBy cX8_timeBy 4 (some .int) 3 := ⟨⟨mem_WT (List.mem_of_getElem? (i := 1142) (by decide +kernel)) rfl, mem_WT (List.mem_of_getElem? (i := 89) (by decide +kernel)) rfl, by decide +kernel, by decide, Or.inl (mem_WT (List.mem_of_getElem? (i := 1139) (by decide +kernel)) rfl)⟩, mem_WT (List.mem_of_getElem? (i := 1141) (by decide +kernel)) rfl, mem_WT (List.mem_of_getElem? (i := 66) (by decide +kernel)) rfl⟩
theorem lv_X8_212 : LVi RX8 212 yX8_farthestBy cX8_farthestBy 8 (some .int) 3 := ⟨⟨mem_WT (List.mem_of_getElem? (i := 1154) (by decide +kernel)) rfl, mem_WT (List.mem_of_getElem? (i := 89) (by decide +kernel)) rfl, by decide +kernel, by decide, Or.inl (mem_WT (List.mem_of_getElem? (i := 1151) (by decide +kernel)) rfl)⟩, mem_WT (List.mem_of_getElem? (i := 1153) (by decide +kernel)) rfl, mem_WT (List.mem_of_getElem? (i := 67) (by decide +kernel)) rfl⟩
theorem lk_X8_215 : LK RX8 215 8 29 := ⟨_, _, _, rfl, by decide, uw_8, Or.inl (mem_WT (List.mem_of_getElem? (i := 883) (by decide +kernel)) rfl)⟩
theorem fi_55_29 : FI 55 8 29 := ⟨by decide, fun _ _ => ⟨_, rfl, rfl, Nat.le_of_ble_eq_true rfl, fun _ => rfl⟩⟩
theorem lk_X8_52 : LK RX8 52 8 30 := ⟨_, _, _, rfl, by decide, uw_8, Or.inl (mem_WT (List.mem_of_getElem? (i := 884) (by decide +kernel)) rfl)⟩
theorem fr_55_30 : FR 55 8 30 70 := ⟨by decide, fun _ _ => ⟨_, rfl, rfl⟩⟩
theorem ai_70 : AI 70 24 := ⟨by decide, by decide, fun _ _ => rfl⟩
theorem lp_X8_215 : LPu RX8 215 8 29 .int := ⟨_, _, _, tyX8, rfl, by decide, uw_8, tyX8_ok, nmX8, rfl, by decide +kernel, Or.inl (mem_WT (List.mem_of_getElem? (i := 883) (by decide +kernel)) rfl)⟩
theorem lv_X8_218 : LVi RX8 218 yX8_rubsNow cX8_rubsNow 5 (some .int) 0 := ⟨⟨mem_WT (List.mem_of_getElem? (i := 1166) (by decide +kernel)) rfl, mem_WT (List.mem_of_getElem? (i := 89) (by decide +kernel)) rfl, by decide +kernel, by decide, Or.inl (mem_WT (List.mem_of_getElem? (i := 1163) (by decide +kernel)) rfl)⟩, mem_WT (List.mem_of_getElem? (i := 1165) (by decide +kernel)) rfl, mem_WT (List.mem_of_getElem? (i := 68) (by decide +kernel)) rfl⟩
theorem ls_X8_225 : LSt RX8 225 yX8_isSlip cX8_isSlip 1 (some .boolean) 1 := ⟨⟨mem_WT (List.mem_of_getElem? (i := 1173) (by decide +kernel)) rfl, mem_WT (List.mem_of_getElem? (i := 89) (by decide +kernel)) rfl, by decide +kernel, by decide, Or.inl (mem_WT (List.mem_of_getElem? (i := 1171) (by decide +kernel)) rfl)⟩, mem_WT (List.mem_of_getElem? (i := 1172) (by decide +kernel)) rfl⟩
theorem lv_X8_228 : LVi RX8 228 yX8_chanceOf cX8_chanceOf 8 (some .int) 4 := ⟨⟨mem_WT (List.mem_of_getElem? (i := 1177) (by decide +kernel)) rfl, mem_WT (List.mem_of_getElem? (i := 89) (by decide +kernel)) rfl, by decide +kernel, by decide, Or.inl (mem_WT (List.mem_of_getElem? (i := 1174) (by decide +kernel)) rfl)⟩, mem_WT (List.mem_of_getElem? (i := 1176) (by decide +kernel)) rfl, mem_WT (List.mem_of_getElem? (i := 69) (by decide +kernel)) rfl⟩
theorem lv_X8_222 : LVi RX8 222 yX8_downTime cX8_downTime 3 (some .int) 2 := ⟨⟨mem_WT (List.mem_of_getElem? (i := 1181) (by decide +kernel)) rfl, mem_WT (List.mem_of_getElem? (i := 89) (by decide +kernel)) rfl, by decide +kernel, by decide, Or.inl (mem_WT (List.mem_of_getElem? (i := 1178) (by decide +kernel)) rfl)⟩, mem_WT (List.mem_of_getElem? (i := 1180) (by decide +kernel)) rfl, mem_WT (List.mem_of_getElem? (i := 70) (by decide +kernel)) rfl⟩
theorem lv_X8_232 : LVi RX8 232 yX8_areFour cX8_areFour 5 (some .boolean) 4 := ⟨⟨mem_WT (List.mem_of_getElem? (i := 1189) (by decide +kernel)) rfl, mem_WT (List.mem_of_getElem? (i := 89) (by decide +kernel)) rfl, by decide +kernel, by decide, Or.inl (mem_WT (List.mem_of_getElem? (i := 1186) (by decide +kernel)) rfl)⟩, mem_WT (List.mem_of_getElem? (i := 1188) (by decide +kernel)) rfl, mem_WT (List.mem_of_getElem? (i := 71) (by decide +kernel)) rfl⟩
theorem ls_X8_236 : LSt RX8 236 yX8_areUnlike cX8_areUnlike 4 (some .boolean) 4 := ⟨⟨mem_WT (List.mem_of_getElem? (i := 1192) (by decide +kernel)) rfl, mem_WT (List.mem_of_getElem? (i := 89) (by decide +kernel)) rfl, by decide +kernel, by decide, Or.inl (mem_WT (List.mem_of_getElem? (i := 1190) (by decide +kernel)) rfl)⟩, mem_WT (List.mem_of_getElem? (i := 1191) (by decide +kernel)) rfl⟩
theorem lv_X8_239 : LVi RX8 239 yX8_winsOf cX8_winsOf 8 (some .int) 6 := ⟨⟨mem_WT (List.mem_of_getElem? (i := 1196) (by decide +kernel)) rfl, mem_WT (List.mem_of_getElem? (i := 89) (by decide +kernel)) rfl, by decide +kernel, by decide, Or.inl (mem_WT (List.mem_of_getElem? (i := 1193) (by decide +kernel)) rfl)⟩, mem_WT (List.mem_of_getElem? (i := 1195) (by decide +kernel)) rfl, mem_WT (List.mem_of_getElem? (i := 72) (by decide +kernel)) rfl⟩
theorem ls_X8_243 : LSt RX8 243 yX8_common cX8_common 5 (some .int) 2 := ⟨⟨mem_WT (List.mem_of_getElem? (i := 1199) (by decide +kernel)) rfl, mem_WT (List.mem_of_getElem? (i := 89) (by decide +kernel)) rfl, by decide +kernel, by decide, Or.inl (mem_WT (List.mem_of_getElem? (i := 1197) (by decide +kernel)) rfl)⟩, mem_WT (List.mem_of_getElem? (i := 1198) (by decide +kernel)) rfl⟩
theorem lk_X8_55 : LK RX8 55 8 31 := ⟨_, _, _, rfl, by decide, uw_8, Or.inl (mem_WT (List.mem_of_getElem? (i := 885) (by decide +kernel)) rfl)⟩
theorem fr_55_31 : FR 55 8 31 71 := ⟨by decide, fun _ _ => ⟨_, rfl, rfl⟩⟩
theorem ai_71 : AI 71 4 := ⟨by decide, by decide, fun _ _ => rfl⟩
theorem lv_X8_246 : LVi RX8 246 yX8_quickest cX8_quickest 6 (some .int) 1 := ⟨⟨mem_WT (List.mem_of_getElem? (i := 1207) (by decide +kernel)) rfl, mem_WT (List.mem_of_getElem? (i := 89) (by decide +kernel)) rfl, by decide +kernel, by decide, Or.inl (mem_WT (List.mem_of_getElem? (i := 1204) (by decide +kernel)) rfl)⟩, mem_WT (List.mem_of_getElem? (i := 1206) (by decide +kernel)) rfl, mem_WT (List.mem_of_getElem? (i := 73) (by decide +kernel)) rfl⟩
theorem kc_X8_254 : Cond.constantLong RX8 254 (-101) ∈ WT := mem_WT (List.mem_of_getElem? (i := 1212) (by decide +kernel)) rfl
theorem kc_X8_263 : Cond.constantLong RX8 263 (-102) ∈ WT := mem_WT (List.mem_of_getElem? (i := 1218) (by decide +kernel)) rfl
theorem ls_X8_258 : LSt RX8 258 yX8_isShake cX8_isShake 1 (some .boolean) 1 := ⟨⟨mem_WT (List.mem_of_getElem? (i := 1216) (by decide +kernel)) rfl, mem_WT (List.mem_of_getElem? (i := 89) (by decide +kernel)) rfl, by decide +kernel, by decide, Or.inl (mem_WT (List.mem_of_getElem? (i := 1214) (by decide +kernel)) rfl)⟩, mem_WT (List.mem_of_getElem? (i := 1215) (by decide +kernel)) rfl⟩
theorem kc_X8_261 : Cond.constantLong RX8 261 15 ∈ WT := mem_WT (List.mem_of_getElem? (i := 1217) (by decide +kernel)) rfl
theorem kc_X8_265 : Cond.constantLong RX8 265 100000000 ∈ WT := mem_WT (List.mem_of_getElem? (i := 1219) (by decide +kernel)) rfl
theorem lv_X8_267 : LVi RX8 267 yX8_staysBy cX8_staysBy 10 (some .long) 4 := ⟨⟨mem_WT (List.mem_of_getElem? (i := 1223) (by decide +kernel)) rfl, mem_WT (List.mem_of_getElem? (i := 89) (by decide +kernel)) rfl, by decide +kernel, by decide, Or.inl (mem_WT (List.mem_of_getElem? (i := 1220) (by decide +kernel)) rfl)⟩, mem_WT (List.mem_of_getElem? (i := 1222) (by decide +kernel)) rfl, mem_WT (List.mem_of_getElem? (i := 74) (by decide +kernel)) rfl⟩
theorem kc_X8_252 : Cond.constantLong RX8 252 100 ∈ WT := mem_WT (List.mem_of_getElem? (i := 1228) (by decide +kernel)) rfl
theorem lv_X8_249 : LVi RX8 249 yX8_leaving cX8_leaving 3 (some .int) 2 := ⟨⟨mem_WT (List.mem_of_getElem? (i := 1227) (by decide +kernel)) rfl, mem_WT (List.mem_of_getElem? (i := 89) (by decide +kernel)) rfl, by decide +kernel, by decide, Or.inl (mem_WT (List.mem_of_getElem? (i := 1224) (by decide +kernel)) rfl)⟩, mem_WT (List.mem_of_getElem? (i := 1226) (by decide +kernel)) rfl, mem_WT (List.mem_of_getElem? (i := 75) (by decide +kernel)) rfl⟩
theorem kc_X8_256 : Cond.constantLong RX8 256 (-103) ∈ WT := mem_WT (List.mem_of_getElem? (i := 1213) (by decide +kernel)) rfl
theorem lv_X8_271 : LVi RX8 271 yX8_bends cX8_bends 3 (some .int) 0 := ⟨⟨mem_WT (List.mem_of_getElem? (i := 1236) (by decide +kernel)) rfl, mem_WT (List.mem_of_getElem? (i := 89) (by decide +kernel)) rfl, by decide +kernel, by decide, Or.inl (mem_WT (List.mem_of_getElem? (i := 1233) (by decide +kernel)) rfl)⟩, mem_WT (List.mem_of_getElem? (i := 1235) (by decide +kernel)) rfl, mem_WT (List.mem_of_getElem? (i := 76) (by decide +kernel)) rfl⟩
theorem kc_X8_274 : Cond.constantLong RX8 274 (-1) ∈ WT := mem_WT (List.mem_of_getElem? (i := 1237) (by decide +kernel)) rfl
theorem lp_X8_276 : LPu RX8 276 8 33 .int := ⟨_, _, _, tyX8, rfl, by decide, uw_8, tyX8_ok, nmX8, rfl, by decide +kernel, Or.inl (mem_WT (List.mem_of_getElem? (i := 887) (by decide +kernel)) rfl)⟩
theorem lp_X8_279 : LPu RX8 279 8 34 .int := ⟨_, _, _, tyX8, rfl, by decide, uw_8, tyX8_ok, nmX8, rfl, by decide +kernel, Or.inl (mem_WT (List.mem_of_getElem? (i := 888) (by decide +kernel)) rfl)⟩
theorem lp_X8_282 : LPu RX8 282 8 35 .int := ⟨_, _, _, tyX8, rfl, by decide, uw_8, tyX8_ok, nmX8, rfl, by decide +kernel, Or.inl (mem_WT (List.mem_of_getElem? (i := 889) (by decide +kernel)) rfl)⟩
theorem lp_X8_71 : LPu RX8 71 8 32 .int := ⟨_, _, _, tyX8, rfl, by decide, uw_8, tyX8_ok, nmX8, rfl, by decide +kernel, Or.inl (mem_WT (List.mem_of_getElem? (i := 886) (by decide +kernel)) rfl)⟩
theorem fi_55_32 : FI 55 8 32 := ⟨by decide, fun _ _ => ⟨_, rfl, rfl, Nat.le_of_ble_eq_true rfl, fun _ => rfl⟩⟩
theorem fi_55_35 : FI 55 8 35 := ⟨by decide, fun _ _ => ⟨_, rfl, rfl, Nat.le_of_ble_eq_true rfl, fun _ => rfl⟩⟩
theorem fi_55_34 : FI 55 8 34 := ⟨by decide, fun _ _ => ⟨_, rfl, rfl, Nat.le_of_ble_eq_true rfl, fun _ => rfl⟩⟩
theorem fi_55_33 : FI 55 8 33 := ⟨by decide, fun _ _ => ⟨_, rfl, rfl, Nat.le_of_ble_eq_true rfl, fun _ => rfl⟩⟩
theorem lk_X8_64 : LK RX8 64 8 38 := ⟨_, _, _, rfl, by decide, uw_8, Or.inl (mem_WT (List.mem_of_getElem? (i := 892) (by decide +kernel)) rfl)⟩
theorem fr_55_38 : FR 55 8 38 74 := ⟨by decide, fun _ _ => ⟨_, rfl, rfl⟩⟩
theorem ai_74 : AI 74 24 := ⟨by decide, by decide, fun _ _ => rfl⟩
theorem lk_X8_61 : LK RX8 61 8 37 := ⟨_, _, _, rfl, by decide, uw_8, Or.inl (mem_WT (List.mem_of_getElem? (i := 891) (by decide +kernel)) rfl)⟩
theorem fr_55_37 : FR 55 8 37 73 := ⟨by decide, fun _ _ => ⟨_, rfl, rfl⟩⟩
theorem ai_73 : AI 73 8 := ⟨by decide, by decide, fun _ _ => rfl⟩
theorem lk_X8_58 : LK RX8 58 8 36 := ⟨_, _, _, rfl, by decide, uw_8, Or.inl (mem_WT (List.mem_of_getElem? (i := 890) (by decide +kernel)) rfl)⟩
theorem fr_55_36 : FR 55 8 36 72 := ⟨by decide, fun _ _ => ⟨_, rfl, rfl⟩⟩
theorem ai_72 : AI 72 12 := ⟨by decide, by decide, fun _ _ => rfl⟩
theorem lk_X8_71 : LK RX8 71 8 32 := ⟨_, _, _, rfl, by decide, uw_8, Or.inl (mem_WT (List.mem_of_getElem? (i := 886) (by decide +kernel)) rfl)⟩
theorem lk_X8_279 : LK RX8 279 8 34 := ⟨_, _, _, rfl, by decide, uw_8, Or.inl (mem_WT (List.mem_of_getElem? (i := 888) (by decide +kernel)) rfl)⟩
theorem lk_X8_276 : LK RX8 276 8 33 := ⟨_, _, _, rfl, by decide, uw_8, Or.inl (mem_WT (List.mem_of_getElem? (i := 887) (by decide +kernel)) rfl)⟩
theorem lk_X8_282 : LK RX8 282 8 35 := ⟨_, _, _, rfl, by decide, uw_8, Or.inl (mem_WT (List.mem_of_getElem? (i := 889) (by decide +kernel)) rfl)⟩
theorem lv_X8_285 : LVi RX8 285 yX8_countOf cX8_countOf 2 (some .int) 1 := ⟨⟨mem_WT (List.mem_of_getElem? (i := 1253) (by decide +kernel)) rfl, mem_WT (List.mem_of_getElem? (i := 89) (by decide +kernel)) rfl, by decide +kernel, by decide, Or.inl (mem_WT (List.mem_of_getElem? (i := 1250) (by decide +kernel)) rfl)⟩, mem_WT (List.mem_of_getElem? (i := 1252) (by decide +kernel)) rfl, mem_WT (List.mem_of_getElem? (i := 77) (by decide +kernel)) rfl⟩
theorem kc_X8_298 : Cond.constantLong RX8 298 491 ∈ WT := mem_WT (List.mem_of_getElem? (i := 1258) (by decide +kernel)) rfl
theorem lp_X8_290 : LPu RX8 290 8 39 .long := ⟨_, _, _, tyX8, rfl, by decide, uw_8, tyX8_ok, nmX8, rfl, by decide +kernel, Or.inl (mem_WT (List.mem_of_getElem? (i := 893) (by decide +kernel)) rfl)⟩
theorem lv_X8_294 : LVi RX8 294 yX8_say cX8_say 3 none 1 := ⟨⟨mem_WT (List.mem_of_getElem? (i := 1262) (by decide +kernel)) rfl, mem_WT (List.mem_of_getElem? (i := 89) (by decide +kernel)) rfl, by decide +kernel, by decide, Or.inl (mem_WT (List.mem_of_getElem? (i := 1259) (by decide +kernel)) rfl)⟩, mem_WT (List.mem_of_getElem? (i := 1261) (by decide +kernel)) rfl, mem_WT (List.mem_of_getElem? (i := 78) (by decide +kernel)) rfl⟩
theorem kc_X8_288 : Cond.constantLong RX8 288 31 ∈ WT := mem_WT (List.mem_of_getElem? (i := 1263) (by decide +kernel)) rfl
theorem lk_X8_290 : LK RX8 290 8 39 := ⟨_, _, _, rfl, by decide, uw_8, Or.inl (mem_WT (List.mem_of_getElem? (i := 893) (by decide +kernel)) rfl)⟩
theorem fl_55_39 : FL 55 8 39 := ⟨by decide, fun _ f => ⟨_, rfl, rfl, Nat.le_of_ble_eq_true rfl, fun v => by show Sum.inr (8, _) = Sum.inr (8, _); rw [getL_setL]; rfl⟩⟩
theorem lv_X8_300 : LVi RX8 300 yX8_sayCart cX8_sayCart 3 none 1 := ⟨⟨mem_WT (List.mem_of_getElem? (i := 1267) (by decide +kernel)) rfl, mem_WT (List.mem_of_getElem? (i := 89) (by decide +kernel)) rfl, by decide +kernel, by decide, Or.inl (mem_WT (List.mem_of_getElem? (i := 1264) (by decide +kernel)) rfl)⟩, mem_WT (List.mem_of_getElem? (i := 1266) (by decide +kernel)) rfl, mem_WT (List.mem_of_getElem? (i := 79) (by decide +kernel)) rfl⟩
