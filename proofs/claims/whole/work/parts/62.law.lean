theorem kc_L_13 : Cond.constantLong RL 13 4294967295 ∈ WT := mem_WT (List.mem_of_getElem? (i := 1268) (by decide +kernel)) rfl
theorem lv_L_15 : LVi RL 15 yX7_letters cX7_letters 7 (some .int) 1 := ⟨⟨mem_WT (List.mem_of_getElem? (i := 362) (by decide +kernel)) rfl, mem_WT (List.mem_of_getElem? (i := 81) (by decide +kernel)) rfl, by decide +kernel, by decide, Or.inl (mem_WT (List.mem_of_getElem? (i := 359) (by decide +kernel)) rfl)⟩, mem_WT (List.mem_of_getElem? (i := 360) (by decide +kernel)) rfl, mem_WT (List.mem_of_getElem? (i := 361) (by decide +kernel)) rfl⟩
theorem lv_L_19 : LVi RL 19 yX8_letters cX8_letters 9 (some .int) 1 := ⟨⟨mem_WT (List.mem_of_getElem? (i := 978) (by decide +kernel)) rfl, mem_WT (List.mem_of_getElem? (i := 89) (by decide +kernel)) rfl, by decide +kernel, by decide, Or.inl (mem_WT (List.mem_of_getElem? (i := 975) (by decide +kernel)) rfl)⟩, mem_WT (List.mem_of_getElem? (i := 976) (by decide +kernel)) rfl, mem_WT (List.mem_of_getElem? (i := 977) (by decide +kernel)) rfl⟩
theorem lv_L_20 : LVi RL 20 yX7_blank cX7_blank 2 (some .int) 0 := ⟨⟨mem_WT (List.mem_of_getElem? (i := 373) (by decide +kernel)) rfl, mem_WT (List.mem_of_getElem? (i := 81) (by decide +kernel)) rfl, by decide +kernel, by decide, Or.inl (mem_WT (List.mem_of_getElem? (i := 370) (by decide +kernel)) rfl)⟩, mem_WT (List.mem_of_getElem? (i := 371) (by decide +kernel)) rfl, mem_WT (List.mem_of_getElem? (i := 372) (by decide +kernel)) rfl⟩
theorem lv_L_24 : LVi RL 24 yX8_blank cX8_blank 2 (some .int) 0 := ⟨⟨mem_WT (List.mem_of_getElem? (i := 983) (by decide +kernel)) rfl, mem_WT (List.mem_of_getElem? (i := 89) (by decide +kernel)) rfl, by decide +kernel, by decide, Or.inl (mem_WT (List.mem_of_getElem? (i := 980) (by decide +kernel)) rfl)⟩, mem_WT (List.mem_of_getElem? (i := 981) (by decide +kernel)) rfl, mem_WT (List.mem_of_getElem? (i := 982) (by decide +kernel)) rfl⟩
theorem lv_L_25 : LVi RL 25 yX7_fault cX7_fault 2 (some .int) 1 := ⟨⟨mem_WT (List.mem_of_getElem? (i := 377) (by decide +kernel)) rfl, mem_WT (List.mem_of_getElem? (i := 81) (by decide +kernel)) rfl, by decide +kernel, by decide, Or.inl (mem_WT (List.mem_of_getElem? (i := 374) (by decide +kernel)) rfl)⟩, mem_WT (List.mem_of_getElem? (i := 375) (by decide +kernel)) rfl, mem_WT (List.mem_of_getElem? (i := 376) (by decide +kernel)) rfl⟩
theorem lv_L_29 : LVi RL 29 yX8_fault cX8_fault 2 (some .int) 1 := ⟨⟨mem_WT (List.mem_of_getElem? (i := 987) (by decide +kernel)) rfl, mem_WT (List.mem_of_getElem? (i := 89) (by decide +kernel)) rfl, by decide +kernel, by decide, Or.inl (mem_WT (List.mem_of_getElem? (i := 984) (by decide +kernel)) rfl)⟩, mem_WT (List.mem_of_getElem? (i := 985) (by decide +kernel)) rfl, mem_WT (List.mem_of_getElem? (i := 986) (by decide +kernel)) rfl⟩
theorem lv_L_30 : LVi RL 30 yX7_hill cX7_hill 1 (some .int) 0 := ⟨⟨mem_WT (List.mem_of_getElem? (i := 501) (by decide +kernel)) rfl, mem_WT (List.mem_of_getElem? (i := 81) (by decide +kernel)) rfl, by decide +kernel, by decide, Or.inl (mem_WT (List.mem_of_getElem? (i := 498) (by decide +kernel)) rfl)⟩, mem_WT (List.mem_of_getElem? (i := 499) (by decide +kernel)) rfl, mem_WT (List.mem_of_getElem? (i := 500) (by decide +kernel)) rfl⟩
theorem lv_L_33 : LVi RL 33 yX8_hill cX8_hill 2 (some .int) 0 := ⟨⟨mem_WT (List.mem_of_getElem? (i := 1016) (by decide +kernel)) rfl, mem_WT (List.mem_of_getElem? (i := 89) (by decide +kernel)) rfl, by decide +kernel, by decide, Or.inl (mem_WT (List.mem_of_getElem? (i := 1013) (by decide +kernel)) rfl)⟩, mem_WT (List.mem_of_getElem? (i := 1014) (by decide +kernel)) rfl, mem_WT (List.mem_of_getElem? (i := 1015) (by decide +kernel)) rfl⟩
theorem lv_L_34 : LVi RL 34 yX7_cart cX7_cart 1 (some .int) 0 := ⟨⟨mem_WT (List.mem_of_getElem? (i := 528) (by decide +kernel)) rfl, mem_WT (List.mem_of_getElem? (i := 81) (by decide +kernel)) rfl, by decide +kernel, by decide, Or.inl (mem_WT (List.mem_of_getElem? (i := 525) (by decide +kernel)) rfl)⟩, mem_WT (List.mem_of_getElem? (i := 526) (by decide +kernel)) rfl, mem_WT (List.mem_of_getElem? (i := 527) (by decide +kernel)) rfl⟩
theorem lv_L_37 : LVi RL 37 yX8_cart cX8_cart 2 (some .int) 0 := ⟨⟨mem_WT (List.mem_of_getElem? (i := 1020) (by decide +kernel)) rfl, mem_WT (List.mem_of_getElem? (i := 89) (by decide +kernel)) rfl, by decide +kernel, by decide, Or.inl (mem_WT (List.mem_of_getElem? (i := 1017) (by decide +kernel)) rfl)⟩, mem_WT (List.mem_of_getElem? (i := 1018) (by decide +kernel)) rfl, mem_WT (List.mem_of_getElem? (i := 1019) (by decide +kernel)) rfl⟩
theorem lv_L_38 : LVi RL 38 yX7_cell cX7_cell 3 (some .int) 2 := ⟨⟨mem_WT (List.mem_of_getElem? (i := 543) (by decide +kernel)) rfl, mem_WT (List.mem_of_getElem? (i := 81) (by decide +kernel)) rfl, by decide +kernel, by decide, Or.inl (mem_WT (List.mem_of_getElem? (i := 540) (by decide +kernel)) rfl)⟩, mem_WT (List.mem_of_getElem? (i := 541) (by decide +kernel)) rfl, mem_WT (List.mem_of_getElem? (i := 542) (by decide +kernel)) rfl⟩
theorem lv_L_42 : LVi RL 42 yX8_cell cX8_cell 3 (some .int) 2 := ⟨⟨mem_WT (List.mem_of_getElem? (i := 1024) (by decide +kernel)) rfl, mem_WT (List.mem_of_getElem? (i := 89) (by decide +kernel)) rfl, by decide +kernel, by decide, Or.inl (mem_WT (List.mem_of_getElem? (i := 1021) (by decide +kernel)) rfl)⟩, mem_WT (List.mem_of_getElem? (i := 1022) (by decide +kernel)) rfl, mem_WT (List.mem_of_getElem? (i := 1023) (by decide +kernel)) rfl⟩
theorem lv_L_43 : LVi RL 43 yX7_about cX7_about 3 (some .int) 2 := ⟨⟨mem_WT (List.mem_of_getElem? (i := 551) (by decide +kernel)) rfl, mem_WT (List.mem_of_getElem? (i := 81) (by decide +kernel)) rfl, by decide +kernel, by decide, Or.inl (mem_WT (List.mem_of_getElem? (i := 548) (by decide +kernel)) rfl)⟩, mem_WT (List.mem_of_getElem? (i := 549) (by decide +kernel)) rfl, mem_WT (List.mem_of_getElem? (i := 550) (by decide +kernel)) rfl⟩
theorem lv_L_46 : LVi RL 46 yX8_about cX8_about 3 (some .int) 2 := ⟨⟨mem_WT (List.mem_of_getElem? (i := 1036) (by decide +kernel)) rfl, mem_WT (List.mem_of_getElem? (i := 89) (by decide +kernel)) rfl, by decide +kernel, by decide, Or.inl (mem_WT (List.mem_of_getElem? (i := 1033) (by decide +kernel)) rfl)⟩, mem_WT (List.mem_of_getElem? (i := 1034) (by decide +kernel)) rfl, mem_WT (List.mem_of_getElem? (i := 1035) (by decide +kernel)) rfl⟩
theorem lv_L_47 : LVi RL 47 yX7_loss cX7_loss 4 (some .int) 3 := ⟨⟨mem_WT (List.mem_of_getElem? (i := 559) (by decide +kernel)) rfl, mem_WT (List.mem_of_getElem? (i := 81) (by decide +kernel)) rfl, by decide +kernel, by decide, Or.inl (mem_WT (List.mem_of_getElem? (i := 556) (by decide +kernel)) rfl)⟩, mem_WT (List.mem_of_getElem? (i := 557) (by decide +kernel)) rfl, mem_WT (List.mem_of_getElem? (i := 558) (by decide +kernel)) rfl⟩
theorem lv_L_51 : LVi RL 51 yX8_loss cX8_loss 4 (some .int) 3 := ⟨⟨mem_WT (List.mem_of_getElem? (i := 1044) (by decide +kernel)) rfl, mem_WT (List.mem_of_getElem? (i := 89) (by decide +kernel)) rfl, by decide +kernel, by decide, Or.inl (mem_WT (List.mem_of_getElem? (i := 1041) (by decide +kernel)) rfl)⟩, mem_WT (List.mem_of_getElem? (i := 1042) (by decide +kernel)) rfl, mem_WT (List.mem_of_getElem? (i := 1043) (by decide +kernel)) rfl⟩
theorem lv_L_52 : LVi RL 52 yX7_as cX7_as 4 (some .int) 3 := ⟨⟨mem_WT (List.mem_of_getElem? (i := 567) (by decide +kernel)) rfl, mem_WT (List.mem_of_getElem? (i := 81) (by decide +kernel)) rfl, by decide +kernel, by decide, Or.inl (mem_WT (List.mem_of_getElem? (i := 564) (by decide +kernel)) rfl)⟩, mem_WT (List.mem_of_getElem? (i := 565) (by decide +kernel)) rfl, mem_WT (List.mem_of_getElem? (i := 566) (by decide +kernel)) rfl⟩
theorem lv_L_55 : LVi RL 55 yX8_as cX8_as 6 (some .int) 3 := ⟨⟨mem_WT (List.mem_of_getElem? (i := 1052) (by decide +kernel)) rfl, mem_WT (List.mem_of_getElem? (i := 89) (by decide +kernel)) rfl, by decide +kernel, by decide, Or.inl (mem_WT (List.mem_of_getElem? (i := 1049) (by decide +kernel)) rfl)⟩, mem_WT (List.mem_of_getElem? (i := 1050) (by decide +kernel)) rfl, mem_WT (List.mem_of_getElem? (i := 1051) (by decide +kernel)) rfl⟩
theorem lv_L_56 : LVi RL 56 yX7_weigh cX7_weigh 4 (some .int) 2 := ⟨⟨mem_WT (List.mem_of_getElem? (i := 577) (by decide +kernel)) rfl, mem_WT (List.mem_of_getElem? (i := 81) (by decide +kernel)) rfl, by decide +kernel, by decide, Or.inl (mem_WT (List.mem_of_getElem? (i := 574) (by decide +kernel)) rfl)⟩, mem_WT (List.mem_of_getElem? (i := 575) (by decide +kernel)) rfl, mem_WT (List.mem_of_getElem? (i := 576) (by decide +kernel)) rfl⟩
theorem lv_L_59 : LVi RL 59 yX8_weigh cX8_weigh 4 (some .int) 2 := ⟨⟨mem_WT (List.mem_of_getElem? (i := 1057) (by decide +kernel)) rfl, mem_WT (List.mem_of_getElem? (i := 89) (by decide +kernel)) rfl, by decide +kernel, by decide, Or.inl (mem_WT (List.mem_of_getElem? (i := 1054) (by decide +kernel)) rfl)⟩, mem_WT (List.mem_of_getElem? (i := 1055) (by decide +kernel)) rfl, mem_WT (List.mem_of_getElem? (i := 1056) (by decide +kernel)) rfl⟩
theorem lv_L_60 : LVi RL 60 yX7_grip cX7_grip 3 (some .int) 1 := ⟨⟨mem_WT (List.mem_of_getElem? (i := 581) (by decide +kernel)) rfl, mem_WT (List.mem_of_getElem? (i := 81) (by decide +kernel)) rfl, by decide +kernel, by decide, Or.inl (mem_WT (List.mem_of_getElem? (i := 578) (by decide +kernel)) rfl)⟩, mem_WT (List.mem_of_getElem? (i := 579) (by decide +kernel)) rfl, mem_WT (List.mem_of_getElem? (i := 580) (by decide +kernel)) rfl⟩
theorem lv_L_63 : LVi RL 63 yX8_grip cX8_grip 3 (some .int) 1 := ⟨⟨mem_WT (List.mem_of_getElem? (i := 1063) (by decide +kernel)) rfl, mem_WT (List.mem_of_getElem? (i := 89) (by decide +kernel)) rfl, by decide +kernel, by decide, Or.inl (mem_WT (List.mem_of_getElem? (i := 1060) (by decide +kernel)) rfl)⟩, mem_WT (List.mem_of_getElem? (i := 1061) (by decide +kernel)) rfl, mem_WT (List.mem_of_getElem? (i := 1062) (by decide +kernel)) rfl⟩
theorem lv_L_64 : LVi RL 64 yX7_brake cX7_brake 4 (some .int) 2 := ⟨⟨mem_WT (List.mem_of_getElem? (i := 585) (by decide +kernel)) rfl, mem_WT (List.mem_of_getElem? (i := 81) (by decide +kernel)) rfl, by decide +kernel, by decide, Or.inl (mem_WT (List.mem_of_getElem? (i := 582) (by decide +kernel)) rfl)⟩, mem_WT (List.mem_of_getElem? (i := 583) (by decide +kernel)) rfl, mem_WT (List.mem_of_getElem? (i := 584) (by decide +kernel)) rfl⟩
theorem lv_L_67 : LVi RL 67 yX8_brake cX8_brake 4 (some .int) 2 := ⟨⟨mem_WT (List.mem_of_getElem? (i := 1067) (by decide +kernel)) rfl, mem_WT (List.mem_of_getElem? (i := 89) (by decide +kernel)) rfl, by decide +kernel, by decide, Or.inl (mem_WT (List.mem_of_getElem? (i := 1064) (by decide +kernel)) rfl)⟩, mem_WT (List.mem_of_getElem? (i := 1065) (by decide +kernel)) rfl, mem_WT (List.mem_of_getElem? (i := 1066) (by decide +kernel)) rfl⟩
theorem lv_L_68 : LVi RL 68 yX7_run cX7_run 5 (some .int) 3 := ⟨⟨mem_WT (List.mem_of_getElem? (i := 589) (by decide +kernel)) rfl, mem_WT (List.mem_of_getElem? (i := 81) (by decide +kernel)) rfl, by decide +kernel, by decide, Or.inl (mem_WT (List.mem_of_getElem? (i := 586) (by decide +kernel)) rfl)⟩, mem_WT (List.mem_of_getElem? (i := 587) (by decide +kernel)) rfl, mem_WT (List.mem_of_getElem? (i := 588) (by decide +kernel)) rfl⟩
theorem lv_L_71 : LVi RL 71 yX8_run cX8_run 4 (some .int) 3 := ⟨⟨mem_WT (List.mem_of_getElem? (i := 1072) (by decide +kernel)) rfl, mem_WT (List.mem_of_getElem? (i := 89) (by decide +kernel)) rfl, by decide +kernel, by decide, Or.inl (mem_WT (List.mem_of_getElem? (i := 1069) (by decide +kernel)) rfl)⟩, mem_WT (List.mem_of_getElem? (i := 1070) (by decide +kernel)) rfl, mem_WT (List.mem_of_getElem? (i := 1071) (by decide +kernel)) rfl⟩
theorem lv_L_72 : LVi RL 72 yX7_pace cX7_pace 4 (some .int) 3 := ⟨⟨mem_WT (List.mem_of_getElem? (i := 638) (by decide +kernel)) rfl, mem_WT (List.mem_of_getElem? (i := 81) (by decide +kernel)) rfl, by decide +kernel, by decide, Or.inl (mem_WT (List.mem_of_getElem? (i := 635) (by decide +kernel)) rfl)⟩, mem_WT (List.mem_of_getElem? (i := 636) (by decide +kernel)) rfl, mem_WT (List.mem_of_getElem? (i := 637) (by decide +kernel)) rfl⟩
theorem lv_L_75 : LVi RL 75 yX8_pace cX8_pace 4 (some .int) 3 := ⟨⟨mem_WT (List.mem_of_getElem? (i := 1108) (by decide +kernel)) rfl, mem_WT (List.mem_of_getElem? (i := 89) (by decide +kernel)) rfl, by decide +kernel, by decide, Or.inl (mem_WT (List.mem_of_getElem? (i := 1105) (by decide +kernel)) rfl)⟩, mem_WT (List.mem_of_getElem? (i := 1106) (by decide +kernel)) rfl, mem_WT (List.mem_of_getElem? (i := 1107) (by decide +kernel)) rfl⟩
theorem lv_L_76 : LVi RL 76 yX7_lost cX7_lost 5 (some .int) 3 := ⟨⟨mem_WT (List.mem_of_getElem? (i := 642) (by decide +kernel)) rfl, mem_WT (List.mem_of_getElem? (i := 81) (by decide +kernel)) rfl, by decide +kernel, by decide, Or.inl (mem_WT (List.mem_of_getElem? (i := 639) (by decide +kernel)) rfl)⟩, mem_WT (List.mem_of_getElem? (i := 640) (by decide +kernel)) rfl, mem_WT (List.mem_of_getElem? (i := 641) (by decide +kernel)) rfl⟩
theorem lv_L_79 : LVi RL 79 yX8_lost cX8_lost 4 (some .int) 3 := ⟨⟨mem_WT (List.mem_of_getElem? (i := 1112) (by decide +kernel)) rfl, mem_WT (List.mem_of_getElem? (i := 89) (by decide +kernel)) rfl, by decide +kernel, by decide, Or.inl (mem_WT (List.mem_of_getElem? (i := 1109) (by decide +kernel)) rfl)⟩, mem_WT (List.mem_of_getElem? (i := 1110) (by decide +kernel)) rfl, mem_WT (List.mem_of_getElem? (i := 1111) (by decide +kernel)) rfl⟩
theorem lv_L_80 : LVi RL 80 yX7_bestBrakes cX7_bestBrakes 6 (some .int) 3 := ⟨⟨mem_WT (List.mem_of_getElem? (i := 646) (by decide +kernel)) rfl, mem_WT (List.mem_of_getElem? (i := 81) (by decide +kernel)) rfl, by decide +kernel, by decide, Or.inl (mem_WT (List.mem_of_getElem? (i := 643) (by decide +kernel)) rfl)⟩, mem_WT (List.mem_of_getElem? (i := 644) (by decide +kernel)) rfl, mem_WT (List.mem_of_getElem? (i := 645) (by decide +kernel)) rfl⟩
theorem lv_L_83 : LVi RL 83 yX8_bestBrakes cX8_bestBrakes 10 (some .int) 3 := ⟨⟨mem_WT (List.mem_of_getElem? (i := 1116) (by decide +kernel)) rfl, mem_WT (List.mem_of_getElem? (i := 89) (by decide +kernel)) rfl, by decide +kernel, by decide, Or.inl (mem_WT (List.mem_of_getElem? (i := 1113) (by decide +kernel)) rfl)⟩, mem_WT (List.mem_of_getElem? (i := 1114) (by decide +kernel)) rfl, mem_WT (List.mem_of_getElem? (i := 1115) (by decide +kernel)) rfl⟩
theorem lv_L_84 : LVi RL 84 yX7_bestPush cX7_bestPush 6 (some .int) 3 := ⟨⟨mem_WT (List.mem_of_getElem? (i := 674) (by decide +kernel)) rfl, mem_WT (List.mem_of_getElem? (i := 81) (by decide +kernel)) rfl, by decide +kernel, by decide, Or.inl (mem_WT (List.mem_of_getElem? (i := 671) (by decide +kernel)) rfl)⟩, mem_WT (List.mem_of_getElem? (i := 672) (by decide +kernel)) rfl, mem_WT (List.mem_of_getElem? (i := 673) (by decide +kernel)) rfl⟩
theorem lv_L_87 : LVi RL 87 yX8_bestPush cX8_bestPush 9 (some .int) 3 := ⟨⟨mem_WT (List.mem_of_getElem? (i := 1129) (by decide +kernel)) rfl, mem_WT (List.mem_of_getElem? (i := 89) (by decide +kernel)) rfl, by decide +kernel, by decide, Or.inl (mem_WT (List.mem_of_getElem? (i := 1126) (by decide +kernel)) rfl)⟩, mem_WT (List.mem_of_getElem? (i := 1127) (by decide +kernel)) rfl, mem_WT (List.mem_of_getElem? (i := 1128) (by decide +kernel)) rfl⟩
theorem lv_L_88 : LVi RL 88 yX7_work cX7_work 8 (some .int) 4 := ⟨⟨mem_WT (List.mem_of_getElem? (i := 679) (by decide +kernel)) rfl, mem_WT (List.mem_of_getElem? (i := 81) (by decide +kernel)) rfl, by decide +kernel, by decide, Or.inl (mem_WT (List.mem_of_getElem? (i := 676) (by decide +kernel)) rfl)⟩, mem_WT (List.mem_of_getElem? (i := 677) (by decide +kernel)) rfl, mem_WT (List.mem_of_getElem? (i := 678) (by decide +kernel)) rfl⟩
theorem lv_L_92 : LVi RL 92 yX8_work cX8_work 14 (some .int) 4 := ⟨⟨mem_WT (List.mem_of_getElem? (i := 1133) (by decide +kernel)) rfl, mem_WT (List.mem_of_getElem? (i := 89) (by decide +kernel)) rfl, by decide +kernel, by decide, Or.inl (mem_WT (List.mem_of_getElem? (i := 1130) (by decide +kernel)) rfl)⟩, mem_WT (List.mem_of_getElem? (i := 1131) (by decide +kernel)) rfl, mem_WT (List.mem_of_getElem? (i := 1132) (by decide +kernel)) rfl⟩
theorem lv_L_93 : LVi RL 93 yX7_weighed cX7_weighed 5 (some .int) 3 := ⟨⟨mem_WT (List.mem_of_getElem? (i := 692) (by decide +kernel)) rfl, mem_WT (List.mem_of_getElem? (i := 81) (by decide +kernel)) rfl, by decide +kernel, by decide, Or.inl (mem_WT (List.mem_of_getElem? (i := 689) (by decide +kernel)) rfl)⟩, mem_WT (List.mem_of_getElem? (i := 690) (by decide +kernel)) rfl, mem_WT (List.mem_of_getElem? (i := 691) (by decide +kernel)) rfl⟩
theorem lv_L_96 : LVi RL 96 yX8_weighed cX8_weighed 4 (some .int) 3 := ⟨⟨mem_WT (List.mem_of_getElem? (i := 1138) (by decide +kernel)) rfl, mem_WT (List.mem_of_getElem? (i := 89) (by decide +kernel)) rfl, by decide +kernel, by decide, Or.inl (mem_WT (List.mem_of_getElem? (i := 1135) (by decide +kernel)) rfl)⟩, mem_WT (List.mem_of_getElem? (i := 1136) (by decide +kernel)) rfl, mem_WT (List.mem_of_getElem? (i := 1137) (by decide +kernel)) rfl⟩
theorem lv_L_97 : LVi RL 97 yX7_close cX7_close 5 (some .int) 2 := ⟨⟨mem_WT (List.mem_of_getElem? (i := 704) (by decide +kernel)) rfl, mem_WT (List.mem_of_getElem? (i := 81) (by decide +kernel)) rfl, by decide +kernel, by decide, Or.inl (mem_WT (List.mem_of_getElem? (i := 701) (by decide +kernel)) rfl)⟩, mem_WT (List.mem_of_getElem? (i := 702) (by decide +kernel)) rfl, mem_WT (List.mem_of_getElem? (i := 703) (by decide +kernel)) rfl⟩
theorem lv_L_100 : LVi RL 100 yX8_close cX8_close 11 (some .int) 2 := ⟨⟨mem_WT (List.mem_of_getElem? (i := 1146) (by decide +kernel)) rfl, mem_WT (List.mem_of_getElem? (i := 89) (by decide +kernel)) rfl, by decide +kernel, by decide, Or.inl (mem_WT (List.mem_of_getElem? (i := 1143) (by decide +kernel)) rfl)⟩, mem_WT (List.mem_of_getElem? (i := 1144) (by decide +kernel)) rfl, mem_WT (List.mem_of_getElem? (i := 1145) (by decide +kernel)) rfl⟩
theorem lv_L_101 : LVi RL 101 yX7_farthest cX7_farthest 3 (some .int) 2 := ⟨⟨mem_WT (List.mem_of_getElem? (i := 714) (by decide +kernel)) rfl, mem_WT (List.mem_of_getElem? (i := 81) (by decide +kernel)) rfl, by decide +kernel, by decide, Or.inl (mem_WT (List.mem_of_getElem? (i := 711) (by decide +kernel)) rfl)⟩, mem_WT (List.mem_of_getElem? (i := 712) (by decide +kernel)) rfl, mem_WT (List.mem_of_getElem? (i := 713) (by decide +kernel)) rfl⟩
theorem lv_L_104 : LVi RL 104 yX8_farthest cX8_farthest 3 (some .int) 2 := ⟨⟨mem_WT (List.mem_of_getElem? (i := 1150) (by decide +kernel)) rfl, mem_WT (List.mem_of_getElem? (i := 89) (by decide +kernel)) rfl, by decide +kernel, by decide, Or.inl (mem_WT (List.mem_of_getElem? (i := 1147) (by decide +kernel)) rfl)⟩, mem_WT (List.mem_of_getElem? (i := 1148) (by decide +kernel)) rfl, mem_WT (List.mem_of_getElem? (i := 1149) (by decide +kernel)) rfl⟩
theorem lv_L_105 : LVi RL 105 yX7_coast cX7_coast 4 (some .int) 3 := ⟨⟨mem_WT (List.mem_of_getElem? (i := 726) (by decide +kernel)) rfl, mem_WT (List.mem_of_getElem? (i := 81) (by decide +kernel)) rfl, by decide +kernel, by decide, Or.inl (mem_WT (List.mem_of_getElem? (i := 723) (by decide +kernel)) rfl)⟩, mem_WT (List.mem_of_getElem? (i := 724) (by decide +kernel)) rfl, mem_WT (List.mem_of_getElem? (i := 725) (by decide +kernel)) rfl⟩
theorem lv_L_108 : LVi RL 108 yX8_coast cX8_coast 4 (some .int) 3 := ⟨⟨mem_WT (List.mem_of_getElem? (i := 1158) (by decide +kernel)) rfl, mem_WT (List.mem_of_getElem? (i := 89) (by decide +kernel)) rfl, by decide +kernel, by decide, Or.inl (mem_WT (List.mem_of_getElem? (i := 1155) (by decide +kernel)) rfl)⟩, mem_WT (List.mem_of_getElem? (i := 1156) (by decide +kernel)) rfl, mem_WT (List.mem_of_getElem? (i := 1157) (by decide +kernel)) rfl⟩
theorem lv_L_109 : LVi RL 109 yX7_rubs cX7_rubs 3 (some .int) 0 := ⟨⟨mem_WT (List.mem_of_getElem? (i := 734) (by decide +kernel)) rfl, mem_WT (List.mem_of_getElem? (i := 81) (by decide +kernel)) rfl, by decide +kernel, by decide, Or.inl (mem_WT (List.mem_of_getElem? (i := 731) (by decide +kernel)) rfl)⟩, mem_WT (List.mem_of_getElem? (i := 732) (by decide +kernel)) rfl, mem_WT (List.mem_of_getElem? (i := 733) (by decide +kernel)) rfl⟩
theorem lv_L_112 : LVi RL 112 yX8_rubs cX8_rubs 1 (some .int) 0 := ⟨⟨mem_WT (List.mem_of_getElem? (i := 1162) (by decide +kernel)) rfl, mem_WT (List.mem_of_getElem? (i := 89) (by decide +kernel)) rfl, by decide +kernel, by decide, Or.inl (mem_WT (List.mem_of_getElem? (i := 1159) (by decide +kernel)) rfl)⟩, mem_WT (List.mem_of_getElem? (i := 1160) (by decide +kernel)) rfl, mem_WT (List.mem_of_getElem? (i := 1161) (by decide +kernel)) rfl⟩
theorem lv_L_113 : LVi RL 113 yX7_chance cX7_chance 6 (some .int) 4 := ⟨⟨mem_WT (List.mem_of_getElem? (i := 742) (by decide +kernel)) rfl, mem_WT (List.mem_of_getElem? (i := 81) (by decide +kernel)) rfl, by decide +kernel, by decide, Or.inl (mem_WT (List.mem_of_getElem? (i := 739) (by decide +kernel)) rfl)⟩, mem_WT (List.mem_of_getElem? (i := 740) (by decide +kernel)) rfl, mem_WT (List.mem_of_getElem? (i := 741) (by decide +kernel)) rfl⟩
theorem lv_L_116 : LVi RL 116 yX8_chance cX8_chance 5 (some .int) 4 := ⟨⟨mem_WT (List.mem_of_getElem? (i := 1170) (by decide +kernel)) rfl, mem_WT (List.mem_of_getElem? (i := 89) (by decide +kernel)) rfl, by decide +kernel, by decide, Or.inl (mem_WT (List.mem_of_getElem? (i := 1167) (by decide +kernel)) rfl)⟩, mem_WT (List.mem_of_getElem? (i := 1168) (by decide +kernel)) rfl, mem_WT (List.mem_of_getElem? (i := 1169) (by decide +kernel)) rfl⟩
theorem lv_L_117 : LVi RL 117 yX7_wins cX7_wins 10 (some .int) 8 := ⟨⟨mem_WT (List.mem_of_getElem? (i := 756) (by decide +kernel)) rfl, mem_WT (List.mem_of_getElem? (i := 81) (by decide +kernel)) rfl, by decide +kernel, by decide, Or.inl (mem_WT (List.mem_of_getElem? (i := 753) (by decide +kernel)) rfl)⟩, mem_WT (List.mem_of_getElem? (i := 754) (by decide +kernel)) rfl, mem_WT (List.mem_of_getElem? (i := 755) (by decide +kernel)) rfl⟩
theorem lv_L_121 : LVi RL 121 yX8_wins cX8_wins 11 (some .int) 8 := ⟨⟨mem_WT (List.mem_of_getElem? (i := 1185) (by decide +kernel)) rfl, mem_WT (List.mem_of_getElem? (i := 89) (by decide +kernel)) rfl, by decide +kernel, by decide, Or.inl (mem_WT (List.mem_of_getElem? (i := 1182) (by decide +kernel)) rfl)⟩, mem_WT (List.mem_of_getElem? (i := 1183) (by decide +kernel)) rfl, mem_WT (List.mem_of_getElem? (i := 1184) (by decide +kernel)) rfl⟩
theorem lv_L_122 : LVi RL 122 yX7_plan cX7_plan 13 (some .int) 6 := ⟨⟨mem_WT (List.mem_of_getElem? (i := 776) (by decide +kernel)) rfl, mem_WT (List.mem_of_getElem? (i := 81) (by decide +kernel)) rfl, by decide +kernel, by decide, Or.inl (mem_WT (List.mem_of_getElem? (i := 773) (by decide +kernel)) rfl)⟩, mem_WT (List.mem_of_getElem? (i := 774) (by decide +kernel)) rfl, mem_WT (List.mem_of_getElem? (i := 775) (by decide +kernel)) rfl⟩
theorem lv_L_126 : LVi RL 126 yX8_plan cX8_plan 15 (some .int) 6 := ⟨⟨mem_WT (List.mem_of_getElem? (i := 1203) (by decide +kernel)) rfl, mem_WT (List.mem_of_getElem? (i := 89) (by decide +kernel)) rfl, by decide +kernel, by decide, Or.inl (mem_WT (List.mem_of_getElem? (i := 1200) (by decide +kernel)) rfl)⟩, mem_WT (List.mem_of_getElem? (i := 1201) (by decide +kernel)) rfl, mem_WT (List.mem_of_getElem? (i := 1202) (by decide +kernel)) rfl⟩
theorem lv_L_127 : LVi RL 127 yX7_stays cX7_stays 8 (some .long) 5 := ⟨⟨mem_WT (List.mem_of_getElem? (i := 784) (by decide +kernel)) rfl, mem_WT (List.mem_of_getElem? (i := 81) (by decide +kernel)) rfl, by decide +kernel, by decide, Or.inl (mem_WT (List.mem_of_getElem? (i := 781) (by decide +kernel)) rfl)⟩, mem_WT (List.mem_of_getElem? (i := 782) (by decide +kernel)) rfl, mem_WT (List.mem_of_getElem? (i := 783) (by decide +kernel)) rfl⟩
theorem lv_L_131 : LVi RL 131 yX8_stays cX8_stays 16 (some .long) 5 := ⟨⟨mem_WT (List.mem_of_getElem? (i := 1211) (by decide +kernel)) rfl, mem_WT (List.mem_of_getElem? (i := 89) (by decide +kernel)) rfl, by decide +kernel, by decide, Or.inl (mem_WT (List.mem_of_getElem? (i := 1208) (by decide +kernel)) rfl)⟩, mem_WT (List.mem_of_getElem? (i := 1209) (by decide +kernel)) rfl, mem_WT (List.mem_of_getElem? (i := 1210) (by decide +kernel)) rfl⟩
theorem lv_L_132 : LVi RL 132 yX7_straw cX7_straw 11 (some .int) 4 := ⟨⟨mem_WT (List.mem_of_getElem? (i := 802) (by decide +kernel)) rfl, mem_WT (List.mem_of_getElem? (i := 81) (by decide +kernel)) rfl, by decide +kernel, by decide, Or.inl (mem_WT (List.mem_of_getElem? (i := 799) (by decide +kernel)) rfl)⟩, mem_WT (List.mem_of_getElem? (i := 800) (by decide +kernel)) rfl, mem_WT (List.mem_of_getElem? (i := 801) (by decide +kernel)) rfl⟩
theorem lv_L_135 : LVi RL 135 yX8_straw cX8_straw 12 (some .int) 4 := ⟨⟨mem_WT (List.mem_of_getElem? (i := 1232) (by decide +kernel)) rfl, mem_WT (List.mem_of_getElem? (i := 89) (by decide +kernel)) rfl, by decide +kernel, by decide, Or.inl (mem_WT (List.mem_of_getElem? (i := 1229) (by decide +kernel)) rfl)⟩, mem_WT (List.mem_of_getElem? (i := 1230) (by decide +kernel)) rfl, mem_WT (List.mem_of_getElem? (i := 1231) (by decide +kernel)) rfl⟩
theorem lv_L_136 : LVi RL 136 yX7_image cX7_image 2 (some .int) 0 := ⟨⟨mem_WT (List.mem_of_getElem? (i := 817) (by decide +kernel)) rfl, mem_WT (List.mem_of_getElem? (i := 81) (by decide +kernel)) rfl, by decide +kernel, by decide, Or.inl (mem_WT (List.mem_of_getElem? (i := 814) (by decide +kernel)) rfl)⟩, mem_WT (List.mem_of_getElem? (i := 815) (by decide +kernel)) rfl, mem_WT (List.mem_of_getElem? (i := 816) (by decide +kernel)) rfl⟩
theorem lv_L_139 : LVi RL 139 yX8_image cX8_image 2 (some .int) 0 := ⟨⟨mem_WT (List.mem_of_getElem? (i := 1241) (by decide +kernel)) rfl, mem_WT (List.mem_of_getElem? (i := 89) (by decide +kernel)) rfl, by decide +kernel, by decide, Or.inl (mem_WT (List.mem_of_getElem? (i := 1238) (by decide +kernel)) rfl)⟩, mem_WT (List.mem_of_getElem? (i := 1239) (by decide +kernel)) rfl, mem_WT (List.mem_of_getElem? (i := 1240) (by decide +kernel)) rfl⟩
theorem lv_L_140 : LVi RL 140 yX7_restore cX7_restore 2 (some .int) 0 := ⟨⟨mem_WT (List.mem_of_getElem? (i := 827) (by decide +kernel)) rfl, mem_WT (List.mem_of_getElem? (i := 81) (by decide +kernel)) rfl, by decide +kernel, by decide, Or.inl (mem_WT (List.mem_of_getElem? (i := 824) (by decide +kernel)) rfl)⟩, mem_WT (List.mem_of_getElem? (i := 825) (by decide +kernel)) rfl, mem_WT (List.mem_of_getElem? (i := 826) (by decide +kernel)) rfl⟩
theorem lv_L_143 : LVi RL 143 yX8_restore cX8_restore 2 (some .int) 0 := ⟨⟨mem_WT (List.mem_of_getElem? (i := 1245) (by decide +kernel)) rfl, mem_WT (List.mem_of_getElem? (i := 89) (by decide +kernel)) rfl, by decide +kernel, by decide, Or.inl (mem_WT (List.mem_of_getElem? (i := 1242) (by decide +kernel)) rfl)⟩, mem_WT (List.mem_of_getElem? (i := 1243) (by decide +kernel)) rfl, mem_WT (List.mem_of_getElem? (i := 1244) (by decide +kernel)) rfl⟩
theorem lv_L_144 : LVi RL 144 yX7_count cX7_count 2 (some .int) 1 := ⟨⟨mem_WT (List.mem_of_getElem? (i := 831) (by decide +kernel)) rfl, mem_WT (List.mem_of_getElem? (i := 81) (by decide +kernel)) rfl, by decide +kernel, by decide, Or.inl (mem_WT (List.mem_of_getElem? (i := 828) (by decide +kernel)) rfl)⟩, mem_WT (List.mem_of_getElem? (i := 829) (by decide +kernel)) rfl, mem_WT (List.mem_of_getElem? (i := 830) (by decide +kernel)) rfl⟩
theorem lv_L_147 : LVi RL 147 yX8_count cX8_count 2 (some .int) 1 := ⟨⟨mem_WT (List.mem_of_getElem? (i := 1249) (by decide +kernel)) rfl, mem_WT (List.mem_of_getElem? (i := 89) (by decide +kernel)) rfl, by decide +kernel, by decide, Or.inl (mem_WT (List.mem_of_getElem? (i := 1246) (by decide +kernel)) rfl)⟩, mem_WT (List.mem_of_getElem? (i := 1247) (by decide +kernel)) rfl, mem_WT (List.mem_of_getElem? (i := 1248) (by decide +kernel)) rfl⟩
theorem lv_L_148 : LVi RL 148 yX7_digest cX7_digest 5 (some .long) 0 := ⟨⟨mem_WT (List.mem_of_getElem? (i := 835) (by decide +kernel)) rfl, mem_WT (List.mem_of_getElem? (i := 81) (by decide +kernel)) rfl, by decide +kernel, by decide, Or.inl (mem_WT (List.mem_of_getElem? (i := 832) (by decide +kernel)) rfl)⟩, mem_WT (List.mem_of_getElem? (i := 833) (by decide +kernel)) rfl, mem_WT (List.mem_of_getElem? (i := 834) (by decide +kernel)) rfl⟩
theorem lv_L_152 : LVi RL 152 yX8_digest cX8_digest 3 (some .long) 0 := ⟨⟨mem_WT (List.mem_of_getElem? (i := 1257) (by decide +kernel)) rfl, mem_WT (List.mem_of_getElem? (i := 89) (by decide +kernel)) rfl, by decide +kernel, by decide, Or.inl (mem_WT (List.mem_of_getElem? (i := 1254) (by decide +kernel)) rfl)⟩, mem_WT (List.mem_of_getElem? (i := 1255) (by decide +kernel)) rfl, mem_WT (List.mem_of_getElem? (i := 1256) (by decide +kernel)) rfl⟩
def f_law_b1372 (L : Nat) (xs : Nat → Int32) (k18 : Int32 → St → Option (Int32 × St)) (x3 : Int32) (S : St) : Option (Int32 × St) :=
  lett (x3 + 9) fun x3_5 =>
  k18 x3_5 S
def f_law_l18 (L : Nat) (xs : Nat → Int32) : Nat → Int32 → St → Option (Int32 × St)
  | 0, _, _ => none
  | n + 1, x3, S =>
    if ((nI L) - 9) < x3 then
      some (1, S)
    else
      grd (inb x3 L) <|
      if ((xs (x3 : Int32).toNatClampNeg) &&& 31) = 0 then
        grd (inb (x3 + 1) L) <|
        grd (inb (x3 + 2) L) <|
        bnd (f_X7_letters (((((xs ((x3 + 1) : Int32).toNatClampNeg) : Int32).toInt64) <<< ((32 : Int32).toInt64 &&& 63)) ||| ((((xs ((x3 + 2) : Int32).toNatClampNeg) : Int32).toInt64) &&& 4294967295)) S) fun r_2 S_1 =>
        grd (inb (x3 + 1) L) <|
        grd (inb (x3 + 2) L) <|
        bnd (f_X8_letters (((((xs ((x3 + 1) : Int32).toNatClampNeg) : Int32).toInt64) <<< ((32 : Int32).toInt64 &&& 63)) ||| ((((xs ((x3 + 2) : Int32).toNatClampNeg) : Int32).toInt64) &&& 4294967295)) S_1) fun r_4 S_3 =>
        if r_2 = r_4 then
          f_law_b1372 L xs (f_law_l18 L xs n) x3 S_3
        else
          some (0, S_3)
      else
      if ((xs (x3 : Int32).toNatClampNeg) &&& 31) = 1 then
        bnd (f_X7_blank S) fun r_8 S_7 =>
        bnd (f_X8_blank S_7) fun r_10 S_9 =>
        if r_8 = r_10 then
          f_law_b1372 L xs (f_law_l18 L xs n) x3 S_9
        else
          some (0, S_9)
      else
      if ((xs (x3 : Int32).toNatClampNeg) &&& 31) = 2 then
        grd (inb (x3 + 1) L) <|
        bnd (f_X7_fault (xs ((x3 + 1) : Int32).toNatClampNeg) S) fun r_13 S_12 =>
        grd (inb (x3 + 1) L) <|
        bnd (f_X8_fault (xs ((x3 + 1) : Int32).toNatClampNeg) S_12) fun r_15 S_14 =>
        if r_13 = r_15 then
          f_law_b1372 L xs (f_law_l18 L xs n) x3 S_14
        else
          some (0, S_14)
      else
      if ((xs (x3 : Int32).toNatClampNeg) &&& 31) = 3 then
        bnd (f_X7_hill S) fun r_18 S_17 =>
        bnd (f_X8_hill S_17) fun r_20 S_19 =>
        if r_18 = r_20 then
          f_law_b1372 L xs (f_law_l18 L xs n) x3 S_19
        else
          some (0, S_19)
      else
      if ((xs (x3 : Int32).toNatClampNeg) &&& 31) = 4 then
        bnd (f_X7_cart S) fun r_23 S_22 =>
        bnd (f_X8_cart S_22) fun r_25 S_24 =>
        if r_23 = r_25 then
          f_law_b1372 L xs (f_law_l18 L xs n) x3 S_24
        else
          some (0, S_24)
      else
      if ((xs (x3 : Int32).toNatClampNeg) &&& 31) = 5 then
        grd (inb (x3 + 1) L) <|
        grd (inb (x3 + 2) L) <|
        bnd (f_X7_cell (xs ((x3 + 1) : Int32).toNatClampNeg) (xs ((x3 + 2) : Int32).toNatClampNeg) S) fun r_28 S_27 =>
        grd (inb (x3 + 1) L) <|
        grd (inb (x3 + 2) L) <|
        bnd (f_X8_cell (xs ((x3 + 1) : Int32).toNatClampNeg) (xs ((x3 + 2) : Int32).toNatClampNeg) S_27) fun r_30 S_29 =>
        if r_28 = r_30 then
          f_law_b1372 L xs (f_law_l18 L xs n) x3 S_29
        else
          some (0, S_29)
      else
      if ((xs (x3 : Int32).toNatClampNeg) &&& 31) = 6 then
        grd (inb (x3 + 1) L) <|
        grd (inb (x3 + 2) L) <|
        bnd (f_X7_about (xs ((x3 + 1) : Int32).toNatClampNeg) (xs ((x3 + 2) : Int32).toNatClampNeg) S) fun r_33 S_32 =>
        grd (inb (x3 + 1) L) <|
        grd (inb (x3 + 2) L) <|
        bnd (f_X8_about (xs ((x3 + 1) : Int32).toNatClampNeg) (xs ((x3 + 2) : Int32).toNatClampNeg) S_32) fun r_35 S_34 =>
        if r_33 = r_35 then
          f_law_b1372 L xs (f_law_l18 L xs n) x3 S_34
        else
          some (0, S_34)
      else
      if ((xs (x3 : Int32).toNatClampNeg) &&& 31) = 7 then
        grd (inb (x3 + 1) L) <|
        grd (inb (x3 + 2) L) <|
        grd (inb (x3 + 3) L) <|
        bnd (f_X7_loss (xs ((x3 + 1) : Int32).toNatClampNeg) (xs ((x3 + 2) : Int32).toNatClampNeg) (xs ((x3 + 3) : Int32).toNatClampNeg) S) fun r_38 S_37 =>
        grd (inb (x3 + 1) L) <|
        grd (inb (x3 + 2) L) <|
        grd (inb (x3 + 3) L) <|
        bnd (f_X8_loss (xs ((x3 + 1) : Int32).toNatClampNeg) (xs ((x3 + 2) : Int32).toNatClampNeg) (xs ((x3 + 3) : Int32).toNatClampNeg) S_37) fun r_40 S_39 =>
        if r_38 = r_40 then
          f_law_b1372 L xs (f_law_l18 L xs n) x3 S_39
        else
          some (0, S_39)
      else
      if ((xs (x3 : Int32).toNatClampNeg) &&& 31) = 8 then
        grd (inb (x3 + 1) L) <|
        grd (inb (x3 + 2) L) <|
        grd (inb (x3 + 3) L) <|
        bnd (f_X7_as (xs ((x3 + 1) : Int32).toNatClampNeg) (xs ((x3 + 2) : Int32).toNatClampNeg) (xs ((x3 + 3) : Int32).toNatClampNeg) S) fun r_43 S_42 =>
        grd (inb (x3 + 1) L) <|
        grd (inb (x3 + 2) L) <|
        grd (inb (x3 + 3) L) <|
        bnd (f_X8_as (xs ((x3 + 1) : Int32).toNatClampNeg) (xs ((x3 + 2) : Int32).toNatClampNeg) (xs ((x3 + 3) : Int32).toNatClampNeg) S_42) fun r_45 S_44 =>
        if r_43 = r_45 then
          f_law_b1372 L xs (f_law_l18 L xs n) x3 S_44
        else
          some (0, S_44)
      else
      if ((xs (x3 : Int32).toNatClampNeg) &&& 31) = 9 then
        grd (inb (x3 + 1) L) <|
        grd (inb (x3 + 2) L) <|
        bnd (f_X7_weigh (xs ((x3 + 1) : Int32).toNatClampNeg) (xs ((x3 + 2) : Int32).toNatClampNeg) S) fun r_48 S_47 =>
        grd (inb (x3 + 1) L) <|
        grd (inb (x3 + 2) L) <|
        bnd (f_X8_weigh (xs ((x3 + 1) : Int32).toNatClampNeg) (xs ((x3 + 2) : Int32).toNatClampNeg) S_47) fun r_50 S_49 =>
        if r_48 = r_50 then
          f_law_b1372 L xs (f_law_l18 L xs n) x3 S_49
        else
          some (0, S_49)
      else
      if ((xs (x3 : Int32).toNatClampNeg) &&& 31) = 10 then
        grd (inb (x3 + 1) L) <|
        bnd (f_X7_grip (xs ((x3 + 1) : Int32).toNatClampNeg) S) fun r_53 S_52 =>
        grd (inb (x3 + 1) L) <|
        bnd (f_X8_grip (xs ((x3 + 1) : Int32).toNatClampNeg) S_52) fun r_55 S_54 =>
        if r_53 = r_55 then
          f_law_b1372 L xs (f_law_l18 L xs n) x3 S_54
        else
          some (0, S_54)
      else
      if ((xs (x3 : Int32).toNatClampNeg) &&& 31) = 11 then
        grd (inb (x3 + 1) L) <|
        grd (inb (x3 + 2) L) <|
        bnd (f_X7_brake (xs ((x3 + 1) : Int32).toNatClampNeg) (xs ((x3 + 2) : Int32).toNatClampNeg) S) fun r_58 S_57 =>
        grd (inb (x3 + 1) L) <|
        grd (inb (x3 + 2) L) <|
        bnd (f_X8_brake (xs ((x3 + 1) : Int32).toNatClampNeg) (xs ((x3 + 2) : Int32).toNatClampNeg) S_57) fun r_60 S_59 =>
        if r_58 = r_60 then
          f_law_b1372 L xs (f_law_l18 L xs n) x3 S_59
        else
          some (0, S_59)
      else
      if ((xs (x3 : Int32).toNatClampNeg) &&& 31) = 12 then
        grd (inb (x3 + 1) L) <|
        grd (inb (x3 + 2) L) <|
        grd (inb (x3 + 3) L) <|
        bnd (f_X7_run (xs ((x3 + 1) : Int32).toNatClampNeg) (xs ((x3 + 2) : Int32).toNatClampNeg) (xs ((x3 + 3) : Int32).toNatClampNeg) S) fun r_63 S_62 =>
        grd (inb (x3 + 1) L) <|
        grd (inb (x3 + 2) L) <|
        grd (inb (x3 + 3) L) <|
        bnd (f_X8_run (xs ((x3 + 1) : Int32).toNatClampNeg) (xs ((x3 + 2) : Int32).toNatClampNeg) (xs ((x3 + 3) : Int32).toNatClampNeg) S_62) fun r_65 S_64 =>
        if r_63 = r_65 then
          f_law_b1372 L xs (f_law_l18 L xs n) x3 S_64
        else
          some (0, S_64)
      else
      if ((xs (x3 : Int32).toNatClampNeg) &&& 31) = 13 then
        grd (inb (x3 + 1) L) <|
        grd (inb (x3 + 2) L) <|
        grd (inb (x3 + 3) L) <|
        bnd (f_X7_pace (xs ((x3 + 1) : Int32).toNatClampNeg) (xs ((x3 + 2) : Int32).toNatClampNeg) (xs ((x3 + 3) : Int32).toNatClampNeg) S) fun r_68 S_67 =>
        grd (inb (x3 + 1) L) <|
        grd (inb (x3 + 2) L) <|
        grd (inb (x3 + 3) L) <|
        bnd (f_X8_pace (xs ((x3 + 1) : Int32).toNatClampNeg) (xs ((x3 + 2) : Int32).toNatClampNeg) (xs ((x3 + 3) : Int32).toNatClampNeg) S_67) fun r_70 S_69 =>
        if r_68 = r_70 then
          f_law_b1372 L xs (f_law_l18 L xs n) x3 S_69
        else
          some (0, S_69)
      else
      if ((xs (x3 : Int32).toNatClampNeg) &&& 31) = 14 then
        grd (inb (x3 + 1) L) <|
        grd (inb (x3 + 2) L) <|
        grd (inb (x3 + 3) L) <|
        bnd (f_X7_lost (xs ((x3 + 1) : Int32).toNatClampNeg) (xs ((x3 + 2) : Int32).toNatClampNeg) (xs ((x3 + 3) : Int32).toNatClampNeg) S) fun r_73 S_72 =>
        grd (inb (x3 + 1) L) <|
        grd (inb (x3 + 2) L) <|
        grd (inb (x3 + 3) L) <|
        bnd (f_X8_lost (xs ((x3 + 1) : Int32).toNatClampNeg) (xs ((x3 + 2) : Int32).toNatClampNeg) (xs ((x3 + 3) : Int32).toNatClampNeg) S_72) fun r_75 S_74 =>
        if r_73 = r_75 then
          f_law_b1372 L xs (f_law_l18 L xs n) x3 S_74
        else
          some (0, S_74)
      else
      if ((xs (x3 : Int32).toNatClampNeg) &&& 31) = 15 then
        grd (inb (x3 + 1) L) <|
        grd (inb (x3 + 2) L) <|
        grd (inb (x3 + 3) L) <|
        bnd (f_X7_bestBrakes (xs ((x3 + 1) : Int32).toNatClampNeg) (xs ((x3 + 2) : Int32).toNatClampNeg) (xs ((x3 + 3) : Int32).toNatClampNeg) S) fun r_78 S_77 =>
        grd (inb (x3 + 1) L) <|
        grd (inb (x3 + 2) L) <|
        grd (inb (x3 + 3) L) <|
        bnd (f_X8_bestBrakes (xs ((x3 + 1) : Int32).toNatClampNeg) (xs ((x3 + 2) : Int32).toNatClampNeg) (xs ((x3 + 3) : Int32).toNatClampNeg) S_77) fun r_80 S_79 =>
        if r_78 = r_80 then
          f_law_b1372 L xs (f_law_l18 L xs n) x3 S_79
        else
          some (0, S_79)
      else
      if ((xs (x3 : Int32).toNatClampNeg) &&& 31) = 16 then
        grd (inb (x3 + 1) L) <|
        grd (inb (x3 + 2) L) <|
        grd (inb (x3 + 3) L) <|
        bnd (f_X7_bestPush (xs ((x3 + 1) : Int32).toNatClampNeg) (xs ((x3 + 2) : Int32).toNatClampNeg) (xs ((x3 + 3) : Int32).toNatClampNeg) S) fun r_83 S_82 =>
        grd (inb (x3 + 1) L) <|
        grd (inb (x3 + 2) L) <|
        grd (inb (x3 + 3) L) <|
        bnd (f_X8_bestPush (xs ((x3 + 1) : Int32).toNatClampNeg) (xs ((x3 + 2) : Int32).toNatClampNeg) (xs ((x3 + 3) : Int32).toNatClampNeg) S_82) fun r_85 S_84 =>
        if r_83 = r_85 then
          f_law_b1372 L xs (f_law_l18 L xs n) x3 S_84
        else
          some (0, S_84)
      else
      if ((xs (x3 : Int32).toNatClampNeg) &&& 31) = 17 then
        grd (inb (x3 + 1) L) <|
        grd (inb (x3 + 2) L) <|
        grd (inb (x3 + 3) L) <|
        grd (inb (x3 + 4) L) <|
        bnd (f_X7_work (xs ((x3 + 1) : Int32).toNatClampNeg) (xs ((x3 + 2) : Int32).toNatClampNeg) (xs ((x3 + 3) : Int32).toNatClampNeg) (xs ((x3 + 4) : Int32).toNatClampNeg) S) fun r_88 S_87 =>
        grd (inb (x3 + 1) L) <|
        grd (inb (x3 + 2) L) <|
        grd (inb (x3 + 3) L) <|
        grd (inb (x3 + 4) L) <|
        bnd (f_X8_work (xs ((x3 + 1) : Int32).toNatClampNeg) (xs ((x3 + 2) : Int32).toNatClampNeg) (xs ((x3 + 3) : Int32).toNatClampNeg) (xs ((x3 + 4) : Int32).toNatClampNeg) S_87) fun r_90 S_89 =>
        if r_88 = r_90 then
          f_law_b1372 L xs (f_law_l18 L xs n) x3 S_89
        else
          some (0, S_89)
      else
      if ((xs (x3 : Int32).toNatClampNeg) &&& 31) = 18 then
        grd (inb (x3 + 1) L) <|
        grd (inb (x3 + 2) L) <|
        grd (inb (x3 + 3) L) <|
        bnd (f_X7_weighed (xs ((x3 + 1) : Int32).toNatClampNeg) (xs ((x3 + 2) : Int32).toNatClampNeg) (xs ((x3 + 3) : Int32).toNatClampNeg) S) fun r_93 S_92 =>
        grd (inb (x3 + 1) L) <|
        grd (inb (x3 + 2) L) <|
        grd (inb (x3 + 3) L) <|
        bnd (f_X8_weighed (xs ((x3 + 1) : Int32).toNatClampNeg) (xs ((x3 + 2) : Int32).toNatClampNeg) (xs ((x3 + 3) : Int32).toNatClampNeg) S_92) fun r_95 S_94 =>
        if r_93 = r_95 then
          f_law_b1372 L xs (f_law_l18 L xs n) x3 S_94
        else
          some (0, S_94)
      else
      if ((xs (x3 : Int32).toNatClampNeg) &&& 31) = 19 then
        grd (inb (x3 + 1) L) <|
        grd (inb (x3 + 2) L) <|
        bnd (f_X7_close (xs ((x3 + 1) : Int32).toNatClampNeg) (xs ((x3 + 2) : Int32).toNatClampNeg) S) fun r_98 S_97 =>
        grd (inb (x3 + 1) L) <|
        grd (inb (x3 + 2) L) <|
        bnd (f_X8_close (xs ((x3 + 1) : Int32).toNatClampNeg) (xs ((x3 + 2) : Int32).toNatClampNeg) S_97) fun r_100 S_99 =>
        if r_98 = r_100 then
          f_law_b1372 L xs (f_law_l18 L xs n) x3 S_99
        else
          some (0, S_99)
      else
      if ((xs (x3 : Int32).toNatClampNeg) &&& 31) = 20 then
        grd (inb (x3 + 1) L) <|
        grd (inb (x3 + 2) L) <|
        bnd (f_X7_farthest (xs ((x3 + 1) : Int32).toNatClampNeg) (xs ((x3 + 2) : Int32).toNatClampNeg) S) fun r_103 S_102 =>
        grd (inb (x3 + 1) L) <|
        grd (inb (x3 + 2) L) <|
        bnd (f_X8_farthest (xs ((x3 + 1) : Int32).toNatClampNeg) (xs ((x3 + 2) : Int32).toNatClampNeg) S_102) fun r_105 S_104 =>
        if r_103 = r_105 then
          f_law_b1372 L xs (f_law_l18 L xs n) x3 S_104
        else
          some (0, S_104)
      else
      if ((xs (x3 : Int32).toNatClampNeg) &&& 31) = 21 then
        grd (inb (x3 + 1) L) <|
        grd (inb (x3 + 2) L) <|
        grd (inb (x3 + 3) L) <|
        bnd (f_X7_coast (xs ((x3 + 1) : Int32).toNatClampNeg) (xs ((x3 + 2) : Int32).toNatClampNeg) (xs ((x3 + 3) : Int32).toNatClampNeg) S) fun r_108 S_107 =>
        grd (inb (x3 + 1) L) <|
        grd (inb (x3 + 2) L) <|
        grd (inb (x3 + 3) L) <|
        bnd (f_X8_coast (xs ((x3 + 1) : Int32).toNatClampNeg) (xs ((x3 + 2) : Int32).toNatClampNeg) (xs ((x3 + 3) : Int32).toNatClampNeg) S_107) fun r_110 S_109 =>
        if r_108 = r_110 then
          f_law_b1372 L xs (f_law_l18 L xs n) x3 S_109
        else
          some (0, S_109)
      else
      if ((xs (x3 : Int32).toNatClampNeg) &&& 31) = 22 then
        bnd (f_X7_rubs S) fun r_113 S_112 =>
        bnd (f_X8_rubs S_112) fun r_115 S_114 =>
        if r_113 = r_115 then
          f_law_b1372 L xs (f_law_l18 L xs n) x3 S_114
        else
          some (0, S_114)
      else
      if ((xs (x3 : Int32).toNatClampNeg) &&& 31) = 23 then
        grd (inb (x3 + 1) L) <|
        grd (inb (x3 + 2) L) <|
        grd (inb (x3 + 3) L) <|
        grd (inb (x3 + 4) L) <|
        bnd (f_X7_chance (xs ((x3 + 1) : Int32).toNatClampNeg) (xs ((x3 + 2) : Int32).toNatClampNeg) (xs ((x3 + 3) : Int32).toNatClampNeg) (xs ((x3 + 4) : Int32).toNatClampNeg) S) fun r_118 S_117 =>
        grd (inb (x3 + 1) L) <|
        grd (inb (x3 + 2) L) <|
        grd (inb (x3 + 3) L) <|
        grd (inb (x3 + 4) L) <|
        bnd (f_X8_chance (xs ((x3 + 1) : Int32).toNatClampNeg) (xs ((x3 + 2) : Int32).toNatClampNeg) (xs ((x3 + 3) : Int32).toNatClampNeg) (xs ((x3 + 4) : Int32).toNatClampNeg) S_117) fun r_120 S_119 =>
        if r_118 = r_120 then
          f_law_b1372 L xs (f_law_l18 L xs n) x3 S_119
        else
          some (0, S_119)
      else
      if ((xs (x3 : Int32).toNatClampNeg) &&& 31) = 24 then
        grd (inb (x3 + 1) L) <|
        grd (inb (x3 + 2) L) <|
        grd (inb (x3 + 3) L) <|
        grd (inb (x3 + 4) L) <|
        grd (inb (x3 + 5) L) <|
        grd (inb (x3 + 6) L) <|
        grd (inb (x3 + 7) L) <|
        grd (inb (x3 + 8) L) <|
        bnd (f_X7_wins (xs ((x3 + 1) : Int32).toNatClampNeg) (xs ((x3 + 2) : Int32).toNatClampNeg) (xs ((x3 + 3) : Int32).toNatClampNeg) (xs ((x3 + 4) : Int32).toNatClampNeg) (xs ((x3 + 5) : Int32).toNatClampNeg) (xs ((x3 + 6) : Int32).toNatClampNeg) (xs ((x3 + 7) : Int32).toNatClampNeg) (xs ((x3 + 8) : Int32).toNatClampNeg) S) fun r_123 S_122 =>
        grd (inb (x3 + 1) L) <|
        grd (inb (x3 + 2) L) <|
        grd (inb (x3 + 3) L) <|
        grd (inb (x3 + 4) L) <|
        grd (inb (x3 + 5) L) <|
        grd (inb (x3 + 6) L) <|
        grd (inb (x3 + 7) L) <|
        grd (inb (x3 + 8) L) <|
        bnd (f_X8_wins (xs ((x3 + 1) : Int32).toNatClampNeg) (xs ((x3 + 2) : Int32).toNatClampNeg) (xs ((x3 + 3) : Int32).toNatClampNeg) (xs ((x3 + 4) : Int32).toNatClampNeg) (xs ((x3 + 5) : Int32).toNatClampNeg) (xs ((x3 + 6) : Int32).toNatClampNeg) (xs ((x3 + 7) : Int32).toNatClampNeg) (xs ((x3 + 8) : Int32).toNatClampNeg) S_122) fun r_125 S_124 =>
        if r_123 = r_125 then
          f_law_b1372 L xs (f_law_l18 L xs n) x3 S_124
        else
          some (0, S_124)
      else
      if ((xs (x3 : Int32).toNatClampNeg) &&& 31) = 25 then
        grd (inb (x3 + 1) L) <|
        grd (inb (x3 + 2) L) <|
        grd (inb (x3 + 3) L) <|
        grd (inb (x3 + 4) L) <|
        grd (inb (x3 + 5) L) <|
        grd (inb (x3 + 6) L) <|
        bnd (f_X7_plan (xs ((x3 + 1) : Int32).toNatClampNeg) (xs ((x3 + 2) : Int32).toNatClampNeg) (xs ((x3 + 3) : Int32).toNatClampNeg) (xs ((x3 + 4) : Int32).toNatClampNeg) (xs ((x3 + 5) : Int32).toNatClampNeg) (xs ((x3 + 6) : Int32).toNatClampNeg) S) fun r_128 S_127 =>
        grd (inb (x3 + 1) L) <|
        grd (inb (x3 + 2) L) <|
        grd (inb (x3 + 3) L) <|
        grd (inb (x3 + 4) L) <|
        grd (inb (x3 + 5) L) <|
        grd (inb (x3 + 6) L) <|
        bnd (f_X8_plan (xs ((x3 + 1) : Int32).toNatClampNeg) (xs ((x3 + 2) : Int32).toNatClampNeg) (xs ((x3 + 3) : Int32).toNatClampNeg) (xs ((x3 + 4) : Int32).toNatClampNeg) (xs ((x3 + 5) : Int32).toNatClampNeg) (xs ((x3 + 6) : Int32).toNatClampNeg) S_127) fun r_130 S_129 =>
        if r_128 = r_130 then
          f_law_b1372 L xs (f_law_l18 L xs n) x3 S_129
        else
          some (0, S_129)
      else
      if ((xs (x3 : Int32).toNatClampNeg) &&& 31) = 26 then
        grd (inb (x3 + 1) L) <|
        grd (inb (x3 + 2) L) <|
        grd (inb (x3 + 3) L) <|
        grd (inb (x3 + 4) L) <|
        grd (inb (x3 + 5) L) <|
        bnd (f_X7_stays (xs ((x3 + 1) : Int32).toNatClampNeg) (xs ((x3 + 2) : Int32).toNatClampNeg) (xs ((x3 + 3) : Int32).toNatClampNeg) (xs ((x3 + 4) : Int32).toNatClampNeg) (xs ((x3 + 5) : Int32).toNatClampNeg) S) fun r_133 S_132 =>
        grd (inb (x3 + 1) L) <|
        grd (inb (x3 + 2) L) <|
        grd (inb (x3 + 3) L) <|
        grd (inb (x3 + 4) L) <|
        grd (inb (x3 + 5) L) <|
        bnd (f_X8_stays (xs ((x3 + 1) : Int32).toNatClampNeg) (xs ((x3 + 2) : Int32).toNatClampNeg) (xs ((x3 + 3) : Int32).toNatClampNeg) (xs ((x3 + 4) : Int32).toNatClampNeg) (xs ((x3 + 5) : Int32).toNatClampNeg) S_132) fun r_135 S_134 =>
        if (lg_cmp r_133 r_135) = 0 then
          f_law_b1372 L xs (f_law_l18 L xs n) x3 S_134
        else
          some (0, S_134)
      else
      if ((xs (x3 : Int32).toNatClampNeg) &&& 31) = 27 then
        grd (inb (x3 + 1) L) <|
        grd (inb (x3 + 2) L) <|
        grd (inb (x3 + 3) L) <|
        grd (inb (x3 + 4) L) <|
        bnd (f_X7_straw (xs ((x3 + 1) : Int32).toNatClampNeg) (xs ((x3 + 2) : Int32).toNatClampNeg) (xs ((x3 + 3) : Int32).toNatClampNeg) (xs ((x3 + 4) : Int32).toNatClampNeg) S) fun r_138 S_137 =>
        grd (inb (x3 + 1) L) <|
        grd (inb (x3 + 2) L) <|
        grd (inb (x3 + 3) L) <|
        grd (inb (x3 + 4) L) <|
        bnd (f_X8_straw (xs ((x3 + 1) : Int32).toNatClampNeg) (xs ((x3 + 2) : Int32).toNatClampNeg) (xs ((x3 + 3) : Int32).toNatClampNeg) (xs ((x3 + 4) : Int32).toNatClampNeg) S_137) fun r_140 S_139 =>
        if r_138 = r_140 then
          f_law_b1372 L xs (f_law_l18 L xs n) x3 S_139
        else
          some (0, S_139)
      else
      if ((xs (x3 : Int32).toNatClampNeg) &&& 31) = 28 then
        bnd (f_X7_image S) fun r_143 S_142 =>
        bnd (f_X8_image S_142) fun r_145 S_144 =>
        if r_143 = r_145 then
          f_law_b1372 L xs (f_law_l18 L xs n) x3 S_144
        else
          some (0, S_144)
      else
      if ((xs (x3 : Int32).toNatClampNeg) &&& 31) = 29 then
        bnd (f_X7_restore S) fun r_148 S_147 =>
        bnd (f_X8_restore S_147) fun r_150 S_149 =>
        if r_148 = r_150 then
          f_law_b1372 L xs (f_law_l18 L xs n) x3 S_149
        else
          some (0, S_149)
      else
      if ((xs (x3 : Int32).toNatClampNeg) &&& 31) = 30 then
        grd (inb (x3 + 1) L) <|
        bnd (f_X7_count (xs ((x3 + 1) : Int32).toNatClampNeg) S) fun r_153 S_152 =>
        grd (inb (x3 + 1) L) <|
        bnd (f_X8_count (xs ((x3 + 1) : Int32).toNatClampNeg) S_152) fun r_155 S_154 =>
        if r_153 = r_155 then
          f_law_b1372 L xs (f_law_l18 L xs n) x3 S_154
        else
          some (0, S_154)
      else
      if ((xs (x3 : Int32).toNatClampNeg) &&& 31) = 31 then
        bnd (f_X7_digest S) fun r_158 S_157 =>
        bnd (f_X8_digest S_157) fun r_160 S_159 =>
        if (lg_cmp r_158 r_160) = 0 then
          f_law_b1372 L xs (f_law_l18 L xs n) x3 S_159
        else
          some (0, S_159)
      else
        f_law_b1372 L xs (f_law_l18 L xs n) x3 S
set_option maxRecDepth 100000 in
set_option maxHeartbeats 4000000 in
theorem p_law_b1372 {Γ : GA} {E : EV} {b : Nat} (C : Cx Γ E RL cL_law 4 10 ret) (M : Lx E b) (L : Nat) (xs : Nat → Int32) (Z : Zx E b L xs) (k18 : Int32 → St → Option (Int32 × St)) (hk18 : ∀ (x3 : Int32) (S : St), G Γ E (QW E b) 4 18 [(0, .ref b), (1, .ref (gX Γ 0)), (2, .ref (gX Γ 55)), (3, .int x3)] [] S (k18 x3 S)) (x3 : Int32) (S : St) : G Γ E (QW E b) 4 1372 [(0, .ref b), (1, .ref (gX Γ 0)), (2, .ref (gX Γ 55)), (3, .int x3)] [] S (f_law_b1372 L xs k18 x3 S) := by
  rw [f_law_b1372]
  refine g_iinc (pc := 1372) C (v := 9) dL_law_1372 3 rfl (by decide) (by decide) (fun x => [(3, .int x), (0, .ref b), (1, .ref (gX Γ 0)), (2, .ref (gX Γ 55))]) (fun _ => rfl) (fun x3_5 => ?_)
  refine g_goto (pc := 1375) C 18 dL_law_1375 (by decide) ?_
  exact g_sub [1, 2, 3, 0] rfl (hk18 x3_5 S)
set_option maxRecDepth 100000 in
set_option maxHeartbeats 4000000 in
theorem p_law_l18 {Γ : GA} {E : EV} {b : Nat} (C : Cx Γ E RL cL_law 4 10 ret) (M : Lx E b) (L : Nat) (xs : Nat → Int32) (Z : Zx E b L xs) : ∀ (n : Nat) (x3 : Int32) (S : St), G Γ E (QW E b) 4 18 [(0, .ref b), (1, .ref (gX Γ 0)), (2, .ref (gX Γ 55)), (3, .int x3)] [] S (f_law_l18 L xs n x3 S) := by
  intro n
  induction n with
  | zero => intro x3 S; exact g_none
  | succ n ih =>
    intro x3 S
    rw [f_law_l18]
    refine g_iload_n (pc := 18) C dL_law_18 3 rfl rfl ?_
    refine g_aload_n (pc := 19) C dL_law_19 0 rfl rfl ?_
    refine g_slen (pc := 20) C Z dL_law_20 ?_
    refine g_bipush (pc := 21) C (v := 9) dL_law_21 (by decide) ?_
    refine g_isub (pc := 23) C dL_law_23 ?_
    refine g_icmp_gt (pc := 24) C 1378 dL_law_24 (by decide) ?_ ?_
    · refine g_iconst (pc := 1378) C (v := 1) dL_law_1378 (by decide) ?_
      exact g_lawret C M 1 dL_law_1379
    · refine g_aload_n (pc := 27) C dL_law_27 0 rfl rfl ?_
      refine g_iload_n (pc := 28) C dL_law_28 3 rfl rfl ?_
      refine g_sld (pc := 29) C Z dL_law_29 ?_
      refine g_bipush (pc := 30) C (v := 31) dL_law_30 (by decide) ?_
      refine g_iand (pc := 32) C dL_law_32 ?_
      refine g_tsw (res := none) (pc := 33) C 0 176 0 dL_law_33 (by show ¬ ((0 : Int) ≤ _ ∧ _ < (0 : Int)); omega) (by decide) rfl (by decide) ?_ (fun hs_6 => ?_)
      · refine g_aload_n (pc := 176) C dL_law_176 1 rfl rfl ?_
        refine g_aload_n (pc := 177) C dL_law_177 0 rfl rfl ?_
        refine g_iload_n (pc := 178) C dL_law_178 3 rfl rfl ?_
        refine g_iconst (pc := 179) C (v := 1) dL_law_179 (by decide) ?_
        refine g_iadd (pc := 180) C dL_law_180 ?_
        refine g_sld (pc := 181) C Z dL_law_181 ?_
        refine g_i2l (pc := 182) C dL_law_182 ?_
        refine g_bipush (pc := 183) C (v := 32) dL_law_183 (by decide) ?_
        refine g_lshl (pc := 185) C dL_law_185 ?_
        refine g_aload_n (pc := 186) C dL_law_186 0 rfl rfl ?_
        refine g_iload_n (pc := 187) C dL_law_187 3 rfl rfl ?_
        refine g_iconst (pc := 188) C (v := 2) dL_law_188 (by decide) ?_
        refine g_iadd (pc := 189) C dL_law_189 ?_
        refine g_sld (pc := 190) C Z dL_law_190 ?_
        refine g_i2l (pc := 191) C dL_law_191 ?_
        refine g_ldc2 (pc := 192) C kc_L_13 dL_law_192 ?_
        refine g_land (pc := 195) C dL_law_195 ?_
        refine g_lor (pc := 196) C dL_law_196 ?_
        refine g_callVI (pc := 197) (As := [.long (((((xs ((x3 + 1) : Int32).toNatClampNeg) : Int32).toInt64) <<< ((32 : Int32).toInt64 &&& 63)) ||| ((((xs ((x3 + 2) : Int32).toNatClampNeg) : Int32).toInt64) &&& 4294967295))]) (st := []) C lv_L_15 fo_0 rfl (ct_X7_letters (((((xs ((x3 + 1) : Int32).toNatClampNeg) : Int32).toInt64) <<< ((32 : Int32).toInt64 &&& 63)) ||| ((((xs ((x3 + 2) : Int32).toNatClampNeg) : Int32).toInt64) &&& 4294967295)) S) (by decide) rfl rfl (Nat.le_of_ble_eq_true rfl) dL_law_197 (fun r_2 S_1 => ?_)
        refine g_aload_n (pc := 200) C dL_law_200 2 rfl rfl ?_
        refine g_aload_n (pc := 201) C dL_law_201 0 rfl rfl ?_
        refine g_iload_n (pc := 202) C dL_law_202 3 rfl rfl ?_
        refine g_iconst (pc := 203) C (v := 1) dL_law_203 (by decide) ?_
        refine g_iadd (pc := 204) C dL_law_204 ?_
        refine g_sld (pc := 205) C Z dL_law_205 ?_
        refine g_i2l (pc := 206) C dL_law_206 ?_
        refine g_bipush (pc := 207) C (v := 32) dL_law_207 (by decide) ?_
        refine g_lshl (pc := 209) C dL_law_209 ?_
        refine g_aload_n (pc := 210) C dL_law_210 0 rfl rfl ?_
        refine g_iload_n (pc := 211) C dL_law_211 3 rfl rfl ?_
        refine g_iconst (pc := 212) C (v := 2) dL_law_212 (by decide) ?_
        refine g_iadd (pc := 213) C dL_law_213 ?_
        refine g_sld (pc := 214) C Z dL_law_214 ?_
        refine g_i2l (pc := 215) C dL_law_215 ?_
        refine g_ldc2 (pc := 216) C kc_L_13 dL_law_216 ?_
        refine g_land (pc := 219) C dL_law_219 ?_
        refine g_lor (pc := 220) C dL_law_220 ?_
        refine g_callVI (pc := 221) (As := [.long (((((xs ((x3 + 1) : Int32).toNatClampNeg) : Int32).toInt64) <<< ((32 : Int32).toInt64 &&& 63)) ||| ((((xs ((x3 + 2) : Int32).toNatClampNeg) : Int32).toInt64) &&& 4294967295))]) (st := [.int r_2]) C lv_L_19 fo_55 rfl (ct_X8_letters (((((xs ((x3 + 1) : Int32).toNatClampNeg) : Int32).toInt64) <<< ((32 : Int32).toInt64 &&& 63)) ||| ((((xs ((x3 + 2) : Int32).toNatClampNeg) : Int32).toInt64) &&& 4294967295)) S_1) (by decide) rfl rfl (Nat.le_of_ble_eq_true rfl) dL_law_221 (fun r_4 S_3 => ?_)
        refine g_icmp_eq (pc := 224) C 1372 dL_law_224 (by decide) ?_ ?_
        · exact g_sub [0, 1, 2, 3] rfl (p_law_b1372 C M L xs Z (f_law_l18 L xs n) ih x3 S_3)
        · refine g_iconst (pc := 227) C (v := 0) dL_law_227 (by decide) ?_
          exact g_lawret C M 0 dL_law_228
      refine g_tsw (res := none) (pc := 33) C 1 229 1 dL_law_33 hs_6 (by decide) rfl (by decide) ?_ (fun hs_11 => ?_)
      · refine g_aload_n (pc := 229) C dL_law_229 1 rfl rfl ?_
        refine g_callVI (pc := 230) (As := []) (st := []) C lv_L_20 fo_0 rfl (ct_X7_blank S) (by decide) rfl rfl (Nat.le_of_ble_eq_true rfl) dL_law_230 (fun r_8 S_7 => ?_)
        refine g_aload_n (pc := 233) C dL_law_233 2 rfl rfl ?_
        refine g_callVI (pc := 234) (As := []) (st := [.int r_8]) C lv_L_24 fo_55 rfl (ct_X8_blank S_7) (by decide) rfl rfl (Nat.le_of_ble_eq_true rfl) dL_law_234 (fun r_10 S_9 => ?_)
        refine g_icmp_eq (pc := 237) C 1372 dL_law_237 (by decide) ?_ ?_
        · exact g_sub [0, 1, 2, 3] rfl (p_law_b1372 C M L xs Z (f_law_l18 L xs n) ih x3 S_9)
        · refine g_iconst (pc := 240) C (v := 0) dL_law_240 (by decide) ?_
          exact g_lawret C M 0 dL_law_241
      refine g_tsw (res := none) (pc := 33) C 2 242 2 dL_law_33 hs_11 (by decide) rfl (by decide) ?_ (fun hs_16 => ?_)
      · refine g_aload_n (pc := 242) C dL_law_242 1 rfl rfl ?_
        refine g_aload_n (pc := 243) C dL_law_243 0 rfl rfl ?_
        refine g_iload_n (pc := 244) C dL_law_244 3 rfl rfl ?_
        refine g_iconst (pc := 245) C (v := 1) dL_law_245 (by decide) ?_
        refine g_iadd (pc := 246) C dL_law_246 ?_
        refine g_sld (pc := 247) C Z dL_law_247 ?_
        refine g_callVI (pc := 248) (As := [.int (xs ((x3 + 1) : Int32).toNatClampNeg)]) (st := []) C lv_L_25 fo_0 rfl (ct_X7_fault (xs ((x3 + 1) : Int32).toNatClampNeg) S) (by decide) rfl rfl (Nat.le_of_ble_eq_true rfl) dL_law_248 (fun r_13 S_12 => ?_)
        refine g_aload_n (pc := 251) C dL_law_251 2 rfl rfl ?_
        refine g_aload_n (pc := 252) C dL_law_252 0 rfl rfl ?_
        refine g_iload_n (pc := 253) C dL_law_253 3 rfl rfl ?_
        refine g_iconst (pc := 254) C (v := 1) dL_law_254 (by decide) ?_
        refine g_iadd (pc := 255) C dL_law_255 ?_
        refine g_sld (pc := 256) C Z dL_law_256 ?_
        refine g_callVI (pc := 257) (As := [.int (xs ((x3 + 1) : Int32).toNatClampNeg)]) (st := [.int r_13]) C lv_L_29 fo_55 rfl (ct_X8_fault (xs ((x3 + 1) : Int32).toNatClampNeg) S_12) (by decide) rfl rfl (Nat.le_of_ble_eq_true rfl) dL_law_257 (fun r_15 S_14 => ?_)
        refine g_icmp_eq (pc := 260) C 1372 dL_law_260 (by decide) ?_ ?_
        · exact g_sub [0, 1, 2, 3] rfl (p_law_b1372 C M L xs Z (f_law_l18 L xs n) ih x3 S_14)
        · refine g_iconst (pc := 263) C (v := 0) dL_law_263 (by decide) ?_
          exact g_lawret C M 0 dL_law_264
      refine g_tsw (res := none) (pc := 33) C 3 265 3 dL_law_33 hs_16 (by decide) rfl (by decide) ?_ (fun hs_21 => ?_)
      · refine g_aload_n (pc := 265) C dL_law_265 1 rfl rfl ?_
        refine g_callVI (pc := 266) (As := []) (st := []) C lv_L_30 fo_0 rfl (ct_X7_hill S) (by decide) rfl rfl (Nat.le_of_ble_eq_true rfl) dL_law_266 (fun r_18 S_17 => ?_)
        refine g_aload_n (pc := 269) C dL_law_269 2 rfl rfl ?_
        refine g_callVI (pc := 270) (As := []) (st := [.int r_18]) C lv_L_33 fo_55 rfl (ct_X8_hill S_17) (by decide) rfl rfl (Nat.le_of_ble_eq_true rfl) dL_law_270 (fun r_20 S_19 => ?_)
        refine g_icmp_eq (pc := 273) C 1372 dL_law_273 (by decide) ?_ ?_
        · exact g_sub [0, 1, 2, 3] rfl (p_law_b1372 C M L xs Z (f_law_l18 L xs n) ih x3 S_19)
        · refine g_iconst (pc := 276) C (v := 0) dL_law_276 (by decide) ?_
          exact g_lawret C M 0 dL_law_277
      refine g_tsw (res := none) (pc := 33) C 4 278 4 dL_law_33 hs_21 (by decide) rfl (by decide) ?_ (fun hs_26 => ?_)
      · refine g_aload_n (pc := 278) C dL_law_278 1 rfl rfl ?_
        refine g_callVI (pc := 279) (As := []) (st := []) C lv_L_34 fo_0 rfl (ct_X7_cart S) (by decide) rfl rfl (Nat.le_of_ble_eq_true rfl) dL_law_279 (fun r_23 S_22 => ?_)
        refine g_aload_n (pc := 282) C dL_law_282 2 rfl rfl ?_
        refine g_callVI (pc := 283) (As := []) (st := [.int r_23]) C lv_L_37 fo_55 rfl (ct_X8_cart S_22) (by decide) rfl rfl (Nat.le_of_ble_eq_true rfl) dL_law_283 (fun r_25 S_24 => ?_)
        refine g_icmp_eq (pc := 286) C 1372 dL_law_286 (by decide) ?_ ?_
        · exact g_sub [0, 1, 2, 3] rfl (p_law_b1372 C M L xs Z (f_law_l18 L xs n) ih x3 S_24)
        · refine g_iconst (pc := 289) C (v := 0) dL_law_289 (by decide) ?_
          exact g_lawret C M 0 dL_law_290
      refine g_tsw (res := none) (pc := 33) C 5 291 5 dL_law_33 hs_26 (by decide) rfl (by decide) ?_ (fun hs_31 => ?_)
      · refine g_aload_n (pc := 291) C dL_law_291 1 rfl rfl ?_
        refine g_aload_n (pc := 292) C dL_law_292 0 rfl rfl ?_
        refine g_iload_n (pc := 293) C dL_law_293 3 rfl rfl ?_
        refine g_iconst (pc := 294) C (v := 1) dL_law_294 (by decide) ?_
        refine g_iadd (pc := 295) C dL_law_295 ?_
        refine g_sld (pc := 296) C Z dL_law_296 ?_
        refine g_aload_n (pc := 297) C dL_law_297 0 rfl rfl ?_
        refine g_iload_n (pc := 298) C dL_law_298 3 rfl rfl ?_
        refine g_iconst (pc := 299) C (v := 2) dL_law_299 (by decide) ?_
        refine g_iadd (pc := 300) C dL_law_300 ?_
        refine g_sld (pc := 301) C Z dL_law_301 ?_
        refine g_callVI (pc := 302) (As := [.int (xs ((x3 + 1) : Int32).toNatClampNeg), .int (xs ((x3 + 2) : Int32).toNatClampNeg)]) (st := []) C lv_L_38 fo_0 rfl (ct_X7_cell (xs ((x3 + 1) : Int32).toNatClampNeg) (xs ((x3 + 2) : Int32).toNatClampNeg) S) (by decide) rfl rfl (Nat.le_of_ble_eq_true rfl) dL_law_302 (fun r_28 S_27 => ?_)
        refine g_aload_n (pc := 305) C dL_law_305 2 rfl rfl ?_
        refine g_aload_n (pc := 306) C dL_law_306 0 rfl rfl ?_
        refine g_iload_n (pc := 307) C dL_law_307 3 rfl rfl ?_
        refine g_iconst (pc := 308) C (v := 1) dL_law_308 (by decide) ?_
        refine g_iadd (pc := 309) C dL_law_309 ?_
        refine g_sld (pc := 310) C Z dL_law_310 ?_
        refine g_aload_n (pc := 311) C dL_law_311 0 rfl rfl ?_
        refine g_iload_n (pc := 312) C dL_law_312 3 rfl rfl ?_
        refine g_iconst (pc := 313) C (v := 2) dL_law_313 (by decide) ?_
        refine g_iadd (pc := 314) C dL_law_314 ?_
        refine g_sld (pc := 315) C Z dL_law_315 ?_
        refine g_callVI (pc := 316) (As := [.int (xs ((x3 + 1) : Int32).toNatClampNeg), .int (xs ((x3 + 2) : Int32).toNatClampNeg)]) (st := [.int r_28]) C lv_L_42 fo_55 rfl (ct_X8_cell (xs ((x3 + 1) : Int32).toNatClampNeg) (xs ((x3 + 2) : Int32).toNatClampNeg) S_27) (by decide) rfl rfl (Nat.le_of_ble_eq_true rfl) dL_law_316 (fun r_30 S_29 => ?_)
        refine g_icmp_eq (pc := 319) C 1372 dL_law_319 (by decide) ?_ ?_
        · exact g_sub [0, 1, 2, 3] rfl (p_law_b1372 C M L xs Z (f_law_l18 L xs n) ih x3 S_29)
        · refine g_iconst (pc := 322) C (v := 0) dL_law_322 (by decide) ?_
          exact g_lawret C M 0 dL_law_323
      refine g_tsw (res := none) (pc := 33) C 6 324 6 dL_law_33 hs_31 (by decide) rfl (by decide) ?_ (fun hs_36 => ?_)
      · refine g_aload_n (pc := 324) C dL_law_324 1 rfl rfl ?_
        refine g_aload_n (pc := 325) C dL_law_325 0 rfl rfl ?_
        refine g_iload_n (pc := 326) C dL_law_326 3 rfl rfl ?_
        refine g_iconst (pc := 327) C (v := 1) dL_law_327 (by decide) ?_
        refine g_iadd (pc := 328) C dL_law_328 ?_
        refine g_sld (pc := 329) C Z dL_law_329 ?_
        refine g_aload_n (pc := 330) C dL_law_330 0 rfl rfl ?_
        refine g_iload_n (pc := 331) C dL_law_331 3 rfl rfl ?_
        refine g_iconst (pc := 332) C (v := 2) dL_law_332 (by decide) ?_
        refine g_iadd (pc := 333) C dL_law_333 ?_
        refine g_sld (pc := 334) C Z dL_law_334 ?_
        refine g_callVI (pc := 335) (As := [.int (xs ((x3 + 1) : Int32).toNatClampNeg), .int (xs ((x3 + 2) : Int32).toNatClampNeg)]) (st := []) C lv_L_43 fo_0 rfl (ct_X7_about (xs ((x3 + 1) : Int32).toNatClampNeg) (xs ((x3 + 2) : Int32).toNatClampNeg) S) (by decide) rfl rfl (Nat.le_of_ble_eq_true rfl) dL_law_335 (fun r_33 S_32 => ?_)
        refine g_aload_n (pc := 338) C dL_law_338 2 rfl rfl ?_
        refine g_aload_n (pc := 339) C dL_law_339 0 rfl rfl ?_
        refine g_iload_n (pc := 340) C dL_law_340 3 rfl rfl ?_
        refine g_iconst (pc := 341) C (v := 1) dL_law_341 (by decide) ?_
        refine g_iadd (pc := 342) C dL_law_342 ?_
        refine g_sld (pc := 343) C Z dL_law_343 ?_
        refine g_aload_n (pc := 344) C dL_law_344 0 rfl rfl ?_
        refine g_iload_n (pc := 345) C dL_law_345 3 rfl rfl ?_
        refine g_iconst (pc := 346) C (v := 2) dL_law_346 (by decide) ?_
        refine g_iadd (pc := 347) C dL_law_347 ?_
        refine g_sld (pc := 348) C Z dL_law_348 ?_
        refine g_callVI (pc := 349) (As := [.int (xs ((x3 + 1) : Int32).toNatClampNeg), .int (xs ((x3 + 2) : Int32).toNatClampNeg)]) (st := [.int r_33]) C lv_L_46 fo_55 rfl (ct_X8_about (xs ((x3 + 1) : Int32).toNatClampNeg) (xs ((x3 + 2) : Int32).toNatClampNeg) S_32) (by decide) rfl rfl (Nat.le_of_ble_eq_true rfl) dL_law_349 (fun r_35 S_34 => ?_)
        refine g_icmp_eq (pc := 352) C 1372 dL_law_352 (by decide) ?_ ?_
        · exact g_sub [0, 1, 2, 3] rfl (p_law_b1372 C M L xs Z (f_law_l18 L xs n) ih x3 S_34)
        · refine g_iconst (pc := 355) C (v := 0) dL_law_355 (by decide) ?_
          exact g_lawret C M 0 dL_law_356
      refine g_tsw (res := none) (pc := 33) C 7 357 7 dL_law_33 hs_36 (by decide) rfl (by decide) ?_ (fun hs_41 => ?_)
      · refine g_aload_n (pc := 357) C dL_law_357 1 rfl rfl ?_
        refine g_aload_n (pc := 358) C dL_law_358 0 rfl rfl ?_
        refine g_iload_n (pc := 359) C dL_law_359 3 rfl rfl ?_
        refine g_iconst (pc := 360) C (v := 1) dL_law_360 (by decide) ?_
        refine g_iadd (pc := 361) C dL_law_361 ?_
        refine g_sld (pc := 362) C Z dL_law_362 ?_
        refine g_aload_n (pc := 363) C dL_law_363 0 rfl rfl ?_
        refine g_iload_n (pc := 364) C dL_law_364 3 rfl rfl ?_
        refine g_iconst (pc := 365) C (v := 2) dL_law_365 (by decide) ?_
        refine g_iadd (pc := 366) C dL_law_366 ?_
        refine g_sld (pc := 367) C Z dL_law_367 ?_
        refine g_aload_n (pc := 368) C dL_law_368 0 rfl rfl ?_
        refine g_iload_n (pc := 369) C dL_law_369 3 rfl rfl ?_
        refine g_iconst (pc := 370) C (v := 3) dL_law_370 (by decide) ?_
        refine g_iadd (pc := 371) C dL_law_371 ?_
        refine g_sld (pc := 372) C Z dL_law_372 ?_
        refine g_callVI (pc := 373) (As := [.int (xs ((x3 + 1) : Int32).toNatClampNeg), .int (xs ((x3 + 2) : Int32).toNatClampNeg), .int (xs ((x3 + 3) : Int32).toNatClampNeg)]) (st := []) C lv_L_47 fo_0 rfl (ct_X7_loss (xs ((x3 + 1) : Int32).toNatClampNeg) (xs ((x3 + 2) : Int32).toNatClampNeg) (xs ((x3 + 3) : Int32).toNatClampNeg) S) (by decide) rfl rfl (Nat.le_of_ble_eq_true rfl) dL_law_373 (fun r_38 S_37 => ?_)
        refine g_aload_n (pc := 376) C dL_law_376 2 rfl rfl ?_
        refine g_aload_n (pc := 377) C dL_law_377 0 rfl rfl ?_
        refine g_iload_n (pc := 378) C dL_law_378 3 rfl rfl ?_
        refine g_iconst (pc := 379) C (v := 1) dL_law_379 (by decide) ?_
        refine g_iadd (pc := 380) C dL_law_380 ?_
        refine g_sld (pc := 381) C Z dL_law_381 ?_
        refine g_aload_n (pc := 382) C dL_law_382 0 rfl rfl ?_
        refine g_iload_n (pc := 383) C dL_law_383 3 rfl rfl ?_
        refine g_iconst (pc := 384) C (v := 2) dL_law_384 (by decide) ?_
        refine g_iadd (pc := 385) C dL_law_385 ?_
        refine g_sld (pc := 386) C Z dL_law_386 ?_
        refine g_aload_n (pc := 387) C dL_law_387 0 rfl rfl ?_
        refine g_iload_n (pc := 388) C dL_law_388 3 rfl rfl ?_
        refine g_iconst (pc := 389) C (v := 3) dL_law_389 (by decide) ?_
        refine g_iadd (pc := 390) C dL_law_390 ?_
        refine g_sld (pc := 391) C Z dL_law_391 ?_
        refine g_callVI (pc := 392) (As := [.int (xs ((x3 + 1) : Int32).toNatClampNeg), .int (xs ((x3 + 2) : Int32).toNatClampNeg), .int (xs ((x3 + 3) : Int32).toNatClampNeg)]) (st := [.int r_38]) C lv_L_51 fo_55 rfl (ct_X8_loss (xs ((x3 + 1) : Int32).toNatClampNeg) (xs ((x3 + 2) : Int32).toNatClampNeg) (xs ((x3 + 3) : Int32).toNatClampNeg) S_37) (by decide) rfl rfl (Nat.le_of_ble_eq_true rfl) dL_law_392 (fun r_40 S_39 => ?_)
        refine g_icmp_eq (pc := 395) C 1372 dL_law_395 (by decide) ?_ ?_
        · exact g_sub [0, 1, 2, 3] rfl (p_law_b1372 C M L xs Z (f_law_l18 L xs n) ih x3 S_39)
        · refine g_iconst (pc := 398) C (v := 0) dL_law_398 (by decide) ?_
          exact g_lawret C M 0 dL_law_399
      refine g_tsw (res := none) (pc := 33) C 8 400 8 dL_law_33 hs_41 (by decide) rfl (by decide) ?_ (fun hs_46 => ?_)
      · refine g_aload_n (pc := 400) C dL_law_400 1 rfl rfl ?_
        refine g_aload_n (pc := 401) C dL_law_401 0 rfl rfl ?_
        refine g_iload_n (pc := 402) C dL_law_402 3 rfl rfl ?_
        refine g_iconst (pc := 403) C (v := 1) dL_law_403 (by decide) ?_
        refine g_iadd (pc := 404) C dL_law_404 ?_
        refine g_sld (pc := 405) C Z dL_law_405 ?_
        refine g_aload_n (pc := 406) C dL_law_406 0 rfl rfl ?_
        refine g_iload_n (pc := 407) C dL_law_407 3 rfl rfl ?_
        refine g_iconst (pc := 408) C (v := 2) dL_law_408 (by decide) ?_
        refine g_iadd (pc := 409) C dL_law_409 ?_
        refine g_sld (pc := 410) C Z dL_law_410 ?_
        refine g_aload_n (pc := 411) C dL_law_411 0 rfl rfl ?_
        refine g_iload_n (pc := 412) C dL_law_412 3 rfl rfl ?_
        refine g_iconst (pc := 413) C (v := 3) dL_law_413 (by decide) ?_
        refine g_iadd (pc := 414) C dL_law_414 ?_
        refine g_sld (pc := 415) C Z dL_law_415 ?_
        refine g_callVI (pc := 416) (As := [.int (xs ((x3 + 1) : Int32).toNatClampNeg), .int (xs ((x3 + 2) : Int32).toNatClampNeg), .int (xs ((x3 + 3) : Int32).toNatClampNeg)]) (st := []) C lv_L_52 fo_0 rfl (ct_X7_as (xs ((x3 + 1) : Int32).toNatClampNeg) (xs ((x3 + 2) : Int32).toNatClampNeg) (xs ((x3 + 3) : Int32).toNatClampNeg) S) (by decide) rfl rfl (Nat.le_of_ble_eq_true rfl) dL_law_416 (fun r_43 S_42 => ?_)
        refine g_aload_n (pc := 419) C dL_law_419 2 rfl rfl ?_
        refine g_aload_n (pc := 420) C dL_law_420 0 rfl rfl ?_
        refine g_iload_n (pc := 421) C dL_law_421 3 rfl rfl ?_
        refine g_iconst (pc := 422) C (v := 1) dL_law_422 (by decide) ?_
        refine g_iadd (pc := 423) C dL_law_423 ?_
        refine g_sld (pc := 424) C Z dL_law_424 ?_
        refine g_aload_n (pc := 425) C dL_law_425 0 rfl rfl ?_
        refine g_iload_n (pc := 426) C dL_law_426 3 rfl rfl ?_
        refine g_iconst (pc := 427) C (v := 2) dL_law_427 (by decide) ?_
        refine g_iadd (pc := 428) C dL_law_428 ?_
        refine g_sld (pc := 429) C Z dL_law_429 ?_
        refine g_aload_n (pc := 430) C dL_law_430 0 rfl rfl ?_
        refine g_iload_n (pc := 431) C dL_law_431 3 rfl rfl ?_
        refine g_iconst (pc := 432) C (v := 3) dL_law_432 (by decide) ?_
        refine g_iadd (pc := 433) C dL_law_433 ?_
        refine g_sld (pc := 434) C Z dL_law_434 ?_
        refine g_callVI (pc := 435) (As := [.int (xs ((x3 + 1) : Int32).toNatClampNeg), .int (xs ((x3 + 2) : Int32).toNatClampNeg), .int (xs ((x3 + 3) : Int32).toNatClampNeg)]) (st := [.int r_43]) C lv_L_55 fo_55 rfl (ct_X8_as (xs ((x3 + 1) : Int32).toNatClampNeg) (xs ((x3 + 2) : Int32).toNatClampNeg) (xs ((x3 + 3) : Int32).toNatClampNeg) S_42) (by decide) rfl rfl (Nat.le_of_ble_eq_true rfl) dL_law_435 (fun r_45 S_44 => ?_)
        refine g_icmp_eq (pc := 438) C 1372 dL_law_438 (by decide) ?_ ?_
        · exact g_sub [0, 1, 2, 3] rfl (p_law_b1372 C M L xs Z (f_law_l18 L xs n) ih x3 S_44)
        · refine g_iconst (pc := 441) C (v := 0) dL_law_441 (by decide) ?_
          exact g_lawret C M 0 dL_law_442
      refine g_tsw (res := none) (pc := 33) C 9 443 9 dL_law_33 hs_46 (by decide) rfl (by decide) ?_ (fun hs_51 => ?_)
      · refine g_aload_n (pc := 443) C dL_law_443 1 rfl rfl ?_
        refine g_aload_n (pc := 444) C dL_law_444 0 rfl rfl ?_
        refine g_iload_n (pc := 445) C dL_law_445 3 rfl rfl ?_
        refine g_iconst (pc := 446) C (v := 1) dL_law_446 (by decide) ?_
        refine g_iadd (pc := 447) C dL_law_447 ?_
        refine g_sld (pc := 448) C Z dL_law_448 ?_
        refine g_aload_n (pc := 449) C dL_law_449 0 rfl rfl ?_
        refine g_iload_n (pc := 450) C dL_law_450 3 rfl rfl ?_
        refine g_iconst (pc := 451) C (v := 2) dL_law_451 (by decide) ?_
        refine g_iadd (pc := 452) C dL_law_452 ?_
        refine g_sld (pc := 453) C Z dL_law_453 ?_
        refine g_callVI (pc := 454) (As := [.int (xs ((x3 + 1) : Int32).toNatClampNeg), .int (xs ((x3 + 2) : Int32).toNatClampNeg)]) (st := []) C lv_L_56 fo_0 rfl (ct_X7_weigh (xs ((x3 + 1) : Int32).toNatClampNeg) (xs ((x3 + 2) : Int32).toNatClampNeg) S) (by decide) rfl rfl (Nat.le_of_ble_eq_true rfl) dL_law_454 (fun r_48 S_47 => ?_)
        refine g_aload_n (pc := 457) C dL_law_457 2 rfl rfl ?_
        refine g_aload_n (pc := 458) C dL_law_458 0 rfl rfl ?_
        refine g_iload_n (pc := 459) C dL_law_459 3 rfl rfl ?_
        refine g_iconst (pc := 460) C (v := 1) dL_law_460 (by decide) ?_
        refine g_iadd (pc := 461) C dL_law_461 ?_
        refine g_sld (pc := 462) C Z dL_law_462 ?_
        refine g_aload_n (pc := 463) C dL_law_463 0 rfl rfl ?_
        refine g_iload_n (pc := 464) C dL_law_464 3 rfl rfl ?_
        refine g_iconst (pc := 465) C (v := 2) dL_law_465 (by decide) ?_
        refine g_iadd (pc := 466) C dL_law_466 ?_
        refine g_sld (pc := 467) C Z dL_law_467 ?_
        refine g_callVI (pc := 468) (As := [.int (xs ((x3 + 1) : Int32).toNatClampNeg), .int (xs ((x3 + 2) : Int32).toNatClampNeg)]) (st := [.int r_48]) C lv_L_59 fo_55 rfl (ct_X8_weigh (xs ((x3 + 1) : Int32).toNatClampNeg) (xs ((x3 + 2) : Int32).toNatClampNeg) S_47) (by decide) rfl rfl (Nat.le_of_ble_eq_true rfl) dL_law_468 (fun r_50 S_49 => ?_)
        refine g_icmp_eq (pc := 471) C 1372 dL_law_471 (by decide) ?_ ?_
        · exact g_sub [0, 1, 2, 3] rfl (p_law_b1372 C M L xs Z (f_law_l18 L xs n) ih x3 S_49)
        · refine g_iconst (pc := 474) C (v := 0) dL_law_474 (by decide) ?_
          exact g_lawret C M 0 dL_law_475
      refine g_tsw (res := none) (pc := 33) C 10 476 10 dL_law_33 hs_51 (by decide) rfl (by decide) ?_ (fun hs_56 => ?_)
      · refine g_aload_n (pc := 476) C dL_law_476 1 rfl rfl ?_
        refine g_aload_n (pc := 477) C dL_law_477 0 rfl rfl ?_
        refine g_iload_n (pc := 478) C dL_law_478 3 rfl rfl ?_
        refine g_iconst (pc := 479) C (v := 1) dL_law_479 (by decide) ?_
        refine g_iadd (pc := 480) C dL_law_480 ?_
        refine g_sld (pc := 481) C Z dL_law_481 ?_
        refine g_callVI (pc := 482) (As := [.int (xs ((x3 + 1) : Int32).toNatClampNeg)]) (st := []) C lv_L_60 fo_0 rfl (ct_X7_grip (xs ((x3 + 1) : Int32).toNatClampNeg) S) (by decide) rfl rfl (Nat.le_of_ble_eq_true rfl) dL_law_482 (fun r_53 S_52 => ?_)
        refine g_aload_n (pc := 485) C dL_law_485 2 rfl rfl ?_
        refine g_aload_n (pc := 486) C dL_law_486 0 rfl rfl ?_
        refine g_iload_n (pc := 487) C dL_law_487 3 rfl rfl ?_
        refine g_iconst (pc := 488) C (v := 1) dL_law_488 (by decide) ?_
        refine g_iadd (pc := 489) C dL_law_489 ?_
        refine g_sld (pc := 490) C Z dL_law_490 ?_
        refine g_callVI (pc := 491) (As := [.int (xs ((x3 + 1) : Int32).toNatClampNeg)]) (st := [.int r_53]) C lv_L_63 fo_55 rfl (ct_X8_grip (xs ((x3 + 1) : Int32).toNatClampNeg) S_52) (by decide) rfl rfl (Nat.le_of_ble_eq_true rfl) dL_law_491 (fun r_55 S_54 => ?_)
        refine g_icmp_eq (pc := 494) C 1372 dL_law_494 (by decide) ?_ ?_
        · exact g_sub [0, 1, 2, 3] rfl (p_law_b1372 C M L xs Z (f_law_l18 L xs n) ih x3 S_54)
        · refine g_iconst (pc := 497) C (v := 0) dL_law_497 (by decide) ?_
          exact g_lawret C M 0 dL_law_498
      refine g_tsw (res := none) (pc := 33) C 11 499 11 dL_law_33 hs_56 (by decide) rfl (by decide) ?_ (fun hs_61 => ?_)
      · refine g_aload_n (pc := 499) C dL_law_499 1 rfl rfl ?_
        refine g_aload_n (pc := 500) C dL_law_500 0 rfl rfl ?_
        refine g_iload_n (pc := 501) C dL_law_501 3 rfl rfl ?_
        refine g_iconst (pc := 502) C (v := 1) dL_law_502 (by decide) ?_
        refine g_iadd (pc := 503) C dL_law_503 ?_
        refine g_sld (pc := 504) C Z dL_law_504 ?_
        refine g_aload_n (pc := 505) C dL_law_505 0 rfl rfl ?_
        refine g_iload_n (pc := 506) C dL_law_506 3 rfl rfl ?_
        refine g_iconst (pc := 507) C (v := 2) dL_law_507 (by decide) ?_
        refine g_iadd (pc := 508) C dL_law_508 ?_
        refine g_sld (pc := 509) C Z dL_law_509 ?_
        refine g_callVI (pc := 510) (As := [.int (xs ((x3 + 1) : Int32).toNatClampNeg), .int (xs ((x3 + 2) : Int32).toNatClampNeg)]) (st := []) C lv_L_64 fo_0 rfl (ct_X7_brake (xs ((x3 + 1) : Int32).toNatClampNeg) (xs ((x3 + 2) : Int32).toNatClampNeg) S) (by decide) rfl rfl (Nat.le_of_ble_eq_true rfl) dL_law_510 (fun r_58 S_57 => ?_)
        refine g_aload_n (pc := 513) C dL_law_513 2 rfl rfl ?_
        refine g_aload_n (pc := 514) C dL_law_514 0 rfl rfl ?_
        refine g_iload_n (pc := 515) C dL_law_515 3 rfl rfl ?_
        refine g_iconst (pc := 516) C (v := 1) dL_law_516 (by decide) ?_
        refine g_iadd (pc := 517) C dL_law_517 ?_
        refine g_sld (pc := 518) C Z dL_law_518 ?_
        refine g_aload_n (pc := 519) C dL_law_519 0 rfl rfl ?_
        refine g_iload_n (pc := 520) C dL_law_520 3 rfl rfl ?_
        refine g_iconst (pc := 521) C (v := 2) dL_law_521 (by decide) ?_
        refine g_iadd (pc := 522) C dL_law_522 ?_
        refine g_sld (pc := 523) C Z dL_law_523 ?_
        refine g_callVI (pc := 524) (As := [.int (xs ((x3 + 1) : Int32).toNatClampNeg), .int (xs ((x3 + 2) : Int32).toNatClampNeg)]) (st := [.int r_58]) C lv_L_67 fo_55 rfl (ct_X8_brake (xs ((x3 + 1) : Int32).toNatClampNeg) (xs ((x3 + 2) : Int32).toNatClampNeg) S_57) (by decide) rfl rfl (Nat.le_of_ble_eq_true rfl) dL_law_524 (fun r_60 S_59 => ?_)
        refine g_icmp_eq (pc := 527) C 1372 dL_law_527 (by decide) ?_ ?_
        · exact g_sub [0, 1, 2, 3] rfl (p_law_b1372 C M L xs Z (f_law_l18 L xs n) ih x3 S_59)
        · refine g_iconst (pc := 530) C (v := 0) dL_law_530 (by decide) ?_
          exact g_lawret C M 0 dL_law_531
      refine g_tsw (res := none) (pc := 33) C 12 532 12 dL_law_33 hs_61 (by decide) rfl (by decide) ?_ (fun hs_66 => ?_)
      · refine g_aload_n (pc := 532) C dL_law_532 1 rfl rfl ?_
        refine g_aload_n (pc := 533) C dL_law_533 0 rfl rfl ?_
        refine g_iload_n (pc := 534) C dL_law_534 3 rfl rfl ?_
        refine g_iconst (pc := 535) C (v := 1) dL_law_535 (by decide) ?_
        refine g_iadd (pc := 536) C dL_law_536 ?_
        refine g_sld (pc := 537) C Z dL_law_537 ?_
        refine g_aload_n (pc := 538) C dL_law_538 0 rfl rfl ?_
        refine g_iload_n (pc := 539) C dL_law_539 3 rfl rfl ?_
        refine g_iconst (pc := 540) C (v := 2) dL_law_540 (by decide) ?_
        refine g_iadd (pc := 541) C dL_law_541 ?_
        refine g_sld (pc := 542) C Z dL_law_542 ?_
        refine g_aload_n (pc := 543) C dL_law_543 0 rfl rfl ?_
        refine g_iload_n (pc := 544) C dL_law_544 3 rfl rfl ?_
        refine g_iconst (pc := 545) C (v := 3) dL_law_545 (by decide) ?_
        refine g_iadd (pc := 546) C dL_law_546 ?_
        refine g_sld (pc := 547) C Z dL_law_547 ?_
        refine g_callVI (pc := 548) (As := [.int (xs ((x3 + 1) : Int32).toNatClampNeg), .int (xs ((x3 + 2) : Int32).toNatClampNeg), .int (xs ((x3 + 3) : Int32).toNatClampNeg)]) (st := []) C lv_L_68 fo_0 rfl (ct_X7_run (xs ((x3 + 1) : Int32).toNatClampNeg) (xs ((x3 + 2) : Int32).toNatClampNeg) (xs ((x3 + 3) : Int32).toNatClampNeg) S) (by decide) rfl rfl (Nat.le_of_ble_eq_true rfl) dL_law_548 (fun r_63 S_62 => ?_)
        refine g_aload_n (pc := 551) C dL_law_551 2 rfl rfl ?_
        refine g_aload_n (pc := 552) C dL_law_552 0 rfl rfl ?_
        refine g_iload_n (pc := 553) C dL_law_553 3 rfl rfl ?_
        refine g_iconst (pc := 554) C (v := 1) dL_law_554 (by decide) ?_
        refine g_iadd (pc := 555) C dL_law_555 ?_
        refine g_sld (pc := 556) C Z dL_law_556 ?_
        refine g_aload_n (pc := 557) C dL_law_557 0 rfl rfl ?_
        refine g_iload_n (pc := 558) C dL_law_558 3 rfl rfl ?_
        refine g_iconst (pc := 559) C (v := 2) dL_law_559 (by decide) ?_
        refine g_iadd (pc := 560) C dL_law_560 ?_
        refine g_sld (pc := 561) C Z dL_law_561 ?_
        refine g_aload_n (pc := 562) C dL_law_562 0 rfl rfl ?_
        refine g_iload_n (pc := 563) C dL_law_563 3 rfl rfl ?_
        refine g_iconst (pc := 564) C (v := 3) dL_law_564 (by decide) ?_
        refine g_iadd (pc := 565) C dL_law_565 ?_
        refine g_sld (pc := 566) C Z dL_law_566 ?_
        refine g_callVI (pc := 567) (As := [.int (xs ((x3 + 1) : Int32).toNatClampNeg), .int (xs ((x3 + 2) : Int32).toNatClampNeg), .int (xs ((x3 + 3) : Int32).toNatClampNeg)]) (st := [.int r_63]) C lv_L_71 fo_55 rfl (ct_X8_run (xs ((x3 + 1) : Int32).toNatClampNeg) (xs ((x3 + 2) : Int32).toNatClampNeg) (xs ((x3 + 3) : Int32).toNatClampNeg) S_62) (by decide) rfl rfl (Nat.le_of_ble_eq_true rfl) dL_law_567 (fun r_65 S_64 => ?_)
        refine g_icmp_eq (pc := 570) C 1372 dL_law_570 (by decide) ?_ ?_
        · exact g_sub [0, 1, 2, 3] rfl (p_law_b1372 C M L xs Z (f_law_l18 L xs n) ih x3 S_64)
        · refine g_iconst (pc := 573) C (v := 0) dL_law_573 (by decide) ?_
          exact g_lawret C M 0 dL_law_574
      refine g_tsw (res := none) (pc := 33) C 13 575 13 dL_law_33 hs_66 (by decide) rfl (by decide) ?_ (fun hs_71 => ?_)
      · refine g_aload_n (pc := 575) C dL_law_575 1 rfl rfl ?_
        refine g_aload_n (pc := 576) C dL_law_576 0 rfl rfl ?_
        refine g_iload_n (pc := 577) C dL_law_577 3 rfl rfl ?_
        refine g_iconst (pc := 578) C (v := 1) dL_law_578 (by decide) ?_
        refine g_iadd (pc := 579) C dL_law_579 ?_
        refine g_sld (pc := 580) C Z dL_law_580 ?_
        refine g_aload_n (pc := 581) C dL_law_581 0 rfl rfl ?_
        refine g_iload_n (pc := 582) C dL_law_582 3 rfl rfl ?_
        refine g_iconst (pc := 583) C (v := 2) dL_law_583 (by decide) ?_
        refine g_iadd (pc := 584) C dL_law_584 ?_
        refine g_sld (pc := 585) C Z dL_law_585 ?_
        refine g_aload_n (pc := 586) C dL_law_586 0 rfl rfl ?_
        refine g_iload_n (pc := 587) C dL_law_587 3 rfl rfl ?_
        refine g_iconst (pc := 588) C (v := 3) dL_law_588 (by decide) ?_
        refine g_iadd (pc := 589) C dL_law_589 ?_
        refine g_sld (pc := 590) C Z dL_law_590 ?_
        refine g_callVI (pc := 591) (As := [.int (xs ((x3 + 1) : Int32).toNatClampNeg), .int (xs ((x3 + 2) : Int32).toNatClampNeg), .int (xs ((x3 + 3) : Int32).toNatClampNeg)]) (st := []) C lv_L_72 fo_0 rfl (ct_X7_pace (xs ((x3 + 1) : Int32).toNatClampNeg) (xs ((x3 + 2) : Int32).toNatClampNeg) (xs ((x3 + 3) : Int32).toNatClampNeg) S) (by decide) rfl rfl (Nat.le_of_ble_eq_true rfl) dL_law_591 (fun r_68 S_67 => ?_)
        refine g_aload_n (pc := 594) C dL_law_594 2 rfl rfl ?_
        refine g_aload_n (pc := 595) C dL_law_595 0 rfl rfl ?_
        refine g_iload_n (pc := 596) C dL_law_596 3 rfl rfl ?_
        refine g_iconst (pc := 597) C (v := 1) dL_law_597 (by decide) ?_
        refine g_iadd (pc := 598) C dL_law_598 ?_
        refine g_sld (pc := 599) C Z dL_law_599 ?_
        refine g_aload_n (pc := 600) C dL_law_600 0 rfl rfl ?_
        refine g_iload_n (pc := 601) C dL_law_601 3 rfl rfl ?_
        refine g_iconst (pc := 602) C (v := 2) dL_law_602 (by decide) ?_
        refine g_iadd (pc := 603) C dL_law_603 ?_
        refine g_sld (pc := 604) C Z dL_law_604 ?_
        refine g_aload_n (pc := 605) C dL_law_605 0 rfl rfl ?_
        refine g_iload_n (pc := 606) C dL_law_606 3 rfl rfl ?_
        refine g_iconst (pc := 607) C (v := 3) dL_law_607 (by decide) ?_
        refine g_iadd (pc := 608) C dL_law_608 ?_
        refine g_sld (pc := 609) C Z dL_law_609 ?_
        refine g_callVI (pc := 610) (As := [.int (xs ((x3 + 1) : Int32).toNatClampNeg), .int (xs ((x3 + 2) : Int32).toNatClampNeg), .int (xs ((x3 + 3) : Int32).toNatClampNeg)]) (st := [.int r_68]) C lv_L_75 fo_55 rfl (ct_X8_pace (xs ((x3 + 1) : Int32).toNatClampNeg) (xs ((x3 + 2) : Int32).toNatClampNeg) (xs ((x3 + 3) : Int32).toNatClampNeg) S_67) (by decide) rfl rfl (Nat.le_of_ble_eq_true rfl) dL_law_610 (fun r_70 S_69 => ?_)
        refine g_icmp_eq (pc := 613) C 1372 dL_law_613 (by decide) ?_ ?_
        · exact g_sub [0, 1, 2, 3] rfl (p_law_b1372 C M L xs Z (f_law_l18 L xs n) ih x3 S_69)
        · refine g_iconst (pc := 616) C (v := 0) dL_law_616 (by decide) ?_
          exact g_lawret C M 0 dL_law_617
      refine g_tsw (res := none) (pc := 33) C 14 618 14 dL_law_33 hs_71 (by decide) rfl (by decide) ?_ (fun hs_76 => ?_)
      · refine g_aload_n (pc := 618) C dL_law_618 1 rfl rfl ?_
        refine g_aload_n (pc := 619) C dL_law_619 0 rfl rfl ?_
        refine g_iload_n (pc := 620) C dL_law_620 3 rfl rfl ?_
        refine g_iconst (pc := 621) C (v := 1) dL_law_621 (by decide) ?_
        refine g_iadd (pc := 622) C dL_law_622 ?_
        refine g_sld (pc := 623) C Z dL_law_623 ?_
        refine g_aload_n (pc := 624) C dL_law_624 0 rfl rfl ?_
        refine g_iload_n (pc := 625) C dL_law_625 3 rfl rfl ?_
        refine g_iconst (pc := 626) C (v := 2) dL_law_626 (by decide) ?_
        refine g_iadd (pc := 627) C dL_law_627 ?_
        refine g_sld (pc := 628) C Z dL_law_628 ?_
        refine g_aload_n (pc := 629) C dL_law_629 0 rfl rfl ?_
        refine g_iload_n (pc := 630) C dL_law_630 3 rfl rfl ?_
        refine g_iconst (pc := 631) C (v := 3) dL_law_631 (by decide) ?_
        refine g_iadd (pc := 632) C dL_law_632 ?_
        refine g_sld (pc := 633) C Z dL_law_633 ?_
        refine g_callVI (pc := 634) (As := [.int (xs ((x3 + 1) : Int32).toNatClampNeg), .int (xs ((x3 + 2) : Int32).toNatClampNeg), .int (xs ((x3 + 3) : Int32).toNatClampNeg)]) (st := []) C lv_L_76 fo_0 rfl (ct_X7_lost (xs ((x3 + 1) : Int32).toNatClampNeg) (xs ((x3 + 2) : Int32).toNatClampNeg) (xs ((x3 + 3) : Int32).toNatClampNeg) S) (by decide) rfl rfl (Nat.le_of_ble_eq_true rfl) dL_law_634 (fun r_73 S_72 => ?_)
        refine g_aload_n (pc := 637) C dL_law_637 2 rfl rfl ?_
        refine g_aload_n (pc := 638) C dL_law_638 0 rfl rfl ?_
        refine g_iload_n (pc := 639) C dL_law_639 3 rfl rfl ?_
        refine g_iconst (pc := 640) C (v := 1) dL_law_640 (by decide) ?_
        refine g_iadd (pc := 641) C dL_law_641 ?_
        refine g_sld (pc := 642) C Z dL_law_642 ?_
        refine g_aload_n (pc := 643) C dL_law_643 0 rfl rfl ?_
        refine g_iload_n (pc := 644) C dL_law_644 3 rfl rfl ?_
        refine g_iconst (pc := 645) C (v := 2) dL_law_645 (by decide) ?_
        refine g_iadd (pc := 646) C dL_law_646 ?_
        refine g_sld (pc := 647) C Z dL_law_647 ?_
        refine g_aload_n (pc := 648) C dL_law_648 0 rfl rfl ?_
        refine g_iload_n (pc := 649) C dL_law_649 3 rfl rfl ?_
        refine g_iconst (pc := 650) C (v := 3) dL_law_650 (by decide) ?_
        refine g_iadd (pc := 651) C dL_law_651 ?_
        refine g_sld (pc := 652) C Z dL_law_652 ?_
        refine g_callVI (pc := 653) (As := [.int (xs ((x3 + 1) : Int32).toNatClampNeg), .int (xs ((x3 + 2) : Int32).toNatClampNeg), .int (xs ((x3 + 3) : Int32).toNatClampNeg)]) (st := [.int r_73]) C lv_L_79 fo_55 rfl (ct_X8_lost (xs ((x3 + 1) : Int32).toNatClampNeg) (xs ((x3 + 2) : Int32).toNatClampNeg) (xs ((x3 + 3) : Int32).toNatClampNeg) S_72) (by decide) rfl rfl (Nat.le_of_ble_eq_true rfl) dL_law_653 (fun r_75 S_74 => ?_)
        refine g_icmp_eq (pc := 656) C 1372 dL_law_656 (by decide) ?_ ?_
        · exact g_sub [0, 1, 2, 3] rfl (p_law_b1372 C M L xs Z (f_law_l18 L xs n) ih x3 S_74)
        · refine g_iconst (pc := 659) C (v := 0) dL_law_659 (by decide) ?_
          exact g_lawret C M 0 dL_law_660
      refine g_tsw (res := none) (pc := 33) C 15 661 15 dL_law_33 hs_76 (by decide) rfl (by decide) ?_ (fun hs_81 => ?_)
      · refine g_aload_n (pc := 661) C dL_law_661 1 rfl rfl ?_
        refine g_aload_n (pc := 662) C dL_law_662 0 rfl rfl ?_
        refine g_iload_n (pc := 663) C dL_law_663 3 rfl rfl ?_
        refine g_iconst (pc := 664) C (v := 1) dL_law_664 (by decide) ?_
        refine g_iadd (pc := 665) C dL_law_665 ?_
        refine g_sld (pc := 666) C Z dL_law_666 ?_
        refine g_aload_n (pc := 667) C dL_law_667 0 rfl rfl ?_
        refine g_iload_n (pc := 668) C dL_law_668 3 rfl rfl ?_
        refine g_iconst (pc := 669) C (v := 2) dL_law_669 (by decide) ?_
        refine g_iadd (pc := 670) C dL_law_670 ?_
        refine g_sld (pc := 671) C Z dL_law_671 ?_
        refine g_aload_n (pc := 672) C dL_law_672 0 rfl rfl ?_
        refine g_iload_n (pc := 673) C dL_law_673 3 rfl rfl ?_
        refine g_iconst (pc := 674) C (v := 3) dL_law_674 (by decide) ?_
        refine g_iadd (pc := 675) C dL_law_675 ?_
        refine g_sld (pc := 676) C Z dL_law_676 ?_
        refine g_callVI (pc := 677) (As := [.int (xs ((x3 + 1) : Int32).toNatClampNeg), .int (xs ((x3 + 2) : Int32).toNatClampNeg), .int (xs ((x3 + 3) : Int32).toNatClampNeg)]) (st := []) C lv_L_80 fo_0 rfl (ct_X7_bestBrakes (xs ((x3 + 1) : Int32).toNatClampNeg) (xs ((x3 + 2) : Int32).toNatClampNeg) (xs ((x3 + 3) : Int32).toNatClampNeg) S) (by decide) rfl rfl (Nat.le_of_ble_eq_true rfl) dL_law_677 (fun r_78 S_77 => ?_)
        refine g_aload_n (pc := 680) C dL_law_680 2 rfl rfl ?_
        refine g_aload_n (pc := 681) C dL_law_681 0 rfl rfl ?_
        refine g_iload_n (pc := 682) C dL_law_682 3 rfl rfl ?_
        refine g_iconst (pc := 683) C (v := 1) dL_law_683 (by decide) ?_
        refine g_iadd (pc := 684) C dL_law_684 ?_
        refine g_sld (pc := 685) C Z dL_law_685 ?_
        refine g_aload_n (pc := 686) C dL_law_686 0 rfl rfl ?_
        refine g_iload_n (pc := 687) C dL_law_687 3 rfl rfl ?_
        refine g_iconst (pc := 688) C (v := 2) dL_law_688 (by decide) ?_
        refine g_iadd (pc := 689) C dL_law_689 ?_
        refine g_sld (pc := 690) C Z dL_law_690 ?_
        refine g_aload_n (pc := 691) C dL_law_691 0 rfl rfl ?_
        refine g_iload_n (pc := 692) C dL_law_692 3 rfl rfl ?_
        refine g_iconst (pc := 693) C (v := 3) dL_law_693 (by decide) ?_
        refine g_iadd (pc := 694) C dL_law_694 ?_
        refine g_sld (pc := 695) C Z dL_law_695 ?_
        refine g_callVI (pc := 696) (As := [.int (xs ((x3 + 1) : Int32).toNatClampNeg), .int (xs ((x3 + 2) : Int32).toNatClampNeg), .int (xs ((x3 + 3) : Int32).toNatClampNeg)]) (st := [.int r_78]) C lv_L_83 fo_55 rfl (ct_X8_bestBrakes (xs ((x3 + 1) : Int32).toNatClampNeg) (xs ((x3 + 2) : Int32).toNatClampNeg) (xs ((x3 + 3) : Int32).toNatClampNeg) S_77) (by decide) rfl rfl (Nat.le_of_ble_eq_true rfl) dL_law_696 (fun r_80 S_79 => ?_)
        refine g_icmp_eq (pc := 699) C 1372 dL_law_699 (by decide) ?_ ?_
        · exact g_sub [0, 1, 2, 3] rfl (p_law_b1372 C M L xs Z (f_law_l18 L xs n) ih x3 S_79)
        · refine g_iconst (pc := 702) C (v := 0) dL_law_702 (by decide) ?_
          exact g_lawret C M 0 dL_law_703
      refine g_tsw (res := none) (pc := 33) C 16 704 16 dL_law_33 hs_81 (by decide) rfl (by decide) ?_ (fun hs_86 => ?_)
      · refine g_aload_n (pc := 704) C dL_law_704 1 rfl rfl ?_
        refine g_aload_n (pc := 705) C dL_law_705 0 rfl rfl ?_
        refine g_iload_n (pc := 706) C dL_law_706 3 rfl rfl ?_
        refine g_iconst (pc := 707) C (v := 1) dL_law_707 (by decide) ?_
        refine g_iadd (pc := 708) C dL_law_708 ?_
        refine g_sld (pc := 709) C Z dL_law_709 ?_
        refine g_aload_n (pc := 710) C dL_law_710 0 rfl rfl ?_
        refine g_iload_n (pc := 711) C dL_law_711 3 rfl rfl ?_
        refine g_iconst (pc := 712) C (v := 2) dL_law_712 (by decide) ?_
        refine g_iadd (pc := 713) C dL_law_713 ?_
        refine g_sld (pc := 714) C Z dL_law_714 ?_
        refine g_aload_n (pc := 715) C dL_law_715 0 rfl rfl ?_
        refine g_iload_n (pc := 716) C dL_law_716 3 rfl rfl ?_
        refine g_iconst (pc := 717) C (v := 3) dL_law_717 (by decide) ?_
        refine g_iadd (pc := 718) C dL_law_718 ?_
        refine g_sld (pc := 719) C Z dL_law_719 ?_
        refine g_callVI (pc := 720) (As := [.int (xs ((x3 + 1) : Int32).toNatClampNeg), .int (xs ((x3 + 2) : Int32).toNatClampNeg), .int (xs ((x3 + 3) : Int32).toNatClampNeg)]) (st := []) C lv_L_84 fo_0 rfl (ct_X7_bestPush (xs ((x3 + 1) : Int32).toNatClampNeg) (xs ((x3 + 2) : Int32).toNatClampNeg) (xs ((x3 + 3) : Int32).toNatClampNeg) S) (by decide) rfl rfl (Nat.le_of_ble_eq_true rfl) dL_law_720 (fun r_83 S_82 => ?_)
        refine g_aload_n (pc := 723) C dL_law_723 2 rfl rfl ?_
        refine g_aload_n (pc := 724) C dL_law_724 0 rfl rfl ?_
        refine g_iload_n (pc := 725) C dL_law_725 3 rfl rfl ?_
        refine g_iconst (pc := 726) C (v := 1) dL_law_726 (by decide) ?_
        refine g_iadd (pc := 727) C dL_law_727 ?_
        refine g_sld (pc := 728) C Z dL_law_728 ?_
        refine g_aload_n (pc := 729) C dL_law_729 0 rfl rfl ?_
        refine g_iload_n (pc := 730) C dL_law_730 3 rfl rfl ?_
        refine g_iconst (pc := 731) C (v := 2) dL_law_731 (by decide) ?_
        refine g_iadd (pc := 732) C dL_law_732 ?_
        refine g_sld (pc := 733) C Z dL_law_733 ?_
        refine g_aload_n (pc := 734) C dL_law_734 0 rfl rfl ?_
        refine g_iload_n (pc := 735) C dL_law_735 3 rfl rfl ?_
        refine g_iconst (pc := 736) C (v := 3) dL_law_736 (by decide) ?_
        refine g_iadd (pc := 737) C dL_law_737 ?_
        refine g_sld (pc := 738) C Z dL_law_738 ?_
        refine g_callVI (pc := 739) (As := [.int (xs ((x3 + 1) : Int32).toNatClampNeg), .int (xs ((x3 + 2) : Int32).toNatClampNeg), .int (xs ((x3 + 3) : Int32).toNatClampNeg)]) (st := [.int r_83]) C lv_L_87 fo_55 rfl (ct_X8_bestPush (xs ((x3 + 1) : Int32).toNatClampNeg) (xs ((x3 + 2) : Int32).toNatClampNeg) (xs ((x3 + 3) : Int32).toNatClampNeg) S_82) (by decide) rfl rfl (Nat.le_of_ble_eq_true rfl) dL_law_739 (fun r_85 S_84 => ?_)
        refine g_icmp_eq (pc := 742) C 1372 dL_law_742 (by decide) ?_ ?_
        · exact g_sub [0, 1, 2, 3] rfl (p_law_b1372 C M L xs Z (f_law_l18 L xs n) ih x3 S_84)
        · refine g_iconst (pc := 745) C (v := 0) dL_law_745 (by decide) ?_
          exact g_lawret C M 0 dL_law_746
      refine g_tsw (res := none) (pc := 33) C 17 747 17 dL_law_33 hs_86 (by decide) rfl (by decide) ?_ (fun hs_91 => ?_)
      · refine g_aload_n (pc := 747) C dL_law_747 1 rfl rfl ?_
        refine g_aload_n (pc := 748) C dL_law_748 0 rfl rfl ?_
        refine g_iload_n (pc := 749) C dL_law_749 3 rfl rfl ?_
        refine g_iconst (pc := 750) C (v := 1) dL_law_750 (by decide) ?_
        refine g_iadd (pc := 751) C dL_law_751 ?_
        refine g_sld (pc := 752) C Z dL_law_752 ?_
        refine g_aload_n (pc := 753) C dL_law_753 0 rfl rfl ?_
        refine g_iload_n (pc := 754) C dL_law_754 3 rfl rfl ?_
        refine g_iconst (pc := 755) C (v := 2) dL_law_755 (by decide) ?_
        refine g_iadd (pc := 756) C dL_law_756 ?_
        refine g_sld (pc := 757) C Z dL_law_757 ?_
        refine g_aload_n (pc := 758) C dL_law_758 0 rfl rfl ?_
        refine g_iload_n (pc := 759) C dL_law_759 3 rfl rfl ?_
        refine g_iconst (pc := 760) C (v := 3) dL_law_760 (by decide) ?_
        refine g_iadd (pc := 761) C dL_law_761 ?_
        refine g_sld (pc := 762) C Z dL_law_762 ?_
        refine g_aload_n (pc := 763) C dL_law_763 0 rfl rfl ?_
        refine g_iload_n (pc := 764) C dL_law_764 3 rfl rfl ?_
        refine g_iconst (pc := 765) C (v := 4) dL_law_765 (by decide) ?_
        refine g_iadd (pc := 766) C dL_law_766 ?_
        refine g_sld (pc := 767) C Z dL_law_767 ?_
        refine g_callVI (pc := 768) (As := [.int (xs ((x3 + 1) : Int32).toNatClampNeg), .int (xs ((x3 + 2) : Int32).toNatClampNeg), .int (xs ((x3 + 3) : Int32).toNatClampNeg), .int (xs ((x3 + 4) : Int32).toNatClampNeg)]) (st := []) C lv_L_88 fo_0 rfl (ct_X7_work (xs ((x3 + 1) : Int32).toNatClampNeg) (xs ((x3 + 2) : Int32).toNatClampNeg) (xs ((x3 + 3) : Int32).toNatClampNeg) (xs ((x3 + 4) : Int32).toNatClampNeg) S) (by decide) rfl rfl (Nat.le_of_ble_eq_true rfl) dL_law_768 (fun r_88 S_87 => ?_)
        refine g_aload_n (pc := 771) C dL_law_771 2 rfl rfl ?_
        refine g_aload_n (pc := 772) C dL_law_772 0 rfl rfl ?_
        refine g_iload_n (pc := 773) C dL_law_773 3 rfl rfl ?_
        refine g_iconst (pc := 774) C (v := 1) dL_law_774 (by decide) ?_
        refine g_iadd (pc := 775) C dL_law_775 ?_
        refine g_sld (pc := 776) C Z dL_law_776 ?_
        refine g_aload_n (pc := 777) C dL_law_777 0 rfl rfl ?_
        refine g_iload_n (pc := 778) C dL_law_778 3 rfl rfl ?_
        refine g_iconst (pc := 779) C (v := 2) dL_law_779 (by decide) ?_
        refine g_iadd (pc := 780) C dL_law_780 ?_
        refine g_sld (pc := 781) C Z dL_law_781 ?_
        refine g_aload_n (pc := 782) C dL_law_782 0 rfl rfl ?_
        refine g_iload_n (pc := 783) C dL_law_783 3 rfl rfl ?_
        refine g_iconst (pc := 784) C (v := 3) dL_law_784 (by decide) ?_
        refine g_iadd (pc := 785) C dL_law_785 ?_
        refine g_sld (pc := 786) C Z dL_law_786 ?_
        refine g_aload_n (pc := 787) C dL_law_787 0 rfl rfl ?_
        refine g_iload_n (pc := 788) C dL_law_788 3 rfl rfl ?_
        refine g_iconst (pc := 789) C (v := 4) dL_law_789 (by decide) ?_
        refine g_iadd (pc := 790) C dL_law_790 ?_
        refine g_sld (pc := 791) C Z dL_law_791 ?_
        refine g_callVI (pc := 792) (As := [.int (xs ((x3 + 1) : Int32).toNatClampNeg), .int (xs ((x3 + 2) : Int32).toNatClampNeg), .int (xs ((x3 + 3) : Int32).toNatClampNeg), .int (xs ((x3 + 4) : Int32).toNatClampNeg)]) (st := [.int r_88]) C lv_L_92 fo_55 rfl (ct_X8_work (xs ((x3 + 1) : Int32).toNatClampNeg) (xs ((x3 + 2) : Int32).toNatClampNeg) (xs ((x3 + 3) : Int32).toNatClampNeg) (xs ((x3 + 4) : Int32).toNatClampNeg) S_87) (by decide) rfl rfl (Nat.le_of_ble_eq_true rfl) dL_law_792 (fun r_90 S_89 => ?_)
        refine g_icmp_eq (pc := 795) C 1372 dL_law_795 (by decide) ?_ ?_
        · exact g_sub [0, 1, 2, 3] rfl (p_law_b1372 C M L xs Z (f_law_l18 L xs n) ih x3 S_89)
        · refine g_iconst (pc := 798) C (v := 0) dL_law_798 (by decide) ?_
          exact g_lawret C M 0 dL_law_799
      refine g_tsw (res := none) (pc := 33) C 18 800 18 dL_law_33 hs_91 (by decide) rfl (by decide) ?_ (fun hs_96 => ?_)
      · refine g_aload_n (pc := 800) C dL_law_800 1 rfl rfl ?_
        refine g_aload_n (pc := 801) C dL_law_801 0 rfl rfl ?_
        refine g_iload_n (pc := 802) C dL_law_802 3 rfl rfl ?_
        refine g_iconst (pc := 803) C (v := 1) dL_law_803 (by decide) ?_
        refine g_iadd (pc := 804) C dL_law_804 ?_
        refine g_sld (pc := 805) C Z dL_law_805 ?_
        refine g_aload_n (pc := 806) C dL_law_806 0 rfl rfl ?_
        refine g_iload_n (pc := 807) C dL_law_807 3 rfl rfl ?_
        refine g_iconst (pc := 808) C (v := 2) dL_law_808 (by decide) ?_
        refine g_iadd (pc := 809) C dL_law_809 ?_
        refine g_sld (pc := 810) C Z dL_law_810 ?_
        refine g_aload_n (pc := 811) C dL_law_811 0 rfl rfl ?_
        refine g_iload_n (pc := 812) C dL_law_812 3 rfl rfl ?_
        refine g_iconst (pc := 813) C (v := 3) dL_law_813 (by decide) ?_
        refine g_iadd (pc := 814) C dL_law_814 ?_
        refine g_sld (pc := 815) C Z dL_law_815 ?_
        refine g_callVI (pc := 816) (As := [.int (xs ((x3 + 1) : Int32).toNatClampNeg), .int (xs ((x3 + 2) : Int32).toNatClampNeg), .int (xs ((x3 + 3) : Int32).toNatClampNeg)]) (st := []) C lv_L_93 fo_0 rfl (ct_X7_weighed (xs ((x3 + 1) : Int32).toNatClampNeg) (xs ((x3 + 2) : Int32).toNatClampNeg) (xs ((x3 + 3) : Int32).toNatClampNeg) S) (by decide) rfl rfl (Nat.le_of_ble_eq_true rfl) dL_law_816 (fun r_93 S_92 => ?_)
        refine g_aload_n (pc := 819) C dL_law_819 2 rfl rfl ?_
        refine g_aload_n (pc := 820) C dL_law_820 0 rfl rfl ?_
        refine g_iload_n (pc := 821) C dL_law_821 3 rfl rfl ?_
        refine g_iconst (pc := 822) C (v := 1) dL_law_822 (by decide) ?_
        refine g_iadd (pc := 823) C dL_law_823 ?_
        refine g_sld (pc := 824) C Z dL_law_824 ?_
        refine g_aload_n (pc := 825) C dL_law_825 0 rfl rfl ?_
        refine g_iload_n (pc := 826) C dL_law_826 3 rfl rfl ?_
        refine g_iconst (pc := 827) C (v := 2) dL_law_827 (by decide) ?_
        refine g_iadd (pc := 828) C dL_law_828 ?_
        refine g_sld (pc := 829) C Z dL_law_829 ?_
        refine g_aload_n (pc := 830) C dL_law_830 0 rfl rfl ?_
        refine g_iload_n (pc := 831) C dL_law_831 3 rfl rfl ?_
        refine g_iconst (pc := 832) C (v := 3) dL_law_832 (by decide) ?_
        refine g_iadd (pc := 833) C dL_law_833 ?_
        refine g_sld (pc := 834) C Z dL_law_834 ?_
        refine g_callVI (pc := 835) (As := [.int (xs ((x3 + 1) : Int32).toNatClampNeg), .int (xs ((x3 + 2) : Int32).toNatClampNeg), .int (xs ((x3 + 3) : Int32).toNatClampNeg)]) (st := [.int r_93]) C lv_L_96 fo_55 rfl (ct_X8_weighed (xs ((x3 + 1) : Int32).toNatClampNeg) (xs ((x3 + 2) : Int32).toNatClampNeg) (xs ((x3 + 3) : Int32).toNatClampNeg) S_92) (by decide) rfl rfl (Nat.le_of_ble_eq_true rfl) dL_law_835 (fun r_95 S_94 => ?_)
        refine g_icmp_eq (pc := 838) C 1372 dL_law_838 (by decide) ?_ ?_
        · exact g_sub [0, 1, 2, 3] rfl (p_law_b1372 C M L xs Z (f_law_l18 L xs n) ih x3 S_94)
        · refine g_iconst (pc := 841) C (v := 0) dL_law_841 (by decide) ?_
          exact g_lawret C M 0 dL_law_842
      refine g_tsw (res := none) (pc := 33) C 19 843 19 dL_law_33 hs_96 (by decide) rfl (by decide) ?_ (fun hs_101 => ?_)
      · refine g_aload_n (pc := 843) C dL_law_843 1 rfl rfl ?_
        refine g_aload_n (pc := 844) C dL_law_844 0 rfl rfl ?_
        refine g_iload_n (pc := 845) C dL_law_845 3 rfl rfl ?_
        refine g_iconst (pc := 846) C (v := 1) dL_law_846 (by decide) ?_
        refine g_iadd (pc := 847) C dL_law_847 ?_
        refine g_sld (pc := 848) C Z dL_law_848 ?_
        refine g_aload_n (pc := 849) C dL_law_849 0 rfl rfl ?_
        refine g_iload_n (pc := 850) C dL_law_850 3 rfl rfl ?_
        refine g_iconst (pc := 851) C (v := 2) dL_law_851 (by decide) ?_
        refine g_iadd (pc := 852) C dL_law_852 ?_
        refine g_sld (pc := 853) C Z dL_law_853 ?_
        refine g_callVI (pc := 854) (As := [.int (xs ((x3 + 1) : Int32).toNatClampNeg), .int (xs ((x3 + 2) : Int32).toNatClampNeg)]) (st := []) C lv_L_97 fo_0 rfl (ct_X7_close (xs ((x3 + 1) : Int32).toNatClampNeg) (xs ((x3 + 2) : Int32).toNatClampNeg) S) (by decide) rfl rfl (Nat.le_of_ble_eq_true rfl) dL_law_854 (fun r_98 S_97 => ?_)
        refine g_aload_n (pc := 857) C dL_law_857 2 rfl rfl ?_
        refine g_aload_n (pc := 858) C dL_law_858 0 rfl rfl ?_
        refine g_iload_n (pc := 859) C dL_law_859 3 rfl rfl ?_
        refine g_iconst (pc := 860) C (v := 1) dL_law_860 (by decide) ?_
        refine g_iadd (pc := 861) C dL_law_861 ?_
        refine g_sld (pc := 862) C Z dL_law_862 ?_
        refine g_aload_n (pc := 863) C dL_law_863 0 rfl rfl ?_
        refine g_iload_n (pc := 864) C dL_law_864 3 rfl rfl ?_
        refine g_iconst (pc := 865) C (v := 2) dL_law_865 (by decide) ?_
        refine g_iadd (pc := 866) C dL_law_866 ?_
        refine g_sld (pc := 867) C Z dL_law_867 ?_
        refine g_callVI (pc := 868) (As := [.int (xs ((x3 + 1) : Int32).toNatClampNeg), .int (xs ((x3 + 2) : Int32).toNatClampNeg)]) (st := [.int r_98]) C lv_L_100 fo_55 rfl (ct_X8_close (xs ((x3 + 1) : Int32).toNatClampNeg) (xs ((x3 + 2) : Int32).toNatClampNeg) S_97) (by decide) rfl rfl (Nat.le_of_ble_eq_true rfl) dL_law_868 (fun r_100 S_99 => ?_)
        refine g_icmp_eq (pc := 871) C 1372 dL_law_871 (by decide) ?_ ?_
        · exact g_sub [0, 1, 2, 3] rfl (p_law_b1372 C M L xs Z (f_law_l18 L xs n) ih x3 S_99)
        · refine g_iconst (pc := 874) C (v := 0) dL_law_874 (by decide) ?_
          exact g_lawret C M 0 dL_law_875
      refine g_tsw (res := none) (pc := 33) C 20 876 20 dL_law_33 hs_101 (by decide) rfl (by decide) ?_ (fun hs_106 => ?_)
      · refine g_aload_n (pc := 876) C dL_law_876 1 rfl rfl ?_
        refine g_aload_n (pc := 877) C dL_law_877 0 rfl rfl ?_
        refine g_iload_n (pc := 878) C dL_law_878 3 rfl rfl ?_
        refine g_iconst (pc := 879) C (v := 1) dL_law_879 (by decide) ?_
        refine g_iadd (pc := 880) C dL_law_880 ?_
        refine g_sld (pc := 881) C Z dL_law_881 ?_
        refine g_aload_n (pc := 882) C dL_law_882 0 rfl rfl ?_
        refine g_iload_n (pc := 883) C dL_law_883 3 rfl rfl ?_
        refine g_iconst (pc := 884) C (v := 2) dL_law_884 (by decide) ?_
        refine g_iadd (pc := 885) C dL_law_885 ?_
        refine g_sld (pc := 886) C Z dL_law_886 ?_
        refine g_callVI (pc := 887) (As := [.int (xs ((x3 + 1) : Int32).toNatClampNeg), .int (xs ((x3 + 2) : Int32).toNatClampNeg)]) (st := []) C lv_L_101 fo_0 rfl (ct_X7_farthest (xs ((x3 + 1) : Int32).toNatClampNeg) (xs ((x3 + 2) : Int32).toNatClampNeg) S) (by decide) rfl rfl (Nat.le_of_ble_eq_true rfl) dL_law_887 (fun r_103 S_102 => ?_)
        refine g_aload_n (pc := 890) C dL_law_890 2 rfl rfl ?_
        refine g_aload_n (pc := 891) C dL_law_891 0 rfl rfl ?_
        refine g_iload_n (pc := 892) C dL_law_892 3 rfl rfl ?_
        refine g_iconst (pc := 893) C (v := 1) dL_law_893 (by decide) ?_
        refine g_iadd (pc := 894) C dL_law_894 ?_
        refine g_sld (pc := 895) C Z dL_law_895 ?_
        refine g_aload_n (pc := 896) C dL_law_896 0 rfl rfl ?_
        refine g_iload_n (pc := 897) C dL_law_897 3 rfl rfl ?_
        refine g_iconst (pc := 898) C (v := 2) dL_law_898 (by decide) ?_
        refine g_iadd (pc := 899) C dL_law_899 ?_
        refine g_sld (pc := 900) C Z dL_law_900 ?_
        refine g_callVI (pc := 901) (As := [.int (xs ((x3 + 1) : Int32).toNatClampNeg), .int (xs ((x3 + 2) : Int32).toNatClampNeg)]) (st := [.int r_103]) C lv_L_104 fo_55 rfl (ct_X8_farthest (xs ((x3 + 1) : Int32).toNatClampNeg) (xs ((x3 + 2) : Int32).toNatClampNeg) S_102) (by decide) rfl rfl (Nat.le_of_ble_eq_true rfl) dL_law_901 (fun r_105 S_104 => ?_)
        refine g_icmp_eq (pc := 904) C 1372 dL_law_904 (by decide) ?_ ?_
        · exact g_sub [0, 1, 2, 3] rfl (p_law_b1372 C M L xs Z (f_law_l18 L xs n) ih x3 S_104)
        · refine g_iconst (pc := 907) C (v := 0) dL_law_907 (by decide) ?_
          exact g_lawret C M 0 dL_law_908
      refine g_tsw (res := none) (pc := 33) C 21 909 21 dL_law_33 hs_106 (by decide) rfl (by decide) ?_ (fun hs_111 => ?_)
      · refine g_aload_n (pc := 909) C dL_law_909 1 rfl rfl ?_
        refine g_aload_n (pc := 910) C dL_law_910 0 rfl rfl ?_
        refine g_iload_n (pc := 911) C dL_law_911 3 rfl rfl ?_
        refine g_iconst (pc := 912) C (v := 1) dL_law_912 (by decide) ?_
        refine g_iadd (pc := 913) C dL_law_913 ?_
        refine g_sld (pc := 914) C Z dL_law_914 ?_
        refine g_aload_n (pc := 915) C dL_law_915 0 rfl rfl ?_
        refine g_iload_n (pc := 916) C dL_law_916 3 rfl rfl ?_
        refine g_iconst (pc := 917) C (v := 2) dL_law_917 (by decide) ?_
        refine g_iadd (pc := 918) C dL_law_918 ?_
        refine g_sld (pc := 919) C Z dL_law_919 ?_
        refine g_aload_n (pc := 920) C dL_law_920 0 rfl rfl ?_
        refine g_iload_n (pc := 921) C dL_law_921 3 rfl rfl ?_
        refine g_iconst (pc := 922) C (v := 3) dL_law_922 (by decide) ?_
        refine g_iadd (pc := 923) C dL_law_923 ?_
        refine g_sld (pc := 924) C Z dL_law_924 ?_
        refine g_callVI (pc := 925) (As := [.int (xs ((x3 + 1) : Int32).toNatClampNeg), .int (xs ((x3 + 2) : Int32).toNatClampNeg), .int (xs ((x3 + 3) : Int32).toNatClampNeg)]) (st := []) C lv_L_105 fo_0 rfl (ct_X7_coast (xs ((x3 + 1) : Int32).toNatClampNeg) (xs ((x3 + 2) : Int32).toNatClampNeg) (xs ((x3 + 3) : Int32).toNatClampNeg) S) (by decide) rfl rfl (Nat.le_of_ble_eq_true rfl) dL_law_925 (fun r_108 S_107 => ?_)
        refine g_aload_n (pc := 928) C dL_law_928 2 rfl rfl ?_
        refine g_aload_n (pc := 929) C dL_law_929 0 rfl rfl ?_
        refine g_iload_n (pc := 930) C dL_law_930 3 rfl rfl ?_
        refine g_iconst (pc := 931) C (v := 1) dL_law_931 (by decide) ?_
        refine g_iadd (pc := 932) C dL_law_932 ?_
        refine g_sld (pc := 933) C Z dL_law_933 ?_
        refine g_aload_n (pc := 934) C dL_law_934 0 rfl rfl ?_
        refine g_iload_n (pc := 935) C dL_law_935 3 rfl rfl ?_
        refine g_iconst (pc := 936) C (v := 2) dL_law_936 (by decide) ?_
        refine g_iadd (pc := 937) C dL_law_937 ?_
        refine g_sld (pc := 938) C Z dL_law_938 ?_
        refine g_aload_n (pc := 939) C dL_law_939 0 rfl rfl ?_
        refine g_iload_n (pc := 940) C dL_law_940 3 rfl rfl ?_
        refine g_iconst (pc := 941) C (v := 3) dL_law_941 (by decide) ?_
        refine g_iadd (pc := 942) C dL_law_942 ?_
        refine g_sld (pc := 943) C Z dL_law_943 ?_
        refine g_callVI (pc := 944) (As := [.int (xs ((x3 + 1) : Int32).toNatClampNeg), .int (xs ((x3 + 2) : Int32).toNatClampNeg), .int (xs ((x3 + 3) : Int32).toNatClampNeg)]) (st := [.int r_108]) C lv_L_108 fo_55 rfl (ct_X8_coast (xs ((x3 + 1) : Int32).toNatClampNeg) (xs ((x3 + 2) : Int32).toNatClampNeg) (xs ((x3 + 3) : Int32).toNatClampNeg) S_107) (by decide) rfl rfl (Nat.le_of_ble_eq_true rfl) dL_law_944 (fun r_110 S_109 => ?_)
        refine g_icmp_eq (pc := 947) C 1372 dL_law_947 (by decide) ?_ ?_
        · exact g_sub [0, 1, 2, 3] rfl (p_law_b1372 C M L xs Z (f_law_l18 L xs n) ih x3 S_109)
        · refine g_iconst (pc := 950) C (v := 0) dL_law_950 (by decide) ?_
          exact g_lawret C M 0 dL_law_951
      refine g_tsw (res := none) (pc := 33) C 22 952 22 dL_law_33 hs_111 (by decide) rfl (by decide) ?_ (fun hs_116 => ?_)
      · refine g_aload_n (pc := 952) C dL_law_952 1 rfl rfl ?_
        refine g_callVI (pc := 953) (As := []) (st := []) C lv_L_109 fo_0 rfl (ct_X7_rubs S) (by decide) rfl rfl (Nat.le_of_ble_eq_true rfl) dL_law_953 (fun r_113 S_112 => ?_)
        refine g_aload_n (pc := 956) C dL_law_956 2 rfl rfl ?_
        refine g_callVI (pc := 957) (As := []) (st := [.int r_113]) C lv_L_112 fo_55 rfl (ct_X8_rubs S_112) (by decide) rfl rfl (Nat.le_of_ble_eq_true rfl) dL_law_957 (fun r_115 S_114 => ?_)
        refine g_icmp_eq (pc := 960) C 1372 dL_law_960 (by decide) ?_ ?_
        · exact g_sub [0, 1, 2, 3] rfl (p_law_b1372 C M L xs Z (f_law_l18 L xs n) ih x3 S_114)
        · refine g_iconst (pc := 963) C (v := 0) dL_law_963 (by decide) ?_
          exact g_lawret C M 0 dL_law_964
      refine g_tsw (res := none) (pc := 33) C 23 965 23 dL_law_33 hs_116 (by decide) rfl (by decide) ?_ (fun hs_121 => ?_)
      · refine g_aload_n (pc := 965) C dL_law_965 1 rfl rfl ?_
        refine g_aload_n (pc := 966) C dL_law_966 0 rfl rfl ?_
        refine g_iload_n (pc := 967) C dL_law_967 3 rfl rfl ?_
        refine g_iconst (pc := 968) C (v := 1) dL_law_968 (by decide) ?_
        refine g_iadd (pc := 969) C dL_law_969 ?_
        refine g_sld (pc := 970) C Z dL_law_970 ?_
        refine g_aload_n (pc := 971) C dL_law_971 0 rfl rfl ?_
        refine g_iload_n (pc := 972) C dL_law_972 3 rfl rfl ?_
        refine g_iconst (pc := 973) C (v := 2) dL_law_973 (by decide) ?_
        refine g_iadd (pc := 974) C dL_law_974 ?_
        refine g_sld (pc := 975) C Z dL_law_975 ?_
        refine g_aload_n (pc := 976) C dL_law_976 0 rfl rfl ?_
        refine g_iload_n (pc := 977) C dL_law_977 3 rfl rfl ?_
        refine g_iconst (pc := 978) C (v := 3) dL_law_978 (by decide) ?_
        refine g_iadd (pc := 979) C dL_law_979 ?_
        refine g_sld (pc := 980) C Z dL_law_980 ?_
        refine g_aload_n (pc := 981) C dL_law_981 0 rfl rfl ?_
        refine g_iload_n (pc := 982) C dL_law_982 3 rfl rfl ?_
        refine g_iconst (pc := 983) C (v := 4) dL_law_983 (by decide) ?_
        refine g_iadd (pc := 984) C dL_law_984 ?_
        refine g_sld (pc := 985) C Z dL_law_985 ?_
        refine g_callVI (pc := 986) (As := [.int (xs ((x3 + 1) : Int32).toNatClampNeg), .int (xs ((x3 + 2) : Int32).toNatClampNeg), .int (xs ((x3 + 3) : Int32).toNatClampNeg), .int (xs ((x3 + 4) : Int32).toNatClampNeg)]) (st := []) C lv_L_113 fo_0 rfl (ct_X7_chance (xs ((x3 + 1) : Int32).toNatClampNeg) (xs ((x3 + 2) : Int32).toNatClampNeg) (xs ((x3 + 3) : Int32).toNatClampNeg) (xs ((x3 + 4) : Int32).toNatClampNeg) S) (by decide) rfl rfl (Nat.le_of_ble_eq_true rfl) dL_law_986 (fun r_118 S_117 => ?_)
        refine g_aload_n (pc := 989) C dL_law_989 2 rfl rfl ?_
        refine g_aload_n (pc := 990) C dL_law_990 0 rfl rfl ?_
        refine g_iload_n (pc := 991) C dL_law_991 3 rfl rfl ?_
        refine g_iconst (pc := 992) C (v := 1) dL_law_992 (by decide) ?_
        refine g_iadd (pc := 993) C dL_law_993 ?_
        refine g_sld (pc := 994) C Z dL_law_994 ?_
        refine g_aload_n (pc := 995) C dL_law_995 0 rfl rfl ?_
        refine g_iload_n (pc := 996) C dL_law_996 3 rfl rfl ?_
        refine g_iconst (pc := 997) C (v := 2) dL_law_997 (by decide) ?_
        refine g_iadd (pc := 998) C dL_law_998 ?_
        refine g_sld (pc := 999) C Z dL_law_999 ?_
        refine g_aload_n (pc := 1000) C dL_law_1000 0 rfl rfl ?_
        refine g_iload_n (pc := 1001) C dL_law_1001 3 rfl rfl ?_
        refine g_iconst (pc := 1002) C (v := 3) dL_law_1002 (by decide) ?_
        refine g_iadd (pc := 1003) C dL_law_1003 ?_
        refine g_sld (pc := 1004) C Z dL_law_1004 ?_
        refine g_aload_n (pc := 1005) C dL_law_1005 0 rfl rfl ?_
        refine g_iload_n (pc := 1006) C dL_law_1006 3 rfl rfl ?_
        refine g_iconst (pc := 1007) C (v := 4) dL_law_1007 (by decide) ?_
        refine g_iadd (pc := 1008) C dL_law_1008 ?_
        refine g_sld (pc := 1009) C Z dL_law_1009 ?_
        refine g_callVI (pc := 1010) (As := [.int (xs ((x3 + 1) : Int32).toNatClampNeg), .int (xs ((x3 + 2) : Int32).toNatClampNeg), .int (xs ((x3 + 3) : Int32).toNatClampNeg), .int (xs ((x3 + 4) : Int32).toNatClampNeg)]) (st := [.int r_118]) C lv_L_116 fo_55 rfl (ct_X8_chance (xs ((x3 + 1) : Int32).toNatClampNeg) (xs ((x3 + 2) : Int32).toNatClampNeg) (xs ((x3 + 3) : Int32).toNatClampNeg) (xs ((x3 + 4) : Int32).toNatClampNeg) S_117) (by decide) rfl rfl (Nat.le_of_ble_eq_true rfl) dL_law_1010 (fun r_120 S_119 => ?_)
        refine g_icmp_eq (pc := 1013) C 1372 dL_law_1013 (by decide) ?_ ?_
        · exact g_sub [0, 1, 2, 3] rfl (p_law_b1372 C M L xs Z (f_law_l18 L xs n) ih x3 S_119)
        · refine g_iconst (pc := 1016) C (v := 0) dL_law_1016 (by decide) ?_
          exact g_lawret C M 0 dL_law_1017
      refine g_tsw (res := none) (pc := 33) C 24 1018 24 dL_law_33 hs_121 (by decide) rfl (by decide) ?_ (fun hs_126 => ?_)
      · refine g_aload_n (pc := 1018) C dL_law_1018 1 rfl rfl ?_
        refine g_aload_n (pc := 1019) C dL_law_1019 0 rfl rfl ?_
        refine g_iload_n (pc := 1020) C dL_law_1020 3 rfl rfl ?_
        refine g_iconst (pc := 1021) C (v := 1) dL_law_1021 (by decide) ?_
        refine g_iadd (pc := 1022) C dL_law_1022 ?_
        refine g_sld (pc := 1023) C Z dL_law_1023 ?_
        refine g_aload_n (pc := 1024) C dL_law_1024 0 rfl rfl ?_
        refine g_iload_n (pc := 1025) C dL_law_1025 3 rfl rfl ?_
        refine g_iconst (pc := 1026) C (v := 2) dL_law_1026 (by decide) ?_
        refine g_iadd (pc := 1027) C dL_law_1027 ?_
        refine g_sld (pc := 1028) C Z dL_law_1028 ?_
        refine g_aload_n (pc := 1029) C dL_law_1029 0 rfl rfl ?_
        refine g_iload_n (pc := 1030) C dL_law_1030 3 rfl rfl ?_
        refine g_iconst (pc := 1031) C (v := 3) dL_law_1031 (by decide) ?_
        refine g_iadd (pc := 1032) C dL_law_1032 ?_
        refine g_sld (pc := 1033) C Z dL_law_1033 ?_
        refine g_aload_n (pc := 1034) C dL_law_1034 0 rfl rfl ?_
        refine g_iload_n (pc := 1035) C dL_law_1035 3 rfl rfl ?_
        refine g_iconst (pc := 1036) C (v := 4) dL_law_1036 (by decide) ?_
        refine g_iadd (pc := 1037) C dL_law_1037 ?_
        refine g_sld (pc := 1038) C Z dL_law_1038 ?_
        refine g_aload_n (pc := 1039) C dL_law_1039 0 rfl rfl ?_
        refine g_iload_n (pc := 1040) C dL_law_1040 3 rfl rfl ?_
        refine g_iconst (pc := 1041) C (v := 5) dL_law_1041 (by decide) ?_
        refine g_iadd (pc := 1042) C dL_law_1042 ?_
        refine g_sld (pc := 1043) C Z dL_law_1043 ?_
        refine g_aload_n (pc := 1044) C dL_law_1044 0 rfl rfl ?_
        refine g_iload_n (pc := 1045) C dL_law_1045 3 rfl rfl ?_
        refine g_bipush (pc := 1046) C (v := 6) dL_law_1046 (by decide) ?_
        refine g_iadd (pc := 1048) C dL_law_1048 ?_
        refine g_sld (pc := 1049) C Z dL_law_1049 ?_
        refine g_aload_n (pc := 1050) C dL_law_1050 0 rfl rfl ?_
        refine g_iload_n (pc := 1051) C dL_law_1051 3 rfl rfl ?_
        refine g_bipush (pc := 1052) C (v := 7) dL_law_1052 (by decide) ?_
        refine g_iadd (pc := 1054) C dL_law_1054 ?_
        refine g_sld (pc := 1055) C Z dL_law_1055 ?_
        refine g_aload_n (pc := 1056) C dL_law_1056 0 rfl rfl ?_
        refine g_iload_n (pc := 1057) C dL_law_1057 3 rfl rfl ?_
        refine g_bipush (pc := 1058) C (v := 8) dL_law_1058 (by decide) ?_
        refine g_iadd (pc := 1060) C dL_law_1060 ?_
        refine g_sld (pc := 1061) C Z dL_law_1061 ?_
        refine g_callVI (pc := 1062) (As := [.int (xs ((x3 + 1) : Int32).toNatClampNeg), .int (xs ((x3 + 2) : Int32).toNatClampNeg), .int (xs ((x3 + 3) : Int32).toNatClampNeg), .int (xs ((x3 + 4) : Int32).toNatClampNeg), .int (xs ((x3 + 5) : Int32).toNatClampNeg), .int (xs ((x3 + 6) : Int32).toNatClampNeg), .int (xs ((x3 + 7) : Int32).toNatClampNeg), .int (xs ((x3 + 8) : Int32).toNatClampNeg)]) (st := []) C lv_L_117 fo_0 rfl (ct_X7_wins (xs ((x3 + 1) : Int32).toNatClampNeg) (xs ((x3 + 2) : Int32).toNatClampNeg) (xs ((x3 + 3) : Int32).toNatClampNeg) (xs ((x3 + 4) : Int32).toNatClampNeg) (xs ((x3 + 5) : Int32).toNatClampNeg) (xs ((x3 + 6) : Int32).toNatClampNeg) (xs ((x3 + 7) : Int32).toNatClampNeg) (xs ((x3 + 8) : Int32).toNatClampNeg) S) (by decide) rfl rfl (Nat.le_of_ble_eq_true rfl) dL_law_1062 (fun r_123 S_122 => ?_)
        refine g_aload_n (pc := 1065) C dL_law_1065 2 rfl rfl ?_
        refine g_aload_n (pc := 1066) C dL_law_1066 0 rfl rfl ?_
        refine g_iload_n (pc := 1067) C dL_law_1067 3 rfl rfl ?_
        refine g_iconst (pc := 1068) C (v := 1) dL_law_1068 (by decide) ?_
        refine g_iadd (pc := 1069) C dL_law_1069 ?_
        refine g_sld (pc := 1070) C Z dL_law_1070 ?_
        refine g_aload_n (pc := 1071) C dL_law_1071 0 rfl rfl ?_
        refine g_iload_n (pc := 1072) C dL_law_1072 3 rfl rfl ?_
        refine g_iconst (pc := 1073) C (v := 2) dL_law_1073 (by decide) ?_
        refine g_iadd (pc := 1074) C dL_law_1074 ?_
        refine g_sld (pc := 1075) C Z dL_law_1075 ?_
        refine g_aload_n (pc := 1076) C dL_law_1076 0 rfl rfl ?_
        refine g_iload_n (pc := 1077) C dL_law_1077 3 rfl rfl ?_
        refine g_iconst (pc := 1078) C (v := 3) dL_law_1078 (by decide) ?_
        refine g_iadd (pc := 1079) C dL_law_1079 ?_
        refine g_sld (pc := 1080) C Z dL_law_1080 ?_
        refine g_aload_n (pc := 1081) C dL_law_1081 0 rfl rfl ?_
        refine g_iload_n (pc := 1082) C dL_law_1082 3 rfl rfl ?_
        refine g_iconst (pc := 1083) C (v := 4) dL_law_1083 (by decide) ?_
        refine g_iadd (pc := 1084) C dL_law_1084 ?_
        refine g_sld (pc := 1085) C Z dL_law_1085 ?_
        refine g_aload_n (pc := 1086) C dL_law_1086 0 rfl rfl ?_
        refine g_iload_n (pc := 1087) C dL_law_1087 3 rfl rfl ?_
        refine g_iconst (pc := 1088) C (v := 5) dL_law_1088 (by decide) ?_
        refine g_iadd (pc := 1089) C dL_law_1089 ?_
        refine g_sld (pc := 1090) C Z dL_law_1090 ?_
        refine g_aload_n (pc := 1091) C dL_law_1091 0 rfl rfl ?_
        refine g_iload_n (pc := 1092) C dL_law_1092 3 rfl rfl ?_
        refine g_bipush (pc := 1093) C (v := 6) dL_law_1093 (by decide) ?_
        refine g_iadd (pc := 1095) C dL_law_1095 ?_
        refine g_sld (pc := 1096) C Z dL_law_1096 ?_
        refine g_aload_n (pc := 1097) C dL_law_1097 0 rfl rfl ?_
        refine g_iload_n (pc := 1098) C dL_law_1098 3 rfl rfl ?_
        refine g_bipush (pc := 1099) C (v := 7) dL_law_1099 (by decide) ?_
        refine g_iadd (pc := 1101) C dL_law_1101 ?_
        refine g_sld (pc := 1102) C Z dL_law_1102 ?_
        refine g_aload_n (pc := 1103) C dL_law_1103 0 rfl rfl ?_
        refine g_iload_n (pc := 1104) C dL_law_1104 3 rfl rfl ?_
        refine g_bipush (pc := 1105) C (v := 8) dL_law_1105 (by decide) ?_
        refine g_iadd (pc := 1107) C dL_law_1107 ?_
        refine g_sld (pc := 1108) C Z dL_law_1108 ?_
        refine g_callVI (pc := 1109) (As := [.int (xs ((x3 + 1) : Int32).toNatClampNeg), .int (xs ((x3 + 2) : Int32).toNatClampNeg), .int (xs ((x3 + 3) : Int32).toNatClampNeg), .int (xs ((x3 + 4) : Int32).toNatClampNeg), .int (xs ((x3 + 5) : Int32).toNatClampNeg), .int (xs ((x3 + 6) : Int32).toNatClampNeg), .int (xs ((x3 + 7) : Int32).toNatClampNeg), .int (xs ((x3 + 8) : Int32).toNatClampNeg)]) (st := [.int r_123]) C lv_L_121 fo_55 rfl (ct_X8_wins (xs ((x3 + 1) : Int32).toNatClampNeg) (xs ((x3 + 2) : Int32).toNatClampNeg) (xs ((x3 + 3) : Int32).toNatClampNeg) (xs ((x3 + 4) : Int32).toNatClampNeg) (xs ((x3 + 5) : Int32).toNatClampNeg) (xs ((x3 + 6) : Int32).toNatClampNeg) (xs ((x3 + 7) : Int32).toNatClampNeg) (xs ((x3 + 8) : Int32).toNatClampNeg) S_122) (by decide) rfl rfl (Nat.le_of_ble_eq_true rfl) dL_law_1109 (fun r_125 S_124 => ?_)
        refine g_icmp_eq (pc := 1112) C 1372 dL_law_1112 (by decide) ?_ ?_
        · exact g_sub [0, 1, 2, 3] rfl (p_law_b1372 C M L xs Z (f_law_l18 L xs n) ih x3 S_124)
        · refine g_iconst (pc := 1115) C (v := 0) dL_law_1115 (by decide) ?_
          exact g_lawret C M 0 dL_law_1116
      refine g_tsw (res := none) (pc := 33) C 25 1117 25 dL_law_33 hs_126 (by decide) rfl (by decide) ?_ (fun hs_131 => ?_)
      · refine g_aload_n (pc := 1117) C dL_law_1117 1 rfl rfl ?_
        refine g_aload_n (pc := 1118) C dL_law_1118 0 rfl rfl ?_
        refine g_iload_n (pc := 1119) C dL_law_1119 3 rfl rfl ?_
        refine g_iconst (pc := 1120) C (v := 1) dL_law_1120 (by decide) ?_
        refine g_iadd (pc := 1121) C dL_law_1121 ?_
        refine g_sld (pc := 1122) C Z dL_law_1122 ?_
        refine g_aload_n (pc := 1123) C dL_law_1123 0 rfl rfl ?_
        refine g_iload_n (pc := 1124) C dL_law_1124 3 rfl rfl ?_
        refine g_iconst (pc := 1125) C (v := 2) dL_law_1125 (by decide) ?_
        refine g_iadd (pc := 1126) C dL_law_1126 ?_
        refine g_sld (pc := 1127) C Z dL_law_1127 ?_
        refine g_aload_n (pc := 1128) C dL_law_1128 0 rfl rfl ?_
        refine g_iload_n (pc := 1129) C dL_law_1129 3 rfl rfl ?_
        refine g_iconst (pc := 1130) C (v := 3) dL_law_1130 (by decide) ?_
        refine g_iadd (pc := 1131) C dL_law_1131 ?_
        refine g_sld (pc := 1132) C Z dL_law_1132 ?_
        refine g_aload_n (pc := 1133) C dL_law_1133 0 rfl rfl ?_
        refine g_iload_n (pc := 1134) C dL_law_1134 3 rfl rfl ?_
        refine g_iconst (pc := 1135) C (v := 4) dL_law_1135 (by decide) ?_
        refine g_iadd (pc := 1136) C dL_law_1136 ?_
        refine g_sld (pc := 1137) C Z dL_law_1137 ?_
        refine g_aload_n (pc := 1138) C dL_law_1138 0 rfl rfl ?_
        refine g_iload_n (pc := 1139) C dL_law_1139 3 rfl rfl ?_
        refine g_iconst (pc := 1140) C (v := 5) dL_law_1140 (by decide) ?_
        refine g_iadd (pc := 1141) C dL_law_1141 ?_
        refine g_sld (pc := 1142) C Z dL_law_1142 ?_
        refine g_aload_n (pc := 1143) C dL_law_1143 0 rfl rfl ?_
        refine g_iload_n (pc := 1144) C dL_law_1144 3 rfl rfl ?_
        refine g_bipush (pc := 1145) C (v := 6) dL_law_1145 (by decide) ?_
        refine g_iadd (pc := 1147) C dL_law_1147 ?_
        refine g_sld (pc := 1148) C Z dL_law_1148 ?_
        refine g_callVI (pc := 1149) (As := [.int (xs ((x3 + 1) : Int32).toNatClampNeg), .int (xs ((x3 + 2) : Int32).toNatClampNeg), .int (xs ((x3 + 3) : Int32).toNatClampNeg), .int (xs ((x3 + 4) : Int32).toNatClampNeg), .int (xs ((x3 + 5) : Int32).toNatClampNeg), .int (xs ((x3 + 6) : Int32).toNatClampNeg)]) (st := []) C lv_L_122 fo_0 rfl (ct_X7_plan (xs ((x3 + 1) : Int32).toNatClampNeg) (xs ((x3 + 2) : Int32).toNatClampNeg) (xs ((x3 + 3) : Int32).toNatClampNeg) (xs ((x3 + 4) : Int32).toNatClampNeg) (xs ((x3 + 5) : Int32).toNatClampNeg) (xs ((x3 + 6) : Int32).toNatClampNeg) S) (by decide) rfl rfl (Nat.le_of_ble_eq_true rfl) dL_law_1149 (fun r_128 S_127 => ?_)
        refine g_aload_n (pc := 1152) C dL_law_1152 2 rfl rfl ?_
        refine g_aload_n (pc := 1153) C dL_law_1153 0 rfl rfl ?_
        refine g_iload_n (pc := 1154) C dL_law_1154 3 rfl rfl ?_
        refine g_iconst (pc := 1155) C (v := 1) dL_law_1155 (by decide) ?_
        refine g_iadd (pc := 1156) C dL_law_1156 ?_
        refine g_sld (pc := 1157) C Z dL_law_1157 ?_
        refine g_aload_n (pc := 1158) C dL_law_1158 0 rfl rfl ?_
        refine g_iload_n (pc := 1159) C dL_law_1159 3 rfl rfl ?_
        refine g_iconst (pc := 1160) C (v := 2) dL_law_1160 (by decide) ?_
        refine g_iadd (pc := 1161) C dL_law_1161 ?_
        refine g_sld (pc := 1162) C Z dL_law_1162 ?_
        refine g_aload_n (pc := 1163) C dL_law_1163 0 rfl rfl ?_
        refine g_iload_n (pc := 1164) C dL_law_1164 3 rfl rfl ?_
        refine g_iconst (pc := 1165) C (v := 3) dL_law_1165 (by decide) ?_
        refine g_iadd (pc := 1166) C dL_law_1166 ?_
        refine g_sld (pc := 1167) C Z dL_law_1167 ?_
        refine g_aload_n (pc := 1168) C dL_law_1168 0 rfl rfl ?_
        refine g_iload_n (pc := 1169) C dL_law_1169 3 rfl rfl ?_
        refine g_iconst (pc := 1170) C (v := 4) dL_law_1170 (by decide) ?_
        refine g_iadd (pc := 1171) C dL_law_1171 ?_
        refine g_sld (pc := 1172) C Z dL_law_1172 ?_
        refine g_aload_n (pc := 1173) C dL_law_1173 0 rfl rfl ?_
        refine g_iload_n (pc := 1174) C dL_law_1174 3 rfl rfl ?_
        refine g_iconst (pc := 1175) C (v := 5) dL_law_1175 (by decide) ?_
        refine g_iadd (pc := 1176) C dL_law_1176 ?_
        refine g_sld (pc := 1177) C Z dL_law_1177 ?_
        refine g_aload_n (pc := 1178) C dL_law_1178 0 rfl rfl ?_
        refine g_iload_n (pc := 1179) C dL_law_1179 3 rfl rfl ?_
        refine g_bipush (pc := 1180) C (v := 6) dL_law_1180 (by decide) ?_
        refine g_iadd (pc := 1182) C dL_law_1182 ?_
        refine g_sld (pc := 1183) C Z dL_law_1183 ?_
        refine g_callVI (pc := 1184) (As := [.int (xs ((x3 + 1) : Int32).toNatClampNeg), .int (xs ((x3 + 2) : Int32).toNatClampNeg), .int (xs ((x3 + 3) : Int32).toNatClampNeg), .int (xs ((x3 + 4) : Int32).toNatClampNeg), .int (xs ((x3 + 5) : Int32).toNatClampNeg), .int (xs ((x3 + 6) : Int32).toNatClampNeg)]) (st := [.int r_128]) C lv_L_126 fo_55 rfl (ct_X8_plan (xs ((x3 + 1) : Int32).toNatClampNeg) (xs ((x3 + 2) : Int32).toNatClampNeg) (xs ((x3 + 3) : Int32).toNatClampNeg) (xs ((x3 + 4) : Int32).toNatClampNeg) (xs ((x3 + 5) : Int32).toNatClampNeg) (xs ((x3 + 6) : Int32).toNatClampNeg) S_127) (by decide) rfl rfl (Nat.le_of_ble_eq_true rfl) dL_law_1184 (fun r_130 S_129 => ?_)
        refine g_icmp_eq (pc := 1187) C 1372 dL_law_1187 (by decide) ?_ ?_
        · exact g_sub [0, 1, 2, 3] rfl (p_law_b1372 C M L xs Z (f_law_l18 L xs n) ih x3 S_129)
        · refine g_iconst (pc := 1190) C (v := 0) dL_law_1190 (by decide) ?_
          exact g_lawret C M 0 dL_law_1191
      refine g_tsw (res := none) (pc := 33) C 26 1192 26 dL_law_33 hs_131 (by decide) rfl (by decide) ?_ (fun hs_136 => ?_)
      · refine g_aload_n (pc := 1192) C dL_law_1192 1 rfl rfl ?_
        refine g_aload_n (pc := 1193) C dL_law_1193 0 rfl rfl ?_
        refine g_iload_n (pc := 1194) C dL_law_1194 3 rfl rfl ?_
        refine g_iconst (pc := 1195) C (v := 1) dL_law_1195 (by decide) ?_
        refine g_iadd (pc := 1196) C dL_law_1196 ?_
        refine g_sld (pc := 1197) C Z dL_law_1197 ?_
        refine g_aload_n (pc := 1198) C dL_law_1198 0 rfl rfl ?_
        refine g_iload_n (pc := 1199) C dL_law_1199 3 rfl rfl ?_
        refine g_iconst (pc := 1200) C (v := 2) dL_law_1200 (by decide) ?_
        refine g_iadd (pc := 1201) C dL_law_1201 ?_
        refine g_sld (pc := 1202) C Z dL_law_1202 ?_
        refine g_aload_n (pc := 1203) C dL_law_1203 0 rfl rfl ?_
        refine g_iload_n (pc := 1204) C dL_law_1204 3 rfl rfl ?_
        refine g_iconst (pc := 1205) C (v := 3) dL_law_1205 (by decide) ?_
        refine g_iadd (pc := 1206) C dL_law_1206 ?_
        refine g_sld (pc := 1207) C Z dL_law_1207 ?_
        refine g_aload_n (pc := 1208) C dL_law_1208 0 rfl rfl ?_
        refine g_iload_n (pc := 1209) C dL_law_1209 3 rfl rfl ?_
        refine g_iconst (pc := 1210) C (v := 4) dL_law_1210 (by decide) ?_
        refine g_iadd (pc := 1211) C dL_law_1211 ?_
        refine g_sld (pc := 1212) C Z dL_law_1212 ?_
        refine g_aload_n (pc := 1213) C dL_law_1213 0 rfl rfl ?_
        refine g_iload_n (pc := 1214) C dL_law_1214 3 rfl rfl ?_
        refine g_iconst (pc := 1215) C (v := 5) dL_law_1215 (by decide) ?_
        refine g_iadd (pc := 1216) C dL_law_1216 ?_
        refine g_sld (pc := 1217) C Z dL_law_1217 ?_
        refine g_callVL (pc := 1218) (As := [.int (xs ((x3 + 1) : Int32).toNatClampNeg), .int (xs ((x3 + 2) : Int32).toNatClampNeg), .int (xs ((x3 + 3) : Int32).toNatClampNeg), .int (xs ((x3 + 4) : Int32).toNatClampNeg), .int (xs ((x3 + 5) : Int32).toNatClampNeg)]) (st := []) C lv_L_127 fo_0 rfl (ct_X7_stays (xs ((x3 + 1) : Int32).toNatClampNeg) (xs ((x3 + 2) : Int32).toNatClampNeg) (xs ((x3 + 3) : Int32).toNatClampNeg) (xs ((x3 + 4) : Int32).toNatClampNeg) (xs ((x3 + 5) : Int32).toNatClampNeg) S) (by decide) rfl rfl (Nat.le_of_ble_eq_true rfl) dL_law_1218 (fun r_133 S_132 => ?_)
        refine g_aload_n (pc := 1221) C dL_law_1221 2 rfl rfl ?_
        refine g_aload_n (pc := 1222) C dL_law_1222 0 rfl rfl ?_
        refine g_iload_n (pc := 1223) C dL_law_1223 3 rfl rfl ?_
        refine g_iconst (pc := 1224) C (v := 1) dL_law_1224 (by decide) ?_
        refine g_iadd (pc := 1225) C dL_law_1225 ?_
        refine g_sld (pc := 1226) C Z dL_law_1226 ?_
        refine g_aload_n (pc := 1227) C dL_law_1227 0 rfl rfl ?_
        refine g_iload_n (pc := 1228) C dL_law_1228 3 rfl rfl ?_
        refine g_iconst (pc := 1229) C (v := 2) dL_law_1229 (by decide) ?_
        refine g_iadd (pc := 1230) C dL_law_1230 ?_
        refine g_sld (pc := 1231) C Z dL_law_1231 ?_
        refine g_aload_n (pc := 1232) C dL_law_1232 0 rfl rfl ?_
        refine g_iload_n (pc := 1233) C dL_law_1233 3 rfl rfl ?_
        refine g_iconst (pc := 1234) C (v := 3) dL_law_1234 (by decide) ?_
        refine g_iadd (pc := 1235) C dL_law_1235 ?_
        refine g_sld (pc := 1236) C Z dL_law_1236 ?_
        refine g_aload_n (pc := 1237) C dL_law_1237 0 rfl rfl ?_
        refine g_iload_n (pc := 1238) C dL_law_1238 3 rfl rfl ?_
        refine g_iconst (pc := 1239) C (v := 4) dL_law_1239 (by decide) ?_
        refine g_iadd (pc := 1240) C dL_law_1240 ?_
        refine g_sld (pc := 1241) C Z dL_law_1241 ?_
        refine g_aload_n (pc := 1242) C dL_law_1242 0 rfl rfl ?_
        refine g_iload_n (pc := 1243) C dL_law_1243 3 rfl rfl ?_
        refine g_iconst (pc := 1244) C (v := 5) dL_law_1244 (by decide) ?_
        refine g_iadd (pc := 1245) C dL_law_1245 ?_
        refine g_sld (pc := 1246) C Z dL_law_1246 ?_
        refine g_callVL (pc := 1247) (As := [.int (xs ((x3 + 1) : Int32).toNatClampNeg), .int (xs ((x3 + 2) : Int32).toNatClampNeg), .int (xs ((x3 + 3) : Int32).toNatClampNeg), .int (xs ((x3 + 4) : Int32).toNatClampNeg), .int (xs ((x3 + 5) : Int32).toNatClampNeg)]) (st := [.long r_133]) C lv_L_131 fo_55 rfl (ct_X8_stays (xs ((x3 + 1) : Int32).toNatClampNeg) (xs ((x3 + 2) : Int32).toNatClampNeg) (xs ((x3 + 3) : Int32).toNatClampNeg) (xs ((x3 + 4) : Int32).toNatClampNeg) (xs ((x3 + 5) : Int32).toNatClampNeg) S_132) (by decide) rfl rfl (Nat.le_of_ble_eq_true rfl) dL_law_1247 (fun r_135 S_134 => ?_)
        refine g_lcmp (pc := 1250) C dL_law_1250 ?_
        refine g_if_eq (pc := 1251) C 1372 dL_law_1251 (by decide) ?_ ?_
        · exact g_sub [0, 1, 2, 3] rfl (p_law_b1372 C M L xs Z (f_law_l18 L xs n) ih x3 S_134)
        · refine g_iconst (pc := 1254) C (v := 0) dL_law_1254 (by decide) ?_
          exact g_lawret C M 0 dL_law_1255
      refine g_tsw (res := none) (pc := 33) C 27 1256 27 dL_law_33 hs_136 (by decide) rfl (by decide) ?_ (fun hs_141 => ?_)
      · refine g_aload_n (pc := 1256) C dL_law_1256 1 rfl rfl ?_
        refine g_aload_n (pc := 1257) C dL_law_1257 0 rfl rfl ?_
        refine g_iload_n (pc := 1258) C dL_law_1258 3 rfl rfl ?_
        refine g_iconst (pc := 1259) C (v := 1) dL_law_1259 (by decide) ?_
        refine g_iadd (pc := 1260) C dL_law_1260 ?_
        refine g_sld (pc := 1261) C Z dL_law_1261 ?_
        refine g_aload_n (pc := 1262) C dL_law_1262 0 rfl rfl ?_
        refine g_iload_n (pc := 1263) C dL_law_1263 3 rfl rfl ?_
        refine g_iconst (pc := 1264) C (v := 2) dL_law_1264 (by decide) ?_
        refine g_iadd (pc := 1265) C dL_law_1265 ?_
        refine g_sld (pc := 1266) C Z dL_law_1266 ?_
        refine g_aload_n (pc := 1267) C dL_law_1267 0 rfl rfl ?_
        refine g_iload_n (pc := 1268) C dL_law_1268 3 rfl rfl ?_
        refine g_iconst (pc := 1269) C (v := 3) dL_law_1269 (by decide) ?_
        refine g_iadd (pc := 1270) C dL_law_1270 ?_
        refine g_sld (pc := 1271) C Z dL_law_1271 ?_
        refine g_aload_n (pc := 1272) C dL_law_1272 0 rfl rfl ?_
        refine g_iload_n (pc := 1273) C dL_law_1273 3 rfl rfl ?_
        refine g_iconst (pc := 1274) C (v := 4) dL_law_1274 (by decide) ?_
        refine g_iadd (pc := 1275) C dL_law_1275 ?_
        refine g_sld (pc := 1276) C Z dL_law_1276 ?_
        refine g_callVI (pc := 1277) (As := [.int (xs ((x3 + 1) : Int32).toNatClampNeg), .int (xs ((x3 + 2) : Int32).toNatClampNeg), .int (xs ((x3 + 3) : Int32).toNatClampNeg), .int (xs ((x3 + 4) : Int32).toNatClampNeg)]) (st := []) C lv_L_132 fo_0 rfl (ct_X7_straw (xs ((x3 + 1) : Int32).toNatClampNeg) (xs ((x3 + 2) : Int32).toNatClampNeg) (xs ((x3 + 3) : Int32).toNatClampNeg) (xs ((x3 + 4) : Int32).toNatClampNeg) S) (by decide) rfl rfl (Nat.le_of_ble_eq_true rfl) dL_law_1277 (fun r_138 S_137 => ?_)
        refine g_aload_n (pc := 1280) C dL_law_1280 2 rfl rfl ?_
        refine g_aload_n (pc := 1281) C dL_law_1281 0 rfl rfl ?_
        refine g_iload_n (pc := 1282) C dL_law_1282 3 rfl rfl ?_
        refine g_iconst (pc := 1283) C (v := 1) dL_law_1283 (by decide) ?_
        refine g_iadd (pc := 1284) C dL_law_1284 ?_
        refine g_sld (pc := 1285) C Z dL_law_1285 ?_
        refine g_aload_n (pc := 1286) C dL_law_1286 0 rfl rfl ?_
        refine g_iload_n (pc := 1287) C dL_law_1287 3 rfl rfl ?_
        refine g_iconst (pc := 1288) C (v := 2) dL_law_1288 (by decide) ?_
        refine g_iadd (pc := 1289) C dL_law_1289 ?_
        refine g_sld (pc := 1290) C Z dL_law_1290 ?_
        refine g_aload_n (pc := 1291) C dL_law_1291 0 rfl rfl ?_
        refine g_iload_n (pc := 1292) C dL_law_1292 3 rfl rfl ?_
        refine g_iconst (pc := 1293) C (v := 3) dL_law_1293 (by decide) ?_
        refine g_iadd (pc := 1294) C dL_law_1294 ?_
        refine g_sld (pc := 1295) C Z dL_law_1295 ?_
        refine g_aload_n (pc := 1296) C dL_law_1296 0 rfl rfl ?_
        refine g_iload_n (pc := 1297) C dL_law_1297 3 rfl rfl ?_
        refine g_iconst (pc := 1298) C (v := 4) dL_law_1298 (by decide) ?_
        refine g_iadd (pc := 1299) C dL_law_1299 ?_
        refine g_sld (pc := 1300) C Z dL_law_1300 ?_
        refine g_callVI (pc := 1301) (As := [.int (xs ((x3 + 1) : Int32).toNatClampNeg), .int (xs ((x3 + 2) : Int32).toNatClampNeg), .int (xs ((x3 + 3) : Int32).toNatClampNeg), .int (xs ((x3 + 4) : Int32).toNatClampNeg)]) (st := [.int r_138]) C lv_L_135 fo_55 rfl (ct_X8_straw (xs ((x3 + 1) : Int32).toNatClampNeg) (xs ((x3 + 2) : Int32).toNatClampNeg) (xs ((x3 + 3) : Int32).toNatClampNeg) (xs ((x3 + 4) : Int32).toNatClampNeg) S_137) (by decide) rfl rfl (Nat.le_of_ble_eq_true rfl) dL_law_1301 (fun r_140 S_139 => ?_)
        refine g_icmp_eq (pc := 1304) C 1372 dL_law_1304 (by decide) ?_ ?_
        · exact g_sub [0, 1, 2, 3] rfl (p_law_b1372 C M L xs Z (f_law_l18 L xs n) ih x3 S_139)
        · refine g_iconst (pc := 1307) C (v := 0) dL_law_1307 (by decide) ?_
          exact g_lawret C M 0 dL_law_1308
      refine g_tsw (res := none) (pc := 33) C 28 1309 28 dL_law_33 hs_141 (by decide) rfl (by decide) ?_ (fun hs_146 => ?_)
      · refine g_aload_n (pc := 1309) C dL_law_1309 1 rfl rfl ?_
        refine g_callVI (pc := 1310) (As := []) (st := []) C lv_L_136 fo_0 rfl (ct_X7_image S) (by decide) rfl rfl (Nat.le_of_ble_eq_true rfl) dL_law_1310 (fun r_143 S_142 => ?_)
        refine g_aload_n (pc := 1313) C dL_law_1313 2 rfl rfl ?_
        refine g_callVI (pc := 1314) (As := []) (st := [.int r_143]) C lv_L_139 fo_55 rfl (ct_X8_image S_142) (by decide) rfl rfl (Nat.le_of_ble_eq_true rfl) dL_law_1314 (fun r_145 S_144 => ?_)
        refine g_icmp_eq (pc := 1317) C 1372 dL_law_1317 (by decide) ?_ ?_
        · exact g_sub [0, 1, 2, 3] rfl (p_law_b1372 C M L xs Z (f_law_l18 L xs n) ih x3 S_144)
        · refine g_iconst (pc := 1320) C (v := 0) dL_law_1320 (by decide) ?_
          exact g_lawret C M 0 dL_law_1321
      refine g_tsw (res := none) (pc := 33) C 29 1322 29 dL_law_33 hs_146 (by decide) rfl (by decide) ?_ (fun hs_151 => ?_)
      · refine g_aload_n (pc := 1322) C dL_law_1322 1 rfl rfl ?_
        refine g_callVI (pc := 1323) (As := []) (st := []) C lv_L_140 fo_0 rfl (ct_X7_restore S) (by decide) rfl rfl (Nat.le_of_ble_eq_true rfl) dL_law_1323 (fun r_148 S_147 => ?_)
        refine g_aload_n (pc := 1326) C dL_law_1326 2 rfl rfl ?_
        refine g_callVI (pc := 1327) (As := []) (st := [.int r_148]) C lv_L_143 fo_55 rfl (ct_X8_restore S_147) (by decide) rfl rfl (Nat.le_of_ble_eq_true rfl) dL_law_1327 (fun r_150 S_149 => ?_)
        refine g_icmp_eq (pc := 1330) C 1372 dL_law_1330 (by decide) ?_ ?_
        · exact g_sub [0, 1, 2, 3] rfl (p_law_b1372 C M L xs Z (f_law_l18 L xs n) ih x3 S_149)
        · refine g_iconst (pc := 1333) C (v := 0) dL_law_1333 (by decide) ?_
          exact g_lawret C M 0 dL_law_1334
      refine g_tsw (res := none) (pc := 33) C 30 1335 30 dL_law_33 hs_151 (by decide) rfl (by decide) ?_ (fun hs_156 => ?_)
      · refine g_aload_n (pc := 1335) C dL_law_1335 1 rfl rfl ?_
        refine g_aload_n (pc := 1336) C dL_law_1336 0 rfl rfl ?_
        refine g_iload_n (pc := 1337) C dL_law_1337 3 rfl rfl ?_
        refine g_iconst (pc := 1338) C (v := 1) dL_law_1338 (by decide) ?_
        refine g_iadd (pc := 1339) C dL_law_1339 ?_
        refine g_sld (pc := 1340) C Z dL_law_1340 ?_
        refine g_callVI (pc := 1341) (As := [.int (xs ((x3 + 1) : Int32).toNatClampNeg)]) (st := []) C lv_L_144 fo_0 rfl (ct_X7_count (xs ((x3 + 1) : Int32).toNatClampNeg) S) (by decide) rfl rfl (Nat.le_of_ble_eq_true rfl) dL_law_1341 (fun r_153 S_152 => ?_)
        refine g_aload_n (pc := 1344) C dL_law_1344 2 rfl rfl ?_
        refine g_aload_n (pc := 1345) C dL_law_1345 0 rfl rfl ?_
        refine g_iload_n (pc := 1346) C dL_law_1346 3 rfl rfl ?_
        refine g_iconst (pc := 1347) C (v := 1) dL_law_1347 (by decide) ?_
        refine g_iadd (pc := 1348) C dL_law_1348 ?_
        refine g_sld (pc := 1349) C Z dL_law_1349 ?_
        refine g_callVI (pc := 1350) (As := [.int (xs ((x3 + 1) : Int32).toNatClampNeg)]) (st := [.int r_153]) C lv_L_147 fo_55 rfl (ct_X8_count (xs ((x3 + 1) : Int32).toNatClampNeg) S_152) (by decide) rfl rfl (Nat.le_of_ble_eq_true rfl) dL_law_1350 (fun r_155 S_154 => ?_)
        refine g_icmp_eq (pc := 1353) C 1372 dL_law_1353 (by decide) ?_ ?_
        · exact g_sub [0, 1, 2, 3] rfl (p_law_b1372 C M L xs Z (f_law_l18 L xs n) ih x3 S_154)
        · refine g_iconst (pc := 1356) C (v := 0) dL_law_1356 (by decide) ?_
          exact g_lawret C M 0 dL_law_1357
      refine g_tsw (res := none) (pc := 33) C 31 1358 31 dL_law_33 hs_156 (by decide) rfl (by decide) ?_ (fun hs_161 => ?_)
      · refine g_aload_n (pc := 1358) C dL_law_1358 1 rfl rfl ?_
        refine g_callVL (pc := 1359) (As := []) (st := []) C lv_L_148 fo_0 rfl (ct_X7_digest S) (by decide) rfl rfl (Nat.le_of_ble_eq_true rfl) dL_law_1359 (fun r_158 S_157 => ?_)
        refine g_aload_n (pc := 1362) C dL_law_1362 2 rfl rfl ?_
        refine g_callVL (pc := 1363) (As := []) (st := [.long r_158]) C lv_L_152 fo_55 rfl (ct_X8_digest S_157) (by decide) rfl rfl (Nat.le_of_ble_eq_true rfl) dL_law_1363 (fun r_160 S_159 => ?_)
        refine g_lcmp (pc := 1366) C dL_law_1366 ?_
        refine g_if_eq (pc := 1367) C 1372 dL_law_1367 (by decide) ?_ ?_
        · exact g_sub [0, 1, 2, 3] rfl (p_law_b1372 C M L xs Z (f_law_l18 L xs n) ih x3 S_159)
        · refine g_iconst (pc := 1370) C (v := 0) dL_law_1370 (by decide) ?_
          exact g_lawret C M 0 dL_law_1371
      refine g_tsd (pc := 33) C (k := 31) 1372 dL_law_33 hs_161 rfl (by decide) ?_
      exact g_sub [0, 1, 2, 3] rfl (p_law_b1372 C M L xs Z (f_law_l18 L xs n) ih x3 S)
