section
-- ===== PART A: goes FIRST, ahead of the names: the tables' words, and 'selects' of the private methods out of them =====
/-- a private method of a class that the tables say can be made, by its rows of tables_1 -/
def lw_okq (q : MethodName × Nat) : Prop := (q.1.cls ≠ "java/lang/invoke/MethodHandle" ∧ q.1.cls ≠ "java/lang/invoke/VarHandle") ∧ Cond.instantiable q.1.cls q.2 ∈ tables_1 ∧ Cond.privateMethod q.1 ∈ tables_1 ∧ Cond.instanceMethod q.1 ∈ tables_1
theorem lw_p0 : lw_okq (⟨"CartsDownHill$Page", "put", "(I)V"⟩, 2) := ⟨⟨by decide +kernel, by decide +kernel⟩, List.mem_of_getElem? (i := 28) (by decide +kernel), List.mem_of_getElem? (i := 287) (by decide +kernel), List.mem_of_getElem? (i := 288) (by decide +kernel)⟩
theorem lw_p1 : lw_okq (⟨"CartsDownHill$Page", "hillFault", "()I"⟩, 2) := ⟨⟨by decide +kernel, by decide +kernel⟩, List.mem_of_getElem? (i := 28) (by decide +kernel), List.mem_of_getElem? (i := 299) (by decide +kernel), List.mem_of_getElem? (i := 300) (by decide +kernel)⟩
theorem lw_p2 : lw_okq (⟨"CartsDownHill$Page", "fitsHill", "(IZ)Z"⟩, 2) := ⟨⟨by decide +kernel, by decide +kernel⟩, List.mem_of_getElem? (i := 28) (by decide +kernel), List.mem_of_getElem? (i := 303) (by decide +kernel), List.mem_of_getElem? (i := 304) (by decide +kernel)⟩
theorem lw_p3 : lw_okq (⟨"CartsDownHill$Page", "at", "(I)I"⟩, 2) := ⟨⟨by decide +kernel, by decide +kernel⟩, List.mem_of_getElem? (i := 28) (by decide +kernel), List.mem_of_getElem? (i := 307) (by decide +kernel), List.mem_of_getElem? (i := 308) (by decide +kernel)⟩
theorem lw_p4 : lw_okq (⟨"CartsDownHill$Page", "isDigit", "(II)Z"⟩, 2) := ⟨⟨by decide +kernel, by decide +kernel⟩, List.mem_of_getElem? (i := 28) (by decide +kernel), List.mem_of_getElem? (i := 311) (by decide +kernel), List.mem_of_getElem? (i := 312) (by decide +kernel)⟩
theorem lw_p5 : lw_okq (⟨"CartsDownHill$Page", "digitAt", "(I)I"⟩, 2) := ⟨⟨by decide +kernel, by decide +kernel⟩, List.mem_of_getElem? (i := 28) (by decide +kernel), List.mem_of_getElem? (i := 315) (by decide +kernel), List.mem_of_getElem? (i := 316) (by decide +kernel)⟩
theorem lw_p6 : lw_okq (⟨"CartsDownHill$Page", "cartFault", "()I"⟩, 2) := ⟨⟨by decide +kernel, by decide +kernel⟩, List.mem_of_getElem? (i := 28) (by decide +kernel), List.mem_of_getElem? (i := 319) (by decide +kernel), List.mem_of_getElem? (i := 320) (by decide +kernel)⟩
theorem lw_p7 : lw_okq (⟨"CartsDownHill$Page", "fitsCart", "(I)Z"⟩, 2) := ⟨⟨by decide +kernel, by decide +kernel⟩, List.mem_of_getElem? (i := 28) (by decide +kernel), List.mem_of_getElem? (i := 323) (by decide +kernel), List.mem_of_getElem? (i := 324) (by decide +kernel)⟩
theorem lw_p8 : lw_okq (⟨"CartsDownHill$Page", "kindAt", "(I)I"⟩, 2) := ⟨⟨by decide +kernel, by decide +kernel⟩, List.mem_of_getElem? (i := 28) (by decide +kernel), List.mem_of_getElem? (i := 327) (by decide +kernel), List.mem_of_getElem? (i := 328) (by decide +kernel)⟩
theorem lw_p9 : lw_okq (⟨"CartsDownHill$Page", "isHill", "()Z"⟩, 2) := ⟨⟨by decide +kernel, by decide +kernel⟩, List.mem_of_getElem? (i := 28) (by decide +kernel), List.mem_of_getElem? (i := 423) (by decide +kernel), List.mem_of_getElem? (i := 424) (by decide +kernel)⟩
theorem lw_p10 : lw_okq (⟨"CartsDownHill$Page", "commas", "()I"⟩, 2) := ⟨⟨by decide +kernel, by decide +kernel⟩, List.mem_of_getElem? (i := 28) (by decide +kernel), List.mem_of_getElem? (i := 428) (by decide +kernel), List.mem_of_getElem? (i := 429) (by decide +kernel)⟩
theorem lw_p11 : lw_okq (⟨"CartsDownHill$Hill", "read", "(LCartsDownHill$Page;)V"⟩, 6) := ⟨⟨by decide +kernel, by decide +kernel⟩, List.mem_of_getElem? (i := 46) (by decide +kernel), List.mem_of_getElem? (i := 432) (by decide +kernel), List.mem_of_getElem? (i := 433) (by decide +kernel)⟩
theorem lw_p12 : lw_okq (⟨"CartsDownHill$Hill", "readDrop", "(LCartsDownHill$Page;II)V"⟩, 6) := ⟨⟨by decide +kernel, by decide +kernel⟩, List.mem_of_getElem? (i := 46) (by decide +kernel), List.mem_of_getElem? (i := 441) (by decide +kernel), List.mem_of_getElem? (i := 442) (by decide +kernel)⟩
theorem lw_p13 : lw_okq (⟨"CartsDownHill$Page", "isCart", "()Z"⟩, 2) := ⟨⟨by decide +kernel, by decide +kernel⟩, List.mem_of_getElem? (i := 28) (by decide +kernel), List.mem_of_getElem? (i := 450) (by decide +kernel), List.mem_of_getElem? (i := 451) (by decide +kernel)⟩
theorem lw_p14 : lw_okq (⟨"CartsDownHill$Cart", "read", "(LCartsDownHill$Page;)V"⟩, 4) := ⟨⟨by decide +kernel, by decide +kernel⟩, List.mem_of_getElem? (i := 83) (by decide +kernel), List.mem_of_getElem? (i := 455) (by decide +kernel), List.mem_of_getElem? (i := 456) (by decide +kernel)⟩
theorem lw_p15 : lw_okq (⟨"CartsDownHill", "isCell", "(I)Z"⟩, 11) := ⟨⟨by decide +kernel, by decide +kernel⟩, List.mem_of_getElem? (i := 20) (by decide +kernel), List.mem_of_getElem? (i := 465) (by decide +kernel), List.mem_of_getElem? (i := 466) (by decide +kernel)⟩
def lw_privs_1 : List (MethodName × Nat) := [(⟨"CartsDownHill$Page", "put", "(I)V"⟩, 2), (⟨"CartsDownHill$Page", "hillFault", "()I"⟩, 2), (⟨"CartsDownHill$Page", "fitsHill", "(IZ)Z"⟩, 2), (⟨"CartsDownHill$Page", "at", "(I)I"⟩, 2), (⟨"CartsDownHill$Page", "isDigit", "(II)Z"⟩, 2), (⟨"CartsDownHill$Page", "digitAt", "(I)I"⟩, 2), (⟨"CartsDownHill$Page", "cartFault", "()I"⟩, 2), (⟨"CartsDownHill$Page", "fitsCart", "(I)Z"⟩, 2), (⟨"CartsDownHill$Page", "kindAt", "(I)I"⟩, 2), (⟨"CartsDownHill$Page", "isHill", "()Z"⟩, 2), (⟨"CartsDownHill$Page", "commas", "()I"⟩, 2), (⟨"CartsDownHill$Hill", "read", "(LCartsDownHill$Page;)V"⟩, 6), (⟨"CartsDownHill$Hill", "readDrop", "(LCartsDownHill$Page;II)V"⟩, 6), (⟨"CartsDownHill$Page", "isCart", "()Z"⟩, 2), (⟨"CartsDownHill$Cart", "read", "(LCartsDownHill$Page;)V"⟩, 4), (⟨"CartsDownHill", "isCell", "(I)Z"⟩, 11)]
theorem lw_r1 : ∀ q ∈ lw_privs_1, lw_okq q := List.forall_mem_cons.mpr ⟨lw_p0, List.forall_mem_cons.mpr ⟨lw_p1, List.forall_mem_cons.mpr ⟨lw_p2, List.forall_mem_cons.mpr ⟨lw_p3, List.forall_mem_cons.mpr ⟨lw_p4, List.forall_mem_cons.mpr ⟨lw_p5, List.forall_mem_cons.mpr ⟨lw_p6, List.forall_mem_cons.mpr ⟨lw_p7, List.forall_mem_cons.mpr ⟨lw_p8, List.forall_mem_cons.mpr ⟨lw_p9, List.forall_mem_cons.mpr ⟨lw_p10, List.forall_mem_cons.mpr ⟨lw_p11, List.forall_mem_cons.mpr ⟨lw_p12, List.forall_mem_cons.mpr ⟨lw_p13, List.forall_mem_cons.mpr ⟨lw_p14, List.forall_mem_cons.mpr ⟨lw_p15, fun _ h => absurd h List.not_mem_nil⟩⟩⟩⟩⟩⟩⟩⟩⟩⟩⟩⟩⟩⟩⟩⟩
theorem lw_p16 : lw_okq (⟨"CartsDownHill", "isCart", "(I)Z"⟩, 11) := ⟨⟨by decide +kernel, by decide +kernel⟩, List.mem_of_getElem? (i := 20) (by decide +kernel), List.mem_of_getElem? (i := 473) (by decide +kernel), List.mem_of_getElem? (i := 474) (by decide +kernel)⟩
theorem lw_p17 : lw_okq (⟨"CartsDownHill", "isLoss", "(II)Z"⟩, 11) := ⟨⟨by decide +kernel, by decide +kernel⟩, List.mem_of_getElem? (i := 20) (by decide +kernel), List.mem_of_getElem? (i := 481) (by decide +kernel), List.mem_of_getElem? (i := 482) (by decide +kernel)⟩
theorem lw_p18 : lw_okq (⟨"CartsDownHill", "refusalOfRun", "(IIZ)I"⟩, 11) := ⟨⟨by decide +kernel, by decide +kernel⟩, List.mem_of_getElem? (i := 20) (by decide +kernel), List.mem_of_getElem? (i := 511) (by decide +kernel), List.mem_of_getElem? (i := 512) (by decide +kernel)⟩
theorem lw_p19 : lw_okq (⟨"CartsDownHill", "goDown", "(II)V"⟩, 11) := ⟨⟨by decide +kernel, by decide +kernel⟩, List.mem_of_getElem? (i := 20) (by decide +kernel), List.mem_of_getElem? (i := 518) (by decide +kernel), List.mem_of_getElem? (i := 519) (by decide +kernel)⟩
theorem lw_p20 : lw_okq (⟨"CartsDownHill$Ride", "mount", "(LCartsDownHill$Cart;I)V"⟩, 15) := ⟨⟨by decide +kernel, by decide +kernel⟩, List.mem_of_getElem? (i := 166) (by decide +kernel), List.mem_of_getElem? (i := 522) (by decide +kernel), List.mem_of_getElem? (i := 523) (by decide +kernel)⟩
theorem lw_p21 : lw_okq (⟨"CartsDownHill$Ride", "go", "(I)V"⟩, 15) := ⟨⟨by decide +kernel, by decide +kernel⟩, List.mem_of_getElem? (i := 166) (by decide +kernel), List.mem_of_getElem? (i := 530) (by decide +kernel), List.mem_of_getElem? (i := 531) (by decide +kernel)⟩
theorem lw_p22 : lw_okq (⟨"CartsDownHill$Ride", "goThrough", "(I)V"⟩, 15) := ⟨⟨by decide +kernel, by decide +kernel⟩, List.mem_of_getElem? (i := 166) (by decide +kernel), List.mem_of_getElem? (i := 534) (by decide +kernel), List.mem_of_getElem? (i := 535) (by decide +kernel)⟩
theorem lw_p23 : lw_okq (⟨"CartsDownHill$Ride", "takes", "(IIIII)I"⟩, 15) := ⟨⟨by decide +kernel, by decide +kernel⟩, List.mem_of_getElem? (i := 166) (by decide +kernel), List.mem_of_getElem? (i := 538) (by decide +kernel), List.mem_of_getElem? (i := 539) (by decide +kernel)⟩
theorem lw_p24 : lw_okq (⟨"CartsDownHill$Ride", "bearable", "(I)I"⟩, 15) := ⟨⟨by decide +kernel, by decide +kernel⟩, List.mem_of_getElem? (i := 166) (by decide +kernel), List.mem_of_getElem? (i := 548) (by decide +kernel), List.mem_of_getElem? (i := 549) (by decide +kernel)⟩
theorem lw_p25 : lw_okq (⟨"CartsDownHill$Ride", "tell", "(I)I"⟩, 15) := ⟨⟨by decide +kernel, by decide +kernel⟩, List.mem_of_getElem? (i := 166) (by decide +kernel), List.mem_of_getElem? (i := 552) (by decide +kernel), List.mem_of_getElem? (i := 553) (by decide +kernel)⟩
theorem lw_p26 : lw_okq (⟨"CartsDownHill$Best", "clear", "()V"⟩, 3) := ⟨⟨by decide +kernel, by decide +kernel⟩, List.mem_of_getElem? (i := 227) (by decide +kernel), List.mem_of_getElem? (i := 568) (by decide +kernel), List.mem_of_getElem? (i := 569) (by decide +kernel)⟩
theorem lw_p27 : lw_okq (⟨"CartsDownHill", "tryBrakes", "(II)V"⟩, 11) := ⟨⟨by decide +kernel, by decide +kernel⟩, List.mem_of_getElem? (i := 20) (by decide +kernel), List.mem_of_getElem? (i := 572) (by decide +kernel), List.mem_of_getElem? (i := 573) (by decide +kernel)⟩
theorem lw_p28 : lw_okq (⟨"CartsDownHill$Hill", "bendAt", "(I)I"⟩, 6) := ⟨⟨by decide +kernel, by decide +kernel⟩, List.mem_of_getElem? (i := 46) (by decide +kernel), List.mem_of_getElem? (i := 580) (by decide +kernel), List.mem_of_getElem? (i := 581) (by decide +kernel)⟩
theorem lw_p29 : lw_okq (⟨"CartsDownHill$Best", "offer", "(II)Z"⟩, 3) := ⟨⟨by decide +kernel, by decide +kernel⟩, List.mem_of_getElem? (i := 227) (by decide +kernel), List.mem_of_getElem? (i := 584) (by decide +kernel), List.mem_of_getElem? (i := 585) (by decide +kernel)⟩
theorem lw_p30 : lw_okq (⟨"CartsDownHill", "isBraked", "(I)Z"⟩, 11) := ⟨⟨by decide +kernel, by decide +kernel⟩, List.mem_of_getElem? (i := 20) (by decide +kernel), List.mem_of_getElem? (i := 588) (by decide +kernel), List.mem_of_getElem? (i := 589) (by decide +kernel)⟩
theorem lw_p31 : lw_okq (⟨"CartsDownHill$Best", "keepRow", "([I)V"⟩, 3) := ⟨⟨by decide +kernel, by decide +kernel⟩, List.mem_of_getElem? (i := 227) (by decide +kernel), List.mem_of_getElem? (i := 601) (by decide +kernel), List.mem_of_getElem? (i := 602) (by decide +kernel)⟩
def lw_privs_2 : List (MethodName × Nat) := [(⟨"CartsDownHill", "isCart", "(I)Z"⟩, 11), (⟨"CartsDownHill", "isLoss", "(II)Z"⟩, 11), (⟨"CartsDownHill", "refusalOfRun", "(IIZ)I"⟩, 11), (⟨"CartsDownHill", "goDown", "(II)V"⟩, 11), (⟨"CartsDownHill$Ride", "mount", "(LCartsDownHill$Cart;I)V"⟩, 15), (⟨"CartsDownHill$Ride", "go", "(I)V"⟩, 15), (⟨"CartsDownHill$Ride", "goThrough", "(I)V"⟩, 15), (⟨"CartsDownHill$Ride", "takes", "(IIIII)I"⟩, 15), (⟨"CartsDownHill$Ride", "bearable", "(I)I"⟩, 15), (⟨"CartsDownHill$Ride", "tell", "(I)I"⟩, 15), (⟨"CartsDownHill$Best", "clear", "()V"⟩, 3), (⟨"CartsDownHill", "tryBrakes", "(II)V"⟩, 11), (⟨"CartsDownHill$Hill", "bendAt", "(I)I"⟩, 6), (⟨"CartsDownHill$Best", "offer", "(II)Z"⟩, 3), (⟨"CartsDownHill", "isBraked", "(I)Z"⟩, 11), (⟨"CartsDownHill$Best", "keepRow", "([I)V"⟩, 3)]
theorem lw_r2 : ∀ q ∈ lw_privs_2, lw_okq q := List.forall_mem_cons.mpr ⟨lw_p16, List.forall_mem_cons.mpr ⟨lw_p17, List.forall_mem_cons.mpr ⟨lw_p18, List.forall_mem_cons.mpr ⟨lw_p19, List.forall_mem_cons.mpr ⟨lw_p20, List.forall_mem_cons.mpr ⟨lw_p21, List.forall_mem_cons.mpr ⟨lw_p22, List.forall_mem_cons.mpr ⟨lw_p23, List.forall_mem_cons.mpr ⟨lw_p24, List.forall_mem_cons.mpr ⟨lw_p25, List.forall_mem_cons.mpr ⟨lw_p26, List.forall_mem_cons.mpr ⟨lw_p27, List.forall_mem_cons.mpr ⟨lw_p28, List.forall_mem_cons.mpr ⟨lw_p29, List.forall_mem_cons.mpr ⟨lw_p30, List.forall_mem_cons.mpr ⟨lw_p31, fun _ h => absurd h List.not_mem_nil⟩⟩⟩⟩⟩⟩⟩⟩⟩⟩⟩⟩⟩⟩⟩⟩
theorem lw_p32 : lw_okq (⟨"CartsDownHill$Ride", "spendNext", "(I)Z"⟩, 15) := ⟨⟨by decide +kernel, by decide +kernel⟩, List.mem_of_getElem? (i := 166) (by decide +kernel), List.mem_of_getElem? (i := 606) (by decide +kernel), List.mem_of_getElem? (i := 607) (by decide +kernel)⟩
theorem lw_p33 : lw_okq (⟨"CartsDownHill", "timeAt", "(III)I"⟩, 11) := ⟨⟨by decide +kernel, by decide +kernel⟩, List.mem_of_getElem? (i := 20) (by decide +kernel), List.mem_of_getElem? (i := 614) (by decide +kernel), List.mem_of_getElem? (i := 615) (by decide +kernel)⟩
theorem lw_p34 : lw_okq (⟨"CartsDownHill$Ride", "timeIfDown", "()I"⟩, 15) := ⟨⟨by decide +kernel, by decide +kernel⟩, List.mem_of_getElem? (i := 166) (by decide +kernel), List.mem_of_getElem? (i := 618) (by decide +kernel), List.mem_of_getElem? (i := 619) (by decide +kernel)⟩
theorem lw_p35 : lw_okq (⟨"CartsDownHill", "apartBy", "(II)I"⟩, 11) := ⟨⟨by decide +kernel, by decide +kernel⟩, List.mem_of_getElem? (i := 20) (by decide +kernel), List.mem_of_getElem? (i := 626) (by decide +kernel), List.mem_of_getElem? (i := 627) (by decide +kernel)⟩
theorem lw_p36 : lw_okq (⟨"CartsDownHill", "flatCells", "(II)I"⟩, 11) := ⟨⟨by decide +kernel, by decide +kernel⟩, List.mem_of_getElem? (i := 20) (by decide +kernel), List.mem_of_getElem? (i := 637) (by decide +kernel), List.mem_of_getElem? (i := 638) (by decide +kernel)⟩
theorem lw_p37 : lw_okq (⟨"CartsDownHill$Ride", "goFlat", "(III)I"⟩, 15) := ⟨⟨by decide +kernel, by decide +kernel⟩, List.mem_of_getElem? (i := 166) (by decide +kernel), List.mem_of_getElem? (i := 641) (by decide +kernel), List.mem_of_getElem? (i := 642) (by decide +kernel)⟩
theorem lw_p38 : lw_okq (⟨"CartsDownHill$Coasts", "put", "(III)V"⟩, 4) := ⟨⟨by decide +kernel, by decide +kernel⟩, List.mem_of_getElem? (i := 110) (by decide +kernel), List.mem_of_getElem? (i := 649) (by decide +kernel), List.mem_of_getElem? (i := 650) (by decide +kernel)⟩
theorem lw_p39 : lw_okq (⟨"CartsDownHill", "allCoastsAreSo", "(I)Z"⟩, 11) := ⟨⟨by decide +kernel, by decide +kernel⟩, List.mem_of_getElem? (i := 20) (by decide +kernel), List.mem_of_getElem? (i := 657) (by decide +kernel), List.mem_of_getElem? (i := 658) (by decide +kernel)⟩
theorem lw_p40 : lw_okq (⟨"CartsDownHill", "timeOf", "(II)I"⟩, 11) := ⟨⟨by decide +kernel, by decide +kernel⟩, List.mem_of_getElem? (i := 20) (by decide +kernel), List.mem_of_getElem? (i := 665) (by decide +kernel), List.mem_of_getElem? (i := 666) (by decide +kernel)⟩
theorem lw_p41 : lw_okq (⟨"CartsDownHill", "refusalOfFour", "(IIII)I"⟩, 11) := ⟨⟨by decide +kernel, by decide +kernel⟩, List.mem_of_getElem? (i := 20) (by decide +kernel), List.mem_of_getElem? (i := 679) (by decide +kernel), List.mem_of_getElem? (i := 680) (by decide +kernel)⟩
theorem lw_p42 : lw_okq (⟨"CartsDownHill", "takeTimes", "(IIIII)V"⟩, 11) := ⟨⟨by decide +kernel, by decide +kernel⟩, List.mem_of_getElem? (i := 20) (by decide +kernel), List.mem_of_getElem? (i := 683) (by decide +kernel), List.mem_of_getElem? (i := 684) (by decide +kernel)⟩
theorem lw_p43 : lw_okq (⟨"CartsDownHill", "thousandths", "(III)I"⟩, 11) := ⟨⟨by decide +kernel, by decide +kernel⟩, List.mem_of_getElem? (i := 20) (by decide +kernel), List.mem_of_getElem? (i := 687) (by decide +kernel), List.mem_of_getElem? (i := 688) (by decide +kernel)⟩
theorem lw_p44 : lw_okq (⟨"CartsDownHill", "quickestOfFour", "()I"⟩, 11) := ⟨⟨by decide +kernel, by decide +kernel⟩, List.mem_of_getElem? (i := 20) (by decide +kernel), List.mem_of_getElem? (i := 699) (by decide +kernel), List.mem_of_getElem? (i := 700) (by decide +kernel)⟩
theorem lw_p45 : lw_okq (⟨"CartsDownHill", "weighBends", "(I)V"⟩, 11) := ⟨⟨by decide +kernel, by decide +kernel⟩, List.mem_of_getElem? (i := 20) (by decide +kernel), List.mem_of_getElem? (i := 707) (by decide +kernel), List.mem_of_getElem? (i := 708) (by decide +kernel)⟩
theorem lw_p46 : lw_okq (⟨"CartsDownHill", "stayingWith", "(I)J"⟩, 11) := ⟨⟨by decide +kernel, by decide +kernel⟩, List.mem_of_getElem? (i := 20) (by decide +kernel), List.mem_of_getElem? (i := 715) (by decide +kernel), List.mem_of_getElem? (i := 716) (by decide +kernel)⟩
theorem lw_p47 : lw_okq (⟨"CartsDownHill$Hill", "bends", "()I"⟩, 6) := ⟨⟨by decide +kernel, by decide +kernel⟩, List.mem_of_getElem? (i := 46) (by decide +kernel), List.mem_of_getElem? (i := 725) (by decide +kernel), List.mem_of_getElem? (i := 726) (by decide +kernel)⟩
def lw_privs_3 : List (MethodName × Nat) := [(⟨"CartsDownHill$Ride", "spendNext", "(I)Z"⟩, 15), (⟨"CartsDownHill", "timeAt", "(III)I"⟩, 11), (⟨"CartsDownHill$Ride", "timeIfDown", "()I"⟩, 15), (⟨"CartsDownHill", "apartBy", "(II)I"⟩, 11), (⟨"CartsDownHill", "flatCells", "(II)I"⟩, 11), (⟨"CartsDownHill$Ride", "goFlat", "(III)I"⟩, 15), (⟨"CartsDownHill$Coasts", "put", "(III)V"⟩, 4), (⟨"CartsDownHill", "allCoastsAreSo", "(I)Z"⟩, 11), (⟨"CartsDownHill", "timeOf", "(II)I"⟩, 11), (⟨"CartsDownHill", "refusalOfFour", "(IIII)I"⟩, 11), (⟨"CartsDownHill", "takeTimes", "(IIIII)V"⟩, 11), (⟨"CartsDownHill", "thousandths", "(III)I"⟩, 11), (⟨"CartsDownHill", "quickestOfFour", "()I"⟩, 11), (⟨"CartsDownHill", "weighBends", "(I)V"⟩, 11), (⟨"CartsDownHill", "stayingWith", "(I)J"⟩, 11), (⟨"CartsDownHill$Hill", "bends", "()I"⟩, 6)]
theorem lw_r3 : ∀ q ∈ lw_privs_3, lw_okq q := List.forall_mem_cons.mpr ⟨lw_p32, List.forall_mem_cons.mpr ⟨lw_p33, List.forall_mem_cons.mpr ⟨lw_p34, List.forall_mem_cons.mpr ⟨lw_p35, List.forall_mem_cons.mpr ⟨lw_p36, List.forall_mem_cons.mpr ⟨lw_p37, List.forall_mem_cons.mpr ⟨lw_p38, List.forall_mem_cons.mpr ⟨lw_p39, List.forall_mem_cons.mpr ⟨lw_p40, List.forall_mem_cons.mpr ⟨lw_p41, List.forall_mem_cons.mpr ⟨lw_p42, List.forall_mem_cons.mpr ⟨lw_p43, List.forall_mem_cons.mpr ⟨lw_p44, List.forall_mem_cons.mpr ⟨lw_p45, List.forall_mem_cons.mpr ⟨lw_p46, List.forall_mem_cons.mpr ⟨lw_p47, fun _ h => absurd h List.not_mem_nil⟩⟩⟩⟩⟩⟩⟩⟩⟩⟩⟩⟩⟩⟩⟩⟩
theorem lw_p48 : lw_okq (⟨"CartsDownHill$Coasts", "copy", "(LCartsDownHill$Coasts;)V"⟩, 4) := ⟨⟨by decide +kernel, by decide +kernel⟩, List.mem_of_getElem? (i := 110) (by decide +kernel), List.mem_of_getElem? (i := 741) (by decide +kernel), List.mem_of_getElem? (i := 742) (by decide +kernel)⟩
theorem lw_p49 : lw_okq (⟨"CartsDownHill", "mixedCart", "(JI)J"⟩, 11) := ⟨⟨by decide +kernel, by decide +kernel⟩, List.mem_of_getElem? (i := 20) (by decide +kernel), List.mem_of_getElem? (i := 764) (by decide +kernel), List.mem_of_getElem? (i := 765) (by decide +kernel)⟩
theorem lw_p50 : lw_okq (⟨"CartsDownHillModel", "faultOf", "(I)I"⟩, 40) := ⟨⟨by decide +kernel, by decide +kernel⟩, List.mem_of_getElem? (i := 770) (by decide +kernel), List.mem_of_getElem? (i := 913) (by decide +kernel), List.mem_of_getElem? (i := 914) (by decide +kernel)⟩
theorem lw_p51 : lw_okq (⟨"CartsDownHillModel", "goHill", "(I)Z"⟩, 40) := ⟨⟨by decide +kernel, by decide +kernel⟩, List.mem_of_getElem? (i := 770) (by decide +kernel), List.mem_of_getElem? (i := 917) (by decide +kernel), List.mem_of_getElem? (i := 918) (by decide +kernel)⟩
theorem lw_p52 : lw_okq (⟨"CartsDownHillModel", "goNext", "(II)Z"⟩, 40) := ⟨⟨by decide +kernel, by decide +kernel⟩, List.mem_of_getElem? (i := 770) (by decide +kernel), List.mem_of_getElem? (i := 923) (by decide +kernel), List.mem_of_getElem? (i := 924) (by decide +kernel)⟩
theorem lw_p53 : lw_okq (⟨"CartsDownHillModel", "goCart", "(I)Z"⟩, 40) := ⟨⟨by decide +kernel, by decide +kernel⟩, List.mem_of_getElem? (i := 770) (by decide +kernel), List.mem_of_getElem? (i := 928) (by decide +kernel), List.mem_of_getElem? (i := 929) (by decide +kernel)⟩
theorem lw_p54 : lw_okq (⟨"CartsDownHillModel", "isCell", "(I)Z"⟩, 40) := ⟨⟨by decide +kernel, by decide +kernel⟩, List.mem_of_getElem? (i := 770) (by decide +kernel), List.mem_of_getElem? (i := 947) (by decide +kernel), List.mem_of_getElem? (i := 948) (by decide +kernel)⟩
theorem lw_p55 : lw_okq (⟨"CartsDownHillModel", "cellOf", "(II)I"⟩, 40) := ⟨⟨by decide +kernel, by decide +kernel⟩, List.mem_of_getElem? (i := 770) (by decide +kernel), List.mem_of_getElem? (i := 951) (by decide +kernel), List.mem_of_getElem? (i := 952) (by decide +kernel)⟩
theorem lw_p56 : lw_okq (⟨"CartsDownHillModel", "isCart", "(I)Z"⟩, 40) := ⟨⟨by decide +kernel, by decide +kernel⟩, List.mem_of_getElem? (i := 770) (by decide +kernel), List.mem_of_getElem? (i := 959) (by decide +kernel), List.mem_of_getElem? (i := 960) (by decide +kernel)⟩
theorem lw_p57 : lw_okq (⟨"CartsDownHillModel", "isLoss", "(II)Z"⟩, 40) := ⟨⟨by decide +kernel, by decide +kernel⟩, List.mem_of_getElem? (i := 770) (by decide +kernel), List.mem_of_getElem? (i := 967) (by decide +kernel), List.mem_of_getElem? (i := 968) (by decide +kernel)⟩
theorem lw_p58 : lw_okq (⟨"CartsDownHillModel", "lacks", "()Z"⟩, 40) := ⟨⟨by decide +kernel, by decide +kernel⟩, List.mem_of_getElem? (i := 770) (by decide +kernel), List.mem_of_getElem? (i := 995) (by decide +kernel), List.mem_of_getElem? (i := 996) (by decide +kernel)⟩
theorem lw_p59 : lw_okq (⟨"CartsDownHillModel", "take", "(I)V"⟩, 40) := ⟨⟨by decide +kernel, by decide +kernel⟩, List.mem_of_getElem? (i := 770) (by decide +kernel), List.mem_of_getElem? (i := 1004) (by decide +kernel), List.mem_of_getElem? (i := 1005) (by decide +kernel)⟩
theorem lw_p60 : lw_okq (⟨"CartsDownHillModel", "go", "(I)V"⟩, 40) := ⟨⟨by decide +kernel, by decide +kernel⟩, List.mem_of_getElem? (i := 770) (by decide +kernel), List.mem_of_getElem? (i := 1008) (by decide +kernel), List.mem_of_getElem? (i := 1009) (by decide +kernel)⟩
theorem lw_p61 : lw_okq (⟨"CartsDownHillModel", "goCell", "(I)I"⟩, 40) := ⟨⟨by decide +kernel, by decide +kernel⟩, List.mem_of_getElem? (i := 770) (by decide +kernel), List.mem_of_getElem? (i := 1012) (by decide +kernel), List.mem_of_getElem? (i := 1013) (by decide +kernel)⟩
theorem lw_p62 : lw_okq (⟨"CartsDownHillModel", "takes", "(IIIII)I"⟩, 40) := ⟨⟨by decide +kernel, by decide +kernel⟩, List.mem_of_getElem? (i := 770) (by decide +kernel), List.mem_of_getElem? (i := 1016) (by decide +kernel), List.mem_of_getElem? (i := 1017) (by decide +kernel)⟩
theorem lw_p63 : lw_okq (⟨"CartsDownHillModel", "bearable", "(I)I"⟩, 40) := ⟨⟨by decide +kernel, by decide +kernel⟩, List.mem_of_getElem? (i := 770) (by decide +kernel), List.mem_of_getElem? (i := 1023) (by decide +kernel), List.mem_of_getElem? (i := 1024) (by decide +kernel)⟩
def lw_privs_4 : List (MethodName × Nat) := [(⟨"CartsDownHill$Coasts", "copy", "(LCartsDownHill$Coasts;)V"⟩, 4), (⟨"CartsDownHill", "mixedCart", "(JI)J"⟩, 11), (⟨"CartsDownHillModel", "faultOf", "(I)I"⟩, 40), (⟨"CartsDownHillModel", "goHill", "(I)Z"⟩, 40), (⟨"CartsDownHillModel", "goNext", "(II)Z"⟩, 40), (⟨"CartsDownHillModel", "goCart", "(I)Z"⟩, 40), (⟨"CartsDownHillModel", "isCell", "(I)Z"⟩, 40), (⟨"CartsDownHillModel", "cellOf", "(II)I"⟩, 40), (⟨"CartsDownHillModel", "isCart", "(I)Z"⟩, 40), (⟨"CartsDownHillModel", "isLoss", "(II)Z"⟩, 40), (⟨"CartsDownHillModel", "lacks", "()Z"⟩, 40), (⟨"CartsDownHillModel", "take", "(I)V"⟩, 40), (⟨"CartsDownHillModel", "go", "(I)V"⟩, 40), (⟨"CartsDownHillModel", "goCell", "(I)I"⟩, 40), (⟨"CartsDownHillModel", "takes", "(IIIII)I"⟩, 40), (⟨"CartsDownHillModel", "bearable", "(I)I"⟩, 40)]
theorem lw_r4 : ∀ q ∈ lw_privs_4, lw_okq q := List.forall_mem_cons.mpr ⟨lw_p48, List.forall_mem_cons.mpr ⟨lw_p49, List.forall_mem_cons.mpr ⟨lw_p50, List.forall_mem_cons.mpr ⟨lw_p51, List.forall_mem_cons.mpr ⟨lw_p52, List.forall_mem_cons.mpr ⟨lw_p53, List.forall_mem_cons.mpr ⟨lw_p54, List.forall_mem_cons.mpr ⟨lw_p55, List.forall_mem_cons.mpr ⟨lw_p56, List.forall_mem_cons.mpr ⟨lw_p57, List.forall_mem_cons.mpr ⟨lw_p58, List.forall_mem_cons.mpr ⟨lw_p59, List.forall_mem_cons.mpr ⟨lw_p60, List.forall_mem_cons.mpr ⟨lw_p61, List.forall_mem_cons.mpr ⟨lw_p62, List.forall_mem_cons.mpr ⟨lw_p63, fun _ h => absurd h List.not_mem_nil⟩⟩⟩⟩⟩⟩⟩⟩⟩⟩⟩⟩⟩⟩⟩⟩
theorem lw_p64 : lw_okq (⟨"CartsDownHillModel", "isBraked", "(I)Z"⟩, 40) := ⟨⟨by decide +kernel, by decide +kernel⟩, List.mem_of_getElem? (i := 770) (by decide +kernel), List.mem_of_getElem? (i := 1040) (by decide +kernel), List.mem_of_getElem? (i := 1041) (by decide +kernel)⟩
theorem lw_p65 : lw_okq (⟨"CartsDownHillModel", "bendAt", "(I)I"⟩, 40) := ⟨⟨by decide +kernel, by decide +kernel⟩, List.mem_of_getElem? (i := 770) (by decide +kernel), List.mem_of_getElem? (i := 1044) (by decide +kernel), List.mem_of_getElem? (i := 1045) (by decide +kernel)⟩
theorem lw_p66 : lw_okq (⟨"CartsDownHillModel", "timeBy", "(III)I"⟩, 40) := ⟨⟨by decide +kernel, by decide +kernel⟩, List.mem_of_getElem? (i := 770) (by decide +kernel), List.mem_of_getElem? (i := 1061) (by decide +kernel), List.mem_of_getElem? (i := 1062) (by decide +kernel)⟩
theorem lw_p67 : lw_okq (⟨"CartsDownHillModel", "farthestBy", "(III)I"⟩, 40) := ⟨⟨by decide +kernel, by decide +kernel⟩, List.mem_of_getElem? (i := 770) (by decide +kernel), List.mem_of_getElem? (i := 1073) (by decide +kernel), List.mem_of_getElem? (i := 1074) (by decide +kernel)⟩
theorem lw_p68 : lw_okq (⟨"CartsDownHillModel", "rubsNow", "()I"⟩, 40) := ⟨⟨by decide +kernel, by decide +kernel⟩, List.mem_of_getElem? (i := 770) (by decide +kernel), List.mem_of_getElem? (i := 1085) (by decide +kernel), List.mem_of_getElem? (i := 1086) (by decide +kernel)⟩
theorem lw_p69 : lw_okq (⟨"CartsDownHillModel", "chanceOf", "(IIII)I"⟩, 40) := ⟨⟨by decide +kernel, by decide +kernel⟩, List.mem_of_getElem? (i := 770) (by decide +kernel), List.mem_of_getElem? (i := 1096) (by decide +kernel), List.mem_of_getElem? (i := 1097) (by decide +kernel)⟩
theorem lw_p70 : lw_okq (⟨"CartsDownHillModel", "downTime", "(II)I"⟩, 40) := ⟨⟨by decide +kernel, by decide +kernel⟩, List.mem_of_getElem? (i := 770) (by decide +kernel), List.mem_of_getElem? (i := 1100) (by decide +kernel), List.mem_of_getElem? (i := 1101) (by decide +kernel)⟩
theorem lw_p71 : lw_okq (⟨"CartsDownHillModel", "areFour", "(IIII)Z"⟩, 40) := ⟨⟨by decide +kernel, by decide +kernel⟩, List.mem_of_getElem? (i := 770) (by decide +kernel), List.mem_of_getElem? (i := 1108) (by decide +kernel), List.mem_of_getElem? (i := 1109) (by decide +kernel)⟩
theorem lw_p72 : lw_okq (⟨"CartsDownHillModel", "winsOf", "(IIIIII)I"⟩, 40) := ⟨⟨by decide +kernel, by decide +kernel⟩, List.mem_of_getElem? (i := 770) (by decide +kernel), List.mem_of_getElem? (i := 1115) (by decide +kernel), List.mem_of_getElem? (i := 1116) (by decide +kernel)⟩
theorem lw_p73 : lw_okq (⟨"CartsDownHillModel", "quickest", "(I)I"⟩, 40) := ⟨⟨by decide +kernel, by decide +kernel⟩, List.mem_of_getElem? (i := 770) (by decide +kernel), List.mem_of_getElem? (i := 1126) (by decide +kernel), List.mem_of_getElem? (i := 1127) (by decide +kernel)⟩
theorem lw_p74 : lw_okq (⟨"CartsDownHillModel", "staysBy", "(IIII)J"⟩, 40) := ⟨⟨by decide +kernel, by decide +kernel⟩, List.mem_of_getElem? (i := 770) (by decide +kernel), List.mem_of_getElem? (i := 1142) (by decide +kernel), List.mem_of_getElem? (i := 1143) (by decide +kernel)⟩
theorem lw_p75 : lw_okq (⟨"CartsDownHillModel", "leaving", "(II)I"⟩, 40) := ⟨⟨by decide +kernel, by decide +kernel⟩, List.mem_of_getElem? (i := 770) (by decide +kernel), List.mem_of_getElem? (i := 1146) (by decide +kernel), List.mem_of_getElem? (i := 1147) (by decide +kernel)⟩
theorem lw_p76 : lw_okq (⟨"CartsDownHillModel", "bends", "()I"⟩, 40) := ⟨⟨by decide +kernel, by decide +kernel⟩, List.mem_of_getElem? (i := 770) (by decide +kernel), List.mem_of_getElem? (i := 1155) (by decide +kernel), List.mem_of_getElem? (i := 1156) (by decide +kernel)⟩
theorem lw_p77 : lw_okq (⟨"CartsDownHillModel", "countOf", "(I)I"⟩, 40) := ⟨⟨by decide +kernel, by decide +kernel⟩, List.mem_of_getElem? (i := 770) (by decide +kernel), List.mem_of_getElem? (i := 1172) (by decide +kernel), List.mem_of_getElem? (i := 1173) (by decide +kernel)⟩
theorem lw_p78 : lw_okq (⟨"CartsDownHillModel", "say", "(J)V"⟩, 40) := ⟨⟨by decide +kernel, by decide +kernel⟩, List.mem_of_getElem? (i := 770) (by decide +kernel), List.mem_of_getElem? (i := 1181) (by decide +kernel), List.mem_of_getElem? (i := 1182) (by decide +kernel)⟩
theorem lw_p79 : lw_okq (⟨"CartsDownHillModel", "sayCart", "(I)V"⟩, 40) := ⟨⟨by decide +kernel, by decide +kernel⟩, List.mem_of_getElem? (i := 770) (by decide +kernel), List.mem_of_getElem? (i := 1186) (by decide +kernel), List.mem_of_getElem? (i := 1187) (by decide +kernel)⟩
def lw_privs_5 : List (MethodName × Nat) := [(⟨"CartsDownHillModel", "isBraked", "(I)Z"⟩, 40), (⟨"CartsDownHillModel", "bendAt", "(I)I"⟩, 40), (⟨"CartsDownHillModel", "timeBy", "(III)I"⟩, 40), (⟨"CartsDownHillModel", "farthestBy", "(III)I"⟩, 40), (⟨"CartsDownHillModel", "rubsNow", "()I"⟩, 40), (⟨"CartsDownHillModel", "chanceOf", "(IIII)I"⟩, 40), (⟨"CartsDownHillModel", "downTime", "(II)I"⟩, 40), (⟨"CartsDownHillModel", "areFour", "(IIII)Z"⟩, 40), (⟨"CartsDownHillModel", "winsOf", "(IIIIII)I"⟩, 40), (⟨"CartsDownHillModel", "quickest", "(I)I"⟩, 40), (⟨"CartsDownHillModel", "staysBy", "(IIII)J"⟩, 40), (⟨"CartsDownHillModel", "leaving", "(II)I"⟩, 40), (⟨"CartsDownHillModel", "bends", "()I"⟩, 40), (⟨"CartsDownHillModel", "countOf", "(I)I"⟩, 40), (⟨"CartsDownHillModel", "say", "(J)V"⟩, 40), (⟨"CartsDownHillModel", "sayCart", "(I)V"⟩, 40)]
theorem lw_r5 : ∀ q ∈ lw_privs_5, lw_okq q := List.forall_mem_cons.mpr ⟨lw_p64, List.forall_mem_cons.mpr ⟨lw_p65, List.forall_mem_cons.mpr ⟨lw_p66, List.forall_mem_cons.mpr ⟨lw_p67, List.forall_mem_cons.mpr ⟨lw_p68, List.forall_mem_cons.mpr ⟨lw_p69, List.forall_mem_cons.mpr ⟨lw_p70, List.forall_mem_cons.mpr ⟨lw_p71, List.forall_mem_cons.mpr ⟨lw_p72, List.forall_mem_cons.mpr ⟨lw_p73, List.forall_mem_cons.mpr ⟨lw_p74, List.forall_mem_cons.mpr ⟨lw_p75, List.forall_mem_cons.mpr ⟨lw_p76, List.forall_mem_cons.mpr ⟨lw_p77, List.forall_mem_cons.mpr ⟨lw_p78, List.forall_mem_cons.mpr ⟨lw_p79, fun _ h => absurd h List.not_mem_nil⟩⟩⟩⟩⟩⟩⟩⟩⟩⟩⟩⟩⟩⟩⟩⟩
def lw_privs : List (MethodName × Nat) := lw_privs_1 ++ (lw_privs_2 ++ (lw_privs_3 ++ (lw_privs_4 ++ (lw_privs_5))))
def lw_tbl : List Cond := k2_sels lw_privs ++ tables_1
theorem lw_privs_ok : ∀ q ∈ lw_privs, lw_okq q := by
  show ∀ q ∈ lw_privs_1 ++ (lw_privs_2 ++ (lw_privs_3 ++ (lw_privs_4 ++ (lw_privs_5)))), lw_okq q
  exact List.forall_mem_append.mpr ⟨lw_r1, List.forall_mem_append.mpr ⟨lw_r2, List.forall_mem_append.mpr ⟨lw_r3, List.forall_mem_append.mpr ⟨lw_r4, lw_r5⟩⟩⟩⟩
def RX0 : String := "CartsDownHill$Best"
def TX0 : u_T := fun k => match k with
  | 0 => ("CartsDownHill$Best", "time", "I", false)
  | 1 => ("CartsDownHill$Best", "way", "I", false)
  | _ => ("CartsDownHill$Best", "row", "[I", true)
def tyX0 : Nat → FieldType := fun k => match k with
  | 0 => .int
  | 1 => .int
  | _ => .array .int
abbrev wsX00 : List Cond := u_ws RX0 TX0 3
theorem nmX0 : ∀ a, a < 3 → ∀ b, b < 3 → a ≠ b → (TX0 a).2.1 ≠ (TX0 b).2.1 := by decide +kernel
theorem tyX0_ok : ∀ k, k < 3 → parseFieldDescriptor (TX0 k).2.2.1 = some (tyX0 k) := by decide +kernel
abbrev cX0_init : ByteArray := prog_2_method_1_code
def yX0_init : MethodName := ⟨RX0, "<init>", "()V"⟩
abbrev cX0_clear : ByteArray := prog_2_method_2_code
def yX0_clear : MethodName := ⟨RX0, "clear", "()V"⟩
abbrev cX0_offer : ByteArray := prog_2_method_3_code
def yX0_offer : MethodName := ⟨RX0, "offer", "(II)Z"⟩
abbrev cX0_keepRow : ByteArray := prog_2_method_4_code
def yX0_keepRow : MethodName := ⟨RX0, "keepRow", "([I)V"⟩
def RX1 : String := "CartsDownHill$Cart"
def TX1 : u_T := fun k => match k with
  | 0 => ("CartsDownHill$Cart", "kind", "[I", true)
  | 1 => ("CartsDownHill$Cart", "n", "[I", true)
  | 2 => ("CartsDownHill$Cart", "size", "I", false)
  | _ => ("CartsDownHill$Cart", "weight", "I", false)
def tyX1 : Nat → FieldType := fun k => match k with
  | 0 => .array .int
  | 1 => .array .int
  | 2 => .int
  | _ => .int
abbrev wsX10 : List Cond := u_ws RX1 TX1 4
theorem nmX1 : ∀ a, a < 4 → ∀ b, b < 4 → a ≠ b → (TX1 a).2.1 ≠ (TX1 b).2.1 := by decide +kernel
theorem tyX1_ok : ∀ k, k < 4 → parseFieldDescriptor (TX1 k).2.2.1 = some (tyX1 k) := by decide +kernel
abbrev cX1_init : ByteArray := prog_3_method_1_code
def yX1_init : MethodName := ⟨RX1, "<init>", "()V"⟩
abbrev cX1_read : ByteArray := prog_3_method_2_code
def yX1_read : MethodName := ⟨RX1, "read", "(LCartsDownHill$Page;)V"⟩
def RX2 : String := "CartsDownHill$Coasts"
def TX2 : u_T := fun k => match k with
  | 0 => ("CartsDownHill$Coasts", "cart", "[I", true)
  | 1 => ("CartsDownHill$Coasts", "swing", "[I", true)
  | 2 => ("CartsDownHill$Coasts", "cells", "[I", true)
  | _ => ("CartsDownHill$Coasts", "size", "I", false)
def tyX2 : Nat → FieldType := fun k => match k with
  | 0 => .array .int
  | 1 => .array .int
  | 2 => .array .int
  | _ => .int
abbrev wsX20 : List Cond := u_ws RX2 TX2 4
theorem nmX2 : ∀ a, a < 4 → ∀ b, b < 4 → a ≠ b → (TX2 a).2.1 ≠ (TX2 b).2.1 := by decide +kernel
theorem tyX2_ok : ∀ k, k < 4 → parseFieldDescriptor (TX2 k).2.2.1 = some (tyX2 k) := by decide +kernel
abbrev cX2_init : ByteArray := prog_4_method_1_code
def yX2_init : MethodName := ⟨RX2, "<init>", "()V"⟩
abbrev cX2_put : ByteArray := prog_4_method_2_code
def yX2_put : MethodName := ⟨RX2, "put", "(III)V"⟩
abbrev cX2_copy : ByteArray := prog_4_method_3_code
def yX2_copy : MethodName := ⟨RX2, "copy", "(LCartsDownHill$Coasts;)V"⟩
def RX3 : String := "CartsDownHill$Hill"
def TX3 : u_T := fun k => match k with
  | 0 => ("CartsDownHill$Hill", "drop", "[I", true)
  | 1 => ("CartsDownHill$Hill", "sharp", "[I", true)
  | 2 => ("CartsDownHill$Hill", "bump", "[I", true)
  | 3 => ("CartsDownHill$Hill", "brakes", "[I", true)
  | 4 => ("CartsDownHill$Hill", "size", "I", false)
  | _ => ("CartsDownHill$Hill", "timesRead", "I", false)
def tyX3 : Nat → FieldType := fun k => match k with
  | 0 => .array .int
  | 1 => .array .int
  | 2 => .array .int
  | 3 => .array .int
  | 4 => .int
  | _ => .int
abbrev wsX30 : List Cond := u_ws RX3 TX3 6
theorem nmX3 : ∀ a, a < 6 → ∀ b, b < 6 → a ≠ b → (TX3 a).2.1 ≠ (TX3 b).2.1 := by decide +kernel
theorem tyX3_ok : ∀ k, k < 6 → parseFieldDescriptor (TX3 k).2.2.1 = some (tyX3 k) := by decide +kernel
abbrev cX3_init : ByteArray := prog_5_method_1_code
def yX3_init : MethodName := ⟨RX3, "<init>", "()V"⟩
abbrev cX3_read : ByteArray := prog_5_method_2_code
def yX3_read : MethodName := ⟨RX3, "read", "(LCartsDownHill$Page;)V"⟩
abbrev cX3_readDrop : ByteArray := prog_5_method_3_code
def yX3_readDrop : MethodName := ⟨RX3, "readDrop", "(LCartsDownHill$Page;II)V"⟩
abbrev cX3_bends : ByteArray := prog_5_method_4_code
def yX3_bends : MethodName := ⟨RX3, "bends", "()I"⟩
abbrev cX3_bendAt : ByteArray := prog_5_method_5_code
def yX3_bendAt : MethodName := ⟨RX3, "bendAt", "(I)I"⟩
def RX4 : String := "CartsDownHill$Image"
def TX4 : u_T := fun k => match k with
  | 0 => ("CartsDownHill$Image", "weights", "[I", true)
  | 1 => ("CartsDownHill$Image", "brakes", "[I", true)
  | 2 => ("CartsDownHill$Image", "coasts", "LCartsDownHill$Coasts;", true)
  | 3 => ("CartsDownHill$Image", "cartCount", "I", false)
  | 4 => ("CartsDownHill$Image", "holds", "I", false)
  | _ => ("CartsDownHill$Image", "hillsRead", "I", false)
def tyX4 : Nat → FieldType := fun k => match k with
  | 0 => .array .int
  | 1 => .array .int
  | 2 => .object "CartsDownHill$Coasts"
  | 3 => .int
  | 4 => .int
  | _ => .int
abbrev wsX40 : List Cond := u_ws RX4 TX4 6
theorem nmX4 : ∀ a, a < 6 → ∀ b, b < 6 → a ≠ b → (TX4 a).2.1 ≠ (TX4 b).2.1 := by decide +kernel
theorem tyX4_ok : ∀ k, k < 6 → parseFieldDescriptor (TX4 k).2.2.1 = some (tyX4 k) := by decide +kernel
abbrev cX4_init : ByteArray := prog_6_method_1_code
def yX4_init : MethodName := ⟨RX4, "<init>", "()V"⟩
def RX5 : String := "CartsDownHill$Page"
def TX5 : u_T := fun k => match k with
  | 0 => ("CartsDownHill$Page", "letter", "[I", true)
  | _ => ("CartsDownHill$Page", "size", "I", false)
def tyX5 : Nat → FieldType := fun k => match k with
  | 0 => .array .int
  | _ => .int
abbrev wsX50 : List Cond := u_ws RX5 TX5 2
theorem nmX5 : ∀ a, a < 2 → ∀ b, b < 2 → a ≠ b → (TX5 a).2.1 ≠ (TX5 b).2.1 := by decide +kernel
theorem tyX5_ok : ∀ k, k < 2 → parseFieldDescriptor (TX5 k).2.2.1 = some (tyX5 k) := by decide +kernel
abbrev cX5_init : ByteArray := prog_7_method_1_code
def yX5_init : MethodName := ⟨RX5, "<init>", "()V"⟩
abbrev cX5_put : ByteArray := prog_7_method_2_code
def yX5_put : MethodName := ⟨RX5, "put", "(I)V"⟩
abbrev cX5_at : ByteArray := prog_7_method_3_code
def yX5_at : MethodName := ⟨RX5, "at", "(I)I"⟩
abbrev cX5_digitAt : ByteArray := prog_7_method_4_code
def yX5_digitAt : MethodName := ⟨RX5, "digitAt", "(I)I"⟩
abbrev cX5_isDigit : ByteArray := prog_7_method_5_code
def yX5_isDigit : MethodName := ⟨RX5, "isDigit", "(II)Z"⟩
abbrev cX5_hillFault : ByteArray := prog_7_method_6_code
def yX5_hillFault : MethodName := ⟨RX5, "hillFault", "()I"⟩
abbrev cX5_fitsHill : ByteArray := prog_7_method_7_code
def yX5_fitsHill : MethodName := ⟨RX5, "fitsHill", "(IZ)Z"⟩
abbrev cX5_isHill : ByteArray := prog_7_method_8_code
def yX5_isHill : MethodName := ⟨RX5, "isHill", "()Z"⟩
abbrev cX5_commas : ByteArray := prog_7_method_9_code
def yX5_commas : MethodName := ⟨RX5, "commas", "()I"⟩
abbrev cX5_cartFault : ByteArray := prog_7_method_10_code
def yX5_cartFault : MethodName := ⟨RX5, "cartFault", "()I"⟩
abbrev cX5_fitsCart : ByteArray := prog_7_method_11_code
def yX5_fitsCart : MethodName := ⟨RX5, "fitsCart", "(I)Z"⟩
abbrev cX5_isCart : ByteArray := prog_7_method_12_code
def yX5_isCart : MethodName := ⟨RX5, "isCart", "()Z"⟩
abbrev cX5_kindAt : ByteArray := prog_7_method_13_code
def yX5_kindAt : MethodName := ⟨RX5, "kindAt", "(I)I"⟩
def RX6 : String := "CartsDownHill$Ride"
def TX6 : u_T := fun k => match k with
  | 0 => ("CartsDownHill$Ride", "hill", "LCartsDownHill$Hill;", true)
  | 1 => ("CartsDownHill$Ride", "kind", "[I", true)
  | 2 => ("CartsDownHill$Ride", "n", "[I", true)
  | 3 => ("CartsDownHill$Ride", "spent", "[I", true)
  | 4 => ("CartsDownHill$Ride", "brakes", "[I", true)
  | 5 => ("CartsDownHill$Ride", "size", "I", false)
  | 6 => ("CartsDownHill$Ride", "weight", "I", false)
  | 7 => ("CartsDownHill$Ride", "holds", "I", false)
  | 8 => ("CartsDownHill$Ride", "ending", "I", false)
  | 9 => ("CartsDownHill$Ride", "lastCell", "I", false)
  | 10 => ("CartsDownHill$Ride", "time", "I", false)
  | 11 => ("CartsDownHill$Ride", "swing", "I", false)
  | 12 => ("CartsDownHill$Ride", "braked", "I", false)
  | 13 => ("CartsDownHill$Ride", "took", "[I", true)
  | _ => ("CartsDownHill$Ride", "swingIn", "[I", true)
def tyX6 : Nat → FieldType := fun k => match k with
  | 0 => .object "CartsDownHill$Hill"
  | 1 => .array .int
  | 2 => .array .int
  | 3 => .array .int
  | 4 => .array .int
  | 5 => .int
  | 6 => .int
  | 7 => .int
  | 8 => .int
  | 9 => .int
  | 10 => .int
  | 11 => .int
  | 12 => .int
  | 13 => .array .int
  | _ => .array .int
abbrev wsX60 : List Cond := u_ws RX6 TX6 15
theorem nmX6 : ∀ a, a < 15 → ∀ b, b < 15 → a ≠ b → (TX6 a).2.1 ≠ (TX6 b).2.1 := by decide +kernel
theorem tyX6_ok : ∀ k, k < 15 → parseFieldDescriptor (TX6 k).2.2.1 = some (tyX6 k) := by decide +kernel
abbrev cX6_init : ByteArray := prog_8_method_1_code
def yX6_init : MethodName := ⟨RX6, "<init>", "(LCartsDownHill$Hill;)V"⟩
abbrev cX6_mount : ByteArray := prog_8_method_2_code
def yX6_mount : MethodName := ⟨RX6, "mount", "(LCartsDownHill$Cart;I)V"⟩
abbrev cX6_go : ByteArray := prog_8_method_3_code
def yX6_go : MethodName := ⟨RX6, "go", "(I)V"⟩
abbrev cX6_goThrough : ByteArray := prog_8_method_4_code
def yX6_goThrough : MethodName := ⟨RX6, "goThrough", "(I)V"⟩
abbrev cX6_takes : ByteArray := prog_8_method_5_code
def yX6_takes : MethodName := ⟨RX6, "takes", "(IIIII)I"⟩
abbrev cX6_bearable : ByteArray := prog_8_method_6_code
def yX6_bearable : MethodName := ⟨RX6, "bearable", "(I)I"⟩
abbrev cX6_root : ByteArray := prog_8_method_7_code
def yX6_root : MethodName := ⟨RX6, "root", "(I)I"⟩
abbrev cX6_timeIfDown : ByteArray := prog_8_method_8_code
def yX6_timeIfDown : MethodName := ⟨RX6, "timeIfDown", "()I"⟩
abbrev cX6_tell : ByteArray := prog_8_method_9_code
def yX6_tell : MethodName := ⟨RX6, "tell", "(I)I"⟩
abbrev cX6_goFlat : ByteArray := prog_8_method_10_code
def yX6_goFlat : MethodName := ⟨RX6, "goFlat", "(III)I"⟩
abbrev cX6_spendNext : ByteArray := prog_8_method_11_code
def yX6_spendNext : MethodName := ⟨RX6, "spendNext", "(I)Z"⟩
def RX7 : String := "CartsDownHill"
def TX7 : u_T := fun k => match k with
  | 0 => ("CartsDownHill", "page", "LCartsDownHill$Page;", true)
  | 1 => ("CartsDownHill", "slope", "LCartsDownHill$Hill;", true)
  | 2 => ("CartsDownHill", "carts", "[LCartsDownHill$Cart;", true)
  | 3 => ("CartsDownHill", "coasts", "LCartsDownHill$Coasts;", true)
  | 4 => ("CartsDownHill", "kept", "LCartsDownHill$Image;", true)
  | 5 => ("CartsDownHill", "ride", "LCartsDownHill$Ride;", true)
  | 6 => ("CartsDownHill", "best", "LCartsDownHill$Best;", true)
  | 7 => ("CartsDownHill", "times", "[I", true)
  | 8 => ("CartsDownHill", "safe", "[I", true)
  | 9 => ("CartsDownHill", "cartCount", "I", false)
  | _ => ("CartsDownHill", "holds", "I", false)
def tyX7 : Nat → FieldType := fun k => match k with
  | 0 => .object "CartsDownHill$Page"
  | 1 => .object "CartsDownHill$Hill"
  | 2 => .array (.object "CartsDownHill$Cart")
  | 3 => .object "CartsDownHill$Coasts"
  | 4 => .object "CartsDownHill$Image"
  | 5 => .object "CartsDownHill$Ride"
  | 6 => .object "CartsDownHill$Best"
  | 7 => .array .int
  | 8 => .array .int
  | 9 => .int
  | _ => .int
abbrev wsX70 : List Cond := u_ws RX7 TX7 11
theorem nmX7 : ∀ a, a < 11 → ∀ b, b < 11 → a ≠ b → (TX7 a).2.1 ≠ (TX7 b).2.1 := by decide +kernel
theorem tyX7_ok : ∀ k, k < 11 → parseFieldDescriptor (TX7 k).2.2.1 = some (tyX7 k) := by decide +kernel
abbrev cX7_init : ByteArray := prog_1_method_1_code
def yX7_init : MethodName := ⟨RX7, "<init>", "()V"⟩
abbrev cX7_letters : ByteArray := prog_1_method_2_code
def yX7_letters : MethodName := ⟨RX7, "letters", "(J)I"⟩
abbrev cX7_blank : ByteArray := prog_1_method_3_code
def yX7_blank : MethodName := ⟨RX7, "blank", "()I"⟩
abbrev cX7_fault : ByteArray := prog_1_method_4_code
def yX7_fault : MethodName := ⟨RX7, "fault", "(I)I"⟩
abbrev cX7_hill : ByteArray := prog_1_method_5_code
def yX7_hill : MethodName := ⟨RX7, "hill", "()I"⟩
abbrev cX7_cart : ByteArray := prog_1_method_6_code
def yX7_cart : MethodName := ⟨RX7, "cart", "()I"⟩
abbrev cX7_cell : ByteArray := prog_1_method_7_code
def yX7_cell : MethodName := ⟨RX7, "cell", "(II)I"⟩
abbrev cX7_about : ByteArray := prog_1_method_8_code
def yX7_about : MethodName := ⟨RX7, "about", "(II)I"⟩
abbrev cX7_loss : ByteArray := prog_1_method_9_code
def yX7_loss : MethodName := ⟨RX7, "loss", "(III)I"⟩
abbrev cX7_as : ByteArray := prog_1_method_10_code
def yX7_as : MethodName := ⟨RX7, "as", "(III)I"⟩
abbrev cX7_weigh : ByteArray := prog_1_method_11_code
def yX7_weigh : MethodName := ⟨RX7, "weigh", "(II)I"⟩
abbrev cX7_grip : ByteArray := prog_1_method_12_code
def yX7_grip : MethodName := ⟨RX7, "grip", "(I)I"⟩
abbrev cX7_brake : ByteArray := prog_1_method_13_code
def yX7_brake : MethodName := ⟨RX7, "brake", "(II)I"⟩
abbrev cX7_run : ByteArray := prog_1_method_14_code
def yX7_run : MethodName := ⟨RX7, "run", "(III)I"⟩
abbrev cX7_pace : ByteArray := prog_1_method_15_code
def yX7_pace : MethodName := ⟨RX7, "pace", "(III)I"⟩
abbrev cX7_lost : ByteArray := prog_1_method_16_code
def yX7_lost : MethodName := ⟨RX7, "lost", "(III)I"⟩
abbrev cX7_bestBrakes : ByteArray := prog_1_method_17_code
def yX7_bestBrakes : MethodName := ⟨RX7, "bestBrakes", "(III)I"⟩
abbrev cX7_bestPush : ByteArray := prog_1_method_18_code
def yX7_bestPush : MethodName := ⟨RX7, "bestPush", "(III)I"⟩
abbrev cX7_work : ByteArray := prog_1_method_19_code
def yX7_work : MethodName := ⟨RX7, "work", "(IIII)I"⟩
abbrev cX7_weighed : ByteArray := prog_1_method_20_code
def yX7_weighed : MethodName := ⟨RX7, "weighed", "(III)I"⟩
abbrev cX7_close : ByteArray := prog_1_method_21_code
def yX7_close : MethodName := ⟨RX7, "close", "(II)I"⟩
abbrev cX7_farthest : ByteArray := prog_1_method_22_code
def yX7_farthest : MethodName := ⟨RX7, "farthest", "(II)I"⟩
abbrev cX7_coast : ByteArray := prog_1_method_23_code
def yX7_coast : MethodName := ⟨RX7, "coast", "(III)I"⟩
abbrev cX7_rubs : ByteArray := prog_1_method_24_code
def yX7_rubs : MethodName := ⟨RX7, "rubs", "()I"⟩
abbrev cX7_chance : ByteArray := prog_1_method_25_code
def yX7_chance : MethodName := ⟨RX7, "chance", "(IIII)I"⟩
abbrev cX7_wins : ByteArray := prog_1_method_26_code
def yX7_wins : MethodName := ⟨RX7, "wins", "(IIIIIIII)I"⟩
abbrev cX7_plan : ByteArray := prog_1_method_27_code
def yX7_plan : MethodName := ⟨RX7, "plan", "(IIIIII)I"⟩
abbrev cX7_stays : ByteArray := prog_1_method_28_code
def yX7_stays : MethodName := ⟨RX7, "stays", "(IIIII)J"⟩
abbrev cX7_straw : ByteArray := prog_1_method_29_code
def yX7_straw : MethodName := ⟨RX7, "straw", "(IIII)I"⟩
abbrev cX7_image : ByteArray := prog_1_method_30_code
def yX7_image : MethodName := ⟨RX7, "image", "()I"⟩
abbrev cX7_restore : ByteArray := prog_1_method_31_code
def yX7_restore : MethodName := ⟨RX7, "restore", "()I"⟩
abbrev cX7_count : ByteArray := prog_1_method_32_code
def yX7_count : MethodName := ⟨RX7, "count", "(I)I"⟩
abbrev cX7_digest : ByteArray := prog_1_method_33_code
def yX7_digest : MethodName := ⟨RX7, "digest", "()J"⟩
abbrev cX7_isCart : ByteArray := prog_1_method_34_code
def yX7_isCart : MethodName := ⟨RX7, "isCart", "(I)Z"⟩
abbrev cX7_isLoss : ByteArray := prog_1_method_35_code
def yX7_isLoss : MethodName := ⟨RX7, "isLoss", "(II)Z"⟩
abbrev cX7_isCell : ByteArray := prog_1_method_36_code
def yX7_isCell : MethodName := ⟨RX7, "isCell", "(I)Z"⟩
abbrev cX7_isWithin : ByteArray := prog_1_method_37_code
def yX7_isWithin : MethodName := ⟨RX7, "isWithin", "(III)Z"⟩
abbrev cX7_isSwing : ByteArray := prog_1_method_38_code
def yX7_isSwing : MethodName := ⟨RX7, "isSwing", "(I)Z"⟩
abbrev cX7_isOfKind : ByteArray := prog_1_method_39_code
def yX7_isOfKind : MethodName := ⟨RX7, "isOfKind", "(II)Z"⟩
abbrev cX7_codeAt : ByteArray := prog_1_method_40_code
def yX7_codeAt : MethodName := ⟨RX7, "codeAt", "(JI)I"⟩
abbrev cX7_by : ByteArray := prog_1_method_41_code
def yX7_by : MethodName := ⟨RX7, "by", "(II)I"⟩
abbrev cX7_refusalOfRun : ByteArray := prog_1_method_42_code
def yX7_refusalOfRun : MethodName := ⟨RX7, "refusalOfRun", "(IIZ)I"⟩
abbrev cX7_refusalOfFour : ByteArray := prog_1_method_43_code
def yX7_refusalOfFour : MethodName := ⟨RX7, "refusalOfFour", "(IIII)I"⟩
abbrev cX7_goDown : ByteArray := prog_1_method_44_code
def yX7_goDown : MethodName := ⟨RX7, "goDown", "(II)V"⟩
abbrev cX7_timeOf : ByteArray := prog_1_method_45_code
def yX7_timeOf : MethodName := ⟨RX7, "timeOf", "(II)I"⟩
abbrev cX7_timeAt : ByteArray := prog_1_method_46_code
def yX7_timeAt : MethodName := ⟨RX7, "timeAt", "(III)I"⟩
abbrev cX7_choice : ByteArray := prog_1_method_47_code
def yX7_choice : MethodName := ⟨RX7, "choice", "(II)I"⟩
abbrev cX7_isBraked : ByteArray := prog_1_method_48_code
def yX7_isBraked : MethodName := ⟨RX7, "isBraked", "(I)Z"⟩
abbrev cX7_tryBrakes : ByteArray := prog_1_method_49_code
def yX7_tryBrakes : MethodName := ⟨RX7, "tryBrakes", "(II)V"⟩
abbrev cX7_apartBy : ByteArray := prog_1_method_50_code
def yX7_apartBy : MethodName := ⟨RX7, "apartBy", "(II)I"⟩
abbrev cX7_flatCells : ByteArray := prog_1_method_51_code
def yX7_flatCells : MethodName := ⟨RX7, "flatCells", "(II)I"⟩
abbrev cX7_allCoastsAreSo : ByteArray := prog_1_method_52_code
def yX7_allCoastsAreSo : MethodName := ⟨RX7, "allCoastsAreSo", "(I)Z"⟩
abbrev cX7_tenths : ByteArray := prog_1_method_53_code
def yX7_tenths : MethodName := ⟨RX7, "tenths", "(III)I"⟩
abbrev cX7_takeTimes : ByteArray := prog_1_method_54_code
def yX7_takeTimes : MethodName := ⟨RX7, "takeTimes", "(IIIII)V"⟩
abbrev cX7_quickestOfFour : ByteArray := prog_1_method_55_code
def yX7_quickestOfFour : MethodName := ⟨RX7, "quickestOfFour", "()I"⟩
abbrev cX7_thousandths : ByteArray := prog_1_method_56_code
def yX7_thousandths : MethodName := ⟨RX7, "thousandths", "(III)I"⟩
abbrev cX7_weighBends : ByteArray := prog_1_method_57_code
def yX7_weighBends : MethodName := ⟨RX7, "weighBends", "(I)V"⟩
abbrev cX7_safeHundredths : ByteArray := prog_1_method_58_code
def yX7_safeHundredths : MethodName := ⟨RX7, "safeHundredths", "(III)I"⟩
abbrev cX7_stayingWith : ByteArray := prog_1_method_59_code
def yX7_stayingWith : MethodName := ⟨RX7, "stayingWith", "(I)J"⟩
abbrev cX7_lowest : ByteArray := prog_1_method_60_code
def yX7_lowest : MethodName := ⟨RX7, "lowest", "(JJI)J"⟩
abbrev cX7_mixed : ByteArray := prog_1_method_61_code
def yX7_mixed : MethodName := ⟨RX7, "mixed", "(JI)J"⟩
abbrev cX7_mixedCart : ByteArray := prog_1_method_62_code
def yX7_mixedCart : MethodName := ⟨RX7, "mixedCart", "(JI)J"⟩
def RX8 : String := "CartsDownHillModel"
def TX8 : u_T := fun k => match k with
  | 0 => ("CartsDownHillModel", "page", "[I", true)
  | 1 => ("CartsDownHillModel", "pageMany", "I", false)
  | 2 => ("CartsDownHillModel", "state", "I", false)
  | 3 => ("CartsDownHillModel", "readMany", "I", false)
  | 4 => ("CartsDownHillModel", "readWeight", "I", false)
  | 5 => ("CartsDownHillModel", "readRows", "[I", true)
  | 6 => ("CartsDownHillModel", "cells", "I", false)
  | 7 => ("CartsDownHillModel", "hillsRead", "I", false)
  | 8 => ("CartsDownHillModel", "drops", "[I", true)
  | 9 => ("CartsDownHillModel", "sharps", "[I", true)
  | 10 => ("CartsDownHillModel", "bumps", "[I", true)
  | 11 => ("CartsDownHillModel", "brakes", "[I", true)
  | 12 => ("CartsDownHillModel", "carts", "I", false)
  | 13 => ("CartsDownHillModel", "weights", "[I", true)
  | 14 => ("CartsDownHillModel", "lossMany", "[I", true)
  | 15 => ("CartsDownHillModel", "losses", "[I", true)
  | 16 => ("CartsDownHillModel", "gripTold", "I", false)
  | 17 => ("CartsDownHillModel", "weightNow", "I", false)
  | 18 => ("CartsDownHillModel", "manyNow", "I", false)
  | 19 => ("CartsDownHillModel", "kindsNow", "[I", true)
  | 20 => ("CartsDownHillModel", "sizesNow", "[I", true)
  | 21 => ("CartsDownHillModel", "brakesNow", "[I", true)
  | 22 => ("CartsDownHillModel", "endNow", "I", false)
  | 23 => ("CartsDownHillModel", "cellNow", "I", false)
  | 24 => ("CartsDownHillModel", "timeNow", "I", false)
  | 25 => ("CartsDownHillModel", "swingNow", "I", false)
  | 26 => ("CartsDownHillModel", "ends", "[I", true)
  | 27 => ("CartsDownHillModel", "tookNow", "[I", true)
  | 28 => ("CartsDownHillModel", "brakedNow", "I", false)
  | 29 => ("CartsDownHillModel", "coasts", "I", false)
  | 30 => ("CartsDownHillModel", "coastRows", "[I", true)
  | 31 => ("CartsDownHillModel", "four", "[I", true)
  | 32 => ("CartsDownHillModel", "keptHill", "I", false)
  | 33 => ("CartsDownHillModel", "keptGrip", "I", false)
  | 34 => ("CartsDownHillModel", "keptCarts", "I", false)
  | 35 => ("CartsDownHillModel", "keptCoasts", "I", false)
  | 36 => ("CartsDownHillModel", "keptBrakes", "[I", true)
  | 37 => ("CartsDownHillModel", "keptWeights", "[I", true)
  | 38 => ("CartsDownHillModel", "keptRows", "[I", true)
  | _ => ("CartsDownHillModel", "hash", "J", false)
def tyX8 : Nat → FieldType := fun k => match k with
  | 0 => .array .int
  | 1 => .int
  | 2 => .int
  | 3 => .int
  | 4 => .int
  | 5 => .array .int
  | 6 => .int
  | 7 => .int
  | 8 => .array .int
  | 9 => .array .int
  | 10 => .array .int
  | 11 => .array .int
  | 12 => .int
  | 13 => .array .int
  | 14 => .array .int
  | 15 => .array .int
  | 16 => .int
  | 17 => .int
  | 18 => .int
  | 19 => .array .int
  | 20 => .array .int
  | 21 => .array .int
  | 22 => .int
  | 23 => .int
  | 24 => .int
  | 25 => .int
  | 26 => .array .int
  | 27 => .array .int
  | 28 => .int
  | 29 => .int
  | 30 => .array .int
  | 31 => .array .int
  | 32 => .int
  | 33 => .int
  | 34 => .int
  | 35 => .int
  | 36 => .array .int
  | 37 => .array .int
  | 38 => .array .int
  | _ => .long
abbrev wsX80 : List Cond := u_ws RX8 TX8 40
theorem nmX8 : ∀ a, a < 40 → ∀ b, b < 40 → a ≠ b → (TX8 a).2.1 ≠ (TX8 b).2.1 := by decide +kernel
theorem tyX8_ok : ∀ k, k < 40 → parseFieldDescriptor (TX8 k).2.2.1 = some (tyX8 k) := by decide +kernel
abbrev cX8_init : ByteArray := prog_10_method_1_code
def yX8_init : MethodName := ⟨RX8, "<init>", "()V"⟩
abbrev cX8_in : ByteArray := prog_10_method_2_code
def yX8_in : MethodName := ⟨RX8, "in", "(JJJ)Z"⟩
abbrev cX8_letters : ByteArray := prog_10_method_3_code
def yX8_letters : MethodName := ⟨RX8, "letters", "(J)I"⟩
abbrev cX8_blank : ByteArray := prog_10_method_4_code
def yX8_blank : MethodName := ⟨RX8, "blank", "()I"⟩
abbrev cX8_goHill : ByteArray := prog_10_method_5_code
def yX8_goHill : MethodName := ⟨RX8, "goHill", "(I)Z"⟩
abbrev cX8_goNext : ByteArray := prog_10_method_6_code
def yX8_goNext : MethodName := ⟨RX8, "goNext", "(II)Z"⟩
abbrev cX8_kindOf : ByteArray := prog_10_method_7_code
def yX8_kindOf : MethodName := ⟨RX8, "kindOf", "(I)I"⟩
abbrev cX8_goCart : ByteArray := prog_10_method_8_code
def yX8_goCart : MethodName := ⟨RX8, "goCart", "(I)Z"⟩
abbrev cX8_faultOf : ByteArray := prog_10_method_9_code
def yX8_faultOf : MethodName := ⟨RX8, "faultOf", "(I)I"⟩
abbrev cX8_fault : ByteArray := prog_10_method_10_code
def yX8_fault : MethodName := ⟨RX8, "fault", "(I)I"⟩
abbrev cX8_hill : ByteArray := prog_10_method_11_code
def yX8_hill : MethodName := ⟨RX8, "hill", "()I"⟩
abbrev cX8_cart : ByteArray := prog_10_method_12_code
def yX8_cart : MethodName := ⟨RX8, "cart", "()I"⟩
abbrev cX8_isCell : ByteArray := prog_10_method_13_code
def yX8_isCell : MethodName := ⟨RX8, "isCell", "(I)Z"⟩
abbrev cX8_isCart : ByteArray := prog_10_method_14_code
def yX8_isCart : MethodName := ⟨RX8, "isCart", "(I)Z"⟩
abbrev cX8_cellOf : ByteArray := prog_10_method_15_code
def yX8_cellOf : MethodName := ⟨RX8, "cellOf", "(II)I"⟩
abbrev cX8_cell : ByteArray := prog_10_method_16_code
def yX8_cell : MethodName := ⟨RX8, "cell", "(II)I"⟩
abbrev cX8_about : ByteArray := prog_10_method_17_code
def yX8_about : MethodName := ⟨RX8, "about", "(II)I"⟩
abbrev cX8_isLoss : ByteArray := prog_10_method_18_code
def yX8_isLoss : MethodName := ⟨RX8, "isLoss", "(II)Z"⟩
abbrev cX8_loss : ByteArray := prog_10_method_19_code
def yX8_loss : MethodName := ⟨RX8, "loss", "(III)I"⟩
abbrev cX8_as : ByteArray := prog_10_method_20_code
def yX8_as : MethodName := ⟨RX8, "as", "(III)I"⟩
abbrev cX8_weigh : ByteArray := prog_10_method_21_code
def yX8_weigh : MethodName := ⟨RX8, "weigh", "(II)I"⟩
abbrev cX8_grip : ByteArray := prog_10_method_22_code
def yX8_grip : MethodName := ⟨RX8, "grip", "(I)I"⟩
abbrev cX8_brake : ByteArray := prog_10_method_23_code
def yX8_brake : MethodName := ⟨RX8, "brake", "(II)I"⟩
abbrev cX8_take : ByteArray := prog_10_method_24_code
def yX8_take : MethodName := ⟨RX8, "take", "(I)V"⟩
abbrev cX8_takes : ByteArray := prog_10_method_25_code
def yX8_takes : MethodName := ⟨RX8, "takes", "(IIIII)I"⟩
abbrev cX8_root : ByteArray := prog_10_method_26_code
def yX8_root : MethodName := ⟨RX8, "root", "(I)I"⟩
abbrev cX8_bearable : ByteArray := prog_10_method_27_code
def yX8_bearable : MethodName := ⟨RX8, "bearable", "(I)I"⟩
abbrev cX8_goCell : ByteArray := prog_10_method_28_code
def yX8_goCell : MethodName := ⟨RX8, "goCell", "(I)I"⟩
abbrev cX8_go : ByteArray := prog_10_method_29_code
def yX8_go : MethodName := ⟨RX8, "go", "(I)V"⟩
abbrev cX8_isSwing : ByteArray := prog_10_method_30_code
def yX8_isSwing : MethodName := ⟨RX8, "isSwing", "(I)Z"⟩
abbrev cX8_lacks : ByteArray := prog_10_method_31_code
def yX8_lacks : MethodName := ⟨RX8, "lacks", "()Z"⟩
abbrev cX8_run : ByteArray := prog_10_method_32_code
def yX8_run : MethodName := ⟨RX8, "run", "(III)I"⟩
abbrev cX8_pace : ByteArray := prog_10_method_33_code
def yX8_pace : MethodName := ⟨RX8, "pace", "(III)I"⟩
abbrev cX8_lost : ByteArray := prog_10_method_34_code
def yX8_lost : MethodName := ⟨RX8, "lost", "(III)I"⟩
abbrev cX8_bendAt : ByteArray := prog_10_method_35_code
def yX8_bendAt : MethodName := ⟨RX8, "bendAt", "(I)I"⟩
abbrev cX8_isBraked : ByteArray := prog_10_method_36_code
def yX8_isBraked : MethodName := ⟨RX8, "isBraked", "(I)Z"⟩
abbrev cX8_bestBrakes : ByteArray := prog_10_method_37_code
def yX8_bestBrakes : MethodName := ⟨RX8, "bestBrakes", "(III)I"⟩
abbrev cX8_bestPush : ByteArray := prog_10_method_38_code
def yX8_bestPush : MethodName := ⟨RX8, "bestPush", "(III)I"⟩
abbrev cX8_work : ByteArray := prog_10_method_39_code
def yX8_work : MethodName := ⟨RX8, "work", "(IIII)I"⟩
abbrev cX8_timeBy : ByteArray := prog_10_method_40_code
def yX8_timeBy : MethodName := ⟨RX8, "timeBy", "(III)I"⟩
abbrev cX8_weighed : ByteArray := prog_10_method_41_code
def yX8_weighed : MethodName := ⟨RX8, "weighed", "(III)I"⟩
abbrev cX8_close : ByteArray := prog_10_method_42_code
def yX8_close : MethodName := ⟨RX8, "close", "(II)I"⟩
abbrev cX8_farthestBy : ByteArray := prog_10_method_43_code
def yX8_farthestBy : MethodName := ⟨RX8, "farthestBy", "(III)I"⟩
abbrev cX8_farthest : ByteArray := prog_10_method_44_code
def yX8_farthest : MethodName := ⟨RX8, "farthest", "(II)I"⟩
abbrev cX8_coast : ByteArray := prog_10_method_45_code
def yX8_coast : MethodName := ⟨RX8, "coast", "(III)I"⟩
abbrev cX8_rubsNow : ByteArray := prog_10_method_46_code
def yX8_rubsNow : MethodName := ⟨RX8, "rubsNow", "()I"⟩
abbrev cX8_rubs : ByteArray := prog_10_method_47_code
def yX8_rubs : MethodName := ⟨RX8, "rubs", "()I"⟩
abbrev cX8_downTime : ByteArray := prog_10_method_48_code
def yX8_downTime : MethodName := ⟨RX8, "downTime", "(II)I"⟩
abbrev cX8_chanceOf : ByteArray := prog_10_method_49_code
def yX8_chanceOf : MethodName := ⟨RX8, "chanceOf", "(IIII)I"⟩
abbrev cX8_isSlip : ByteArray := prog_10_method_50_code
def yX8_isSlip : MethodName := ⟨RX8, "isSlip", "(I)Z"⟩
abbrev cX8_chance : ByteArray := prog_10_method_51_code
def yX8_chance : MethodName := ⟨RX8, "chance", "(IIII)I"⟩
abbrev cX8_winsOf : ByteArray := prog_10_method_52_code
def yX8_winsOf : MethodName := ⟨RX8, "winsOf", "(IIIIII)I"⟩
abbrev cX8_common : ByteArray := prog_10_method_53_code
def yX8_common : MethodName := ⟨RX8, "common", "(II)I"⟩
abbrev cX8_areFour : ByteArray := prog_10_method_54_code
def yX8_areFour : MethodName := ⟨RX8, "areFour", "(IIII)Z"⟩
abbrev cX8_areUnlike : ByteArray := prog_10_method_55_code
def yX8_areUnlike : MethodName := ⟨RX8, "areUnlike", "(IIII)Z"⟩
abbrev cX8_wins : ByteArray := prog_10_method_56_code
def yX8_wins : MethodName := ⟨RX8, "wins", "(IIIIIIII)I"⟩
abbrev cX8_quickest : ByteArray := prog_10_method_57_code
def yX8_quickest : MethodName := ⟨RX8, "quickest", "(I)I"⟩
abbrev cX8_plan : ByteArray := prog_10_method_58_code
def yX8_plan : MethodName := ⟨RX8, "plan", "(IIIIII)I"⟩
abbrev cX8_staysBy : ByteArray := prog_10_method_59_code
def yX8_staysBy : MethodName := ⟨RX8, "staysBy", "(IIII)J"⟩
abbrev cX8_leaving : ByteArray := prog_10_method_60_code
def yX8_leaving : MethodName := ⟨RX8, "leaving", "(II)I"⟩
abbrev cX8_bends : ByteArray := prog_10_method_61_code
def yX8_bends : MethodName := ⟨RX8, "bends", "()I"⟩
abbrev cX8_isShake : ByteArray := prog_10_method_62_code
def yX8_isShake : MethodName := ⟨RX8, "isShake", "(I)Z"⟩
abbrev cX8_stays : ByteArray := prog_10_method_63_code
def yX8_stays : MethodName := ⟨RX8, "stays", "(IIIII)J"⟩
abbrev cX8_straw : ByteArray := prog_10_method_64_code
def yX8_straw : MethodName := ⟨RX8, "straw", "(IIII)I"⟩
abbrev cX8_image : ByteArray := prog_10_method_65_code
def yX8_image : MethodName := ⟨RX8, "image", "()I"⟩
abbrev cX8_restore : ByteArray := prog_10_method_66_code
def yX8_restore : MethodName := ⟨RX8, "restore", "()I"⟩
abbrev cX8_countOf : ByteArray := prog_10_method_67_code
def yX8_countOf : MethodName := ⟨RX8, "countOf", "(I)I"⟩
abbrev cX8_count : ByteArray := prog_10_method_68_code
def yX8_count : MethodName := ⟨RX8, "count", "(I)I"⟩
abbrev cX8_say : ByteArray := prog_10_method_69_code
def yX8_say : MethodName := ⟨RX8, "say", "(J)V"⟩
abbrev cX8_sayCart : ByteArray := prog_10_method_70_code
def yX8_sayCart : MethodName := ⟨RX8, "sayCart", "(I)V"⟩
abbrev cX8_digest : ByteArray := prog_10_method_71_code
def yX8_digest : MethodName := ⟨RX8, "digest", "()J"⟩
def RJ11 : String := "java/lang/Character"
abbrev cJ11_isValidCodePoint_9a6ad : ByteArray := prog_11_method_11_code
def yJ11_isValidCodePoint_9a6ad : MethodName := ⟨RJ11, "isValidCodePoint", "(I)Z"⟩
abbrev cJ11_highSurrogate_5068e : ByteArray := prog_11_method_28_code
def yJ11_highSurrogate_5068e : MethodName := ⟨RJ11, "highSurrogate", "(I)C"⟩
abbrev cJ11_lowSurrogate_5068e : ByteArray := prog_11_method_29_code
def yJ11_lowSurrogate_5068e : MethodName := ⟨RJ11, "lowSurrogate", "(I)C"⟩
def RJ6 : String := "java/lang/Integer"
abbrev cJ6_bitCount_0f7a4 : ByteArray := prog_12_method_49_code
def yJ6_bitCount_0f7a4 : MethodName := ⟨RJ6, "bitCount", "(I)I"⟩
def RJ9 : String := "java/lang/Math"
abbrev cJ9_abs_0f7a4 : ByteArray := prog_13_method_59_code
def yJ9_abs_0f7a4 : MethodName := ⟨RJ9, "abs", "(I)I"⟩
abbrev cJ9_max_7cf53 : ByteArray := prog_13_method_65_code
def yJ9_max_7cf53 : MethodName := ⟨RJ9, "max", "(II)I"⟩
abbrev cJ9_min_7cf53 : ByteArray := prog_13_method_69_code
def yJ9_min_7cf53 : MethodName := ⟨RJ9, "min", "(II)I"⟩
def RJ0 : String := "java/lang/String"
abbrev cJ0_length_8abf5 : ByteArray := prog_14_method_54_code
def yJ0_length_8abf5 : MethodName := ⟨RJ0, "length", "()I"⟩
abbrev cJ0_indexOf_0f7a4 : ByteArray := prog_14_method_79_code
def yJ0_indexOf_0f7a4 : MethodName := ⟨RJ0, "indexOf", "(I)I"⟩
abbrev cJ0_indexOf_7cf53 : ByteArray := prog_14_method_80_code
def yJ0_indexOf_7cf53 : MethodName := ⟨RJ0, "indexOf", "(II)I"⟩
abbrev cJ0_coder_7d493 : ByteArray := prog_14_method_152_code
def yJ0_coder_7d493 : MethodName := ⟨RJ0, "coder", "()B"⟩
abbrev cJ0_isLatin1_aae02 : ByteArray := prog_14_method_154_code
def yJ0_isLatin1_aae02 : MethodName := ⟨RJ0, "isLatin1", "()Z"⟩
abbrev cJ0_checkBoundsBeginEnd_23922 : ByteArray := prog_14_method_158_code
def yJ0_checkBoundsBeginEnd_23922 : MethodName := ⟨RJ0, "checkBoundsBeginEnd", "(III)V"⟩
def RJ1 : String := "java/lang/StringLatin1"
abbrev cJ1_canEncode_9a6ad : ByteArray := prog_15_method_4_code
def yJ1_canEncode_9a6ad : MethodName := ⟨RJ1, "canEncode", "(I)Z"⟩
abbrev cJ1_indexOf_4cfef : ByteArray := prog_15_method_22_code
def yJ1_indexOf_4cfef : MethodName := ⟨RJ1, "indexOf", "([BIII)I"⟩
abbrev cJ1_indexOfChar_4cfef : ByteArray := prog_15_method_23_code
def yJ1_indexOfChar_4cfef : MethodName := ⟨RJ1, "indexOfChar", "([BIII)I"⟩
def RJ2 : String := "java/lang/StringUTF16"
abbrev cJ2_getChar_3b067 : ByteArray := prog_16_method_5_code
def yJ2_getChar_3b067 : MethodName := ⟨RJ2, "getChar", "([BI)C"⟩
abbrev cJ2_length_9d52b : ByteArray := prog_16_method_6_code
def yJ2_length_9d52b : MethodName := ⟨RJ2, "length", "([B)I"⟩
abbrev cJ2_indexOf_4cfef : ByteArray := prog_16_method_40_code
def yJ2_indexOf_4cfef : MethodName := ⟨RJ2, "indexOf", "([BIII)I"⟩
abbrev cJ2_indexOfChar_4cfef : ByteArray := prog_16_method_47_code
def yJ2_indexOfChar_4cfef : MethodName := ⟨RJ2, "indexOfChar", "([BIII)I"⟩
abbrev cJ2_indexOfCharUnsafe_4cfef : ByteArray := prog_16_method_48_code
def yJ2_indexOfCharUnsafe_4cfef : MethodName := ⟨RJ2, "indexOfCharUnsafe", "([BIII)I"⟩
abbrev cJ2_indexOfSupplementary_4cfef : ByteArray := prog_16_method_49_code
def yJ2_indexOfSupplementary_4cfef : MethodName := ⟨RJ2, "indexOfSupplementary", "([BIII)I"⟩
abbrev cJ2_checkBoundsBeginEnd_d044e : ByteArray := prog_16_method_93_code
def yJ2_checkBoundsBeginEnd_d044e : MethodName := ⟨RJ2, "checkBoundsBeginEnd", "(II[B)V"⟩
def RJ10 : String := "java/lang/System"
def RJ7 : String := "java/util/Arrays"
abbrev cJ7_fill_53178 : ByteArray := prog_18_method_103_code
def yJ7_fill_53178 : MethodName := ⟨RJ7, "fill", "([II)V"⟩
def RJ3 : String := "jdk/internal/util/Preconditions"
abbrev cJ3_checkFromToIndex_8c36e : ByteArray := prog_19_method_12_code
def yJ3_checkFromToIndex_8c36e : MethodName := ⟨RJ3, "checkFromToIndex", "(IIILjava/util/function/BiFunction;)I"⟩
def RL : String := "CartsDownHillLaw"
abbrev cL_law : ByteArray := code
def yL_law : MethodName := ⟨RL, "law", "([I)Z"⟩
abbrev vwCl : List vw_C := [(RX0, TX0, 3), (RX1, TX1, 4), (RX2, TX2, 4), (RX3, TX3, 6), (RX4, TX4, 6), (RX5, TX5, 2), (RX6, TX6, 15), (RX7, TX7, 11), (RX8, TX8, 40)]
end
section
theorem dX0_init_0 : decode cX0_init 0 = .ok (.aload_n 0, 1) := by decide +kernel
theorem dX0_init_1 : decode cX0_init 1 = .ok (.invokespecial 3, 3) := by decide +kernel
theorem dX0_init_4 : decode cX0_init 4 = .ok (.aload_n 0, 1) := by decide +kernel
theorem dX0_init_5 : decode cX0_init 5 = .ok (.iconst (-1), 1) := by decide +kernel
theorem dX0_init_6 : decode cX0_init 6 = .ok (.putfield 9, 3) := by decide +kernel
theorem dX0_init_9 : decode cX0_init 9 = .ok (.aload_n 0, 1) := by decide +kernel
theorem dX0_init_10 : decode cX0_init 10 = .ok (.iconst (-1), 1) := by decide +kernel
theorem dX0_init_11 : decode cX0_init 11 = .ok (.putfield 15, 3) := by decide +kernel
theorem dX0_init_14 : decode cX0_init 14 = .ok (.aload_n 0, 1) := by decide +kernel
theorem dX0_init_15 : decode cX0_init 15 = .ok (.iconst 5, 1) := by decide +kernel
theorem dX0_init_16 : decode cX0_init 16 = .ok (.newarray .int, 2) := by decide +kernel
theorem dX0_init_18 : decode cX0_init 18 = .ok (.putfield 18, 3) := by decide +kernel
theorem dX0_init_21 : decode cX0_init 21 = .ok (.return_, 1) := by decide +kernel
theorem dX0_clear_0 : decode cX0_clear 0 = .ok (.aload_n 0, 1) := by decide +kernel
theorem dX0_clear_1 : decode cX0_clear 1 = .ok (.iconst (-1), 1) := by decide +kernel
theorem dX0_clear_2 : decode cX0_clear 2 = .ok (.putfield 9, 3) := by decide +kernel
theorem dX0_clear_5 : decode cX0_clear 5 = .ok (.aload_n 0, 1) := by decide +kernel
theorem dX0_clear_6 : decode cX0_clear 6 = .ok (.iconst (-1), 1) := by decide +kernel
theorem dX0_clear_7 : decode cX0_clear 7 = .ok (.putfield 15, 3) := by decide +kernel
theorem dX0_clear_10 : decode cX0_clear 10 = .ok (.return_, 1) := by decide +kernel
theorem dX0_offer_0 : decode cX0_offer 0 = .ok (.aload_n 0, 1) := by decide +kernel
theorem dX0_offer_1 : decode cX0_offer 1 = .ok (.getfield 9, 3) := by decide +kernel
theorem dX0_offer_4 : decode cX0_offer 4 = .ok (.iconst (-1), 1) := by decide +kernel
theorem dX0_offer_5 : decode cX0_offer 5 = .ok (.if_icmp .eq 13, 3) := by decide +kernel
theorem dX0_offer_8 : decode cX0_offer 8 = .ok (.aload_n 0, 1) := by decide +kernel
theorem dX0_offer_9 : decode cX0_offer 9 = .ok (.getfield 9, 3) := by decide +kernel
theorem dX0_offer_12 : decode cX0_offer 12 = .ok (.iload_n 1, 1) := by decide +kernel
theorem dX0_offer_13 : decode cX0_offer 13 = .ok (.if_icmp .gt 5, 3) := by decide +kernel
theorem dX0_offer_16 : decode cX0_offer 16 = .ok (.iconst 0, 1) := by decide +kernel
theorem dX0_offer_17 : decode cX0_offer 17 = .ok (.ireturn, 1) := by decide +kernel
theorem dX0_offer_18 : decode cX0_offer 18 = .ok (.aload_n 0, 1) := by decide +kernel
theorem dX0_offer_19 : decode cX0_offer 19 = .ok (.iload_n 1, 1) := by decide +kernel
theorem dX0_offer_20 : decode cX0_offer 20 = .ok (.putfield 9, 3) := by decide +kernel
theorem dX0_offer_23 : decode cX0_offer 23 = .ok (.aload_n 0, 1) := by decide +kernel
theorem dX0_offer_24 : decode cX0_offer 24 = .ok (.iload_n 2, 1) := by decide +kernel
theorem dX0_offer_25 : decode cX0_offer 25 = .ok (.putfield 15, 3) := by decide +kernel
theorem dX0_offer_28 : decode cX0_offer 28 = .ok (.iconst 1, 1) := by decide +kernel
theorem dX0_offer_29 : decode cX0_offer 29 = .ok (.ireturn, 1) := by decide +kernel
theorem dX0_keepRow_0 : decode cX0_keepRow 0 = .ok (.aload_n 1, 1) := by decide +kernel
theorem dX0_keepRow_1 : decode cX0_keepRow 1 = .ok (.iconst 0, 1) := by decide +kernel
theorem dX0_keepRow_2 : decode cX0_keepRow 2 = .ok (.aload_n 0, 1) := by decide +kernel
theorem dX0_keepRow_3 : decode cX0_keepRow 3 = .ok (.getfield 18, 3) := by decide +kernel
theorem dX0_keepRow_6 : decode cX0_keepRow 6 = .ok (.iconst 0, 1) := by decide +kernel
theorem dX0_keepRow_7 : decode cX0_keepRow 7 = .ok (.iconst 5, 1) := by decide +kernel
theorem dX0_keepRow_8 : decode cX0_keepRow 8 = .ok (.invokestatic 22, 3) := by decide +kernel
theorem dX0_keepRow_11 : decode cX0_keepRow 11 = .ok (.return_, 1) := by decide +kernel
theorem dX1_init_0 : decode cX1_init 0 = .ok (.aload_n 0, 1) := by decide +kernel
theorem dX1_init_1 : decode cX1_init 1 = .ok (.invokespecial 3, 3) := by decide +kernel
theorem dX1_init_4 : decode cX1_init 4 = .ok (.aload_n 0, 1) := by decide +kernel
theorem dX1_init_5 : decode cX1_init 5 = .ok (.iconst 5, 1) := by decide +kernel
theorem dX1_init_6 : decode cX1_init 6 = .ok (.newarray .int, 2) := by decide +kernel
theorem dX1_init_8 : decode cX1_init 8 = .ok (.putfield 9, 3) := by decide +kernel
theorem dX1_init_11 : decode cX1_init 11 = .ok (.aload_n 0, 1) := by decide +kernel
theorem dX1_init_12 : decode cX1_init 12 = .ok (.iconst 5, 1) := by decide +kernel
theorem dX1_init_13 : decode cX1_init 13 = .ok (.newarray .int, 2) := by decide +kernel
theorem dX1_init_15 : decode cX1_init 15 = .ok (.putfield 15, 3) := by decide +kernel
theorem dX1_init_18 : decode cX1_init 18 = .ok (.aload_n 0, 1) := by decide +kernel
theorem dX1_init_19 : decode cX1_init 19 = .ok (.iconst 0, 1) := by decide +kernel
theorem dX1_init_20 : decode cX1_init 20 = .ok (.putfield 18, 3) := by decide +kernel
theorem dX1_init_23 : decode cX1_init 23 = .ok (.aload_n 0, 1) := by decide +kernel
theorem dX1_init_24 : decode cX1_init 24 = .ok (.bipush 10, 2) := by decide +kernel
theorem dX1_init_26 : decode cX1_init 26 = .ok (.putfield 22, 3) := by decide +kernel
theorem dX1_init_29 : decode cX1_init 29 = .ok (.return_, 1) := by decide +kernel
theorem dX1_read_0 : decode cX1_read 0 = .ok (.aload_n 0, 1) := by decide +kernel
theorem dX1_read_1 : decode cX1_read 1 = .ok (.bipush 10, 2) := by decide +kernel
theorem dX1_read_3 : decode cX1_read 3 = .ok (.aload_n 1, 1) := by decide +kernel
theorem dX1_read_4 : decode cX1_read 4 = .ok (.iconst 1, 1) := by decide +kernel
theorem dX1_read_5 : decode cX1_read 5 = .ok (.invokevirtual 25, 3) := by decide +kernel
theorem dX1_read_8 : decode cX1_read 8 = .ok (.imul, 1) := by decide +kernel
theorem dX1_read_9 : decode cX1_read 9 = .ok (.aload_n 1, 1) := by decide +kernel
theorem dX1_read_10 : decode cX1_read 10 = .ok (.iconst 2, 1) := by decide +kernel
theorem dX1_read_11 : decode cX1_read 11 = .ok (.invokevirtual 25, 3) := by decide +kernel
theorem dX1_read_14 : decode cX1_read 14 = .ok (.iadd, 1) := by decide +kernel
theorem dX1_read_15 : decode cX1_read 15 = .ok (.putfield 22, 3) := by decide +kernel
theorem dX1_read_18 : decode cX1_read 18 = .ok (.aload_n 0, 1) := by decide +kernel
theorem dX1_read_19 : decode cX1_read 19 = .ok (.iconst 0, 1) := by decide +kernel
theorem dX1_read_20 : decode cX1_read 20 = .ok (.putfield 18, 3) := by decide +kernel
theorem dX1_read_23 : decode cX1_read 23 = .ok (.iconst 3, 1) := by decide +kernel
theorem dX1_read_24 : decode cX1_read 24 = .ok (.istore_n 2, 1) := by decide +kernel
theorem dX1_read_25 : decode cX1_read 25 = .ok (.iload_n 2, 1) := by decide +kernel
theorem dX1_read_26 : decode cX1_read 26 = .ok (.aload_n 1, 1) := by decide +kernel
theorem dX1_read_27 : decode cX1_read 27 = .ok (.getfield 31, 3) := by decide +kernel
theorem dX1_read_30 : decode cX1_read 30 = .ok (.if_icmp .ge 59, 3) := by decide +kernel
theorem dX1_read_33 : decode cX1_read 33 = .ok (.aload_n 0, 1) := by decide +kernel
theorem dX1_read_34 : decode cX1_read 34 = .ok (.getfield 18, 3) := by decide +kernel
theorem dX1_read_37 : decode cX1_read 37 = .ok (.iconst 5, 1) := by decide +kernel
theorem dX1_read_38 : decode cX1_read 38 = .ok (.if_icmp .ge 51, 3) := by decide +kernel
theorem dX1_read_41 : decode cX1_read 41 = .ok (.aload_n 0, 1) := by decide +kernel
theorem dX1_read_42 : decode cX1_read 42 = .ok (.getfield 9, 3) := by decide +kernel
theorem dX1_read_45 : decode cX1_read 45 = .ok (.aload_n 0, 1) := by decide +kernel
theorem dX1_read_46 : decode cX1_read 46 = .ok (.getfield 18, 3) := by decide +kernel
theorem dX1_read_49 : decode cX1_read 49 = .ok (.aload_n 1, 1) := by decide +kernel
theorem dX1_read_50 : decode cX1_read 50 = .ok (.iload_n 2, 1) := by decide +kernel
theorem dX1_read_51 : decode cX1_read 51 = .ok (.iconst 1, 1) := by decide +kernel
theorem dX1_read_52 : decode cX1_read 52 = .ok (.iadd, 1) := by decide +kernel
theorem dX1_read_53 : decode cX1_read 53 = .ok (.invokevirtual 32, 3) := by decide +kernel
theorem dX1_read_56 : decode cX1_read 56 = .ok (.iastore, 1) := by decide +kernel
theorem dX1_read_57 : decode cX1_read 57 = .ok (.aload_n 0, 1) := by decide +kernel
theorem dX1_read_58 : decode cX1_read 58 = .ok (.getfield 15, 3) := by decide +kernel
theorem dX1_read_61 : decode cX1_read 61 = .ok (.aload_n 0, 1) := by decide +kernel
theorem dX1_read_62 : decode cX1_read 62 = .ok (.getfield 18, 3) := by decide +kernel
theorem dX1_read_65 : decode cX1_read 65 = .ok (.aload_n 1, 1) := by decide +kernel
theorem dX1_read_66 : decode cX1_read 66 = .ok (.iload_n 2, 1) := by decide +kernel
theorem dX1_read_67 : decode cX1_read 67 = .ok (.iconst 2, 1) := by decide +kernel
theorem dX1_read_68 : decode cX1_read 68 = .ok (.iadd, 1) := by decide +kernel
theorem dX1_read_69 : decode cX1_read 69 = .ok (.invokevirtual 25, 3) := by decide +kernel
theorem dX1_read_72 : decode cX1_read 72 = .ok (.iastore, 1) := by decide +kernel
theorem dX1_read_73 : decode cX1_read 73 = .ok (.aload_n 0, 1) := by decide +kernel
theorem dX1_read_74 : decode cX1_read 74 = .ok (.dup, 1) := by decide +kernel
theorem dX1_read_75 : decode cX1_read 75 = .ok (.getfield 18, 3) := by decide +kernel
theorem dX1_read_78 : decode cX1_read 78 = .ok (.iconst 1, 1) := by decide +kernel
theorem dX1_read_79 : decode cX1_read 79 = .ok (.iadd, 1) := by decide +kernel
theorem dX1_read_80 : decode cX1_read 80 = .ok (.putfield 18, 3) := by decide +kernel
theorem dX1_read_83 : decode cX1_read 83 = .ok (.iinc 2 3, 3) := by decide +kernel
theorem dX1_read_86 : decode cX1_read 86 = .ok (.goto (-61), 3) := by decide +kernel
theorem dX1_read_89 : decode cX1_read 89 = .ok (.return_, 1) := by decide +kernel
theorem dX2_init_0 : decode cX2_init 0 = .ok (.aload_n 0, 1) := by decide +kernel
theorem dX2_init_1 : decode cX2_init 1 = .ok (.invokespecial 3, 3) := by decide +kernel
theorem dX2_init_4 : decode cX2_init 4 = .ok (.aload_n 0, 1) := by decide +kernel
theorem dX2_init_5 : decode cX2_init 5 = .ok (.bipush 8, 2) := by decide +kernel
theorem dX2_init_7 : decode cX2_init 7 = .ok (.newarray .int, 2) := by decide +kernel
theorem dX2_init_9 : decode cX2_init 9 = .ok (.putfield 9, 3) := by decide +kernel
theorem dX2_init_12 : decode cX2_init 12 = .ok (.aload_n 0, 1) := by decide +kernel
theorem dX2_init_13 : decode cX2_init 13 = .ok (.bipush 8, 2) := by decide +kernel
theorem dX2_init_15 : decode cX2_init 15 = .ok (.newarray .int, 2) := by decide +kernel
theorem dX2_init_17 : decode cX2_init 17 = .ok (.putfield 15, 3) := by decide +kernel
theorem dX2_init_20 : decode cX2_init 20 = .ok (.aload_n 0, 1) := by decide +kernel
theorem dX2_init_21 : decode cX2_init 21 = .ok (.bipush 8, 2) := by decide +kernel
theorem dX2_init_23 : decode cX2_init 23 = .ok (.newarray .int, 2) := by decide +kernel
theorem dX2_init_25 : decode cX2_init 25 = .ok (.putfield 18, 3) := by decide +kernel
theorem dX2_init_28 : decode cX2_init 28 = .ok (.aload_n 0, 1) := by decide +kernel
theorem dX2_init_29 : decode cX2_init 29 = .ok (.iconst 0, 1) := by decide +kernel
theorem dX2_init_30 : decode cX2_init 30 = .ok (.putfield 21, 3) := by decide +kernel
theorem dX2_init_33 : decode cX2_init 33 = .ok (.return_, 1) := by decide +kernel
theorem dX2_put_0 : decode cX2_put 0 = .ok (.aload_n 0, 1) := by decide +kernel
theorem dX2_put_1 : decode cX2_put 1 = .ok (.getfield 21, 3) := by decide +kernel
theorem dX2_put_4 : decode cX2_put 4 = .ok (.bipush 8, 2) := by decide +kernel
theorem dX2_put_6 : decode cX2_put 6 = .ok (.if_icmp .ge 43, 3) := by decide +kernel
theorem dX2_put_9 : decode cX2_put 9 = .ok (.aload_n 0, 1) := by decide +kernel
theorem dX2_put_10 : decode cX2_put 10 = .ok (.getfield 9, 3) := by decide +kernel
theorem dX2_put_13 : decode cX2_put 13 = .ok (.aload_n 0, 1) := by decide +kernel
theorem dX2_put_14 : decode cX2_put 14 = .ok (.getfield 21, 3) := by decide +kernel
theorem dX2_put_17 : decode cX2_put 17 = .ok (.iload_n 1, 1) := by decide +kernel
theorem dX2_put_18 : decode cX2_put 18 = .ok (.iastore, 1) := by decide +kernel
theorem dX2_put_19 : decode cX2_put 19 = .ok (.aload_n 0, 1) := by decide +kernel
theorem dX2_put_20 : decode cX2_put 20 = .ok (.getfield 15, 3) := by decide +kernel
theorem dX2_put_23 : decode cX2_put 23 = .ok (.aload_n 0, 1) := by decide +kernel
theorem dX2_put_24 : decode cX2_put 24 = .ok (.getfield 21, 3) := by decide +kernel
theorem dX2_put_27 : decode cX2_put 27 = .ok (.iload_n 2, 1) := by decide +kernel
theorem dX2_put_28 : decode cX2_put 28 = .ok (.iastore, 1) := by decide +kernel
theorem dX2_put_29 : decode cX2_put 29 = .ok (.aload_n 0, 1) := by decide +kernel
theorem dX2_put_30 : decode cX2_put 30 = .ok (.getfield 18, 3) := by decide +kernel
theorem dX2_put_33 : decode cX2_put 33 = .ok (.aload_n 0, 1) := by decide +kernel
theorem dX2_put_34 : decode cX2_put 34 = .ok (.getfield 21, 3) := by decide +kernel
theorem dX2_put_37 : decode cX2_put 37 = .ok (.iload_n 3, 1) := by decide +kernel
theorem dX2_put_38 : decode cX2_put 38 = .ok (.iastore, 1) := by decide +kernel
theorem dX2_put_39 : decode cX2_put 39 = .ok (.aload_n 0, 1) := by decide +kernel
theorem dX2_put_40 : decode cX2_put 40 = .ok (.dup, 1) := by decide +kernel
theorem dX2_put_41 : decode cX2_put 41 = .ok (.getfield 21, 3) := by decide +kernel
theorem dX2_put_44 : decode cX2_put 44 = .ok (.iconst 1, 1) := by decide +kernel
theorem dX2_put_45 : decode cX2_put 45 = .ok (.iadd, 1) := by decide +kernel
theorem dX2_put_46 : decode cX2_put 46 = .ok (.putfield 21, 3) := by decide +kernel
theorem dX2_put_49 : decode cX2_put 49 = .ok (.return_, 1) := by decide +kernel
theorem dX2_copy_0 : decode cX2_copy 0 = .ok (.aload_n 1, 1) := by decide +kernel
theorem dX2_copy_1 : decode cX2_copy 1 = .ok (.getfield 9, 3) := by decide +kernel
theorem dX2_copy_4 : decode cX2_copy 4 = .ok (.iconst 0, 1) := by decide +kernel
theorem dX2_copy_5 : decode cX2_copy 5 = .ok (.aload_n 0, 1) := by decide +kernel
theorem dX2_copy_6 : decode cX2_copy 6 = .ok (.getfield 9, 3) := by decide +kernel
theorem dX2_copy_9 : decode cX2_copy 9 = .ok (.iconst 0, 1) := by decide +kernel
theorem dX2_copy_10 : decode cX2_copy 10 = .ok (.bipush 8, 2) := by decide +kernel
theorem dX2_copy_12 : decode cX2_copy 12 = .ok (.invokestatic 25, 3) := by decide +kernel
theorem dX2_copy_15 : decode cX2_copy 15 = .ok (.aload_n 1, 1) := by decide +kernel
theorem dX2_copy_16 : decode cX2_copy 16 = .ok (.getfield 15, 3) := by decide +kernel
theorem dX2_copy_19 : decode cX2_copy 19 = .ok (.iconst 0, 1) := by decide +kernel
theorem dX2_copy_20 : decode cX2_copy 20 = .ok (.aload_n 0, 1) := by decide +kernel
theorem dX2_copy_21 : decode cX2_copy 21 = .ok (.getfield 15, 3) := by decide +kernel
theorem dX2_copy_24 : decode cX2_copy 24 = .ok (.iconst 0, 1) := by decide +kernel
theorem dX2_copy_25 : decode cX2_copy 25 = .ok (.bipush 8, 2) := by decide +kernel
theorem dX2_copy_27 : decode cX2_copy 27 = .ok (.invokestatic 25, 3) := by decide +kernel
theorem dX2_copy_30 : decode cX2_copy 30 = .ok (.aload_n 1, 1) := by decide +kernel
theorem dX2_copy_31 : decode cX2_copy 31 = .ok (.getfield 18, 3) := by decide +kernel
theorem dX2_copy_34 : decode cX2_copy 34 = .ok (.iconst 0, 1) := by decide +kernel
theorem dX2_copy_35 : decode cX2_copy 35 = .ok (.aload_n 0, 1) := by decide +kernel
theorem dX2_copy_36 : decode cX2_copy 36 = .ok (.getfield 18, 3) := by decide +kernel
theorem dX2_copy_39 : decode cX2_copy 39 = .ok (.iconst 0, 1) := by decide +kernel
theorem dX2_copy_40 : decode cX2_copy 40 = .ok (.bipush 8, 2) := by decide +kernel
theorem dX2_copy_42 : decode cX2_copy 42 = .ok (.invokestatic 25, 3) := by decide +kernel
theorem dX2_copy_45 : decode cX2_copy 45 = .ok (.aload_n 0, 1) := by decide +kernel
theorem dX2_copy_46 : decode cX2_copy 46 = .ok (.aload_n 1, 1) := by decide +kernel
theorem dX2_copy_47 : decode cX2_copy 47 = .ok (.getfield 21, 3) := by decide +kernel
theorem dX2_copy_50 : decode cX2_copy 50 = .ok (.putfield 21, 3) := by decide +kernel
theorem dX2_copy_53 : decode cX2_copy 53 = .ok (.return_, 1) := by decide +kernel
theorem dX3_init_0 : decode cX3_init 0 = .ok (.aload_n 0, 1) := by decide +kernel
theorem dX3_init_1 : decode cX3_init 1 = .ok (.invokespecial 3, 3) := by decide +kernel
theorem dX3_init_4 : decode cX3_init 4 = .ok (.aload_n 0, 1) := by decide +kernel
theorem dX3_init_5 : decode cX3_init 5 = .ok (.bipush 12, 2) := by decide +kernel
theorem dX3_init_7 : decode cX3_init 7 = .ok (.newarray .int, 2) := by decide +kernel
theorem dX3_init_9 : decode cX3_init 9 = .ok (.putfield 9, 3) := by decide +kernel
theorem dX3_init_12 : decode cX3_init 12 = .ok (.aload_n 0, 1) := by decide +kernel
theorem dX3_init_13 : decode cX3_init 13 = .ok (.bipush 12, 2) := by decide +kernel
theorem dX3_init_15 : decode cX3_init 15 = .ok (.newarray .int, 2) := by decide +kernel
theorem dX3_init_17 : decode cX3_init 17 = .ok (.putfield 15, 3) := by decide +kernel
theorem dX3_init_20 : decode cX3_init 20 = .ok (.aload_n 0, 1) := by decide +kernel
theorem dX3_init_21 : decode cX3_init 21 = .ok (.bipush 12, 2) := by decide +kernel
theorem dX3_init_23 : decode cX3_init 23 = .ok (.newarray .int, 2) := by decide +kernel
theorem dX3_init_25 : decode cX3_init 25 = .ok (.putfield 18, 3) := by decide +kernel
theorem dX3_init_28 : decode cX3_init 28 = .ok (.aload_n 0, 1) := by decide +kernel
theorem dX3_init_29 : decode cX3_init 29 = .ok (.bipush 12, 2) := by decide +kernel
theorem dX3_init_31 : decode cX3_init 31 = .ok (.newarray .int, 2) := by decide +kernel
theorem dX3_init_33 : decode cX3_init 33 = .ok (.putfield 21, 3) := by decide +kernel
theorem dX3_init_36 : decode cX3_init 36 = .ok (.aload_n 0, 1) := by decide +kernel
theorem dX3_init_37 : decode cX3_init 37 = .ok (.iconst 0, 1) := by decide +kernel
theorem dX3_init_38 : decode cX3_init 38 = .ok (.putfield 24, 3) := by decide +kernel
theorem dX3_init_41 : decode cX3_init 41 = .ok (.aload_n 0, 1) := by decide +kernel
theorem dX3_init_42 : decode cX3_init 42 = .ok (.iconst 0, 1) := by decide +kernel
theorem dX3_init_43 : decode cX3_init 43 = .ok (.putfield 28, 3) := by decide +kernel
theorem dX3_init_46 : decode cX3_init 46 = .ok (.return_, 1) := by decide +kernel
theorem dX3_read_0 : decode cX3_read 0 = .ok (.aload_n 0, 1) := by decide +kernel
theorem dX3_read_1 : decode cX3_read 1 = .ok (.getfield 15, 3) := by decide +kernel
theorem dX3_read_4 : decode cX3_read 4 = .ok (.iconst 0, 1) := by decide +kernel
theorem dX3_read_5 : decode cX3_read 5 = .ok (.invokestatic 31, 3) := by decide +kernel
theorem dX3_read_8 : decode cX3_read 8 = .ok (.aload_n 0, 1) := by decide +kernel
theorem dX3_read_9 : decode cX3_read 9 = .ok (.getfield 18, 3) := by decide +kernel
theorem dX3_read_12 : decode cX3_read 12 = .ok (.iconst 0, 1) := by decide +kernel
theorem dX3_read_13 : decode cX3_read 13 = .ok (.invokestatic 31, 3) := by decide +kernel
theorem dX3_read_16 : decode cX3_read 16 = .ok (.aload_n 0, 1) := by decide +kernel
theorem dX3_read_17 : decode cX3_read 17 = .ok (.getfield 21, 3) := by decide +kernel
theorem dX3_read_20 : decode cX3_read 20 = .ok (.iconst 0, 1) := by decide +kernel
theorem dX3_read_21 : decode cX3_read 21 = .ok (.invokestatic 31, 3) := by decide +kernel
theorem dX3_read_24 : decode cX3_read 24 = .ok (.iconst 0, 1) := by decide +kernel
theorem dX3_read_25 : decode cX3_read 25 = .ok (.istore_n 2, 1) := by decide +kernel
theorem dX3_read_26 : decode cX3_read 26 = .ok (.iconst 0, 1) := by decide +kernel
theorem dX3_read_27 : decode cX3_read 27 = .ok (.istore_n 3, 1) := by decide +kernel
theorem dX3_read_28 : decode cX3_read 28 = .ok (.iload_n 3, 1) := by decide +kernel
theorem dX3_read_29 : decode cX3_read 29 = .ok (.aload_n 1, 1) := by decide +kernel
theorem dX3_read_30 : decode cX3_read 30 = .ok (.getfield 37, 3) := by decide +kernel
theorem dX3_read_33 : decode cX3_read 33 = .ok (.if_icmp .ge 92, 3) := by decide +kernel
theorem dX3_read_36 : decode cX3_read 36 = .ok (.iload_n 2, 1) := by decide +kernel
theorem dX3_read_37 : decode cX3_read 37 = .ok (.bipush 12, 2) := by decide +kernel
theorem dX3_read_39 : decode cX3_read 39 = .ok (.if_icmp .ge 86, 3) := by decide +kernel
theorem dX3_read_42 : decode cX3_read 42 = .ok (.aload_n 1, 1) := by decide +kernel
theorem dX3_read_43 : decode cX3_read 43 = .ok (.iload_n 3, 1) := by decide +kernel
theorem dX3_read_44 : decode cX3_read 44 = .ok (.invokevirtual 40, 3) := by decide +kernel
theorem dX3_read_47 : decode cX3_read 47 = .ok (.lookupswitch 65 #[(44, 33), (98, 39), (117, 55)], 33) := by decide +kernel
theorem dX3_read_80 : decode cX3_read 80 = .ok (.iinc 2 1, 3) := by decide +kernel
theorem dX3_read_83 : decode cX3_read 83 = .ok (.goto 36, 3) := by decide +kernel
theorem dX3_read_86 : decode cX3_read 86 = .ok (.aload_n 0, 1) := by decide +kernel
theorem dX3_read_87 : decode cX3_read 87 = .ok (.getfield 15, 3) := by decide +kernel
theorem dX3_read_90 : decode cX3_read 90 = .ok (.iload_n 2, 1) := by decide +kernel
theorem dX3_read_91 : decode cX3_read 91 = .ok (.aload_n 1, 1) := by decide +kernel
theorem dX3_read_92 : decode cX3_read 92 = .ok (.iload_n 3, 1) := by decide +kernel
theorem dX3_read_93 : decode cX3_read 93 = .ok (.iconst 1, 1) := by decide +kernel
theorem dX3_read_94 : decode cX3_read 94 = .ok (.iadd, 1) := by decide +kernel
theorem dX3_read_95 : decode cX3_read 95 = .ok (.invokevirtual 44, 3) := by decide +kernel
theorem dX3_read_98 : decode cX3_read 98 = .ok (.iastore, 1) := by decide +kernel
theorem dX3_read_99 : decode cX3_read 99 = .ok (.goto 20, 3) := by decide +kernel
theorem dX3_read_102 : decode cX3_read 102 = .ok (.aload_n 0, 1) := by decide +kernel
theorem dX3_read_103 : decode cX3_read 103 = .ok (.getfield 18, 3) := by decide +kernel
theorem dX3_read_106 : decode cX3_read 106 = .ok (.iload_n 2, 1) := by decide +kernel
theorem dX3_read_107 : decode cX3_read 107 = .ok (.iconst 1, 1) := by decide +kernel
theorem dX3_read_108 : decode cX3_read 108 = .ok (.iastore, 1) := by decide +kernel
theorem dX3_read_109 : decode cX3_read 109 = .ok (.goto 10, 3) := by decide +kernel
theorem dX3_read_112 : decode cX3_read 112 = .ok (.aload_n 0, 1) := by decide +kernel
theorem dX3_read_113 : decode cX3_read 113 = .ok (.aload_n 1, 1) := by decide +kernel
theorem dX3_read_114 : decode cX3_read 114 = .ok (.iload_n 3, 1) := by decide +kernel
theorem dX3_read_115 : decode cX3_read 115 = .ok (.iload_n 2, 1) := by decide +kernel
theorem dX3_read_116 : decode cX3_read 116 = .ok (.invokevirtual 47, 3) := by decide +kernel
theorem dX3_read_119 : decode cX3_read 119 = .ok (.iinc 3 1, 3) := by decide +kernel
theorem dX3_read_122 : decode cX3_read 122 = .ok (.goto (-94), 3) := by decide +kernel
theorem dX3_read_125 : decode cX3_read 125 = .ok (.aload_n 0, 1) := by decide +kernel
theorem dX3_read_126 : decode cX3_read 126 = .ok (.iload_n 2, 1) := by decide +kernel
theorem dX3_read_127 : decode cX3_read 127 = .ok (.iconst 1, 1) := by decide +kernel
theorem dX3_read_128 : decode cX3_read 128 = .ok (.iadd, 1) := by decide +kernel
theorem dX3_read_129 : decode cX3_read 129 = .ok (.bipush 12, 2) := by decide +kernel
theorem dX3_read_131 : decode cX3_read 131 = .ok (.invokestatic 51, 3) := by decide +kernel
theorem dX3_read_134 : decode cX3_read 134 = .ok (.putfield 24, 3) := by decide +kernel
theorem dX3_read_137 : decode cX3_read 137 = .ok (.aload_n 0, 1) := by decide +kernel
theorem dX3_read_138 : decode cX3_read 138 = .ok (.dup, 1) := by decide +kernel
theorem dX3_read_139 : decode cX3_read 139 = .ok (.getfield 28, 3) := by decide +kernel
theorem dX3_read_142 : decode cX3_read 142 = .ok (.iconst 1, 1) := by decide +kernel
theorem dX3_read_143 : decode cX3_read 143 = .ok (.iadd, 1) := by decide +kernel
theorem dX3_read_144 : decode cX3_read 144 = .ok (.putfield 28, 3) := by decide +kernel
theorem dX3_read_147 : decode cX3_read 147 = .ok (.return_, 1) := by decide +kernel
theorem dX3_readDrop_0 : decode cX3_readDrop 0 = .ok (.aload_n 1, 1) := by decide +kernel
theorem dX3_readDrop_1 : decode cX3_readDrop 1 = .ok (.iload_n 2, 1) := by decide +kernel
theorem dX3_readDrop_2 : decode cX3_readDrop 2 = .ok (.iconst 1, 1) := by decide +kernel
theorem dX3_readDrop_3 : decode cX3_readDrop 3 = .ok (.isub, 1) := by decide +kernel
theorem dX3_readDrop_4 : decode cX3_readDrop 4 = .ok (.invokevirtual 40, 3) := by decide +kernel
theorem dX3_readDrop_7 : decode cX3_readDrop 7 = .ok (.bipush 98, 2) := by decide +kernel
theorem dX3_readDrop_9 : decode cX3_readDrop 9 = .ok (.if_icmp .eq 14, 3) := by decide +kernel
theorem dX3_readDrop_12 : decode cX3_readDrop 12 = .ok (.aload_n 0, 1) := by decide +kernel
theorem dX3_readDrop_13 : decode cX3_readDrop 13 = .ok (.getfield 9, 3) := by decide +kernel
theorem dX3_readDrop_16 : decode cX3_readDrop 16 = .ok (.iload_n 3, 1) := by decide +kernel
theorem dX3_readDrop_17 : decode cX3_readDrop 17 = .ok (.aload_n 1, 1) := by decide +kernel
theorem dX3_readDrop_18 : decode cX3_readDrop 18 = .ok (.iload_n 2, 1) := by decide +kernel
theorem dX3_readDrop_19 : decode cX3_readDrop 19 = .ok (.invokevirtual 44, 3) := by decide +kernel
theorem dX3_readDrop_22 : decode cX3_readDrop 22 = .ok (.iastore, 1) := by decide +kernel
theorem dX3_readDrop_23 : decode cX3_readDrop 23 = .ok (.return_, 1) := by decide +kernel
theorem dX3_bends_0 : decode cX3_bends 0 = .ok (.iconst 0, 1) := by decide +kernel
theorem dX3_bends_1 : decode cX3_bends 1 = .ok (.istore_n 1, 1) := by decide +kernel
theorem dX3_bends_2 : decode cX3_bends 2 = .ok (.iconst 0, 1) := by decide +kernel
theorem dX3_bends_3 : decode cX3_bends 3 = .ok (.istore_n 2, 1) := by decide +kernel
theorem dX3_bends_4 : decode cX3_bends 4 = .ok (.iload_n 2, 1) := by decide +kernel
theorem dX3_bends_5 : decode cX3_bends 5 = .ok (.aload_n 0, 1) := by decide +kernel
theorem dX3_bends_6 : decode cX3_bends 6 = .ok (.getfield 24, 3) := by decide +kernel
theorem dX3_bends_9 : decode cX3_bends 9 = .ok (.if_icmp .ge 21, 3) := by decide +kernel
theorem dX3_bends_12 : decode cX3_bends 12 = .ok (.aload_n 0, 1) := by decide +kernel
theorem dX3_bends_13 : decode cX3_bends 13 = .ok (.getfield 15, 3) := by decide +kernel
theorem dX3_bends_16 : decode cX3_bends 16 = .ok (.iload_n 2, 1) := by decide +kernel
theorem dX3_bends_17 : decode cX3_bends 17 = .ok (.iaload, 1) := by decide +kernel
theorem dX3_bends_18 : decode cX3_bends 18 = .ok (.ifCond .le 6, 3) := by decide +kernel
theorem dX3_bends_21 : decode cX3_bends 21 = .ok (.iinc 1 1, 3) := by decide +kernel
theorem dX3_bends_24 : decode cX3_bends 24 = .ok (.iinc 2 1, 3) := by decide +kernel
theorem dX3_bends_27 : decode cX3_bends 27 = .ok (.goto (-23), 3) := by decide +kernel
theorem dX3_bends_30 : decode cX3_bends 30 = .ok (.iload_n 1, 1) := by decide +kernel
theorem dX3_bends_31 : decode cX3_bends 31 = .ok (.ireturn, 1) := by decide +kernel
theorem dX3_bendAt_0 : decode cX3_bendAt 0 = .ok (.iconst 0, 1) := by decide +kernel
theorem dX3_bendAt_1 : decode cX3_bendAt 1 = .ok (.istore_n 2, 1) := by decide +kernel
theorem dX3_bendAt_2 : decode cX3_bendAt 2 = .ok (.iconst 0, 1) := by decide +kernel
theorem dX3_bendAt_3 : decode cX3_bendAt 3 = .ok (.istore_n 3, 1) := by decide +kernel
theorem dX3_bendAt_4 : decode cX3_bendAt 4 = .ok (.iload_n 3, 1) := by decide +kernel
theorem dX3_bendAt_5 : decode cX3_bendAt 5 = .ok (.aload_n 0, 1) := by decide +kernel
theorem dX3_bendAt_6 : decode cX3_bendAt 6 = .ok (.getfield 24, 3) := by decide +kernel
theorem dX3_bendAt_9 : decode cX3_bendAt 9 = .ok (.if_icmp .ge 28, 3) := by decide +kernel
theorem dX3_bendAt_12 : decode cX3_bendAt 12 = .ok (.aload_n 0, 1) := by decide +kernel
theorem dX3_bendAt_13 : decode cX3_bendAt 13 = .ok (.getfield 15, 3) := by decide +kernel
theorem dX3_bendAt_16 : decode cX3_bendAt 16 = .ok (.iload_n 3, 1) := by decide +kernel
theorem dX3_bendAt_17 : decode cX3_bendAt 17 = .ok (.iaload, 1) := by decide +kernel
theorem dX3_bendAt_18 : decode cX3_bendAt 18 = .ok (.ifCond .le 13, 3) := by decide +kernel
theorem dX3_bendAt_21 : decode cX3_bendAt 21 = .ok (.iload_n 2, 1) := by decide +kernel
theorem dX3_bendAt_22 : decode cX3_bendAt 22 = .ok (.iload_n 1, 1) := by decide +kernel
theorem dX3_bendAt_23 : decode cX3_bendAt 23 = .ok (.if_icmp .ne 5, 3) := by decide +kernel
theorem dX3_bendAt_26 : decode cX3_bendAt 26 = .ok (.iload_n 3, 1) := by decide +kernel
theorem dX3_bendAt_27 : decode cX3_bendAt 27 = .ok (.ireturn, 1) := by decide +kernel
theorem dX3_bendAt_28 : decode cX3_bendAt 28 = .ok (.iinc 2 1, 3) := by decide +kernel
theorem dX3_bendAt_31 : decode cX3_bendAt 31 = .ok (.iinc 3 1, 3) := by decide +kernel
theorem dX3_bendAt_34 : decode cX3_bendAt 34 = .ok (.goto (-30), 3) := by decide +kernel
theorem dX3_bendAt_37 : decode cX3_bendAt 37 = .ok (.iconst (-1), 1) := by decide +kernel
theorem dX3_bendAt_38 : decode cX3_bendAt 38 = .ok (.ireturn, 1) := by decide +kernel
theorem dX4_init_0 : decode cX4_init 0 = .ok (.aload_n 0, 1) := by decide +kernel
theorem dX4_init_1 : decode cX4_init 1 = .ok (.invokespecial 3, 3) := by decide +kernel
theorem dX4_init_4 : decode cX4_init 4 = .ok (.aload_n 0, 1) := by decide +kernel
theorem dX4_init_5 : decode cX4_init 5 = .ok (.bipush 8, 2) := by decide +kernel
theorem dX4_init_7 : decode cX4_init 7 = .ok (.newarray .int, 2) := by decide +kernel
theorem dX4_init_9 : decode cX4_init 9 = .ok (.putfield 9, 3) := by decide +kernel
theorem dX4_init_12 : decode cX4_init 12 = .ok (.aload_n 0, 1) := by decide +kernel
theorem dX4_init_13 : decode cX4_init 13 = .ok (.bipush 12, 2) := by decide +kernel
theorem dX4_init_15 : decode cX4_init 15 = .ok (.newarray .int, 2) := by decide +kernel
theorem dX4_init_17 : decode cX4_init 17 = .ok (.putfield 15, 3) := by decide +kernel
theorem dX4_init_20 : decode cX4_init 20 = .ok (.aload_n 0, 1) := by decide +kernel
theorem dX4_init_21 : decode cX4_init 21 = .ok (.new 18, 3) := by decide +kernel
theorem dX4_init_24 : decode cX4_init 24 = .ok (.dup, 1) := by decide +kernel
theorem dX4_init_25 : decode cX4_init 25 = .ok (.invokespecial 20, 3) := by decide +kernel
theorem dX4_init_28 : decode cX4_init 28 = .ok (.putfield 21, 3) := by decide +kernel
theorem dX4_init_31 : decode cX4_init 31 = .ok (.aload_n 0, 1) := by decide +kernel
theorem dX4_init_32 : decode cX4_init 32 = .ok (.iconst 0, 1) := by decide +kernel
theorem dX4_init_33 : decode cX4_init 33 = .ok (.putfield 25, 3) := by decide +kernel
theorem dX4_init_36 : decode cX4_init 36 = .ok (.aload_n 0, 1) := by decide +kernel
theorem dX4_init_37 : decode cX4_init 37 = .ok (.iconst 0, 1) := by decide +kernel
theorem dX4_init_38 : decode cX4_init 38 = .ok (.putfield 29, 3) := by decide +kernel
theorem dX4_init_41 : decode cX4_init 41 = .ok (.aload_n 0, 1) := by decide +kernel
theorem dX4_init_42 : decode cX4_init 42 = .ok (.iconst 0, 1) := by decide +kernel
theorem dX4_init_43 : decode cX4_init 43 = .ok (.putfield 32, 3) := by decide +kernel
theorem dX4_init_46 : decode cX4_init 46 = .ok (.return_, 1) := by decide +kernel
theorem dX5_init_0 : decode cX5_init 0 = .ok (.aload_n 0, 1) := by decide +kernel
theorem dX5_init_1 : decode cX5_init 1 = .ok (.invokespecial 3, 3) := by decide +kernel
theorem dX5_init_4 : decode cX5_init 4 = .ok (.aload_n 0, 1) := by decide +kernel
theorem dX5_init_5 : decode cX5_init 5 = .ok (.bipush 50, 2) := by decide +kernel
theorem dX5_init_7 : decode cX5_init 7 = .ok (.newarray .int, 2) := by decide +kernel
theorem dX5_init_9 : decode cX5_init 9 = .ok (.putfield 9, 3) := by decide +kernel
theorem dX5_init_12 : decode cX5_init 12 = .ok (.aload_n 0, 1) := by decide +kernel
theorem dX5_init_13 : decode cX5_init 13 = .ok (.iconst 0, 1) := by decide +kernel
theorem dX5_init_14 : decode cX5_init 14 = .ok (.putfield 15, 3) := by decide +kernel
theorem dX5_init_17 : decode cX5_init 17 = .ok (.return_, 1) := by decide +kernel
theorem dX5_put_0 : decode cX5_put 0 = .ok (.aload_n 0, 1) := by decide +kernel
theorem dX5_put_1 : decode cX5_put 1 = .ok (.getfield 15, 3) := by decide +kernel
theorem dX5_put_4 : decode cX5_put 4 = .ok (.bipush 50, 2) := by decide +kernel
theorem dX5_put_6 : decode cX5_put 6 = .ok (.if_icmp .ge 23, 3) := by decide +kernel
theorem dX5_put_9 : decode cX5_put 9 = .ok (.aload_n 0, 1) := by decide +kernel
theorem dX5_put_10 : decode cX5_put 10 = .ok (.getfield 9, 3) := by decide +kernel
theorem dX5_put_13 : decode cX5_put 13 = .ok (.aload_n 0, 1) := by decide +kernel
theorem dX5_put_14 : decode cX5_put 14 = .ok (.getfield 15, 3) := by decide +kernel
theorem dX5_put_17 : decode cX5_put 17 = .ok (.iload_n 1, 1) := by decide +kernel
theorem dX5_put_18 : decode cX5_put 18 = .ok (.iastore, 1) := by decide +kernel
theorem dX5_put_19 : decode cX5_put 19 = .ok (.aload_n 0, 1) := by decide +kernel
theorem dX5_put_20 : decode cX5_put 20 = .ok (.dup, 1) := by decide +kernel
theorem dX5_put_21 : decode cX5_put 21 = .ok (.getfield 15, 3) := by decide +kernel
theorem dX5_put_24 : decode cX5_put 24 = .ok (.iconst 1, 1) := by decide +kernel
theorem dX5_put_25 : decode cX5_put 25 = .ok (.iadd, 1) := by decide +kernel
theorem dX5_put_26 : decode cX5_put 26 = .ok (.putfield 15, 3) := by decide +kernel
theorem dX5_put_29 : decode cX5_put 29 = .ok (.return_, 1) := by decide +kernel
theorem dX5_at_0 : decode cX5_at 0 = .ok (.iload_n 1, 1) := by decide +kernel
theorem dX5_at_1 : decode cX5_at 1 = .ok (.ifCond .lt 20, 3) := by decide +kernel
theorem dX5_at_4 : decode cX5_at 4 = .ok (.iload_n 1, 1) := by decide +kernel
theorem dX5_at_5 : decode cX5_at 5 = .ok (.aload_n 0, 1) := by decide +kernel
theorem dX5_at_6 : decode cX5_at 6 = .ok (.getfield 15, 3) := by decide +kernel
theorem dX5_at_9 : decode cX5_at 9 = .ok (.if_icmp .ge 12, 3) := by decide +kernel
theorem dX5_at_12 : decode cX5_at 12 = .ok (.aload_n 0, 1) := by decide +kernel
theorem dX5_at_13 : decode cX5_at 13 = .ok (.getfield 9, 3) := by decide +kernel
theorem dX5_at_16 : decode cX5_at 16 = .ok (.iload_n 1, 1) := by decide +kernel
theorem dX5_at_17 : decode cX5_at 17 = .ok (.iaload, 1) := by decide +kernel
theorem dX5_at_18 : decode cX5_at 18 = .ok (.goto 4, 3) := by decide +kernel
theorem dX5_at_21 : decode cX5_at 21 = .ok (.iconst 0, 1) := by decide +kernel
theorem dX5_at_22 : decode cX5_at 22 = .ok (.ireturn, 1) := by decide +kernel
theorem dX5_digitAt_0 : decode cX5_digitAt 0 = .ok (.aload_n 0, 1) := by decide +kernel
theorem dX5_digitAt_1 : decode cX5_digitAt 1 = .ok (.iload_n 1, 1) := by decide +kernel
theorem dX5_digitAt_2 : decode cX5_digitAt 2 = .ok (.invokevirtual 19, 3) := by decide +kernel
theorem dX5_digitAt_5 : decode cX5_digitAt 5 = .ok (.bipush 48, 2) := by decide +kernel
theorem dX5_digitAt_7 : decode cX5_digitAt 7 = .ok (.isub, 1) := by decide +kernel
theorem dX5_digitAt_8 : decode cX5_digitAt 8 = .ok (.ireturn, 1) := by decide +kernel
theorem dX5_isDigit_0 : decode cX5_isDigit 0 = .ok (.aload_n 0, 1) := by decide +kernel
theorem dX5_isDigit_1 : decode cX5_isDigit 1 = .ok (.iload_n 1, 1) := by decide +kernel
theorem dX5_isDigit_2 : decode cX5_isDigit 2 = .ok (.invokevirtual 23, 3) := by decide +kernel
theorem dX5_isDigit_5 : decode cX5_isDigit 5 = .ok (.iload_n 2, 1) := by decide +kernel
theorem dX5_isDigit_6 : decode cX5_isDigit 6 = .ok (.if_icmp .lt 17, 3) := by decide +kernel
theorem dX5_isDigit_9 : decode cX5_isDigit 9 = .ok (.aload_n 0, 1) := by decide +kernel
theorem dX5_isDigit_10 : decode cX5_isDigit 10 = .ok (.iload_n 1, 1) := by decide +kernel
theorem dX5_isDigit_11 : decode cX5_isDigit 11 = .ok (.invokevirtual 23, 3) := by decide +kernel
theorem dX5_isDigit_14 : decode cX5_isDigit 14 = .ok (.bipush 9, 2) := by decide +kernel
theorem dX5_isDigit_16 : decode cX5_isDigit 16 = .ok (.if_icmp .gt 7, 3) := by decide +kernel
theorem dX5_isDigit_19 : decode cX5_isDigit 19 = .ok (.iconst 1, 1) := by decide +kernel
theorem dX5_isDigit_20 : decode cX5_isDigit 20 = .ok (.goto 4, 3) := by decide +kernel
theorem dX5_isDigit_23 : decode cX5_isDigit 23 = .ok (.iconst 0, 1) := by decide +kernel
theorem dX5_isDigit_24 : decode cX5_isDigit 24 = .ok (.ireturn, 1) := by decide +kernel
theorem dX5_hillFault_0 : decode cX5_hillFault 0 = .ok (.iconst 1, 1) := by decide +kernel
theorem dX5_hillFault_1 : decode cX5_hillFault 1 = .ok (.istore_n 1, 1) := by decide +kernel
theorem dX5_hillFault_2 : decode cX5_hillFault 2 = .ok (.iconst 0, 1) := by decide +kernel
theorem dX5_hillFault_3 : decode cX5_hillFault 3 = .ok (.istore_n 2, 1) := by decide +kernel
theorem dX5_hillFault_4 : decode cX5_hillFault 4 = .ok (.iload_n 2, 1) := by decide +kernel
theorem dX5_hillFault_5 : decode cX5_hillFault 5 = .ok (.aload_n 0, 1) := by decide +kernel
theorem dX5_hillFault_6 : decode cX5_hillFault 6 = .ok (.getfield 15, 3) := by decide +kernel
theorem dX5_hillFault_9 : decode cX5_hillFault 9 = .ok (.if_icmp .ge 43, 3) := by decide +kernel
theorem dX5_hillFault_12 : decode cX5_hillFault 12 = .ok (.aload_n 0, 1) := by decide +kernel
theorem dX5_hillFault_13 : decode cX5_hillFault 13 = .ok (.iload_n 2, 1) := by decide +kernel
theorem dX5_hillFault_14 : decode cX5_hillFault 14 = .ok (.iload_n 1, 1) := by decide +kernel
theorem dX5_hillFault_15 : decode cX5_hillFault 15 = .ok (.bipush 12, 2) := by decide +kernel
theorem dX5_hillFault_17 : decode cX5_hillFault 17 = .ok (.if_icmp .ge 7, 3) := by decide +kernel
theorem dX5_hillFault_20 : decode cX5_hillFault 20 = .ok (.iconst 1, 1) := by decide +kernel
theorem dX5_hillFault_21 : decode cX5_hillFault 21 = .ok (.goto 4, 3) := by decide +kernel
theorem dX5_hillFault_24 : decode cX5_hillFault 24 = .ok (.iconst 0, 1) := by decide +kernel
theorem dX5_hillFault_25 : decode cX5_hillFault 25 = .ok (.invokevirtual 26, 3) := by decide +kernel
theorem dX5_hillFault_28 : decode cX5_hillFault 28 = .ok (.ifCond .ne 5, 3) := by decide +kernel
theorem dX5_hillFault_31 : decode cX5_hillFault 31 = .ok (.iload_n 2, 1) := by decide +kernel
theorem dX5_hillFault_32 : decode cX5_hillFault 32 = .ok (.ireturn, 1) := by decide +kernel
theorem dX5_hillFault_33 : decode cX5_hillFault 33 = .ok (.aload_n 0, 1) := by decide +kernel
theorem dX5_hillFault_34 : decode cX5_hillFault 34 = .ok (.iload_n 2, 1) := by decide +kernel
theorem dX5_hillFault_35 : decode cX5_hillFault 35 = .ok (.invokevirtual 19, 3) := by decide +kernel
theorem dX5_hillFault_38 : decode cX5_hillFault 38 = .ok (.bipush 44, 2) := by decide +kernel
theorem dX5_hillFault_40 : decode cX5_hillFault 40 = .ok (.if_icmp .ne 6, 3) := by decide +kernel
theorem dX5_hillFault_43 : decode cX5_hillFault 43 = .ok (.iinc 1 1, 3) := by decide +kernel
theorem dX5_hillFault_46 : decode cX5_hillFault 46 = .ok (.iinc 2 1, 3) := by decide +kernel
theorem dX5_hillFault_49 : decode cX5_hillFault 49 = .ok (.goto (-45), 3) := by decide +kernel
theorem dX5_hillFault_52 : decode cX5_hillFault 52 = .ok (.aload_n 0, 1) := by decide +kernel
theorem dX5_hillFault_53 : decode cX5_hillFault 53 = .ok (.getfield 15, 3) := by decide +kernel
theorem dX5_hillFault_56 : decode cX5_hillFault 56 = .ok (.ireturn, 1) := by decide +kernel
theorem dX5_fitsHill_0 : decode cX5_fitsHill 0 = .ok (.aload_n 0, 1) := by decide +kernel
theorem dX5_fitsHill_1 : decode cX5_fitsHill 1 = .ok (.iload_n 1, 1) := by decide +kernel
theorem dX5_fitsHill_2 : decode cX5_fitsHill 2 = .ok (.iconst 1, 1) := by decide +kernel
theorem dX5_fitsHill_3 : decode cX5_fitsHill 3 = .ok (.isub, 1) := by decide +kernel
theorem dX5_fitsHill_4 : decode cX5_fitsHill 4 = .ok (.invokevirtual 19, 3) := by decide +kernel
theorem dX5_fitsHill_7 : decode cX5_fitsHill 7 = .ok (.istore_n 3, 1) := by decide +kernel
theorem dX5_fitsHill_8 : decode cX5_fitsHill 8 = .ok (.iload_n 3, 1) := by decide +kernel
theorem dX5_fitsHill_9 : decode cX5_fitsHill 9 = .ok (.ifCond .eq 9, 3) := by decide +kernel
theorem dX5_fitsHill_12 : decode cX5_fitsHill 12 = .ok (.iload_n 3, 1) := by decide +kernel
theorem dX5_fitsHill_13 : decode cX5_fitsHill 13 = .ok (.bipush 44, 2) := by decide +kernel
theorem dX5_fitsHill_15 : decode cX5_fitsHill 15 = .ok (.if_icmp .ne 10, 3) := by decide +kernel
theorem dX5_fitsHill_18 : decode cX5_fitsHill 18 = .ok (.aload_n 0, 1) := by decide +kernel
theorem dX5_fitsHill_19 : decode cX5_fitsHill 19 = .ok (.iload_n 1, 1) := by decide +kernel
theorem dX5_fitsHill_20 : decode cX5_fitsHill 20 = .ok (.iconst 0, 1) := by decide +kernel
theorem dX5_fitsHill_21 : decode cX5_fitsHill 21 = .ok (.invokevirtual 30, 3) := by decide +kernel
theorem dX5_fitsHill_24 : decode cX5_fitsHill 24 = .ok (.ireturn, 1) := by decide +kernel
theorem dX5_fitsHill_25 : decode cX5_fitsHill 25 = .ok (.iload_n 3, 1) := by decide +kernel
theorem dX5_fitsHill_26 : decode cX5_fitsHill 26 = .ok (.bipush 98, 2) := by decide +kernel
theorem dX5_fitsHill_28 : decode cX5_fitsHill 28 = .ok (.if_icmp .ne 10, 3) := by decide +kernel
theorem dX5_fitsHill_31 : decode cX5_fitsHill 31 = .ok (.aload_n 0, 1) := by decide +kernel
theorem dX5_fitsHill_32 : decode cX5_fitsHill 32 = .ok (.iload_n 1, 1) := by decide +kernel
theorem dX5_fitsHill_33 : decode cX5_fitsHill 33 = .ok (.iconst 1, 1) := by decide +kernel
theorem dX5_fitsHill_34 : decode cX5_fitsHill 34 = .ok (.invokevirtual 30, 3) := by decide +kernel
theorem dX5_fitsHill_37 : decode cX5_fitsHill 37 = .ok (.ireturn, 1) := by decide +kernel
theorem dX5_fitsHill_38 : decode cX5_fitsHill 38 = .ok (.aload_n 0, 1) := by decide +kernel
theorem dX5_fitsHill_39 : decode cX5_fitsHill 39 = .ok (.iload_n 1, 1) := by decide +kernel
theorem dX5_fitsHill_40 : decode cX5_fitsHill 40 = .ok (.invokevirtual 19, 3) := by decide +kernel
theorem dX5_fitsHill_43 : decode cX5_fitsHill 43 = .ok (.bipush 44, 2) := by decide +kernel
theorem dX5_fitsHill_45 : decode cX5_fitsHill 45 = .ok (.if_icmp .ne 5, 3) := by decide +kernel
theorem dX5_fitsHill_48 : decode cX5_fitsHill 48 = .ok (.iload_n 2, 1) := by decide +kernel
theorem dX5_fitsHill_49 : decode cX5_fitsHill 49 = .ok (.ireturn, 1) := by decide +kernel
theorem dX5_fitsHill_50 : decode cX5_fitsHill 50 = .ok (.iload_n 3, 1) := by decide +kernel
theorem dX5_fitsHill_51 : decode cX5_fitsHill 51 = .ok (.bipush 117, 2) := by decide +kernel
theorem dX5_fitsHill_53 : decode cX5_fitsHill 53 = .ok (.if_icmp .eq 19, 3) := by decide +kernel
theorem dX5_fitsHill_56 : decode cX5_fitsHill 56 = .ok (.aload_n 0, 1) := by decide +kernel
theorem dX5_fitsHill_57 : decode cX5_fitsHill 57 = .ok (.iload_n 1, 1) := by decide +kernel
theorem dX5_fitsHill_58 : decode cX5_fitsHill 58 = .ok (.iconst 2, 1) := by decide +kernel
theorem dX5_fitsHill_59 : decode cX5_fitsHill 59 = .ok (.isub, 1) := by decide +kernel
theorem dX5_fitsHill_60 : decode cX5_fitsHill 60 = .ok (.invokevirtual 19, 3) := by decide +kernel
theorem dX5_fitsHill_63 : decode cX5_fitsHill 63 = .ok (.bipush 98, 2) := by decide +kernel
theorem dX5_fitsHill_65 : decode cX5_fitsHill 65 = .ok (.if_icmp .eq 7, 3) := by decide +kernel
theorem dX5_fitsHill_68 : decode cX5_fitsHill 68 = .ok (.iconst 1, 1) := by decide +kernel
theorem dX5_fitsHill_69 : decode cX5_fitsHill 69 = .ok (.goto 4, 3) := by decide +kernel
theorem dX5_fitsHill_72 : decode cX5_fitsHill 72 = .ok (.iconst 0, 1) := by decide +kernel
theorem dX5_fitsHill_73 : decode cX5_fitsHill 73 = .ok (.istore 4, 2) := by decide +kernel
theorem dX5_fitsHill_75 : decode cX5_fitsHill 75 = .ok (.iload 4, 2) := by decide +kernel
theorem dX5_fitsHill_77 : decode cX5_fitsHill 77 = .ok (.ifCond .eq 27, 3) := by decide +kernel
theorem dX5_fitsHill_80 : decode cX5_fitsHill 80 = .ok (.aload_n 0, 1) := by decide +kernel
theorem dX5_fitsHill_81 : decode cX5_fitsHill 81 = .ok (.iload_n 1, 1) := by decide +kernel
theorem dX5_fitsHill_82 : decode cX5_fitsHill 82 = .ok (.invokevirtual 19, 3) := by decide +kernel
theorem dX5_fitsHill_85 : decode cX5_fitsHill 85 = .ok (.bipush 98, 2) := by decide +kernel
theorem dX5_fitsHill_87 : decode cX5_fitsHill 87 = .ok (.if_icmp .eq 13, 3) := by decide +kernel
theorem dX5_fitsHill_90 : decode cX5_fitsHill 90 = .ok (.aload_n 0, 1) := by decide +kernel
theorem dX5_fitsHill_91 : decode cX5_fitsHill 91 = .ok (.iload_n 1, 1) := by decide +kernel
theorem dX5_fitsHill_92 : decode cX5_fitsHill 92 = .ok (.invokevirtual 19, 3) := by decide +kernel
theorem dX5_fitsHill_95 : decode cX5_fitsHill 95 = .ok (.bipush 117, 2) := by decide +kernel
theorem dX5_fitsHill_97 : decode cX5_fitsHill 97 = .ok (.if_icmp .ne 7, 3) := by decide +kernel
theorem dX5_fitsHill_100 : decode cX5_fitsHill 100 = .ok (.iconst 1, 1) := by decide +kernel
theorem dX5_fitsHill_101 : decode cX5_fitsHill 101 = .ok (.goto 4, 3) := by decide +kernel
theorem dX5_fitsHill_104 : decode cX5_fitsHill 104 = .ok (.iconst 0, 1) := by decide +kernel
theorem dX5_fitsHill_105 : decode cX5_fitsHill 105 = .ok (.ireturn, 1) := by decide +kernel
theorem dX5_isHill_0 : decode cX5_isHill 0 = .ok (.aload_n 0, 1) := by decide +kernel
theorem dX5_isHill_1 : decode cX5_isHill 1 = .ok (.aload_n 0, 1) := by decide +kernel
theorem dX5_isHill_2 : decode cX5_isHill 2 = .ok (.getfield 15, 3) := by decide +kernel
theorem dX5_isHill_5 : decode cX5_isHill 5 = .ok (.iconst 1, 1) := by decide +kernel
theorem dX5_isHill_6 : decode cX5_isHill 6 = .ok (.isub, 1) := by decide +kernel
theorem dX5_isHill_7 : decode cX5_isHill 7 = .ok (.invokevirtual 19, 3) := by decide +kernel
theorem dX5_isHill_10 : decode cX5_isHill 10 = .ok (.istore_n 1, 1) := by decide +kernel
theorem dX5_isHill_11 : decode cX5_isHill 11 = .ok (.aload_n 0, 1) := by decide +kernel
theorem dX5_isHill_12 : decode cX5_isHill 12 = .ok (.invokevirtual 34, 3) := by decide +kernel
theorem dX5_isHill_15 : decode cX5_isHill 15 = .ok (.aload_n 0, 1) := by decide +kernel
theorem dX5_isHill_16 : decode cX5_isHill 16 = .ok (.getfield 15, 3) := by decide +kernel
theorem dX5_isHill_19 : decode cX5_isHill 19 = .ok (.if_icmp .ne 26, 3) := by decide +kernel
theorem dX5_isHill_22 : decode cX5_isHill 22 = .ok (.iload_n 1, 1) := by decide +kernel
theorem dX5_isHill_23 : decode cX5_isHill 23 = .ok (.bipush 44, 2) := by decide +kernel
theorem dX5_isHill_25 : decode cX5_isHill 25 = .ok (.if_icmp .eq 20, 3) := by decide +kernel
theorem dX5_isHill_28 : decode cX5_isHill 28 = .ok (.iload_n 1, 1) := by decide +kernel
theorem dX5_isHill_29 : decode cX5_isHill 29 = .ok (.bipush 98, 2) := by decide +kernel
theorem dX5_isHill_31 : decode cX5_isHill 31 = .ok (.if_icmp .eq 14, 3) := by decide +kernel
theorem dX5_isHill_34 : decode cX5_isHill 34 = .ok (.aload_n 0, 1) := by decide +kernel
theorem dX5_isHill_35 : decode cX5_isHill 35 = .ok (.invokevirtual 38, 3) := by decide +kernel
theorem dX5_isHill_38 : decode cX5_isHill 38 = .ok (.ifCond .le 7, 3) := by decide +kernel
theorem dX5_isHill_41 : decode cX5_isHill 41 = .ok (.iconst 1, 1) := by decide +kernel
theorem dX5_isHill_42 : decode cX5_isHill 42 = .ok (.goto 4, 3) := by decide +kernel
theorem dX5_isHill_45 : decode cX5_isHill 45 = .ok (.iconst 0, 1) := by decide +kernel
theorem dX5_isHill_46 : decode cX5_isHill 46 = .ok (.ireturn, 1) := by decide +kernel
theorem dX5_commas_0 : decode cX5_commas 0 = .ok (.iconst 0, 1) := by decide +kernel
theorem dX5_commas_1 : decode cX5_commas 1 = .ok (.istore_n 1, 1) := by decide +kernel
theorem dX5_commas_2 : decode cX5_commas 2 = .ok (.iconst 0, 1) := by decide +kernel
theorem dX5_commas_3 : decode cX5_commas 3 = .ok (.istore_n 2, 1) := by decide +kernel
theorem dX5_commas_4 : decode cX5_commas 4 = .ok (.iload_n 2, 1) := by decide +kernel
theorem dX5_commas_5 : decode cX5_commas 5 = .ok (.aload_n 0, 1) := by decide +kernel
theorem dX5_commas_6 : decode cX5_commas 6 = .ok (.getfield 15, 3) := by decide +kernel
theorem dX5_commas_9 : decode cX5_commas 9 = .ok (.if_icmp .ge 22, 3) := by decide +kernel
theorem dX5_commas_12 : decode cX5_commas 12 = .ok (.aload_n 0, 1) := by decide +kernel
theorem dX5_commas_13 : decode cX5_commas 13 = .ok (.iload_n 2, 1) := by decide +kernel
theorem dX5_commas_14 : decode cX5_commas 14 = .ok (.invokevirtual 19, 3) := by decide +kernel
theorem dX5_commas_17 : decode cX5_commas 17 = .ok (.bipush 44, 2) := by decide +kernel
theorem dX5_commas_19 : decode cX5_commas 19 = .ok (.if_icmp .ne 6, 3) := by decide +kernel
theorem dX5_commas_22 : decode cX5_commas 22 = .ok (.iinc 1 1, 3) := by decide +kernel
theorem dX5_commas_25 : decode cX5_commas 25 = .ok (.iinc 2 1, 3) := by decide +kernel
theorem dX5_commas_28 : decode cX5_commas 28 = .ok (.goto (-24), 3) := by decide +kernel
theorem dX5_commas_31 : decode cX5_commas 31 = .ok (.iload_n 1, 1) := by decide +kernel
theorem dX5_commas_32 : decode cX5_commas 32 = .ok (.ireturn, 1) := by decide +kernel
theorem dX5_cartFault_0 : decode cX5_cartFault 0 = .ok (.iconst 0, 1) := by decide +kernel
theorem dX5_cartFault_1 : decode cX5_cartFault 1 = .ok (.istore_n 1, 1) := by decide +kernel
theorem dX5_cartFault_2 : decode cX5_cartFault 2 = .ok (.iload_n 1, 1) := by decide +kernel
theorem dX5_cartFault_3 : decode cX5_cartFault 3 = .ok (.aload_n 0, 1) := by decide +kernel
theorem dX5_cartFault_4 : decode cX5_cartFault 4 = .ok (.getfield 15, 3) := by decide +kernel
theorem dX5_cartFault_7 : decode cX5_cartFault 7 = .ok (.if_icmp .ge 19, 3) := by decide +kernel
theorem dX5_cartFault_10 : decode cX5_cartFault 10 = .ok (.aload_n 0, 1) := by decide +kernel
theorem dX5_cartFault_11 : decode cX5_cartFault 11 = .ok (.iload_n 1, 1) := by decide +kernel
theorem dX5_cartFault_12 : decode cX5_cartFault 12 = .ok (.invokevirtual 41, 3) := by decide +kernel
theorem dX5_cartFault_15 : decode cX5_cartFault 15 = .ok (.ifCond .ne 5, 3) := by decide +kernel
theorem dX5_cartFault_18 : decode cX5_cartFault 18 = .ok (.iload_n 1, 1) := by decide +kernel
theorem dX5_cartFault_19 : decode cX5_cartFault 19 = .ok (.ireturn, 1) := by decide +kernel
theorem dX5_cartFault_20 : decode cX5_cartFault 20 = .ok (.iinc 1 1, 3) := by decide +kernel
theorem dX5_cartFault_23 : decode cX5_cartFault 23 = .ok (.goto (-21), 3) := by decide +kernel
theorem dX5_cartFault_26 : decode cX5_cartFault 26 = .ok (.aload_n 0, 1) := by decide +kernel
theorem dX5_cartFault_27 : decode cX5_cartFault 27 = .ok (.getfield 15, 3) := by decide +kernel
theorem dX5_cartFault_30 : decode cX5_cartFault 30 = .ok (.ireturn, 1) := by decide +kernel
theorem dX5_fitsCart_0 : decode cX5_fitsCart 0 = .ok (.iload_n 1, 1) := by decide +kernel
theorem dX5_fitsCart_1 : decode cX5_fitsCart 1 = .ok (.bipush 18, 2) := by decide +kernel
theorem dX5_fitsCart_3 : decode cX5_fitsCart 3 = .ok (.if_icmp .lt 5, 3) := by decide +kernel
theorem dX5_fitsCart_6 : decode cX5_fitsCart 6 = .ok (.iconst 0, 1) := by decide +kernel
theorem dX5_fitsCart_7 : decode cX5_fitsCart 7 = .ok (.ireturn, 1) := by decide +kernel
theorem dX5_fitsCart_8 : decode cX5_fitsCart 8 = .ok (.iload_n 1, 1) := by decide +kernel
theorem dX5_fitsCart_9 : decode cX5_fitsCart 9 = .ok (.iconst 3, 1) := by decide +kernel
theorem dX5_fitsCart_10 : decode cX5_fitsCart 10 = .ok (.irem, 1) := by decide +kernel
theorem dX5_fitsCart_11 : decode cX5_fitsCart 11 = .ok (.lookupswitch 79 #[(0, 25), (1, 50)], 25) := by decide +kernel
theorem dX5_fitsCart_36 : decode cX5_fitsCart 36 = .ok (.aload_n 0, 1) := by decide +kernel
theorem dX5_fitsCart_37 : decode cX5_fitsCart 37 = .ok (.iload_n 1, 1) := by decide +kernel
theorem dX5_fitsCart_38 : decode cX5_fitsCart 38 = .ok (.invokevirtual 19, 3) := by decide +kernel
theorem dX5_fitsCart_41 : decode cX5_fitsCart 41 = .ok (.iload_n 1, 1) := by decide +kernel
theorem dX5_fitsCart_42 : decode cX5_fitsCart 42 = .ok (.ifCond .ne 8, 3) := by decide +kernel
theorem dX5_fitsCart_45 : decode cX5_fitsCart 45 = .ok (.bipush 119, 2) := by decide +kernel
theorem dX5_fitsCart_47 : decode cX5_fitsCart 47 = .ok (.goto 5, 3) := by decide +kernel
theorem dX5_fitsCart_50 : decode cX5_fitsCart 50 = .ok (.bipush 44, 2) := by decide +kernel
theorem dX5_fitsCart_52 : decode cX5_fitsCart 52 = .ok (.if_icmp .ne 7, 3) := by decide +kernel
theorem dX5_fitsCart_55 : decode cX5_fitsCart 55 = .ok (.iconst 1, 1) := by decide +kernel
theorem dX5_fitsCart_56 : decode cX5_fitsCart 56 = .ok (.goto 4, 3) := by decide +kernel
theorem dX5_fitsCart_59 : decode cX5_fitsCart 59 = .ok (.iconst 0, 1) := by decide +kernel
theorem dX5_fitsCart_60 : decode cX5_fitsCart 60 = .ok (.ireturn, 1) := by decide +kernel
theorem dX5_fitsCart_61 : decode cX5_fitsCart 61 = .ok (.iload_n 1, 1) := by decide +kernel
theorem dX5_fitsCart_62 : decode cX5_fitsCart 62 = .ok (.iconst 1, 1) := by decide +kernel
theorem dX5_fitsCart_63 : decode cX5_fitsCart 63 = .ok (.if_icmp .ne 12, 3) := by decide +kernel
theorem dX5_fitsCart_66 : decode cX5_fitsCart 66 = .ok (.aload_n 0, 1) := by decide +kernel
theorem dX5_fitsCart_67 : decode cX5_fitsCart 67 = .ok (.iload_n 1, 1) := by decide +kernel
theorem dX5_fitsCart_68 : decode cX5_fitsCart 68 = .ok (.iconst 1, 1) := by decide +kernel
theorem dX5_fitsCart_69 : decode cX5_fitsCart 69 = .ok (.invokevirtual 30, 3) := by decide +kernel
theorem dX5_fitsCart_72 : decode cX5_fitsCart 72 = .ok (.goto 17, 3) := by decide +kernel
theorem dX5_fitsCart_75 : decode cX5_fitsCart 75 = .ok (.aload_n 0, 1) := by decide +kernel
theorem dX5_fitsCart_76 : decode cX5_fitsCart 76 = .ok (.iload_n 1, 1) := by decide +kernel
theorem dX5_fitsCart_77 : decode cX5_fitsCart 77 = .ok (.invokevirtual 45, 3) := by decide +kernel
theorem dX5_fitsCart_80 : decode cX5_fitsCart 80 = .ok (.iconst (-1), 1) := by decide +kernel
theorem dX5_fitsCart_81 : decode cX5_fitsCart 81 = .ok (.if_icmp .eq 7, 3) := by decide +kernel
theorem dX5_fitsCart_84 : decode cX5_fitsCart 84 = .ok (.iconst 1, 1) := by decide +kernel
theorem dX5_fitsCart_85 : decode cX5_fitsCart 85 = .ok (.goto 4, 3) := by decide +kernel
theorem dX5_fitsCart_88 : decode cX5_fitsCart 88 = .ok (.iconst 0, 1) := by decide +kernel
theorem dX5_fitsCart_89 : decode cX5_fitsCart 89 = .ok (.ireturn, 1) := by decide +kernel
theorem dX5_fitsCart_90 : decode cX5_fitsCart 90 = .ok (.aload_n 0, 1) := by decide +kernel
theorem dX5_fitsCart_91 : decode cX5_fitsCart 91 = .ok (.iload_n 1, 1) := by decide +kernel
theorem dX5_fitsCart_92 : decode cX5_fitsCart 92 = .ok (.iload_n 1, 1) := by decide +kernel
theorem dX5_fitsCart_93 : decode cX5_fitsCart 93 = .ok (.iconst 2, 1) := by decide +kernel
theorem dX5_fitsCart_94 : decode cX5_fitsCart 94 = .ok (.if_icmp .ne 7, 3) := by decide +kernel
theorem dX5_fitsCart_97 : decode cX5_fitsCart 97 = .ok (.iconst 0, 1) := by decide +kernel
theorem dX5_fitsCart_98 : decode cX5_fitsCart 98 = .ok (.goto 4, 3) := by decide +kernel
theorem dX5_fitsCart_101 : decode cX5_fitsCart 101 = .ok (.iconst 1, 1) := by decide +kernel
theorem dX5_fitsCart_102 : decode cX5_fitsCart 102 = .ok (.invokevirtual 30, 3) := by decide +kernel
theorem dX5_fitsCart_105 : decode cX5_fitsCart 105 = .ok (.ireturn, 1) := by decide +kernel
theorem dX5_isCart_0 : decode cX5_isCart 0 = .ok (.aload_n 0, 1) := by decide +kernel
theorem dX5_isCart_1 : decode cX5_isCart 1 = .ok (.getfield 15, 3) := by decide +kernel
theorem dX5_isCart_4 : decode cX5_isCart 4 = .ok (.ifCond .le 27, 3) := by decide +kernel
theorem dX5_isCart_7 : decode cX5_isCart 7 = .ok (.aload_n 0, 1) := by decide +kernel
theorem dX5_isCart_8 : decode cX5_isCart 8 = .ok (.getfield 15, 3) := by decide +kernel
theorem dX5_isCart_11 : decode cX5_isCart 11 = .ok (.iconst 3, 1) := by decide +kernel
theorem dX5_isCart_12 : decode cX5_isCart 12 = .ok (.irem, 1) := by decide +kernel
theorem dX5_isCart_13 : decode cX5_isCart 13 = .ok (.ifCond .ne 18, 3) := by decide +kernel
theorem dX5_isCart_16 : decode cX5_isCart 16 = .ok (.aload_n 0, 1) := by decide +kernel
theorem dX5_isCart_17 : decode cX5_isCart 17 = .ok (.invokevirtual 48, 3) := by decide +kernel
theorem dX5_isCart_20 : decode cX5_isCart 20 = .ok (.aload_n 0, 1) := by decide +kernel
theorem dX5_isCart_21 : decode cX5_isCart 21 = .ok (.getfield 15, 3) := by decide +kernel
theorem dX5_isCart_24 : decode cX5_isCart 24 = .ok (.if_icmp .ne 7, 3) := by decide +kernel
theorem dX5_isCart_27 : decode cX5_isCart 27 = .ok (.iconst 1, 1) := by decide +kernel
theorem dX5_isCart_28 : decode cX5_isCart 28 = .ok (.goto 4, 3) := by decide +kernel
theorem dX5_isCart_31 : decode cX5_isCart 31 = .ok (.iconst 0, 1) := by decide +kernel
theorem dX5_isCart_32 : decode cX5_isCart 32 = .ok (.ireturn, 1) := by decide +kernel
theorem dX5_kindAt_0 : decode cX5_kindAt 0 = .ok (.ldc 51, 2) := by decide +kernel
theorem dX5_kindAt_2 : decode cX5_kindAt 2 = .ok (.aload_n 0, 1) := by decide +kernel
theorem dX5_kindAt_3 : decode cX5_kindAt 3 = .ok (.iload_n 1, 1) := by decide +kernel
theorem dX5_kindAt_4 : decode cX5_kindAt 4 = .ok (.invokevirtual 19, 3) := by decide +kernel
theorem dX5_kindAt_7 : decode cX5_kindAt 7 = .ok (.i2c, 1) := by decide +kernel
theorem dX5_kindAt_8 : decode cX5_kindAt 8 = .ok (.invokevirtual 53, 3) := by decide +kernel
theorem dX5_kindAt_11 : decode cX5_kindAt 11 = .ok (.ireturn, 1) := by decide +kernel
theorem dX6_init_0 : decode cX6_init 0 = .ok (.aload_n 0, 1) := by decide +kernel
theorem dX6_init_1 : decode cX6_init 1 = .ok (.invokespecial 3, 3) := by decide +kernel
theorem dX6_init_4 : decode cX6_init 4 = .ok (.aload_n 0, 1) := by decide +kernel
theorem dX6_init_5 : decode cX6_init 5 = .ok (.iconst 5, 1) := by decide +kernel
theorem dX6_init_6 : decode cX6_init 6 = .ok (.newarray .int, 2) := by decide +kernel
theorem dX6_init_8 : decode cX6_init 8 = .ok (.putfield 9, 3) := by decide +kernel
theorem dX6_init_11 : decode cX6_init 11 = .ok (.aload_n 0, 1) := by decide +kernel
theorem dX6_init_12 : decode cX6_init 12 = .ok (.iconst 5, 1) := by decide +kernel
theorem dX6_init_13 : decode cX6_init 13 = .ok (.newarray .int, 2) := by decide +kernel
theorem dX6_init_15 : decode cX6_init 15 = .ok (.putfield 15, 3) := by decide +kernel
theorem dX6_init_18 : decode cX6_init 18 = .ok (.aload_n 0, 1) := by decide +kernel
theorem dX6_init_19 : decode cX6_init 19 = .ok (.iconst 5, 1) := by decide +kernel
theorem dX6_init_20 : decode cX6_init 20 = .ok (.newarray .int, 2) := by decide +kernel
theorem dX6_init_22 : decode cX6_init 22 = .ok (.putfield 18, 3) := by decide +kernel
theorem dX6_init_25 : decode cX6_init 25 = .ok (.aload_n 0, 1) := by decide +kernel
theorem dX6_init_26 : decode cX6_init 26 = .ok (.bipush 12, 2) := by decide +kernel
theorem dX6_init_28 : decode cX6_init 28 = .ok (.newarray .int, 2) := by decide +kernel
theorem dX6_init_30 : decode cX6_init 30 = .ok (.putfield 21, 3) := by decide +kernel
theorem dX6_init_33 : decode cX6_init 33 = .ok (.aload_n 0, 1) := by decide +kernel
theorem dX6_init_34 : decode cX6_init 34 = .ok (.iconst 0, 1) := by decide +kernel
theorem dX6_init_35 : decode cX6_init 35 = .ok (.putfield 24, 3) := by decide +kernel
theorem dX6_init_38 : decode cX6_init 38 = .ok (.aload_n 0, 1) := by decide +kernel
theorem dX6_init_39 : decode cX6_init 39 = .ok (.bipush 10, 2) := by decide +kernel
theorem dX6_init_41 : decode cX6_init 41 = .ok (.putfield 28, 3) := by decide +kernel
theorem dX6_init_44 : decode cX6_init 44 = .ok (.aload_n 0, 1) := by decide +kernel
theorem dX6_init_45 : decode cX6_init 45 = .ok (.iconst 1, 1) := by decide +kernel
theorem dX6_init_46 : decode cX6_init 46 = .ok (.putfield 31, 3) := by decide +kernel
theorem dX6_init_49 : decode cX6_init 49 = .ok (.aload_n 0, 1) := by decide +kernel
theorem dX6_init_50 : decode cX6_init 50 = .ok (.iconst 0, 1) := by decide +kernel
theorem dX6_init_51 : decode cX6_init 51 = .ok (.putfield 34, 3) := by decide +kernel
theorem dX6_init_54 : decode cX6_init 54 = .ok (.aload_n 0, 1) := by decide +kernel
theorem dX6_init_55 : decode cX6_init 55 = .ok (.iconst 0, 1) := by decide +kernel
theorem dX6_init_56 : decode cX6_init 56 = .ok (.putfield 37, 3) := by decide +kernel
theorem dX6_init_59 : decode cX6_init 59 = .ok (.aload_n 0, 1) := by decide +kernel
theorem dX6_init_60 : decode cX6_init 60 = .ok (.iconst 0, 1) := by decide +kernel
theorem dX6_init_61 : decode cX6_init 61 = .ok (.putfield 40, 3) := by decide +kernel
theorem dX6_init_64 : decode cX6_init 64 = .ok (.aload_n 0, 1) := by decide +kernel
theorem dX6_init_65 : decode cX6_init 65 = .ok (.iconst 0, 1) := by decide +kernel
theorem dX6_init_66 : decode cX6_init 66 = .ok (.putfield 43, 3) := by decide +kernel
theorem dX6_init_69 : decode cX6_init 69 = .ok (.aload_n 0, 1) := by decide +kernel
theorem dX6_init_70 : decode cX6_init 70 = .ok (.iconst 0, 1) := by decide +kernel
theorem dX6_init_71 : decode cX6_init 71 = .ok (.putfield 46, 3) := by decide +kernel
theorem dX6_init_74 : decode cX6_init 74 = .ok (.aload_n 0, 1) := by decide +kernel
theorem dX6_init_75 : decode cX6_init 75 = .ok (.iconst 5, 1) := by decide +kernel
theorem dX6_init_76 : decode cX6_init 76 = .ok (.newarray .int, 2) := by decide +kernel
theorem dX6_init_78 : decode cX6_init 78 = .ok (.putfield 49, 3) := by decide +kernel
theorem dX6_init_81 : decode cX6_init 81 = .ok (.aload_n 0, 1) := by decide +kernel
theorem dX6_init_82 : decode cX6_init 82 = .ok (.bipush 12, 2) := by decide +kernel
theorem dX6_init_84 : decode cX6_init 84 = .ok (.newarray .int, 2) := by decide +kernel
theorem dX6_init_86 : decode cX6_init 86 = .ok (.putfield 52, 3) := by decide +kernel
theorem dX6_init_89 : decode cX6_init 89 = .ok (.aload_n 0, 1) := by decide +kernel
theorem dX6_init_90 : decode cX6_init 90 = .ok (.aload_n 1, 1) := by decide +kernel
theorem dX6_init_91 : decode cX6_init 91 = .ok (.putfield 55, 3) := by decide +kernel
theorem dX6_init_94 : decode cX6_init 94 = .ok (.return_, 1) := by decide +kernel
theorem dX6_mount_0 : decode cX6_mount 0 = .ok (.aload_n 1, 1) := by decide +kernel
theorem dX6_mount_1 : decode cX6_mount 1 = .ok (.getfield 59, 3) := by decide +kernel
theorem dX6_mount_4 : decode cX6_mount 4 = .ok (.iconst 0, 1) := by decide +kernel
theorem dX6_mount_5 : decode cX6_mount 5 = .ok (.aload_n 0, 1) := by decide +kernel
theorem dX6_mount_6 : decode cX6_mount 6 = .ok (.getfield 9, 3) := by decide +kernel
theorem dX6_mount_9 : decode cX6_mount 9 = .ok (.iconst 0, 1) := by decide +kernel
theorem dX6_mount_10 : decode cX6_mount 10 = .ok (.iconst 5, 1) := by decide +kernel
theorem dX6_mount_11 : decode cX6_mount 11 = .ok (.invokestatic 62, 3) := by decide +kernel
theorem dX6_mount_14 : decode cX6_mount 14 = .ok (.aload_n 1, 1) := by decide +kernel
theorem dX6_mount_15 : decode cX6_mount 15 = .ok (.getfield 68, 3) := by decide +kernel
theorem dX6_mount_18 : decode cX6_mount 18 = .ok (.iconst 0, 1) := by decide +kernel
theorem dX6_mount_19 : decode cX6_mount 19 = .ok (.aload_n 0, 1) := by decide +kernel
theorem dX6_mount_20 : decode cX6_mount 20 = .ok (.getfield 15, 3) := by decide +kernel
theorem dX6_mount_23 : decode cX6_mount 23 = .ok (.iconst 0, 1) := by decide +kernel
theorem dX6_mount_24 : decode cX6_mount 24 = .ok (.iconst 5, 1) := by decide +kernel
theorem dX6_mount_25 : decode cX6_mount 25 = .ok (.invokestatic 62, 3) := by decide +kernel
theorem dX6_mount_28 : decode cX6_mount 28 = .ok (.aload_n 0, 1) := by decide +kernel
theorem dX6_mount_29 : decode cX6_mount 29 = .ok (.getfield 55, 3) := by decide +kernel
theorem dX6_mount_32 : decode cX6_mount 32 = .ok (.getfield 69, 3) := by decide +kernel
theorem dX6_mount_35 : decode cX6_mount 35 = .ok (.iconst 0, 1) := by decide +kernel
theorem dX6_mount_36 : decode cX6_mount 36 = .ok (.aload_n 0, 1) := by decide +kernel
theorem dX6_mount_37 : decode cX6_mount 37 = .ok (.getfield 21, 3) := by decide +kernel
theorem dX6_mount_40 : decode cX6_mount 40 = .ok (.iconst 0, 1) := by decide +kernel
theorem dX6_mount_41 : decode cX6_mount 41 = .ok (.bipush 12, 2) := by decide +kernel
theorem dX6_mount_43 : decode cX6_mount 43 = .ok (.invokestatic 62, 3) := by decide +kernel
theorem dX6_mount_46 : decode cX6_mount 46 = .ok (.aload_n 0, 1) := by decide +kernel
theorem dX6_mount_47 : decode cX6_mount 47 = .ok (.getfield 18, 3) := by decide +kernel
theorem dX6_mount_50 : decode cX6_mount 50 = .ok (.iconst 0, 1) := by decide +kernel
theorem dX6_mount_51 : decode cX6_mount 51 = .ok (.invokestatic 72, 3) := by decide +kernel
theorem dX6_mount_54 : decode cX6_mount 54 = .ok (.aload_n 0, 1) := by decide +kernel
theorem dX6_mount_55 : decode cX6_mount 55 = .ok (.aload_n 1, 1) := by decide +kernel
theorem dX6_mount_56 : decode cX6_mount 56 = .ok (.getfield 78, 3) := by decide +kernel
theorem dX6_mount_59 : decode cX6_mount 59 = .ok (.putfield 24, 3) := by decide +kernel
theorem dX6_mount_62 : decode cX6_mount 62 = .ok (.aload_n 0, 1) := by decide +kernel
theorem dX6_mount_63 : decode cX6_mount 63 = .ok (.aload_n 1, 1) := by decide +kernel
theorem dX6_mount_64 : decode cX6_mount 64 = .ok (.getfield 79, 3) := by decide +kernel
theorem dX6_mount_67 : decode cX6_mount 67 = .ok (.putfield 28, 3) := by decide +kernel
theorem dX6_mount_70 : decode cX6_mount 70 = .ok (.aload_n 0, 1) := by decide +kernel
theorem dX6_mount_71 : decode cX6_mount 71 = .ok (.iload_n 2, 1) := by decide +kernel
theorem dX6_mount_72 : decode cX6_mount 72 = .ok (.putfield 31, 3) := by decide +kernel
theorem dX6_mount_75 : decode cX6_mount 75 = .ok (.return_, 1) := by decide +kernel
theorem dX6_go_0 : decode cX6_go 0 = .ok (.aload_n 0, 1) := by decide +kernel
theorem dX6_go_1 : decode cX6_go 1 = .ok (.getfield 49, 3) := by decide +kernel
theorem dX6_go_4 : decode cX6_go 4 = .ok (.iconst 0, 1) := by decide +kernel
theorem dX6_go_5 : decode cX6_go 5 = .ok (.invokestatic 72, 3) := by decide +kernel
theorem dX6_go_8 : decode cX6_go 8 = .ok (.aload_n 0, 1) := by decide +kernel
theorem dX6_go_9 : decode cX6_go 9 = .ok (.getfield 52, 3) := by decide +kernel
theorem dX6_go_12 : decode cX6_go 12 = .ok (.iconst (-1), 1) := by decide +kernel
theorem dX6_go_13 : decode cX6_go 13 = .ok (.invokestatic 72, 3) := by decide +kernel
theorem dX6_go_16 : decode cX6_go 16 = .ok (.aload_n 0, 1) := by decide +kernel
theorem dX6_go_17 : decode cX6_go 17 = .ok (.iconst 0, 1) := by decide +kernel
theorem dX6_go_18 : decode cX6_go 18 = .ok (.putfield 34, 3) := by decide +kernel
theorem dX6_go_21 : decode cX6_go 21 = .ok (.aload_n 0, 1) := by decide +kernel
theorem dX6_go_22 : decode cX6_go 22 = .ok (.iconst 0, 1) := by decide +kernel
theorem dX6_go_23 : decode cX6_go 23 = .ok (.putfield 40, 3) := by decide +kernel
theorem dX6_go_26 : decode cX6_go 26 = .ok (.aload_n 0, 1) := by decide +kernel
theorem dX6_go_27 : decode cX6_go 27 = .ok (.iload_n 1, 1) := by decide +kernel
theorem dX6_go_28 : decode cX6_go 28 = .ok (.putfield 43, 3) := by decide +kernel
theorem dX6_go_31 : decode cX6_go 31 = .ok (.aload_n 0, 1) := by decide +kernel
theorem dX6_go_32 : decode cX6_go 32 = .ok (.iconst 0, 1) := by decide +kernel
theorem dX6_go_33 : decode cX6_go 33 = .ok (.putfield 46, 3) := by decide +kernel
theorem dX6_go_36 : decode cX6_go 36 = .ok (.iconst 0, 1) := by decide +kernel
theorem dX6_go_37 : decode cX6_go 37 = .ok (.istore_n 2, 1) := by decide +kernel
theorem dX6_go_38 : decode cX6_go 38 = .ok (.aload_n 0, 1) := by decide +kernel
theorem dX6_go_39 : decode cX6_go 39 = .ok (.getfield 34, 3) := by decide +kernel
theorem dX6_go_42 : decode cX6_go 42 = .ok (.ifCond .ne 30, 3) := by decide +kernel
theorem dX6_go_45 : decode cX6_go 45 = .ok (.iload_n 2, 1) := by decide +kernel
theorem dX6_go_46 : decode cX6_go 46 = .ok (.aload_n 0, 1) := by decide +kernel
theorem dX6_go_47 : decode cX6_go 47 = .ok (.getfield 55, 3) := by decide +kernel
theorem dX6_go_50 : decode cX6_go 50 = .ok (.getfield 80, 3) := by decide +kernel
theorem dX6_go_53 : decode cX6_go 53 = .ok (.if_icmp .ge 19, 3) := by decide +kernel
theorem dX6_go_56 : decode cX6_go 56 = .ok (.aload_n 0, 1) := by decide +kernel
theorem dX6_go_57 : decode cX6_go 57 = .ok (.iload_n 2, 1) := by decide +kernel
theorem dX6_go_58 : decode cX6_go 58 = .ok (.putfield 37, 3) := by decide +kernel
theorem dX6_go_61 : decode cX6_go 61 = .ok (.aload_n 0, 1) := by decide +kernel
theorem dX6_go_62 : decode cX6_go 62 = .ok (.iload_n 2, 1) := by decide +kernel
theorem dX6_go_63 : decode cX6_go 63 = .ok (.invokevirtual 81, 3) := by decide +kernel
theorem dX6_go_66 : decode cX6_go 66 = .ok (.iinc 2 1, 3) := by decide +kernel
theorem dX6_go_69 : decode cX6_go 69 = .ok (.goto (-31), 3) := by decide +kernel
theorem dX6_go_72 : decode cX6_go 72 = .ok (.return_, 1) := by decide +kernel
theorem dX6_goThrough_0 : decode cX6_goThrough 0 = .ok (.aload_n 0, 1) := by decide +kernel
theorem dX6_goThrough_1 : decode cX6_goThrough 1 = .ok (.getfield 43, 3) := by decide +kernel
theorem dX6_goThrough_4 : decode cX6_goThrough 4 = .ok (.bipush 20, 2) := by decide +kernel
theorem dX6_goThrough_6 : decode cX6_goThrough 6 = .ok (.aload_n 0, 1) := by decide +kernel
theorem dX6_goThrough_7 : decode cX6_goThrough 7 = .ok (.getfield 55, 3) := by decide +kernel
theorem dX6_goThrough_10 : decode cX6_goThrough 10 = .ok (.getfield 85, 3) := by decide +kernel
theorem dX6_goThrough_13 : decode cX6_goThrough 13 = .ok (.iload_n 1, 1) := by decide +kernel
theorem dX6_goThrough_14 : decode cX6_goThrough 14 = .ok (.iaload, 1) := by decide +kernel
theorem dX6_goThrough_15 : decode cX6_goThrough 15 = .ok (.imul, 1) := by decide +kernel
theorem dX6_goThrough_16 : decode cX6_goThrough 16 = .ok (.iadd, 1) := by decide +kernel
theorem dX6_goThrough_17 : decode cX6_goThrough 17 = .ok (.istore_n 2, 1) := by decide +kernel
theorem dX6_goThrough_18 : decode cX6_goThrough 18 = .ok (.iload_n 2, 1) := by decide +kernel
theorem dX6_goThrough_19 : decode cX6_goThrough 19 = .ok (.istore_n 3, 1) := by decide +kernel
theorem dX6_goThrough_20 : decode cX6_goThrough 20 = .ok (.iconst 0, 1) := by decide +kernel
theorem dX6_goThrough_21 : decode cX6_goThrough 21 = .ok (.istore 4, 2) := by decide +kernel
theorem dX6_goThrough_23 : decode cX6_goThrough 23 = .ok (.iload 4, 2) := by decide +kernel
theorem dX6_goThrough_25 : decode cX6_goThrough 25 = .ok (.aload_n 0, 1) := by decide +kernel
theorem dX6_goThrough_26 : decode cX6_goThrough 26 = .ok (.getfield 24, 3) := by decide +kernel
theorem dX6_goThrough_29 : decode cX6_goThrough 29 = .ok (.if_icmp .ge 62, 3) := by decide +kernel
theorem dX6_goThrough_32 : decode cX6_goThrough 32 = .ok (.aload_n 0, 1) := by decide +kernel
theorem dX6_goThrough_33 : decode cX6_goThrough 33 = .ok (.iload 4, 2) := by decide +kernel
theorem dX6_goThrough_35 : decode cX6_goThrough 35 = .ok (.iload_n 2, 1) := by decide +kernel
theorem dX6_goThrough_36 : decode cX6_goThrough 36 = .ok (.aload_n 0, 1) := by decide +kernel
theorem dX6_goThrough_37 : decode cX6_goThrough 37 = .ok (.getfield 55, 3) := by decide +kernel
theorem dX6_goThrough_40 : decode cX6_goThrough 40 = .ok (.getfield 85, 3) := by decide +kernel
theorem dX6_goThrough_43 : decode cX6_goThrough 43 = .ok (.iload_n 1, 1) := by decide +kernel
theorem dX6_goThrough_44 : decode cX6_goThrough 44 = .ok (.iaload, 1) := by decide +kernel
theorem dX6_goThrough_45 : decode cX6_goThrough 45 = .ok (.aload_n 0, 1) := by decide +kernel
theorem dX6_goThrough_46 : decode cX6_goThrough 46 = .ok (.getfield 55, 3) := by decide +kernel
theorem dX6_goThrough_49 : decode cX6_goThrough 49 = .ok (.getfield 88, 3) := by decide +kernel
theorem dX6_goThrough_52 : decode cX6_goThrough 52 = .ok (.iload_n 1, 1) := by decide +kernel
theorem dX6_goThrough_53 : decode cX6_goThrough 53 = .ok (.iaload, 1) := by decide +kernel
theorem dX6_goThrough_54 : decode cX6_goThrough 54 = .ok (.aload_n 0, 1) := by decide +kernel
theorem dX6_goThrough_55 : decode cX6_goThrough 55 = .ok (.getfield 55, 3) := by decide +kernel
theorem dX6_goThrough_58 : decode cX6_goThrough 58 = .ok (.getfield 91, 3) := by decide +kernel
theorem dX6_goThrough_61 : decode cX6_goThrough 61 = .ok (.iload_n 1, 1) := by decide +kernel
theorem dX6_goThrough_62 : decode cX6_goThrough 62 = .ok (.iaload, 1) := by decide +kernel
theorem dX6_goThrough_63 : decode cX6_goThrough 63 = .ok (.invokevirtual 94, 3) := by decide +kernel
theorem dX6_goThrough_66 : decode cX6_goThrough 66 = .ok (.istore 5, 2) := by decide +kernel
theorem dX6_goThrough_68 : decode cX6_goThrough 68 = .ok (.aload_n 0, 1) := by decide +kernel
theorem dX6_goThrough_69 : decode cX6_goThrough 69 = .ok (.getfield 49, 3) := by decide +kernel
theorem dX6_goThrough_72 : decode cX6_goThrough 72 = .ok (.iload 4, 2) := by decide +kernel
theorem dX6_goThrough_74 : decode cX6_goThrough 74 = .ok (.dup2, 1) := by decide +kernel
theorem dX6_goThrough_75 : decode cX6_goThrough 75 = .ok (.iaload, 1) := by decide +kernel
theorem dX6_goThrough_76 : decode cX6_goThrough 76 = .ok (.iload 5, 2) := by decide +kernel
theorem dX6_goThrough_78 : decode cX6_goThrough 78 = .ok (.iadd, 1) := by decide +kernel
theorem dX6_goThrough_79 : decode cX6_goThrough 79 = .ok (.iastore, 1) := by decide +kernel
theorem dX6_goThrough_80 : decode cX6_goThrough 80 = .ok (.iload_n 3, 1) := by decide +kernel
theorem dX6_goThrough_81 : decode cX6_goThrough 81 = .ok (.iload 5, 2) := by decide +kernel
theorem dX6_goThrough_83 : decode cX6_goThrough 83 = .ok (.isub, 1) := by decide +kernel
theorem dX6_goThrough_84 : decode cX6_goThrough 84 = .ok (.istore_n 3, 1) := by decide +kernel
theorem dX6_goThrough_85 : decode cX6_goThrough 85 = .ok (.iinc 4 1, 3) := by decide +kernel
theorem dX6_goThrough_88 : decode cX6_goThrough 88 = .ok (.goto (-65), 3) := by decide +kernel
theorem dX6_goThrough_91 : decode cX6_goThrough 91 = .ok (.iload_n 3, 1) := by decide +kernel
theorem dX6_goThrough_92 : decode cX6_goThrough 92 = .ok (.ifCond .le 17, 3) := by decide +kernel
theorem dX6_goThrough_95 : decode cX6_goThrough 95 = .ok (.iload_n 3, 1) := by decide +kernel
theorem dX6_goThrough_96 : decode cX6_goThrough 96 = .ok (.aload_n 0, 1) := by decide +kernel
theorem dX6_goThrough_97 : decode cX6_goThrough 97 = .ok (.getfield 21, 3) := by decide +kernel
theorem dX6_goThrough_100 : decode cX6_goThrough 100 = .ok (.iload_n 1, 1) := by decide +kernel
theorem dX6_goThrough_101 : decode cX6_goThrough 101 = .ok (.iaload, 1) := by decide +kernel
theorem dX6_goThrough_102 : decode cX6_goThrough 102 = .ok (.imul, 1) := by decide +kernel
theorem dX6_goThrough_103 : decode cX6_goThrough 103 = .ok (.bipush 10, 2) := by decide +kernel
theorem dX6_goThrough_105 : decode cX6_goThrough 105 = .ok (.idiv, 1) := by decide +kernel
theorem dX6_goThrough_106 : decode cX6_goThrough 106 = .ok (.goto 4, 3) := by decide +kernel
theorem dX6_goThrough_109 : decode cX6_goThrough 109 = .ok (.iconst 0, 1) := by decide +kernel
theorem dX6_goThrough_110 : decode cX6_goThrough 110 = .ok (.istore 4, 2) := by decide +kernel
theorem dX6_goThrough_112 : decode cX6_goThrough 112 = .ok (.aload_n 0, 1) := by decide +kernel
theorem dX6_goThrough_113 : decode cX6_goThrough 113 = .ok (.dup, 1) := by decide +kernel
theorem dX6_goThrough_114 : decode cX6_goThrough 114 = .ok (.getfield 46, 3) := by decide +kernel
theorem dX6_goThrough_117 : decode cX6_goThrough 117 = .ok (.iload 4, 2) := by decide +kernel
theorem dX6_goThrough_119 : decode cX6_goThrough 119 = .ok (.iadd, 1) := by decide +kernel
theorem dX6_goThrough_120 : decode cX6_goThrough 120 = .ok (.putfield 46, 3) := by decide +kernel
theorem dX6_goThrough_123 : decode cX6_goThrough 123 = .ok (.iload_n 3, 1) := by decide +kernel
theorem dX6_goThrough_124 : decode cX6_goThrough 124 = .ok (.iload 4, 2) := by decide +kernel
theorem dX6_goThrough_126 : decode cX6_goThrough 126 = .ok (.isub, 1) := by decide +kernel
theorem dX6_goThrough_127 : decode cX6_goThrough 127 = .ok (.istore_n 3, 1) := by decide +kernel
theorem dX6_goThrough_128 : decode cX6_goThrough 128 = .ok (.iload_n 3, 1) := by decide +kernel
theorem dX6_goThrough_129 : decode cX6_goThrough 129 = .ok (.ifCond .gt 14, 3) := by decide +kernel
theorem dX6_goThrough_132 : decode cX6_goThrough 132 = .ok (.aload_n 0, 1) := by decide +kernel
theorem dX6_goThrough_133 : decode cX6_goThrough 133 = .ok (.iconst 0, 1) := by decide +kernel
theorem dX6_goThrough_134 : decode cX6_goThrough 134 = .ok (.putfield 43, 3) := by decide +kernel
theorem dX6_goThrough_137 : decode cX6_goThrough 137 = .ok (.aload_n 0, 1) := by decide +kernel
theorem dX6_goThrough_138 : decode cX6_goThrough 138 = .ok (.iconst 1, 1) := by decide +kernel
theorem dX6_goThrough_139 : decode cX6_goThrough 139 = .ok (.putfield 34, 3) := by decide +kernel
theorem dX6_goThrough_142 : decode cX6_goThrough 142 = .ok (.return_, 1) := by decide +kernel
theorem dX6_goThrough_143 : decode cX6_goThrough 143 = .ok (.aload_n 0, 1) := by decide +kernel
theorem dX6_goThrough_144 : decode cX6_goThrough 144 = .ok (.iload_n 3, 1) := by decide +kernel
theorem dX6_goThrough_145 : decode cX6_goThrough 145 = .ok (.putfield 43, 3) := by decide +kernel
theorem dX6_goThrough_148 : decode cX6_goThrough 148 = .ok (.aload_n 0, 1) := by decide +kernel
theorem dX6_goThrough_149 : decode cX6_goThrough 149 = .ok (.getfield 52, 3) := by decide +kernel
theorem dX6_goThrough_152 : decode cX6_goThrough 152 = .ok (.iload_n 1, 1) := by decide +kernel
theorem dX6_goThrough_153 : decode cX6_goThrough 153 = .ok (.iload_n 3, 1) := by decide +kernel
theorem dX6_goThrough_154 : decode cX6_goThrough 154 = .ok (.iastore, 1) := by decide +kernel
theorem dX6_goThrough_155 : decode cX6_goThrough 155 = .ok (.aload_n 0, 1) := by decide +kernel
theorem dX6_goThrough_156 : decode cX6_goThrough 156 = .ok (.dup, 1) := by decide +kernel
theorem dX6_goThrough_157 : decode cX6_goThrough 157 = .ok (.getfield 40, 3) := by decide +kernel
theorem dX6_goThrough_160 : decode cX6_goThrough 160 = .ok (.sipush 1000, 3) := by decide +kernel
theorem dX6_goThrough_163 : decode cX6_goThrough 163 = .ok (.iload_n 3, 1) := by decide +kernel
theorem dX6_goThrough_164 : decode cX6_goThrough 164 = .ok (.invokestatic 98, 3) := by decide +kernel
theorem dX6_goThrough_167 : decode cX6_goThrough 167 = .ok (.invokestatic 102, 3) := by decide +kernel
theorem dX6_goThrough_170 : decode cX6_goThrough 170 = .ok (.iadd, 1) := by decide +kernel
theorem dX6_goThrough_171 : decode cX6_goThrough 171 = .ok (.putfield 40, 3) := by decide +kernel
theorem dX6_goThrough_174 : decode cX6_goThrough 174 = .ok (.aload_n 0, 1) := by decide +kernel
theorem dX6_goThrough_175 : decode cX6_goThrough 175 = .ok (.getfield 55, 3) := by decide +kernel
theorem dX6_goThrough_178 : decode cX6_goThrough 178 = .ok (.getfield 88, 3) := by decide +kernel
theorem dX6_goThrough_181 : decode cX6_goThrough 181 = .ok (.iload_n 1, 1) := by decide +kernel
theorem dX6_goThrough_182 : decode cX6_goThrough 182 = .ok (.iaload, 1) := by decide +kernel
theorem dX6_goThrough_183 : decode cX6_goThrough 183 = .ok (.ifCond .le 17, 3) := by decide +kernel
theorem dX6_goThrough_186 : decode cX6_goThrough 186 = .ok (.iload_n 3, 1) := by decide +kernel
theorem dX6_goThrough_187 : decode cX6_goThrough 187 = .ok (.aload_n 0, 1) := by decide +kernel
theorem dX6_goThrough_188 : decode cX6_goThrough 188 = .ok (.iload_n 1, 1) := by decide +kernel
theorem dX6_goThrough_189 : decode cX6_goThrough 189 = .ok (.invokevirtual 106, 3) := by decide +kernel
theorem dX6_goThrough_192 : decode cX6_goThrough 192 = .ok (.if_icmp .le 8, 3) := by decide +kernel
theorem dX6_goThrough_195 : decode cX6_goThrough 195 = .ok (.aload_n 0, 1) := by decide +kernel
theorem dX6_goThrough_196 : decode cX6_goThrough 196 = .ok (.iconst 2, 1) := by decide +kernel
theorem dX6_goThrough_197 : decode cX6_goThrough 197 = .ok (.putfield 34, 3) := by decide +kernel
theorem dX6_goThrough_200 : decode cX6_goThrough 200 = .ok (.return_, 1) := by decide +kernel
theorem dX6_takes_0 : decode cX6_takes 0 = .ok (.aload_n 0, 1) := by decide +kernel
theorem dX6_takes_1 : decode cX6_takes 1 = .ok (.getfield 15, 3) := by decide +kernel
theorem dX6_takes_4 : decode cX6_takes 4 = .ok (.iload_n 1, 1) := by decide +kernel
theorem dX6_takes_5 : decode cX6_takes 5 = .ok (.iaload, 1) := by decide +kernel
theorem dX6_takes_6 : decode cX6_takes 6 = .ok (.istore 6, 2) := by decide +kernel
theorem dX6_takes_8 : decode cX6_takes 8 = .ok (.aload_n 0, 1) := by decide +kernel
theorem dX6_takes_9 : decode cX6_takes 9 = .ok (.getfield 9, 3) := by decide +kernel
theorem dX6_takes_12 : decode cX6_takes 12 = .ok (.iload_n 1, 1) := by decide +kernel
theorem dX6_takes_13 : decode cX6_takes 13 = .ok (.iaload, 1) := by decide +kernel
theorem dX6_takes_14 : decode cX6_takes 14 = .ok (.tableswitch 79 1 5 #[34, 39, 48, 63, 74], 34) := by decide +kernel
theorem dX6_takes_48 : decode cX6_takes 48 = .ok (.iconst 2, 1) := by decide +kernel
theorem dX6_takes_49 : decode cX6_takes 49 = .ok (.iload 6, 2) := by decide +kernel
theorem dX6_takes_51 : decode cX6_takes 51 = .ok (.imul, 1) := by decide +kernel
theorem dX6_takes_52 : decode cX6_takes 52 = .ok (.ireturn, 1) := by decide +kernel
theorem dX6_takes_53 : decode cX6_takes 53 = .ok (.iload 6, 2) := by decide +kernel
theorem dX6_takes_55 : decode cX6_takes 55 = .ok (.iload 6, 2) := by decide +kernel
theorem dX6_takes_57 : decode cX6_takes 57 = .ok (.iload 4, 2) := by decide +kernel
theorem dX6_takes_59 : decode cX6_takes 59 = .ok (.imul, 1) := by decide +kernel
theorem dX6_takes_60 : decode cX6_takes 60 = .ok (.iadd, 1) := by decide +kernel
theorem dX6_takes_61 : decode cX6_takes 61 = .ok (.ireturn, 1) := by decide +kernel
theorem dX6_takes_62 : decode cX6_takes 62 = .ok (.iload_n 2, 1) := by decide +kernel
theorem dX6_takes_63 : decode cX6_takes 63 = .ok (.iload 6, 2) := by decide +kernel
theorem dX6_takes_65 : decode cX6_takes 65 = .ok (.imul, 1) := by decide +kernel
theorem dX6_takes_66 : decode cX6_takes 66 = .ok (.bipush 10, 2) := by decide +kernel
theorem dX6_takes_68 : decode cX6_takes 68 = .ok (.aload_n 0, 1) := by decide +kernel
theorem dX6_takes_69 : decode cX6_takes 69 = .ok (.getfield 28, 3) := by decide +kernel
theorem dX6_takes_72 : decode cX6_takes 72 = .ok (.imul, 1) := by decide +kernel
theorem dX6_takes_73 : decode cX6_takes 73 = .ok (.invokestatic 102, 3) := by decide +kernel
theorem dX6_takes_76 : decode cX6_takes 76 = .ok (.ireturn, 1) := by decide +kernel
theorem dX6_takes_77 : decode cX6_takes 77 = .ok (.iload 5, 2) := by decide +kernel
theorem dX6_takes_79 : decode cX6_takes 79 = .ok (.iload_n 2, 1) := by decide +kernel
theorem dX6_takes_80 : decode cX6_takes 80 = .ok (.iload 6, 2) := by decide +kernel
theorem dX6_takes_82 : decode cX6_takes 82 = .ok (.imul, 1) := by decide +kernel
theorem dX6_takes_83 : decode cX6_takes 83 = .ok (.bipush 40, 2) := by decide +kernel
theorem dX6_takes_85 : decode cX6_takes 85 = .ok (.idiv, 1) := by decide +kernel
theorem dX6_takes_86 : decode cX6_takes 86 = .ok (.imul, 1) := by decide +kernel
theorem dX6_takes_87 : decode cX6_takes 87 = .ok (.ireturn, 1) := by decide +kernel
theorem dX6_takes_88 : decode cX6_takes 88 = .ok (.iload 6, 2) := by decide +kernel
theorem dX6_takes_90 : decode cX6_takes 90 = .ok (.iload_n 3, 1) := by decide +kernel
theorem dX6_takes_91 : decode cX6_takes 91 = .ok (.imul, 1) := by decide +kernel
theorem dX6_takes_92 : decode cX6_takes 92 = .ok (.ireturn, 1) := by decide +kernel
theorem dX6_takes_93 : decode cX6_takes 93 = .ok (.iload 6, 2) := by decide +kernel
theorem dX6_takes_95 : decode cX6_takes 95 = .ok (.ireturn, 1) := by decide +kernel
theorem dX6_bearable_0 : decode cX6_bearable 0 = .ok (.bipush 100, 2) := by decide +kernel
theorem dX6_bearable_2 : decode cX6_bearable 2 = .ok (.aload_n 0, 1) := by decide +kernel
theorem dX6_bearable_3 : decode cX6_bearable 3 = .ok (.getfield 31, 3) := by decide +kernel
theorem dX6_bearable_6 : decode cX6_bearable 6 = .ok (.imul, 1) := by decide +kernel
theorem dX6_bearable_7 : decode cX6_bearable 7 = .ok (.aload_n 0, 1) := by decide +kernel
theorem dX6_bearable_8 : decode cX6_bearable 8 = .ok (.getfield 55, 3) := by decide +kernel
theorem dX6_bearable_11 : decode cX6_bearable 11 = .ok (.getfield 88, 3) := by decide +kernel
theorem dX6_bearable_14 : decode cX6_bearable 14 = .ok (.iload_n 1, 1) := by decide +kernel
theorem dX6_bearable_15 : decode cX6_bearable 15 = .ok (.iaload, 1) := by decide +kernel
theorem dX6_bearable_16 : decode cX6_bearable 16 = .ok (.invokestatic 102, 3) := by decide +kernel
theorem dX6_bearable_19 : decode cX6_bearable 19 = .ok (.ireturn, 1) := by decide +kernel
theorem dX6_root_0 : decode cX6_root 0 = .ok (.iconst 0, 1) := by decide +kernel
theorem dX6_root_1 : decode cX6_root 1 = .ok (.istore_n 1, 1) := by decide +kernel
theorem dX6_root_2 : decode cX6_root 2 = .ok (.sipush 128, 3) := by decide +kernel
theorem dX6_root_5 : decode cX6_root 5 = .ok (.istore_n 2, 1) := by decide +kernel
theorem dX6_root_6 : decode cX6_root 6 = .ok (.iload_n 2, 1) := by decide +kernel
theorem dX6_root_7 : decode cX6_root 7 = .ok (.ifCond .le 25, 3) := by decide +kernel
theorem dX6_root_10 : decode cX6_root 10 = .ok (.iload_n 1, 1) := by decide +kernel
theorem dX6_root_11 : decode cX6_root 11 = .ok (.iload_n 2, 1) := by decide +kernel
theorem dX6_root_12 : decode cX6_root 12 = .ok (.iadd, 1) := by decide +kernel
theorem dX6_root_13 : decode cX6_root 13 = .ok (.iload_n 1, 1) := by decide +kernel
theorem dX6_root_14 : decode cX6_root 14 = .ok (.iload_n 2, 1) := by decide +kernel
theorem dX6_root_15 : decode cX6_root 15 = .ok (.iadd, 1) := by decide +kernel
theorem dX6_root_16 : decode cX6_root 16 = .ok (.imul, 1) := by decide +kernel
theorem dX6_root_17 : decode cX6_root 17 = .ok (.iload_n 0, 1) := by decide +kernel
theorem dX6_root_18 : decode cX6_root 18 = .ok (.if_icmp .gt 7, 3) := by decide +kernel
theorem dX6_root_21 : decode cX6_root 21 = .ok (.iload_n 1, 1) := by decide +kernel
theorem dX6_root_22 : decode cX6_root 22 = .ok (.iload_n 2, 1) := by decide +kernel
theorem dX6_root_23 : decode cX6_root 23 = .ok (.iadd, 1) := by decide +kernel
theorem dX6_root_24 : decode cX6_root 24 = .ok (.istore_n 1, 1) := by decide +kernel
theorem dX6_root_25 : decode cX6_root 25 = .ok (.iload_n 2, 1) := by decide +kernel
theorem dX6_root_26 : decode cX6_root 26 = .ok (.iconst 2, 1) := by decide +kernel
theorem dX6_root_27 : decode cX6_root 27 = .ok (.idiv, 1) := by decide +kernel
theorem dX6_root_28 : decode cX6_root 28 = .ok (.istore_n 2, 1) := by decide +kernel
theorem dX6_root_29 : decode cX6_root 29 = .ok (.goto (-23), 3) := by decide +kernel
theorem dX6_root_32 : decode cX6_root 32 = .ok (.iload_n 1, 1) := by decide +kernel
theorem dX6_root_33 : decode cX6_root 33 = .ok (.ireturn, 1) := by decide +kernel
theorem dX6_timeIfDown_0 : decode cX6_timeIfDown 0 = .ok (.aload_n 0, 1) := by decide +kernel
theorem dX6_timeIfDown_1 : decode cX6_timeIfDown 1 = .ok (.getfield 34, 3) := by decide +kernel
theorem dX6_timeIfDown_4 : decode cX6_timeIfDown 4 = .ok (.ifCond .ne 10, 3) := by decide +kernel
theorem dX6_timeIfDown_7 : decode cX6_timeIfDown 7 = .ok (.aload_n 0, 1) := by decide +kernel
theorem dX6_timeIfDown_8 : decode cX6_timeIfDown 8 = .ok (.getfield 40, 3) := by decide +kernel
theorem dX6_timeIfDown_11 : decode cX6_timeIfDown 11 = .ok (.goto 4, 3) := by decide +kernel
theorem dX6_timeIfDown_14 : decode cX6_timeIfDown 14 = .ok (.iconst (-1), 1) := by decide +kernel
theorem dX6_timeIfDown_15 : decode cX6_timeIfDown 15 = .ok (.ireturn, 1) := by decide +kernel
theorem dX6_tell_0 : decode cX6_tell 0 = .ok (.iload_n 1, 1) := by decide +kernel
theorem dX6_tell_1 : decode cX6_tell 1 = .ok (.tableswitch 42 0 2 #[27, 32, 37], 27) := by decide +kernel
theorem dX6_tell_28 : decode cX6_tell 28 = .ok (.aload_n 0, 1) := by decide +kernel
theorem dX6_tell_29 : decode cX6_tell 29 = .ok (.getfield 34, 3) := by decide +kernel
theorem dX6_tell_32 : decode cX6_tell 32 = .ok (.ireturn, 1) := by decide +kernel
theorem dX6_tell_33 : decode cX6_tell 33 = .ok (.aload_n 0, 1) := by decide +kernel
theorem dX6_tell_34 : decode cX6_tell 34 = .ok (.getfield 37, 3) := by decide +kernel
theorem dX6_tell_37 : decode cX6_tell 37 = .ok (.ireturn, 1) := by decide +kernel
theorem dX6_tell_38 : decode cX6_tell 38 = .ok (.aload_n 0, 1) := by decide +kernel
theorem dX6_tell_39 : decode cX6_tell 39 = .ok (.getfield 40, 3) := by decide +kernel
theorem dX6_tell_42 : decode cX6_tell 42 = .ok (.ireturn, 1) := by decide +kernel
theorem dX6_tell_43 : decode cX6_tell 43 = .ok (.aload_n 0, 1) := by decide +kernel
theorem dX6_tell_44 : decode cX6_tell 44 = .ok (.getfield 43, 3) := by decide +kernel
theorem dX6_tell_47 : decode cX6_tell 47 = .ok (.ireturn, 1) := by decide +kernel
theorem dX6_goFlat_0 : decode cX6_goFlat 0 = .ok (.iload_n 1, 1) := by decide +kernel
theorem dX6_goFlat_1 : decode cX6_goFlat 1 = .ok (.istore 4, 2) := by decide +kernel
theorem dX6_goFlat_3 : decode cX6_goFlat 3 = .ok (.iconst 0, 1) := by decide +kernel
theorem dX6_goFlat_4 : decode cX6_goFlat 4 = .ok (.istore 5, 2) := by decide +kernel
theorem dX6_goFlat_6 : decode cX6_goFlat 6 = .ok (.iload 5, 2) := by decide +kernel
theorem dX6_goFlat_8 : decode cX6_goFlat 8 = .ok (.iload_n 3, 1) := by decide +kernel
theorem dX6_goFlat_9 : decode cX6_goFlat 9 = .ok (.if_icmp .ge 70, 3) := by decide +kernel
theorem dX6_goFlat_12 : decode cX6_goFlat 12 = .ok (.iconst 2, 1) := by decide +kernel
theorem dX6_goFlat_13 : decode cX6_goFlat 13 = .ok (.iload_n 2, 1) := by decide +kernel
theorem dX6_goFlat_14 : decode cX6_goFlat 14 = .ok (.imul, 1) := by decide +kernel
theorem dX6_goFlat_15 : decode cX6_goFlat 15 = .ok (.istore 6, 2) := by decide +kernel
theorem dX6_goFlat_17 : decode cX6_goFlat 17 = .ok (.iconst 0, 1) := by decide +kernel
theorem dX6_goFlat_18 : decode cX6_goFlat 18 = .ok (.istore 7, 2) := by decide +kernel
theorem dX6_goFlat_20 : decode cX6_goFlat 20 = .ok (.iload 7, 2) := by decide +kernel
theorem dX6_goFlat_22 : decode cX6_goFlat 22 = .ok (.aload_n 0, 1) := by decide +kernel
theorem dX6_goFlat_23 : decode cX6_goFlat 23 = .ok (.getfield 24, 3) := by decide +kernel
theorem dX6_goFlat_26 : decode cX6_goFlat 26 = .ok (.if_icmp .ge 25, 3) := by decide +kernel
theorem dX6_goFlat_29 : decode cX6_goFlat 29 = .ok (.iload 6, 2) := by decide +kernel
theorem dX6_goFlat_31 : decode cX6_goFlat 31 = .ok (.aload_n 0, 1) := by decide +kernel
theorem dX6_goFlat_32 : decode cX6_goFlat 32 = .ok (.iload 7, 2) := by decide +kernel
theorem dX6_goFlat_34 : decode cX6_goFlat 34 = .ok (.iload 4, 2) := by decide +kernel
theorem dX6_goFlat_36 : decode cX6_goFlat 36 = .ok (.iconst 0, 1) := by decide +kernel
theorem dX6_goFlat_37 : decode cX6_goFlat 37 = .ok (.iconst 0, 1) := by decide +kernel
theorem dX6_goFlat_38 : decode cX6_goFlat 38 = .ok (.iconst 0, 1) := by decide +kernel
theorem dX6_goFlat_39 : decode cX6_goFlat 39 = .ok (.invokevirtual 94, 3) := by decide +kernel
theorem dX6_goFlat_42 : decode cX6_goFlat 42 = .ok (.iadd, 1) := by decide +kernel
theorem dX6_goFlat_43 : decode cX6_goFlat 43 = .ok (.istore 6, 2) := by decide +kernel
theorem dX6_goFlat_45 : decode cX6_goFlat 45 = .ok (.iinc 7 1, 3) := by decide +kernel
theorem dX6_goFlat_48 : decode cX6_goFlat 48 = .ok (.goto (-28), 3) := by decide +kernel
theorem dX6_goFlat_51 : decode cX6_goFlat 51 = .ok (.iload 4, 2) := by decide +kernel
theorem dX6_goFlat_53 : decode cX6_goFlat 53 = .ok (.iload 6, 2) := by decide +kernel
theorem dX6_goFlat_55 : decode cX6_goFlat 55 = .ok (.isub, 1) := by decide +kernel
theorem dX6_goFlat_56 : decode cX6_goFlat 56 = .ok (.istore 4, 2) := by decide +kernel
theorem dX6_goFlat_58 : decode cX6_goFlat 58 = .ok (.iload 4, 2) := by decide +kernel
theorem dX6_goFlat_60 : decode cX6_goFlat 60 = .ok (.ifCond .gt 6, 3) := by decide +kernel
theorem dX6_goFlat_63 : decode cX6_goFlat 63 = .ok (.iload 5, 2) := by decide +kernel
theorem dX6_goFlat_65 : decode cX6_goFlat 65 = .ok (.ireturn, 1) := by decide +kernel
theorem dX6_goFlat_66 : decode cX6_goFlat 66 = .ok (.iload 6, 2) := by decide +kernel
theorem dX6_goFlat_68 : decode cX6_goFlat 68 = .ok (.ifCond .ne 5, 3) := by decide +kernel
theorem dX6_goFlat_71 : decode cX6_goFlat 71 = .ok (.iload_n 3, 1) := by decide +kernel
theorem dX6_goFlat_72 : decode cX6_goFlat 72 = .ok (.ireturn, 1) := by decide +kernel
theorem dX6_goFlat_73 : decode cX6_goFlat 73 = .ok (.iinc 5 1, 3) := by decide +kernel
theorem dX6_goFlat_76 : decode cX6_goFlat 76 = .ok (.goto (-70), 3) := by decide +kernel
theorem dX6_goFlat_79 : decode cX6_goFlat 79 = .ok (.iload_n 3, 1) := by decide +kernel
theorem dX6_goFlat_80 : decode cX6_goFlat 80 = .ok (.ireturn, 1) := by decide +kernel
theorem dX6_spendNext_0 : decode cX6_spendNext 0 = .ok (.iconst 0, 1) := by decide +kernel
theorem dX6_spendNext_1 : decode cX6_spendNext 1 = .ok (.istore_n 2, 1) := by decide +kernel
theorem dX6_spendNext_2 : decode cX6_spendNext 2 = .ok (.iconst 0, 1) := by decide +kernel
theorem dX6_spendNext_3 : decode cX6_spendNext 3 = .ok (.istore_n 3, 1) := by decide +kernel
theorem dX6_spendNext_4 : decode cX6_spendNext 4 = .ok (.iload_n 3, 1) := by decide +kernel
theorem dX6_spendNext_5 : decode cX6_spendNext 5 = .ok (.aload_n 0, 1) := by decide +kernel
theorem dX6_spendNext_6 : decode cX6_spendNext 6 = .ok (.getfield 24, 3) := by decide +kernel
theorem dX6_spendNext_9 : decode cX6_spendNext 9 = .ok (.if_icmp .ge 18, 3) := by decide +kernel
theorem dX6_spendNext_12 : decode cX6_spendNext 12 = .ok (.iload_n 2, 1) := by decide +kernel
theorem dX6_spendNext_13 : decode cX6_spendNext 13 = .ok (.aload_n 0, 1) := by decide +kernel
theorem dX6_spendNext_14 : decode cX6_spendNext 14 = .ok (.getfield 18, 3) := by decide +kernel
theorem dX6_spendNext_17 : decode cX6_spendNext 17 = .ok (.iload_n 3, 1) := by decide +kernel
theorem dX6_spendNext_18 : decode cX6_spendNext 18 = .ok (.iaload, 1) := by decide +kernel
theorem dX6_spendNext_19 : decode cX6_spendNext 19 = .ok (.iadd, 1) := by decide +kernel
theorem dX6_spendNext_20 : decode cX6_spendNext 20 = .ok (.istore_n 2, 1) := by decide +kernel
theorem dX6_spendNext_21 : decode cX6_spendNext 21 = .ok (.iinc 3 1, 3) := by decide +kernel
theorem dX6_spendNext_24 : decode cX6_spendNext 24 = .ok (.goto (-20), 3) := by decide +kernel
theorem dX6_spendNext_27 : decode cX6_spendNext 27 = .ok (.aload_n 0, 1) := by decide +kernel
theorem dX6_spendNext_28 : decode cX6_spendNext 28 = .ok (.getfield 24, 3) := by decide +kernel
theorem dX6_spendNext_31 : decode cX6_spendNext 31 = .ok (.iconst 1, 1) := by decide +kernel
theorem dX6_spendNext_32 : decode cX6_spendNext 32 = .ok (.isub, 1) := by decide +kernel
theorem dX6_spendNext_33 : decode cX6_spendNext 33 = .ok (.istore_n 3, 1) := by decide +kernel
theorem dX6_spendNext_34 : decode cX6_spendNext 34 = .ok (.iload_n 3, 1) := by decide +kernel
theorem dX6_spendNext_35 : decode cX6_spendNext 35 = .ok (.ifCond .lt 76, 3) := by decide +kernel
theorem dX6_spendNext_38 : decode cX6_spendNext 38 = .ok (.iload_n 2, 1) := by decide +kernel
theorem dX6_spendNext_39 : decode cX6_spendNext 39 = .ok (.iload_n 1, 1) := by decide +kernel
theorem dX6_spendNext_40 : decode cX6_spendNext 40 = .ok (.if_icmp .ge 34, 3) := by decide +kernel
theorem dX6_spendNext_43 : decode cX6_spendNext 43 = .ok (.aload_n 0, 1) := by decide +kernel
theorem dX6_spendNext_44 : decode cX6_spendNext 44 = .ok (.getfield 15, 3) := by decide +kernel
theorem dX6_spendNext_47 : decode cX6_spendNext 47 = .ok (.iload_n 3, 1) := by decide +kernel
theorem dX6_spendNext_48 : decode cX6_spendNext 48 = .ok (.iaload, 1) := by decide +kernel
theorem dX6_spendNext_49 : decode cX6_spendNext 49 = .ok (.ifCond .le 25, 3) := by decide +kernel
theorem dX6_spendNext_52 : decode cX6_spendNext 52 = .ok (.aload_n 0, 1) := by decide +kernel
theorem dX6_spendNext_53 : decode cX6_spendNext 53 = .ok (.getfield 18, 3) := by decide +kernel
theorem dX6_spendNext_56 : decode cX6_spendNext 56 = .ok (.iload_n 3, 1) := by decide +kernel
theorem dX6_spendNext_57 : decode cX6_spendNext 57 = .ok (.dup2, 1) := by decide +kernel
theorem dX6_spendNext_58 : decode cX6_spendNext 58 = .ok (.iaload, 1) := by decide +kernel
theorem dX6_spendNext_59 : decode cX6_spendNext 59 = .ok (.iconst 1, 1) := by decide +kernel
theorem dX6_spendNext_60 : decode cX6_spendNext 60 = .ok (.iadd, 1) := by decide +kernel
theorem dX6_spendNext_61 : decode cX6_spendNext 61 = .ok (.iastore, 1) := by decide +kernel
theorem dX6_spendNext_62 : decode cX6_spendNext 62 = .ok (.aload_n 0, 1) := by decide +kernel
theorem dX6_spendNext_63 : decode cX6_spendNext 63 = .ok (.getfield 15, 3) := by decide +kernel
theorem dX6_spendNext_66 : decode cX6_spendNext 66 = .ok (.iload_n 3, 1) := by decide +kernel
theorem dX6_spendNext_67 : decode cX6_spendNext 67 = .ok (.dup2, 1) := by decide +kernel
theorem dX6_spendNext_68 : decode cX6_spendNext 68 = .ok (.iaload, 1) := by decide +kernel
theorem dX6_spendNext_69 : decode cX6_spendNext 69 = .ok (.iconst 1, 1) := by decide +kernel
theorem dX6_spendNext_70 : decode cX6_spendNext 70 = .ok (.isub, 1) := by decide +kernel
theorem dX6_spendNext_71 : decode cX6_spendNext 71 = .ok (.iastore, 1) := by decide +kernel
theorem dX6_spendNext_72 : decode cX6_spendNext 72 = .ok (.iconst 1, 1) := by decide +kernel
theorem dX6_spendNext_73 : decode cX6_spendNext 73 = .ok (.ireturn, 1) := by decide +kernel
theorem dX6_spendNext_74 : decode cX6_spendNext 74 = .ok (.iload_n 2, 1) := by decide +kernel
theorem dX6_spendNext_75 : decode cX6_spendNext 75 = .ok (.aload_n 0, 1) := by decide +kernel
theorem dX6_spendNext_76 : decode cX6_spendNext 76 = .ok (.getfield 18, 3) := by decide +kernel
theorem dX6_spendNext_79 : decode cX6_spendNext 79 = .ok (.iload_n 3, 1) := by decide +kernel
theorem dX6_spendNext_80 : decode cX6_spendNext 80 = .ok (.iaload, 1) := by decide +kernel
theorem dX6_spendNext_81 : decode cX6_spendNext 81 = .ok (.isub, 1) := by decide +kernel
theorem dX6_spendNext_82 : decode cX6_spendNext 82 = .ok (.istore_n 2, 1) := by decide +kernel
theorem dX6_spendNext_83 : decode cX6_spendNext 83 = .ok (.aload_n 0, 1) := by decide +kernel
theorem dX6_spendNext_84 : decode cX6_spendNext 84 = .ok (.getfield 15, 3) := by decide +kernel
theorem dX6_spendNext_87 : decode cX6_spendNext 87 = .ok (.iload_n 3, 1) := by decide +kernel
theorem dX6_spendNext_88 : decode cX6_spendNext 88 = .ok (.dup2, 1) := by decide +kernel
theorem dX6_spendNext_89 : decode cX6_spendNext 89 = .ok (.iaload, 1) := by decide +kernel
theorem dX6_spendNext_90 : decode cX6_spendNext 90 = .ok (.aload_n 0, 1) := by decide +kernel
theorem dX6_spendNext_91 : decode cX6_spendNext 91 = .ok (.getfield 18, 3) := by decide +kernel
theorem dX6_spendNext_94 : decode cX6_spendNext 94 = .ok (.iload_n 3, 1) := by decide +kernel
theorem dX6_spendNext_95 : decode cX6_spendNext 95 = .ok (.iaload, 1) := by decide +kernel
theorem dX6_spendNext_96 : decode cX6_spendNext 96 = .ok (.iadd, 1) := by decide +kernel
theorem dX6_spendNext_97 : decode cX6_spendNext 97 = .ok (.iastore, 1) := by decide +kernel
theorem dX6_spendNext_98 : decode cX6_spendNext 98 = .ok (.aload_n 0, 1) := by decide +kernel
theorem dX6_spendNext_99 : decode cX6_spendNext 99 = .ok (.getfield 18, 3) := by decide +kernel
theorem dX6_spendNext_102 : decode cX6_spendNext 102 = .ok (.iload_n 3, 1) := by decide +kernel
theorem dX6_spendNext_103 : decode cX6_spendNext 103 = .ok (.iconst 0, 1) := by decide +kernel
theorem dX6_spendNext_104 : decode cX6_spendNext 104 = .ok (.iastore, 1) := by decide +kernel
theorem dX6_spendNext_105 : decode cX6_spendNext 105 = .ok (.iinc 3 (-1), 3) := by decide +kernel
theorem dX6_spendNext_108 : decode cX6_spendNext 108 = .ok (.goto (-74), 3) := by decide +kernel
theorem dX6_spendNext_111 : decode cX6_spendNext 111 = .ok (.iconst 0, 1) := by decide +kernel
theorem dX6_spendNext_112 : decode cX6_spendNext 112 = .ok (.ireturn, 1) := by decide +kernel
theorem dX7_init_0 : decode cX7_init 0 = .ok (.aload_n 0, 1) := by decide +kernel
theorem dX7_init_1 : decode cX7_init 1 = .ok (.invokespecial 1, 3) := by decide +kernel
theorem dX7_init_4 : decode cX7_init 4 = .ok (.aload_n 0, 1) := by decide +kernel
theorem dX7_init_5 : decode cX7_init 5 = .ok (.new 7, 3) := by decide +kernel
theorem dX7_init_8 : decode cX7_init 8 = .ok (.dup, 1) := by decide +kernel
theorem dX7_init_9 : decode cX7_init 9 = .ok (.invokespecial 9, 3) := by decide +kernel
theorem dX7_init_12 : decode cX7_init 12 = .ok (.putfield 10, 3) := by decide +kernel
theorem dX7_init_15 : decode cX7_init 15 = .ok (.aload_n 0, 1) := by decide +kernel
theorem dX7_init_16 : decode cX7_init 16 = .ok (.new 16, 3) := by decide +kernel
theorem dX7_init_19 : decode cX7_init 19 = .ok (.dup, 1) := by decide +kernel
theorem dX7_init_20 : decode cX7_init 20 = .ok (.invokespecial 18, 3) := by decide +kernel
theorem dX7_init_23 : decode cX7_init 23 = .ok (.putfield 19, 3) := by decide +kernel
theorem dX7_init_26 : decode cX7_init 26 = .ok (.aload_n 0, 1) := by decide +kernel
theorem dX7_init_27 : decode cX7_init 27 = .ok (.bipush 8, 2) := by decide +kernel
theorem dX7_init_29 : decode cX7_init 29 = .ok (.anewarray 23, 3) := by decide +kernel
theorem dX7_init_32 : decode cX7_init 32 = .ok (.putfield 25, 3) := by decide +kernel
theorem dX7_init_35 : decode cX7_init 35 = .ok (.iconst 0, 1) := by decide +kernel
theorem dX7_init_36 : decode cX7_init 36 = .ok (.istore_n 1, 1) := by decide +kernel
theorem dX7_init_37 : decode cX7_init 37 = .ok (.iload_n 1, 1) := by decide +kernel
theorem dX7_init_38 : decode cX7_init 38 = .ok (.bipush 8, 2) := by decide +kernel
theorem dX7_init_40 : decode cX7_init 40 = .ok (.if_icmp .ge 22, 3) := by decide +kernel
theorem dX7_init_43 : decode cX7_init 43 = .ok (.aload_n 0, 1) := by decide +kernel
theorem dX7_init_44 : decode cX7_init 44 = .ok (.getfield 25, 3) := by decide +kernel
theorem dX7_init_47 : decode cX7_init 47 = .ok (.iload_n 1, 1) := by decide +kernel
theorem dX7_init_48 : decode cX7_init 48 = .ok (.new 23, 3) := by decide +kernel
theorem dX7_init_51 : decode cX7_init 51 = .ok (.dup, 1) := by decide +kernel
theorem dX7_init_52 : decode cX7_init 52 = .ok (.invokespecial 29, 3) := by decide +kernel
theorem dX7_init_55 : decode cX7_init 55 = .ok (.aastore, 1) := by decide +kernel
theorem dX7_init_56 : decode cX7_init 56 = .ok (.iinc 1 1, 3) := by decide +kernel
theorem dX7_init_59 : decode cX7_init 59 = .ok (.goto (-22), 3) := by decide +kernel
theorem dX7_init_62 : decode cX7_init 62 = .ok (.aload_n 0, 1) := by decide +kernel
theorem dX7_init_63 : decode cX7_init 63 = .ok (.new 30, 3) := by decide +kernel
theorem dX7_init_66 : decode cX7_init 66 = .ok (.dup, 1) := by decide +kernel
theorem dX7_init_67 : decode cX7_init 67 = .ok (.invokespecial 32, 3) := by decide +kernel
theorem dX7_init_70 : decode cX7_init 70 = .ok (.putfield 33, 3) := by decide +kernel
theorem dX7_init_73 : decode cX7_init 73 = .ok (.aload_n 0, 1) := by decide +kernel
theorem dX7_init_74 : decode cX7_init 74 = .ok (.new 37, 3) := by decide +kernel
theorem dX7_init_77 : decode cX7_init 77 = .ok (.dup, 1) := by decide +kernel
theorem dX7_init_78 : decode cX7_init 78 = .ok (.invokespecial 39, 3) := by decide +kernel
theorem dX7_init_81 : decode cX7_init 81 = .ok (.putfield 40, 3) := by decide +kernel
theorem dX7_init_84 : decode cX7_init 84 = .ok (.aload_n 0, 1) := by decide +kernel
theorem dX7_init_85 : decode cX7_init 85 = .ok (.new 44, 3) := by decide +kernel
theorem dX7_init_88 : decode cX7_init 88 = .ok (.dup, 1) := by decide +kernel
theorem dX7_init_89 : decode cX7_init 89 = .ok (.aload_n 0, 1) := by decide +kernel
theorem dX7_init_90 : decode cX7_init 90 = .ok (.getfield 19, 3) := by decide +kernel
theorem dX7_init_93 : decode cX7_init 93 = .ok (.invokespecial 46, 3) := by decide +kernel
theorem dX7_init_96 : decode cX7_init 96 = .ok (.putfield 49, 3) := by decide +kernel
theorem dX7_init_99 : decode cX7_init 99 = .ok (.aload_n 0, 1) := by decide +kernel
theorem dX7_init_100 : decode cX7_init 100 = .ok (.new 53, 3) := by decide +kernel
theorem dX7_init_103 : decode cX7_init 103 = .ok (.dup, 1) := by decide +kernel
theorem dX7_init_104 : decode cX7_init 104 = .ok (.invokespecial 55, 3) := by decide +kernel
theorem dX7_init_107 : decode cX7_init 107 = .ok (.putfield 56, 3) := by decide +kernel
theorem dX7_init_110 : decode cX7_init 110 = .ok (.aload_n 0, 1) := by decide +kernel
theorem dX7_init_111 : decode cX7_init 111 = .ok (.iconst 4, 1) := by decide +kernel
theorem dX7_init_112 : decode cX7_init 112 = .ok (.newarray .int, 2) := by decide +kernel
theorem dX7_init_114 : decode cX7_init 114 = .ok (.putfield 60, 3) := by decide +kernel
theorem dX7_init_117 : decode cX7_init 117 = .ok (.aload_n 0, 1) := by decide +kernel
theorem dX7_init_118 : decode cX7_init 118 = .ok (.iconst 4, 1) := by decide +kernel
theorem dX7_init_119 : decode cX7_init 119 = .ok (.newarray .int, 2) := by decide +kernel
theorem dX7_init_121 : decode cX7_init 121 = .ok (.putfield 64, 3) := by decide +kernel
theorem dX7_init_124 : decode cX7_init 124 = .ok (.aload_n 0, 1) := by decide +kernel
theorem dX7_init_125 : decode cX7_init 125 = .ok (.iconst 0, 1) := by decide +kernel
theorem dX7_init_126 : decode cX7_init 126 = .ok (.putfield 67, 3) := by decide +kernel
theorem dX7_init_129 : decode cX7_init 129 = .ok (.aload_n 0, 1) := by decide +kernel
theorem dX7_init_130 : decode cX7_init 130 = .ok (.bipush 9, 2) := by decide +kernel
theorem dX7_init_132 : decode cX7_init 132 = .ok (.putfield 71, 3) := by decide +kernel
theorem dX7_init_135 : decode cX7_init 135 = .ok (.return_, 1) := by decide +kernel
theorem dX7_letters_0 : decode cX7_letters 0 = .ok (.iconst 0, 1) := by decide +kernel
theorem dX7_letters_1 : decode cX7_letters 1 = .ok (.istore_n 3, 1) := by decide +kernel
theorem dX7_letters_2 : decode cX7_letters 2 = .ok (.iconst 0, 1) := by decide +kernel
theorem dX7_letters_3 : decode cX7_letters 3 = .ok (.istore 4, 2) := by decide +kernel
theorem dX7_letters_5 : decode cX7_letters 5 = .ok (.iconst 0, 1) := by decide +kernel
theorem dX7_letters_6 : decode cX7_letters 6 = .ok (.istore 5, 2) := by decide +kernel
theorem dX7_letters_8 : decode cX7_letters 8 = .ok (.iload 5, 2) := by decide +kernel
theorem dX7_letters_10 : decode cX7_letters 10 = .ok (.bipush 8, 2) := by decide +kernel
theorem dX7_letters_12 : decode cX7_letters 12 = .ok (.if_icmp .ge 51, 3) := by decide +kernel
theorem dX7_letters_15 : decode cX7_letters 15 = .ok (.lload_n 1, 1) := by decide +kernel
theorem dX7_letters_16 : decode cX7_letters 16 = .ok (.iload 5, 2) := by decide +kernel
theorem dX7_letters_18 : decode cX7_letters 18 = .ok (.invokestatic 74, 3) := by decide +kernel
theorem dX7_letters_21 : decode cX7_letters 21 = .ok (.istore 6, 2) := by decide +kernel
theorem dX7_letters_23 : decode cX7_letters 23 = .ok (.iload 6, 2) := by decide +kernel
theorem dX7_letters_25 : decode cX7_letters 25 = .ok (.bipush 126, 2) := by decide +kernel
theorem dX7_letters_27 : decode cX7_letters 27 = .ok (.if_icmp .gt 13, 3) := by decide +kernel
theorem dX7_letters_30 : decode cX7_letters 30 = .ok (.iload 4, 2) := by decide +kernel
theorem dX7_letters_32 : decode cX7_letters 32 = .ok (.ifCond .eq 11, 3) := by decide +kernel
theorem dX7_letters_35 : decode cX7_letters 35 = .ok (.iload 6, 2) := by decide +kernel
theorem dX7_letters_37 : decode cX7_letters 37 = .ok (.ifCond .eq 6, 3) := by decide +kernel
theorem dX7_letters_40 : decode cX7_letters 40 = .ok (.bipush (-102), 2) := by decide +kernel
theorem dX7_letters_42 : decode cX7_letters 42 = .ok (.ireturn, 1) := by decide +kernel
theorem dX7_letters_43 : decode cX7_letters 43 = .ok (.iload 6, 2) := by decide +kernel
theorem dX7_letters_45 : decode cX7_letters 45 = .ok (.ifCond .ne 9, 3) := by decide +kernel
theorem dX7_letters_48 : decode cX7_letters 48 = .ok (.iconst 1, 1) := by decide +kernel
theorem dX7_letters_49 : decode cX7_letters 49 = .ok (.istore 4, 2) := by decide +kernel
theorem dX7_letters_51 : decode cX7_letters 51 = .ok (.goto 6, 3) := by decide +kernel
theorem dX7_letters_54 : decode cX7_letters 54 = .ok (.iinc 3 1, 3) := by decide +kernel
theorem dX7_letters_57 : decode cX7_letters 57 = .ok (.iinc 5 1, 3) := by decide +kernel
theorem dX7_letters_60 : decode cX7_letters 60 = .ok (.goto (-52), 3) := by decide +kernel
theorem dX7_letters_63 : decode cX7_letters 63 = .ok (.aload_n 0, 1) := by decide +kernel
theorem dX7_letters_64 : decode cX7_letters 64 = .ok (.getfield 10, 3) := by decide +kernel
theorem dX7_letters_67 : decode cX7_letters 67 = .ok (.getfield 78, 3) := by decide +kernel
theorem dX7_letters_70 : decode cX7_letters 70 = .ok (.iload_n 3, 1) := by decide +kernel
theorem dX7_letters_71 : decode cX7_letters 71 = .ok (.iadd, 1) := by decide +kernel
theorem dX7_letters_72 : decode cX7_letters 72 = .ok (.bipush 50, 2) := by decide +kernel
theorem dX7_letters_74 : decode cX7_letters 74 = .ok (.if_icmp .le 6, 3) := by decide +kernel
theorem dX7_letters_77 : decode cX7_letters 77 = .ok (.bipush (-104), 2) := by decide +kernel
theorem dX7_letters_79 : decode cX7_letters 79 = .ok (.ireturn, 1) := by decide +kernel
theorem dX7_letters_80 : decode cX7_letters 80 = .ok (.iconst 0, 1) := by decide +kernel
theorem dX7_letters_81 : decode cX7_letters 81 = .ok (.istore 5, 2) := by decide +kernel
theorem dX7_letters_83 : decode cX7_letters 83 = .ok (.iload 5, 2) := by decide +kernel
theorem dX7_letters_85 : decode cX7_letters 85 = .ok (.iload_n 3, 1) := by decide +kernel
theorem dX7_letters_86 : decode cX7_letters 86 = .ok (.if_icmp .ge 22, 3) := by decide +kernel
theorem dX7_letters_89 : decode cX7_letters 89 = .ok (.aload_n 0, 1) := by decide +kernel
theorem dX7_letters_90 : decode cX7_letters 90 = .ok (.getfield 10, 3) := by decide +kernel
theorem dX7_letters_93 : decode cX7_letters 93 = .ok (.lload_n 1, 1) := by decide +kernel
theorem dX7_letters_94 : decode cX7_letters 94 = .ok (.iload 5, 2) := by decide +kernel
theorem dX7_letters_96 : decode cX7_letters 96 = .ok (.invokestatic 74, 3) := by decide +kernel
theorem dX7_letters_99 : decode cX7_letters 99 = .ok (.invokevirtual 81, 3) := by decide +kernel
theorem dX7_letters_102 : decode cX7_letters 102 = .ok (.iinc 5 1, 3) := by decide +kernel
theorem dX7_letters_105 : decode cX7_letters 105 = .ok (.goto (-22), 3) := by decide +kernel
theorem dX7_letters_108 : decode cX7_letters 108 = .ok (.aload_n 0, 1) := by decide +kernel
theorem dX7_letters_109 : decode cX7_letters 109 = .ok (.getfield 10, 3) := by decide +kernel
theorem dX7_letters_112 : decode cX7_letters 112 = .ok (.getfield 78, 3) := by decide +kernel
theorem dX7_letters_115 : decode cX7_letters 115 = .ok (.ireturn, 1) := by decide +kernel
theorem dX7_blank_0 : decode cX7_blank 0 = .ok (.aload_n 0, 1) := by decide +kernel
theorem dX7_blank_1 : decode cX7_blank 1 = .ok (.getfield 10, 3) := by decide +kernel
theorem dX7_blank_4 : decode cX7_blank 4 = .ok (.getfield 78, 3) := by decide +kernel
theorem dX7_blank_7 : decode cX7_blank 7 = .ok (.istore_n 1, 1) := by decide +kernel
theorem dX7_blank_8 : decode cX7_blank 8 = .ok (.aload_n 0, 1) := by decide +kernel
theorem dX7_blank_9 : decode cX7_blank 9 = .ok (.getfield 10, 3) := by decide +kernel
theorem dX7_blank_12 : decode cX7_blank 12 = .ok (.iconst 0, 1) := by decide +kernel
theorem dX7_blank_13 : decode cX7_blank 13 = .ok (.putfield 78, 3) := by decide +kernel
theorem dX7_blank_16 : decode cX7_blank 16 = .ok (.iload_n 1, 1) := by decide +kernel
theorem dX7_blank_17 : decode cX7_blank 17 = .ok (.ireturn, 1) := by decide +kernel
theorem dX7_fault_0 : decode cX7_fault 0 = .ok (.iload_n 1, 1) := by decide +kernel
theorem dX7_fault_1 : decode cX7_fault 1 = .ok (.ifCond .ne 11, 3) := by decide +kernel
theorem dX7_fault_4 : decode cX7_fault 4 = .ok (.aload_n 0, 1) := by decide +kernel
theorem dX7_fault_5 : decode cX7_fault 5 = .ok (.getfield 10, 3) := by decide +kernel
theorem dX7_fault_8 : decode cX7_fault 8 = .ok (.invokevirtual 85, 3) := by decide +kernel
theorem dX7_fault_11 : decode cX7_fault 11 = .ok (.ireturn, 1) := by decide +kernel
theorem dX7_fault_12 : decode cX7_fault 12 = .ok (.iload_n 1, 1) := by decide +kernel
theorem dX7_fault_13 : decode cX7_fault 13 = .ok (.iconst 1, 1) := by decide +kernel
theorem dX7_fault_14 : decode cX7_fault 14 = .ok (.if_icmp .ne 13, 3) := by decide +kernel
theorem dX7_fault_17 : decode cX7_fault 17 = .ok (.aload_n 0, 1) := by decide +kernel
theorem dX7_fault_18 : decode cX7_fault 18 = .ok (.getfield 10, 3) := by decide +kernel
theorem dX7_fault_21 : decode cX7_fault 21 = .ok (.invokevirtual 89, 3) := by decide +kernel
theorem dX7_fault_24 : decode cX7_fault 24 = .ok (.goto 5, 3) := by decide +kernel
theorem dX7_fault_27 : decode cX7_fault 27 = .ok (.bipush (-102), 2) := by decide +kernel
theorem dX7_fault_29 : decode cX7_fault 29 = .ok (.ireturn, 1) := by decide +kernel
theorem dX7_hill_0 : decode cX7_hill 0 = .ok (.aload_n 0, 1) := by decide +kernel
theorem dX7_hill_1 : decode cX7_hill 1 = .ok (.getfield 10, 3) := by decide +kernel
theorem dX7_hill_4 : decode cX7_hill 4 = .ok (.invokevirtual 92, 3) := by decide +kernel
theorem dX7_hill_7 : decode cX7_hill 7 = .ok (.ifCond .ne 6, 3) := by decide +kernel
theorem dX7_hill_10 : decode cX7_hill 10 = .ok (.bipush (-103), 2) := by decide +kernel
theorem dX7_hill_12 : decode cX7_hill 12 = .ok (.ireturn, 1) := by decide +kernel
theorem dX7_hill_13 : decode cX7_hill 13 = .ok (.aload_n 0, 1) := by decide +kernel
theorem dX7_hill_14 : decode cX7_hill 14 = .ok (.getfield 19, 3) := by decide +kernel
theorem dX7_hill_17 : decode cX7_hill 17 = .ok (.aload_n 0, 1) := by decide +kernel
theorem dX7_hill_18 : decode cX7_hill 18 = .ok (.getfield 10, 3) := by decide +kernel
theorem dX7_hill_21 : decode cX7_hill 21 = .ok (.invokevirtual 96, 3) := by decide +kernel
theorem dX7_hill_24 : decode cX7_hill 24 = .ok (.aload_n 0, 1) := by decide +kernel
theorem dX7_hill_25 : decode cX7_hill 25 = .ok (.getfield 10, 3) := by decide +kernel
theorem dX7_hill_28 : decode cX7_hill 28 = .ok (.iconst 0, 1) := by decide +kernel
theorem dX7_hill_29 : decode cX7_hill 29 = .ok (.putfield 78, 3) := by decide +kernel
theorem dX7_hill_32 : decode cX7_hill 32 = .ok (.aload_n 0, 1) := by decide +kernel
theorem dX7_hill_33 : decode cX7_hill 33 = .ok (.getfield 19, 3) := by decide +kernel
theorem dX7_hill_36 : decode cX7_hill 36 = .ok (.getfield 100, 3) := by decide +kernel
theorem dX7_hill_39 : decode cX7_hill 39 = .ok (.ireturn, 1) := by decide +kernel
theorem dX7_cart_0 : decode cX7_cart 0 = .ok (.aload_n 0, 1) := by decide +kernel
theorem dX7_cart_1 : decode cX7_cart 1 = .ok (.getfield 10, 3) := by decide +kernel
theorem dX7_cart_4 : decode cX7_cart 4 = .ok (.invokevirtual 101, 3) := by decide +kernel
theorem dX7_cart_7 : decode cX7_cart 7 = .ok (.ifCond .ne 6, 3) := by decide +kernel
theorem dX7_cart_10 : decode cX7_cart 10 = .ok (.bipush (-103), 2) := by decide +kernel
theorem dX7_cart_12 : decode cX7_cart 12 = .ok (.ireturn, 1) := by decide +kernel
theorem dX7_cart_13 : decode cX7_cart 13 = .ok (.aload_n 0, 1) := by decide +kernel
theorem dX7_cart_14 : decode cX7_cart 14 = .ok (.getfield 67, 3) := by decide +kernel
theorem dX7_cart_17 : decode cX7_cart 17 = .ok (.bipush 8, 2) := by decide +kernel
theorem dX7_cart_19 : decode cX7_cart 19 = .ok (.if_icmp .lt 6, 3) := by decide +kernel
theorem dX7_cart_22 : decode cX7_cart 22 = .ok (.bipush (-104), 2) := by decide +kernel
theorem dX7_cart_24 : decode cX7_cart 24 = .ok (.ireturn, 1) := by decide +kernel
theorem dX7_cart_25 : decode cX7_cart 25 = .ok (.aload_n 0, 1) := by decide +kernel
theorem dX7_cart_26 : decode cX7_cart 26 = .ok (.getfield 25, 3) := by decide +kernel
theorem dX7_cart_29 : decode cX7_cart 29 = .ok (.aload_n 0, 1) := by decide +kernel
theorem dX7_cart_30 : decode cX7_cart 30 = .ok (.getfield 67, 3) := by decide +kernel
theorem dX7_cart_33 : decode cX7_cart 33 = .ok (.aaload, 1) := by decide +kernel
theorem dX7_cart_34 : decode cX7_cart 34 = .ok (.aload_n 0, 1) := by decide +kernel
theorem dX7_cart_35 : decode cX7_cart 35 = .ok (.getfield 10, 3) := by decide +kernel
theorem dX7_cart_38 : decode cX7_cart 38 = .ok (.invokevirtual 104, 3) := by decide +kernel
theorem dX7_cart_41 : decode cX7_cart 41 = .ok (.aload_n 0, 1) := by decide +kernel
theorem dX7_cart_42 : decode cX7_cart 42 = .ok (.getfield 10, 3) := by decide +kernel
theorem dX7_cart_45 : decode cX7_cart 45 = .ok (.iconst 0, 1) := by decide +kernel
theorem dX7_cart_46 : decode cX7_cart 46 = .ok (.putfield 78, 3) := by decide +kernel
theorem dX7_cart_49 : decode cX7_cart 49 = .ok (.aload_n 0, 1) := by decide +kernel
theorem dX7_cart_50 : decode cX7_cart 50 = .ok (.dup, 1) := by decide +kernel
theorem dX7_cart_51 : decode cX7_cart 51 = .ok (.getfield 67, 3) := by decide +kernel
theorem dX7_cart_54 : decode cX7_cart 54 = .ok (.iconst 1, 1) := by decide +kernel
theorem dX7_cart_55 : decode cX7_cart 55 = .ok (.iadd, 1) := by decide +kernel
theorem dX7_cart_56 : decode cX7_cart 56 = .ok (.putfield 67, 3) := by decide +kernel
theorem dX7_cart_59 : decode cX7_cart 59 = .ok (.aload_n 0, 1) := by decide +kernel
theorem dX7_cart_60 : decode cX7_cart 60 = .ok (.getfield 67, 3) := by decide +kernel
theorem dX7_cart_63 : decode cX7_cart 63 = .ok (.iconst 1, 1) := by decide +kernel
theorem dX7_cart_64 : decode cX7_cart 64 = .ok (.isub, 1) := by decide +kernel
theorem dX7_cart_65 : decode cX7_cart 65 = .ok (.ireturn, 1) := by decide +kernel
theorem dX7_cell_0 : decode cX7_cell 0 = .ok (.aload_n 0, 1) := by decide +kernel
theorem dX7_cell_1 : decode cX7_cell 1 = .ok (.iload_n 1, 1) := by decide +kernel
theorem dX7_cell_2 : decode cX7_cell 2 = .ok (.invokevirtual 105, 3) := by decide +kernel
theorem dX7_cell_5 : decode cX7_cell 5 = .ok (.ifCond .ne 6, 3) := by decide +kernel
theorem dX7_cell_8 : decode cX7_cell 8 = .ok (.bipush (-101), 2) := by decide +kernel
theorem dX7_cell_10 : decode cX7_cell 10 = .ok (.ireturn, 1) := by decide +kernel
theorem dX7_cell_11 : decode cX7_cell 11 = .ok (.iload_n 2, 1) := by decide +kernel
theorem dX7_cell_12 : decode cX7_cell 12 = .ok (.tableswitch 72 0 3 #[32, 42, 52, 62], 32) := by decide +kernel
theorem dX7_cell_44 : decode cX7_cell 44 = .ok (.aload_n 0, 1) := by decide +kernel
theorem dX7_cell_45 : decode cX7_cell 45 = .ok (.getfield 19, 3) := by decide +kernel
theorem dX7_cell_48 : decode cX7_cell 48 = .ok (.getfield 109, 3) := by decide +kernel
theorem dX7_cell_51 : decode cX7_cell 51 = .ok (.iload_n 1, 1) := by decide +kernel
theorem dX7_cell_52 : decode cX7_cell 52 = .ok (.iaload, 1) := by decide +kernel
theorem dX7_cell_53 : decode cX7_cell 53 = .ok (.ireturn, 1) := by decide +kernel
theorem dX7_cell_54 : decode cX7_cell 54 = .ok (.aload_n 0, 1) := by decide +kernel
theorem dX7_cell_55 : decode cX7_cell 55 = .ok (.getfield 19, 3) := by decide +kernel
theorem dX7_cell_58 : decode cX7_cell 58 = .ok (.getfield 112, 3) := by decide +kernel
theorem dX7_cell_61 : decode cX7_cell 61 = .ok (.iload_n 1, 1) := by decide +kernel
theorem dX7_cell_62 : decode cX7_cell 62 = .ok (.iaload, 1) := by decide +kernel
theorem dX7_cell_63 : decode cX7_cell 63 = .ok (.ireturn, 1) := by decide +kernel
theorem dX7_cell_64 : decode cX7_cell 64 = .ok (.aload_n 0, 1) := by decide +kernel
theorem dX7_cell_65 : decode cX7_cell 65 = .ok (.getfield 19, 3) := by decide +kernel
theorem dX7_cell_68 : decode cX7_cell 68 = .ok (.getfield 115, 3) := by decide +kernel
theorem dX7_cell_71 : decode cX7_cell 71 = .ok (.iload_n 1, 1) := by decide +kernel
theorem dX7_cell_72 : decode cX7_cell 72 = .ok (.iaload, 1) := by decide +kernel
theorem dX7_cell_73 : decode cX7_cell 73 = .ok (.ireturn, 1) := by decide +kernel
theorem dX7_cell_74 : decode cX7_cell 74 = .ok (.aload_n 0, 1) := by decide +kernel
theorem dX7_cell_75 : decode cX7_cell 75 = .ok (.getfield 19, 3) := by decide +kernel
theorem dX7_cell_78 : decode cX7_cell 78 = .ok (.getfield 118, 3) := by decide +kernel
theorem dX7_cell_81 : decode cX7_cell 81 = .ok (.iload_n 1, 1) := by decide +kernel
theorem dX7_cell_82 : decode cX7_cell 82 = .ok (.iaload, 1) := by decide +kernel
theorem dX7_cell_83 : decode cX7_cell 83 = .ok (.ireturn, 1) := by decide +kernel
theorem dX7_cell_84 : decode cX7_cell 84 = .ok (.bipush (-102), 2) := by decide +kernel
theorem dX7_cell_86 : decode cX7_cell 86 = .ok (.ireturn, 1) := by decide +kernel
theorem dX7_about_0 : decode cX7_about 0 = .ok (.aload_n 0, 1) := by decide +kernel
theorem dX7_about_1 : decode cX7_about 1 = .ok (.iload_n 1, 1) := by decide +kernel
theorem dX7_about_2 : decode cX7_about 2 = .ok (.invokevirtual 121, 3) := by decide +kernel
theorem dX7_about_5 : decode cX7_about 5 = .ok (.ifCond .ne 6, 3) := by decide +kernel
theorem dX7_about_8 : decode cX7_about 8 = .ok (.bipush (-101), 2) := by decide +kernel
theorem dX7_about_10 : decode cX7_about 10 = .ok (.ireturn, 1) := by decide +kernel
theorem dX7_about_11 : decode cX7_about 11 = .ok (.iload_n 2, 1) := by decide +kernel
theorem dX7_about_12 : decode cX7_about 12 = .ok (.lookupswitch 48 #[(0, 28), (1, 38)], 28) := by decide +kernel
theorem dX7_about_40 : decode cX7_about 40 = .ok (.aload_n 0, 1) := by decide +kernel
theorem dX7_about_41 : decode cX7_about 41 = .ok (.getfield 25, 3) := by decide +kernel
theorem dX7_about_44 : decode cX7_about 44 = .ok (.iload_n 1, 1) := by decide +kernel
theorem dX7_about_45 : decode cX7_about 45 = .ok (.aaload, 1) := by decide +kernel
theorem dX7_about_46 : decode cX7_about 46 = .ok (.getfield 123, 3) := by decide +kernel
theorem dX7_about_49 : decode cX7_about 49 = .ok (.ireturn, 1) := by decide +kernel
theorem dX7_about_50 : decode cX7_about 50 = .ok (.aload_n 0, 1) := by decide +kernel
theorem dX7_about_51 : decode cX7_about 51 = .ok (.getfield 25, 3) := by decide +kernel
theorem dX7_about_54 : decode cX7_about 54 = .ok (.iload_n 1, 1) := by decide +kernel
theorem dX7_about_55 : decode cX7_about 55 = .ok (.aaload, 1) := by decide +kernel
theorem dX7_about_56 : decode cX7_about 56 = .ok (.getfield 126, 3) := by decide +kernel
theorem dX7_about_59 : decode cX7_about 59 = .ok (.ireturn, 1) := by decide +kernel
theorem dX7_about_60 : decode cX7_about 60 = .ok (.bipush (-102), 2) := by decide +kernel
theorem dX7_about_62 : decode cX7_about 62 = .ok (.ireturn, 1) := by decide +kernel
theorem dX7_loss_0 : decode cX7_loss 0 = .ok (.aload_n 0, 1) := by decide +kernel
theorem dX7_loss_1 : decode cX7_loss 1 = .ok (.iload_n 1, 1) := by decide +kernel
theorem dX7_loss_2 : decode cX7_loss 2 = .ok (.iload_n 2, 1) := by decide +kernel
theorem dX7_loss_3 : decode cX7_loss 3 = .ok (.invokevirtual 127, 3) := by decide +kernel
theorem dX7_loss_6 : decode cX7_loss 6 = .ok (.ifCond .ne 6, 3) := by decide +kernel
theorem dX7_loss_9 : decode cX7_loss 9 = .ok (.bipush (-101), 2) := by decide +kernel
theorem dX7_loss_11 : decode cX7_loss 11 = .ok (.ireturn, 1) := by decide +kernel
theorem dX7_loss_12 : decode cX7_loss 12 = .ok (.iload_n 3, 1) := by decide +kernel
theorem dX7_loss_13 : decode cX7_loss 13 = .ok (.lookupswitch 51 #[(0, 27), (1, 39)], 27) := by decide +kernel
theorem dX7_loss_40 : decode cX7_loss 40 = .ok (.aload_n 0, 1) := by decide +kernel
theorem dX7_loss_41 : decode cX7_loss 41 = .ok (.getfield 25, 3) := by decide +kernel
theorem dX7_loss_44 : decode cX7_loss 44 = .ok (.iload_n 1, 1) := by decide +kernel
theorem dX7_loss_45 : decode cX7_loss 45 = .ok (.aaload, 1) := by decide +kernel
theorem dX7_loss_46 : decode cX7_loss 46 = .ok (.getfield 131, 3) := by decide +kernel
theorem dX7_loss_49 : decode cX7_loss 49 = .ok (.iload_n 2, 1) := by decide +kernel
theorem dX7_loss_50 : decode cX7_loss 50 = .ok (.iaload, 1) := by decide +kernel
theorem dX7_loss_51 : decode cX7_loss 51 = .ok (.ireturn, 1) := by decide +kernel
theorem dX7_loss_52 : decode cX7_loss 52 = .ok (.aload_n 0, 1) := by decide +kernel
theorem dX7_loss_53 : decode cX7_loss 53 = .ok (.getfield 25, 3) := by decide +kernel
theorem dX7_loss_56 : decode cX7_loss 56 = .ok (.iload_n 1, 1) := by decide +kernel
theorem dX7_loss_57 : decode cX7_loss 57 = .ok (.aaload, 1) := by decide +kernel
theorem dX7_loss_58 : decode cX7_loss 58 = .ok (.getfield 134, 3) := by decide +kernel
theorem dX7_loss_61 : decode cX7_loss 61 = .ok (.iload_n 2, 1) := by decide +kernel
theorem dX7_loss_62 : decode cX7_loss 62 = .ok (.iaload, 1) := by decide +kernel
theorem dX7_loss_63 : decode cX7_loss 63 = .ok (.ireturn, 1) := by decide +kernel
theorem dX7_loss_64 : decode cX7_loss 64 = .ok (.bipush (-102), 2) := by decide +kernel
theorem dX7_loss_66 : decode cX7_loss 66 = .ok (.ireturn, 1) := by decide +kernel
theorem dX7_as_0 : decode cX7_as 0 = .ok (.aload_n 0, 1) := by decide +kernel
theorem dX7_as_1 : decode cX7_as 1 = .ok (.iload_n 1, 1) := by decide +kernel
theorem dX7_as_2 : decode cX7_as 2 = .ok (.iload_n 2, 1) := by decide +kernel
theorem dX7_as_3 : decode cX7_as 3 = .ok (.invokevirtual 127, 3) := by decide +kernel
theorem dX7_as_6 : decode cX7_as 6 = .ok (.ifCond .ne 6, 3) := by decide +kernel
theorem dX7_as_9 : decode cX7_as 9 = .ok (.bipush (-101), 2) := by decide +kernel
theorem dX7_as_11 : decode cX7_as 11 = .ok (.ireturn, 1) := by decide +kernel
theorem dX7_as_12 : decode cX7_as 12 = .ok (.iload_n 3, 1) := by decide +kernel
theorem dX7_as_13 : decode cX7_as 13 = .ok (.iconst 0, 1) := by decide +kernel
theorem dX7_as_14 : decode cX7_as 14 = .ok (.iconst 5, 1) := by decide +kernel
theorem dX7_as_15 : decode cX7_as 15 = .ok (.invokestatic 137, 3) := by decide +kernel
theorem dX7_as_18 : decode cX7_as 18 = .ok (.ifCond .ne 6, 3) := by decide +kernel
theorem dX7_as_21 : decode cX7_as 21 = .ok (.bipush (-102), 2) := by decide +kernel
theorem dX7_as_23 : decode cX7_as 23 = .ok (.ireturn, 1) := by decide +kernel
theorem dX7_as_24 : decode cX7_as 24 = .ok (.aload_n 0, 1) := by decide +kernel
theorem dX7_as_25 : decode cX7_as 25 = .ok (.getfield 25, 3) := by decide +kernel
theorem dX7_as_28 : decode cX7_as 28 = .ok (.iload_n 1, 1) := by decide +kernel
theorem dX7_as_29 : decode cX7_as 29 = .ok (.aaload, 1) := by decide +kernel
theorem dX7_as_30 : decode cX7_as 30 = .ok (.getfield 131, 3) := by decide +kernel
theorem dX7_as_33 : decode cX7_as 33 = .ok (.iload_n 2, 1) := by decide +kernel
theorem dX7_as_34 : decode cX7_as 34 = .ok (.iaload, 1) := by decide +kernel
theorem dX7_as_35 : decode cX7_as 35 = .ok (.iload_n 3, 1) := by decide +kernel
theorem dX7_as_36 : decode cX7_as 36 = .ok (.invokestatic 141, 3) := by decide +kernel
theorem dX7_as_39 : decode cX7_as 39 = .ok (.ifCond .eq 7, 3) := by decide +kernel
theorem dX7_as_42 : decode cX7_as 42 = .ok (.iload_n 2, 1) := by decide +kernel
theorem dX7_as_43 : decode cX7_as 43 = .ok (.goto 4, 3) := by decide +kernel
theorem dX7_as_46 : decode cX7_as 46 = .ok (.iconst (-1), 1) := by decide +kernel
theorem dX7_as_47 : decode cX7_as 47 = .ok (.ireturn, 1) := by decide +kernel
theorem dX7_weigh_0 : decode cX7_weigh 0 = .ok (.aload_n 0, 1) := by decide +kernel
theorem dX7_weigh_1 : decode cX7_weigh 1 = .ok (.iload_n 1, 1) := by decide +kernel
theorem dX7_weigh_2 : decode cX7_weigh 2 = .ok (.invokevirtual 121, 3) := by decide +kernel
theorem dX7_weigh_5 : decode cX7_weigh 5 = .ok (.ifCond .ne 6, 3) := by decide +kernel
theorem dX7_weigh_8 : decode cX7_weigh 8 = .ok (.bipush (-101), 2) := by decide +kernel
theorem dX7_weigh_10 : decode cX7_weigh 10 = .ok (.ireturn, 1) := by decide +kernel
theorem dX7_weigh_11 : decode cX7_weigh 11 = .ok (.iload_n 2, 1) := by decide +kernel
theorem dX7_weigh_12 : decode cX7_weigh 12 = .ok (.bipush 10, 2) := by decide +kernel
theorem dX7_weigh_14 : decode cX7_weigh 14 = .ok (.bipush 99, 2) := by decide +kernel
theorem dX7_weigh_16 : decode cX7_weigh 16 = .ok (.invokestatic 137, 3) := by decide +kernel
theorem dX7_weigh_19 : decode cX7_weigh 19 = .ok (.ifCond .ne 6, 3) := by decide +kernel
theorem dX7_weigh_22 : decode cX7_weigh 22 = .ok (.bipush (-102), 2) := by decide +kernel
theorem dX7_weigh_24 : decode cX7_weigh 24 = .ok (.ireturn, 1) := by decide +kernel
theorem dX7_weigh_25 : decode cX7_weigh 25 = .ok (.aload_n 0, 1) := by decide +kernel
theorem dX7_weigh_26 : decode cX7_weigh 26 = .ok (.getfield 25, 3) := by decide +kernel
theorem dX7_weigh_29 : decode cX7_weigh 29 = .ok (.iload_n 1, 1) := by decide +kernel
theorem dX7_weigh_30 : decode cX7_weigh 30 = .ok (.aaload, 1) := by decide +kernel
theorem dX7_weigh_31 : decode cX7_weigh 31 = .ok (.getfield 123, 3) := by decide +kernel
theorem dX7_weigh_34 : decode cX7_weigh 34 = .ok (.istore_n 3, 1) := by decide +kernel
theorem dX7_weigh_35 : decode cX7_weigh 35 = .ok (.aload_n 0, 1) := by decide +kernel
theorem dX7_weigh_36 : decode cX7_weigh 36 = .ok (.getfield 25, 3) := by decide +kernel
theorem dX7_weigh_39 : decode cX7_weigh 39 = .ok (.iload_n 1, 1) := by decide +kernel
theorem dX7_weigh_40 : decode cX7_weigh 40 = .ok (.aaload, 1) := by decide +kernel
theorem dX7_weigh_41 : decode cX7_weigh 41 = .ok (.iload_n 2, 1) := by decide +kernel
theorem dX7_weigh_42 : decode cX7_weigh 42 = .ok (.putfield 123, 3) := by decide +kernel
theorem dX7_weigh_45 : decode cX7_weigh 45 = .ok (.iload_n 3, 1) := by decide +kernel
theorem dX7_weigh_46 : decode cX7_weigh 46 = .ok (.ireturn, 1) := by decide +kernel
theorem dX7_grip_0 : decode cX7_grip 0 = .ok (.iload_n 1, 1) := by decide +kernel
theorem dX7_grip_1 : decode cX7_grip 1 = .ok (.iconst 1, 1) := by decide +kernel
theorem dX7_grip_2 : decode cX7_grip 2 = .ok (.bipush 99, 2) := by decide +kernel
theorem dX7_grip_4 : decode cX7_grip 4 = .ok (.invokestatic 137, 3) := by decide +kernel
theorem dX7_grip_7 : decode cX7_grip 7 = .ok (.ifCond .ne 6, 3) := by decide +kernel
theorem dX7_grip_10 : decode cX7_grip 10 = .ok (.bipush (-102), 2) := by decide +kernel
theorem dX7_grip_12 : decode cX7_grip 12 = .ok (.ireturn, 1) := by decide +kernel
theorem dX7_grip_13 : decode cX7_grip 13 = .ok (.aload_n 0, 1) := by decide +kernel
theorem dX7_grip_14 : decode cX7_grip 14 = .ok (.getfield 71, 3) := by decide +kernel
theorem dX7_grip_17 : decode cX7_grip 17 = .ok (.istore_n 2, 1) := by decide +kernel
theorem dX7_grip_18 : decode cX7_grip 18 = .ok (.aload_n 0, 1) := by decide +kernel
theorem dX7_grip_19 : decode cX7_grip 19 = .ok (.iload_n 1, 1) := by decide +kernel
theorem dX7_grip_20 : decode cX7_grip 20 = .ok (.putfield 71, 3) := by decide +kernel
theorem dX7_grip_23 : decode cX7_grip 23 = .ok (.iload_n 2, 1) := by decide +kernel
theorem dX7_grip_24 : decode cX7_grip 24 = .ok (.ireturn, 1) := by decide +kernel
theorem dX7_brake_0 : decode cX7_brake 0 = .ok (.aload_n 0, 1) := by decide +kernel
theorem dX7_brake_1 : decode cX7_brake 1 = .ok (.iload_n 1, 1) := by decide +kernel
theorem dX7_brake_2 : decode cX7_brake 2 = .ok (.invokevirtual 105, 3) := by decide +kernel
theorem dX7_brake_5 : decode cX7_brake 5 = .ok (.ifCond .ne 6, 3) := by decide +kernel
theorem dX7_brake_8 : decode cX7_brake 8 = .ok (.bipush (-101), 2) := by decide +kernel
theorem dX7_brake_10 : decode cX7_brake 10 = .ok (.ireturn, 1) := by decide +kernel
theorem dX7_brake_11 : decode cX7_brake 11 = .ok (.iload_n 2, 1) := by decide +kernel
theorem dX7_brake_12 : decode cX7_brake 12 = .ok (.iconst 0, 1) := by decide +kernel
theorem dX7_brake_13 : decode cX7_brake 13 = .ok (.bipush 9, 2) := by decide +kernel
theorem dX7_brake_15 : decode cX7_brake 15 = .ok (.invokestatic 137, 3) := by decide +kernel
theorem dX7_brake_18 : decode cX7_brake 18 = .ok (.ifCond .ne 6, 3) := by decide +kernel
theorem dX7_brake_21 : decode cX7_brake 21 = .ok (.bipush (-102), 2) := by decide +kernel
theorem dX7_brake_23 : decode cX7_brake 23 = .ok (.ireturn, 1) := by decide +kernel
theorem dX7_brake_24 : decode cX7_brake 24 = .ok (.aload_n 0, 1) := by decide +kernel
theorem dX7_brake_25 : decode cX7_brake 25 = .ok (.getfield 19, 3) := by decide +kernel
theorem dX7_brake_28 : decode cX7_brake 28 = .ok (.getfield 118, 3) := by decide +kernel
theorem dX7_brake_31 : decode cX7_brake 31 = .ok (.iload_n 1, 1) := by decide +kernel
theorem dX7_brake_32 : decode cX7_brake 32 = .ok (.iaload, 1) := by decide +kernel
theorem dX7_brake_33 : decode cX7_brake 33 = .ok (.istore_n 3, 1) := by decide +kernel
theorem dX7_brake_34 : decode cX7_brake 34 = .ok (.aload_n 0, 1) := by decide +kernel
theorem dX7_brake_35 : decode cX7_brake 35 = .ok (.getfield 19, 3) := by decide +kernel
theorem dX7_brake_38 : decode cX7_brake 38 = .ok (.getfield 118, 3) := by decide +kernel
theorem dX7_brake_41 : decode cX7_brake 41 = .ok (.iload_n 1, 1) := by decide +kernel
theorem dX7_brake_42 : decode cX7_brake 42 = .ok (.iload_n 2, 1) := by decide +kernel
theorem dX7_brake_43 : decode cX7_brake 43 = .ok (.iastore, 1) := by decide +kernel
theorem dX7_brake_44 : decode cX7_brake 44 = .ok (.iload_n 3, 1) := by decide +kernel
theorem dX7_brake_45 : decode cX7_brake 45 = .ok (.ireturn, 1) := by decide +kernel
theorem dX7_run_0 : decode cX7_run 0 = .ok (.aload_n 0, 1) := by decide +kernel
theorem dX7_run_1 : decode cX7_run 1 = .ok (.iload_n 1, 1) := by decide +kernel
theorem dX7_run_2 : decode cX7_run 2 = .ok (.iload_n 2, 1) := by decide +kernel
theorem dX7_run_3 : decode cX7_run 3 = .ok (.iload_n 3, 1) := by decide +kernel
theorem dX7_run_4 : decode cX7_run 4 = .ok (.iconst 0, 1) := by decide +kernel
theorem dX7_run_5 : decode cX7_run 5 = .ok (.iconst 3, 1) := by decide +kernel
theorem dX7_run_6 : decode cX7_run 6 = .ok (.invokestatic 137, 3) := by decide +kernel
theorem dX7_run_9 : decode cX7_run 9 = .ok (.invokevirtual 144, 3) := by decide +kernel
theorem dX7_run_12 : decode cX7_run 12 = .ok (.istore 4, 2) := by decide +kernel
theorem dX7_run_14 : decode cX7_run 14 = .ok (.iload 4, 2) := by decide +kernel
theorem dX7_run_16 : decode cX7_run 16 = .ok (.ifCond .eq 6, 3) := by decide +kernel
theorem dX7_run_19 : decode cX7_run 19 = .ok (.iload 4, 2) := by decide +kernel
theorem dX7_run_21 : decode cX7_run 21 = .ok (.ireturn, 1) := by decide +kernel
theorem dX7_run_22 : decode cX7_run 22 = .ok (.aload_n 0, 1) := by decide +kernel
theorem dX7_run_23 : decode cX7_run 23 = .ok (.iload_n 1, 1) := by decide +kernel
theorem dX7_run_24 : decode cX7_run 24 = .ok (.iload_n 2, 1) := by decide +kernel
theorem dX7_run_25 : decode cX7_run 25 = .ok (.invokevirtual 148, 3) := by decide +kernel
theorem dX7_run_28 : decode cX7_run 28 = .ok (.aload_n 0, 1) := by decide +kernel
theorem dX7_run_29 : decode cX7_run 29 = .ok (.getfield 49, 3) := by decide +kernel
theorem dX7_run_32 : decode cX7_run 32 = .ok (.iload_n 3, 1) := by decide +kernel
theorem dX7_run_33 : decode cX7_run 33 = .ok (.invokevirtual 152, 3) := by decide +kernel
theorem dX7_run_36 : decode cX7_run 36 = .ok (.ireturn, 1) := by decide +kernel
theorem dX7_pace_0 : decode cX7_pace 0 = .ok (.aload_n 0, 1) := by decide +kernel
theorem dX7_pace_1 : decode cX7_pace 1 = .ok (.iload_n 1, 1) := by decide +kernel
theorem dX7_pace_2 : decode cX7_pace 2 = .ok (.invokevirtual 121, 3) := by decide +kernel
theorem dX7_pace_5 : decode cX7_pace 5 = .ok (.ifCond .eq 11, 3) := by decide +kernel
theorem dX7_pace_8 : decode cX7_pace 8 = .ok (.aload_n 0, 1) := by decide +kernel
theorem dX7_pace_9 : decode cX7_pace 9 = .ok (.iload_n 3, 1) := by decide +kernel
theorem dX7_pace_10 : decode cX7_pace 10 = .ok (.invokevirtual 105, 3) := by decide +kernel
theorem dX7_pace_13 : decode cX7_pace 13 = .ok (.ifCond .ne 6, 3) := by decide +kernel
theorem dX7_pace_16 : decode cX7_pace 16 = .ok (.bipush (-101), 2) := by decide +kernel
theorem dX7_pace_18 : decode cX7_pace 18 = .ok (.ireturn, 1) := by decide +kernel
theorem dX7_pace_19 : decode cX7_pace 19 = .ok (.iload_n 2, 1) := by decide +kernel
theorem dX7_pace_20 : decode cX7_pace 20 = .ok (.invokestatic 156, 3) := by decide +kernel
theorem dX7_pace_23 : decode cX7_pace 23 = .ok (.ifCond .ne 6, 3) := by decide +kernel
theorem dX7_pace_26 : decode cX7_pace 26 = .ok (.bipush (-102), 2) := by decide +kernel
theorem dX7_pace_28 : decode cX7_pace 28 = .ok (.ireturn, 1) := by decide +kernel
theorem dX7_pace_29 : decode cX7_pace 29 = .ok (.aload_n 0, 1) := by decide +kernel
theorem dX7_pace_30 : decode cX7_pace 30 = .ok (.iload_n 1, 1) := by decide +kernel
theorem dX7_pace_31 : decode cX7_pace 31 = .ok (.iload_n 2, 1) := by decide +kernel
theorem dX7_pace_32 : decode cX7_pace 32 = .ok (.invokevirtual 148, 3) := by decide +kernel
theorem dX7_pace_35 : decode cX7_pace 35 = .ok (.aload_n 0, 1) := by decide +kernel
theorem dX7_pace_36 : decode cX7_pace 36 = .ok (.getfield 49, 3) := by decide +kernel
theorem dX7_pace_39 : decode cX7_pace 39 = .ok (.getfield 159, 3) := by decide +kernel
theorem dX7_pace_42 : decode cX7_pace 42 = .ok (.iload_n 3, 1) := by decide +kernel
theorem dX7_pace_43 : decode cX7_pace 43 = .ok (.iaload, 1) := by decide +kernel
theorem dX7_pace_44 : decode cX7_pace 44 = .ok (.ireturn, 1) := by decide +kernel
theorem dX7_lost_0 : decode cX7_lost 0 = .ok (.iload_n 3, 1) := by decide +kernel
theorem dX7_lost_1 : decode cX7_lost 1 = .ok (.iconst (-1), 1) := by decide +kernel
theorem dX7_lost_2 : decode cX7_lost 2 = .ok (.if_icmp .eq 15, 3) := by decide +kernel
theorem dX7_lost_5 : decode cX7_lost 5 = .ok (.aload_n 0, 1) := by decide +kernel
theorem dX7_lost_6 : decode cX7_lost 6 = .ok (.iload_n 1, 1) := by decide +kernel
theorem dX7_lost_7 : decode cX7_lost 7 = .ok (.iload_n 3, 1) := by decide +kernel
theorem dX7_lost_8 : decode cX7_lost 8 = .ok (.invokevirtual 127, 3) := by decide +kernel
theorem dX7_lost_11 : decode cX7_lost 11 = .ok (.ifCond .ne 6, 3) := by decide +kernel
theorem dX7_lost_14 : decode cX7_lost 14 = .ok (.bipush (-101), 2) := by decide +kernel
theorem dX7_lost_16 : decode cX7_lost 16 = .ok (.ireturn, 1) := by decide +kernel
theorem dX7_lost_17 : decode cX7_lost 17 = .ok (.aload_n 0, 1) := by decide +kernel
theorem dX7_lost_18 : decode cX7_lost 18 = .ok (.iload_n 1, 1) := by decide +kernel
theorem dX7_lost_19 : decode cX7_lost 19 = .ok (.iload_n 2, 1) := by decide +kernel
theorem dX7_lost_20 : decode cX7_lost 20 = .ok (.iconst 1, 1) := by decide +kernel
theorem dX7_lost_21 : decode cX7_lost 21 = .ok (.invokevirtual 144, 3) := by decide +kernel
theorem dX7_lost_24 : decode cX7_lost 24 = .ok (.istore 4, 2) := by decide +kernel
theorem dX7_lost_26 : decode cX7_lost 26 = .ok (.iload 4, 2) := by decide +kernel
theorem dX7_lost_28 : decode cX7_lost 28 = .ok (.ifCond .eq 6, 3) := by decide +kernel
theorem dX7_lost_31 : decode cX7_lost 31 = .ok (.iload 4, 2) := by decide +kernel
theorem dX7_lost_33 : decode cX7_lost 33 = .ok (.ireturn, 1) := by decide +kernel
theorem dX7_lost_34 : decode cX7_lost 34 = .ok (.aload_n 0, 1) := by decide +kernel
theorem dX7_lost_35 : decode cX7_lost 35 = .ok (.iload_n 1, 1) := by decide +kernel
theorem dX7_lost_36 : decode cX7_lost 36 = .ok (.iload_n 2, 1) := by decide +kernel
theorem dX7_lost_37 : decode cX7_lost 37 = .ok (.invokevirtual 148, 3) := by decide +kernel
theorem dX7_lost_40 : decode cX7_lost 40 = .ok (.iload_n 3, 1) := by decide +kernel
theorem dX7_lost_41 : decode cX7_lost 41 = .ok (.iconst (-1), 1) := by decide +kernel
theorem dX7_lost_42 : decode cX7_lost 42 = .ok (.if_icmp .ne 13, 3) := by decide +kernel
theorem dX7_lost_45 : decode cX7_lost 45 = .ok (.aload_n 0, 1) := by decide +kernel
theorem dX7_lost_46 : decode cX7_lost 46 = .ok (.getfield 49, 3) := by decide +kernel
theorem dX7_lost_49 : decode cX7_lost 49 = .ok (.getfield 162, 3) := by decide +kernel
theorem dX7_lost_52 : decode cX7_lost 52 = .ok (.goto 12, 3) := by decide +kernel
theorem dX7_lost_55 : decode cX7_lost 55 = .ok (.aload_n 0, 1) := by decide +kernel
theorem dX7_lost_56 : decode cX7_lost 56 = .ok (.getfield 49, 3) := by decide +kernel
theorem dX7_lost_59 : decode cX7_lost 59 = .ok (.getfield 165, 3) := by decide +kernel
theorem dX7_lost_62 : decode cX7_lost 62 = .ok (.iload_n 3, 1) := by decide +kernel
theorem dX7_lost_63 : decode cX7_lost 63 = .ok (.iaload, 1) := by decide +kernel
theorem dX7_lost_64 : decode cX7_lost 64 = .ok (.ireturn, 1) := by decide +kernel
theorem dX7_bestBrakes_0 : decode cX7_bestBrakes 0 = .ok (.aload_n 0, 1) := by decide +kernel
theorem dX7_bestBrakes_1 : decode cX7_bestBrakes 1 = .ok (.iload_n 1, 1) := by decide +kernel
theorem dX7_bestBrakes_2 : decode cX7_bestBrakes 2 = .ok (.iload_n 2, 1) := by decide +kernel
theorem dX7_bestBrakes_3 : decode cX7_bestBrakes 3 = .ok (.iload_n 3, 1) := by decide +kernel
theorem dX7_bestBrakes_4 : decode cX7_bestBrakes 4 = .ok (.iconst 0, 1) := by decide +kernel
theorem dX7_bestBrakes_5 : decode cX7_bestBrakes 5 = .ok (.iconst 4, 1) := by decide +kernel
theorem dX7_bestBrakes_6 : decode cX7_bestBrakes 6 = .ok (.invokestatic 137, 3) := by decide +kernel
theorem dX7_bestBrakes_9 : decode cX7_bestBrakes 9 = .ok (.invokevirtual 144, 3) := by decide +kernel
theorem dX7_bestBrakes_12 : decode cX7_bestBrakes 12 = .ok (.istore 4, 2) := by decide +kernel
theorem dX7_bestBrakes_14 : decode cX7_bestBrakes 14 = .ok (.iload 4, 2) := by decide +kernel
theorem dX7_bestBrakes_16 : decode cX7_bestBrakes 16 = .ok (.ifCond .eq 6, 3) := by decide +kernel
theorem dX7_bestBrakes_19 : decode cX7_bestBrakes 19 = .ok (.iload 4, 2) := by decide +kernel
theorem dX7_bestBrakes_21 : decode cX7_bestBrakes 21 = .ok (.ireturn, 1) := by decide +kernel
theorem dX7_bestBrakes_22 : decode cX7_bestBrakes 22 = .ok (.aload_n 0, 1) := by decide +kernel
theorem dX7_bestBrakes_23 : decode cX7_bestBrakes 23 = .ok (.getfield 49, 3) := by decide +kernel
theorem dX7_bestBrakes_26 : decode cX7_bestBrakes 26 = .ok (.aload_n 0, 1) := by decide +kernel
theorem dX7_bestBrakes_27 : decode cX7_bestBrakes 27 = .ok (.getfield 25, 3) := by decide +kernel
theorem dX7_bestBrakes_30 : decode cX7_bestBrakes 30 = .ok (.iload_n 1, 1) := by decide +kernel
theorem dX7_bestBrakes_31 : decode cX7_bestBrakes 31 = .ok (.aaload, 1) := by decide +kernel
theorem dX7_bestBrakes_32 : decode cX7_bestBrakes 32 = .ok (.aload_n 0, 1) := by decide +kernel
theorem dX7_bestBrakes_33 : decode cX7_bestBrakes 33 = .ok (.getfield 71, 3) := by decide +kernel
theorem dX7_bestBrakes_36 : decode cX7_bestBrakes 36 = .ok (.invokevirtual 168, 3) := by decide +kernel
theorem dX7_bestBrakes_39 : decode cX7_bestBrakes 39 = .ok (.aload_n 0, 1) := by decide +kernel
theorem dX7_bestBrakes_40 : decode cX7_bestBrakes 40 = .ok (.getfield 56, 3) := by decide +kernel
theorem dX7_bestBrakes_43 : decode cX7_bestBrakes 43 = .ok (.invokevirtual 172, 3) := by decide +kernel
theorem dX7_bestBrakes_46 : decode cX7_bestBrakes 46 = .ok (.iconst 0, 1) := by decide +kernel
theorem dX7_bestBrakes_47 : decode cX7_bestBrakes 47 = .ok (.istore 5, 2) := by decide +kernel
theorem dX7_bestBrakes_49 : decode cX7_bestBrakes 49 = .ok (.iload 5, 2) := by decide +kernel
theorem dX7_bestBrakes_51 : decode cX7_bestBrakes 51 = .ok (.sipush 256, 3) := by decide +kernel
theorem dX7_bestBrakes_54 : decode cX7_bestBrakes 54 = .ok (.if_icmp .ge 16, 3) := by decide +kernel
theorem dX7_bestBrakes_57 : decode cX7_bestBrakes 57 = .ok (.aload_n 0, 1) := by decide +kernel
theorem dX7_bestBrakes_58 : decode cX7_bestBrakes 58 = .ok (.iload 5, 2) := by decide +kernel
theorem dX7_bestBrakes_60 : decode cX7_bestBrakes 60 = .ok (.iload_n 2, 1) := by decide +kernel
theorem dX7_bestBrakes_61 : decode cX7_bestBrakes 61 = .ok (.invokevirtual 175, 3) := by decide +kernel
theorem dX7_bestBrakes_64 : decode cX7_bestBrakes 64 = .ok (.iinc 5 1, 3) := by decide +kernel
theorem dX7_bestBrakes_67 : decode cX7_bestBrakes 67 = .ok (.goto (-18), 3) := by decide +kernel
theorem dX7_bestBrakes_70 : decode cX7_bestBrakes 70 = .ok (.iload_n 3, 1) := by decide +kernel
theorem dX7_bestBrakes_71 : decode cX7_bestBrakes 71 = .ok (.ifCond .eq 14, 3) := by decide +kernel
theorem dX7_bestBrakes_74 : decode cX7_bestBrakes 74 = .ok (.aload_n 0, 1) := by decide +kernel
theorem dX7_bestBrakes_75 : decode cX7_bestBrakes 75 = .ok (.getfield 56, 3) := by decide +kernel
theorem dX7_bestBrakes_78 : decode cX7_bestBrakes 78 = .ok (.getfield 178, 3) := by decide +kernel
theorem dX7_bestBrakes_81 : decode cX7_bestBrakes 81 = .ok (.iconst (-1), 1) := by decide +kernel
theorem dX7_bestBrakes_82 : decode cX7_bestBrakes 82 = .ok (.if_icmp .ne 11, 3) := by decide +kernel
theorem dX7_bestBrakes_85 : decode cX7_bestBrakes 85 = .ok (.aload_n 0, 1) := by decide +kernel
theorem dX7_bestBrakes_86 : decode cX7_bestBrakes 86 = .ok (.getfield 56, 3) := by decide +kernel
theorem dX7_bestBrakes_89 : decode cX7_bestBrakes 89 = .ok (.getfield 178, 3) := by decide +kernel
theorem dX7_bestBrakes_92 : decode cX7_bestBrakes 92 = .ok (.ireturn, 1) := by decide +kernel
theorem dX7_bestBrakes_93 : decode cX7_bestBrakes 93 = .ok (.aload_n 0, 1) := by decide +kernel
theorem dX7_bestBrakes_94 : decode cX7_bestBrakes 94 = .ok (.iload_n 3, 1) := by decide +kernel
theorem dX7_bestBrakes_95 : decode cX7_bestBrakes 95 = .ok (.iconst 1, 1) := by decide +kernel
theorem dX7_bestBrakes_96 : decode cX7_bestBrakes 96 = .ok (.isub, 1) := by decide +kernel
theorem dX7_bestBrakes_97 : decode cX7_bestBrakes 97 = .ok (.invokevirtual 181, 3) := by decide +kernel
theorem dX7_bestBrakes_100 : decode cX7_bestBrakes 100 = .ok (.ifCond .eq 21, 3) := by decide +kernel
theorem dX7_bestBrakes_103 : decode cX7_bestBrakes 103 = .ok (.iconst 3, 1) := by decide +kernel
theorem dX7_bestBrakes_104 : decode cX7_bestBrakes 104 = .ok (.aload_n 0, 1) := by decide +kernel
theorem dX7_bestBrakes_105 : decode cX7_bestBrakes 105 = .ok (.getfield 56, 3) := by decide +kernel
theorem dX7_bestBrakes_108 : decode cX7_bestBrakes 108 = .ok (.getfield 184, 3) := by decide +kernel
theorem dX7_bestBrakes_111 : decode cX7_bestBrakes 111 = .ok (.iload_n 3, 1) := by decide +kernel
theorem dX7_bestBrakes_112 : decode cX7_bestBrakes 112 = .ok (.iconst 1, 1) := by decide +kernel
theorem dX7_bestBrakes_113 : decode cX7_bestBrakes 113 = .ok (.isub, 1) := by decide +kernel
theorem dX7_bestBrakes_114 : decode cX7_bestBrakes 114 = .ok (.invokestatic 187, 3) := by decide +kernel
theorem dX7_bestBrakes_117 : decode cX7_bestBrakes 117 = .ok (.imul, 1) := by decide +kernel
theorem dX7_bestBrakes_118 : decode cX7_bestBrakes 118 = .ok (.goto 4, 3) := by decide +kernel
theorem dX7_bestBrakes_121 : decode cX7_bestBrakes 121 = .ok (.iconst (-1), 1) := by decide +kernel
theorem dX7_bestBrakes_122 : decode cX7_bestBrakes 122 = .ok (.ireturn, 1) := by decide +kernel
theorem dX7_bestPush_0 : decode cX7_bestPush 0 = .ok (.aload_n 0, 1) := by decide +kernel
theorem dX7_bestPush_1 : decode cX7_bestPush 1 = .ok (.iload_n 1, 1) := by decide +kernel
theorem dX7_bestPush_2 : decode cX7_bestPush 2 = .ok (.iconst 0, 1) := by decide +kernel
theorem dX7_bestPush_3 : decode cX7_bestPush 3 = .ok (.iload_n 2, 1) := by decide +kernel
theorem dX7_bestPush_4 : decode cX7_bestPush 4 = .ok (.iconst 1, 1) := by decide +kernel
theorem dX7_bestPush_5 : decode cX7_bestPush 5 = .ok (.bipush 99, 2) := by decide +kernel
theorem dX7_bestPush_7 : decode cX7_bestPush 7 = .ok (.invokestatic 137, 3) := by decide +kernel
theorem dX7_bestPush_10 : decode cX7_bestPush 10 = .ok (.ifCond .eq 16, 3) := by decide +kernel
theorem dX7_bestPush_13 : decode cX7_bestPush 13 = .ok (.iload_n 3, 1) := by decide +kernel
theorem dX7_bestPush_14 : decode cX7_bestPush 14 = .ok (.iconst 0, 1) := by decide +kernel
theorem dX7_bestPush_15 : decode cX7_bestPush 15 = .ok (.iconst 1, 1) := by decide +kernel
theorem dX7_bestPush_16 : decode cX7_bestPush 16 = .ok (.invokestatic 137, 3) := by decide +kernel
theorem dX7_bestPush_19 : decode cX7_bestPush 19 = .ok (.ifCond .eq 7, 3) := by decide +kernel
theorem dX7_bestPush_22 : decode cX7_bestPush 22 = .ok (.iconst 1, 1) := by decide +kernel
theorem dX7_bestPush_23 : decode cX7_bestPush 23 = .ok (.goto 4, 3) := by decide +kernel
theorem dX7_bestPush_26 : decode cX7_bestPush 26 = .ok (.iconst 0, 1) := by decide +kernel
theorem dX7_bestPush_27 : decode cX7_bestPush 27 = .ok (.invokevirtual 144, 3) := by decide +kernel
theorem dX7_bestPush_30 : decode cX7_bestPush 30 = .ok (.istore 4, 2) := by decide +kernel
theorem dX7_bestPush_32 : decode cX7_bestPush 32 = .ok (.iload 4, 2) := by decide +kernel
theorem dX7_bestPush_34 : decode cX7_bestPush 34 = .ok (.ifCond .eq 6, 3) := by decide +kernel
theorem dX7_bestPush_37 : decode cX7_bestPush 37 = .ok (.iload 4, 2) := by decide +kernel
theorem dX7_bestPush_39 : decode cX7_bestPush 39 = .ok (.ireturn, 1) := by decide +kernel
theorem dX7_bestPush_40 : decode cX7_bestPush 40 = .ok (.aload_n 0, 1) := by decide +kernel
theorem dX7_bestPush_41 : decode cX7_bestPush 41 = .ok (.getfield 49, 3) := by decide +kernel
theorem dX7_bestPush_44 : decode cX7_bestPush 44 = .ok (.aload_n 0, 1) := by decide +kernel
theorem dX7_bestPush_45 : decode cX7_bestPush 45 = .ok (.getfield 25, 3) := by decide +kernel
theorem dX7_bestPush_48 : decode cX7_bestPush 48 = .ok (.iload_n 1, 1) := by decide +kernel
theorem dX7_bestPush_49 : decode cX7_bestPush 49 = .ok (.aaload, 1) := by decide +kernel
theorem dX7_bestPush_50 : decode cX7_bestPush 50 = .ok (.aload_n 0, 1) := by decide +kernel
theorem dX7_bestPush_51 : decode cX7_bestPush 51 = .ok (.getfield 71, 3) := by decide +kernel
theorem dX7_bestPush_54 : decode cX7_bestPush 54 = .ok (.invokevirtual 168, 3) := by decide +kernel
theorem dX7_bestPush_57 : decode cX7_bestPush 57 = .ok (.aload_n 0, 1) := by decide +kernel
theorem dX7_bestPush_58 : decode cX7_bestPush 58 = .ok (.getfield 56, 3) := by decide +kernel
theorem dX7_bestPush_61 : decode cX7_bestPush 61 = .ok (.invokevirtual 172, 3) := by decide +kernel
theorem dX7_bestPush_64 : decode cX7_bestPush 64 = .ok (.iconst 0, 1) := by decide +kernel
theorem dX7_bestPush_65 : decode cX7_bestPush 65 = .ok (.istore 5, 2) := by decide +kernel
theorem dX7_bestPush_67 : decode cX7_bestPush 67 = .ok (.iload 5, 2) := by decide +kernel
theorem dX7_bestPush_69 : decode cX7_bestPush 69 = .ok (.bipush 20, 2) := by decide +kernel
theorem dX7_bestPush_71 : decode cX7_bestPush 71 = .ok (.if_icmp .gt 66, 3) := by decide +kernel
theorem dX7_bestPush_74 : decode cX7_bestPush 74 = .ok (.aload_n 0, 1) := by decide +kernel
theorem dX7_bestPush_75 : decode cX7_bestPush 75 = .ok (.getfield 49, 3) := by decide +kernel
theorem dX7_bestPush_78 : decode cX7_bestPush 78 = .ok (.iload 5, 2) := by decide +kernel
theorem dX7_bestPush_80 : decode cX7_bestPush 80 = .ok (.iload_n 2, 1) := by decide +kernel
theorem dX7_bestPush_81 : decode cX7_bestPush 81 = .ok (.imul, 1) := by decide +kernel
theorem dX7_bestPush_82 : decode cX7_bestPush 82 = .ok (.bipush 10, 2) := by decide +kernel
theorem dX7_bestPush_84 : decode cX7_bestPush 84 = .ok (.imul, 1) := by decide +kernel
theorem dX7_bestPush_85 : decode cX7_bestPush 85 = .ok (.aload_n 0, 1) := by decide +kernel
theorem dX7_bestPush_86 : decode cX7_bestPush 86 = .ok (.getfield 49, 3) := by decide +kernel
theorem dX7_bestPush_89 : decode cX7_bestPush 89 = .ok (.getfield 191, 3) := by decide +kernel
theorem dX7_bestPush_92 : decode cX7_bestPush 92 = .ok (.invokestatic 192, 3) := by decide +kernel
theorem dX7_bestPush_95 : decode cX7_bestPush 95 = .ok (.invokevirtual 195, 3) := by decide +kernel
theorem dX7_bestPush_98 : decode cX7_bestPush 98 = .ok (.aload_n 0, 1) := by decide +kernel
theorem dX7_bestPush_99 : decode cX7_bestPush 99 = .ok (.getfield 49, 3) := by decide +kernel
theorem dX7_bestPush_102 : decode cX7_bestPush 102 = .ok (.getfield 198, 3) := by decide +kernel
theorem dX7_bestPush_105 : decode cX7_bestPush 105 = .ok (.ifCond .ne 26, 3) := by decide +kernel
theorem dX7_bestPush_108 : decode cX7_bestPush 108 = .ok (.aload_n 0, 1) := by decide +kernel
theorem dX7_bestPush_109 : decode cX7_bestPush 109 = .ok (.getfield 56, 3) := by decide +kernel
theorem dX7_bestPush_112 : decode cX7_bestPush 112 = .ok (.aload_n 0, 1) := by decide +kernel
theorem dX7_bestPush_113 : decode cX7_bestPush 113 = .ok (.getfield 49, 3) := by decide +kernel
theorem dX7_bestPush_116 : decode cX7_bestPush 116 = .ok (.getfield 201, 3) := by decide +kernel
theorem dX7_bestPush_119 : decode cX7_bestPush 119 = .ok (.bipush 60, 2) := by decide +kernel
theorem dX7_bestPush_121 : decode cX7_bestPush 121 = .ok (.iload 5, 2) := by decide +kernel
theorem dX7_bestPush_123 : decode cX7_bestPush 123 = .ok (.imul, 1) := by decide +kernel
theorem dX7_bestPush_124 : decode cX7_bestPush 124 = .ok (.iadd, 1) := by decide +kernel
theorem dX7_bestPush_125 : decode cX7_bestPush 125 = .ok (.iload 5, 2) := by decide +kernel
theorem dX7_bestPush_127 : decode cX7_bestPush 127 = .ok (.invokevirtual 202, 3) := by decide +kernel
theorem dX7_bestPush_130 : decode cX7_bestPush 130 = .ok (.pop, 1) := by decide +kernel
theorem dX7_bestPush_131 : decode cX7_bestPush 131 = .ok (.iinc 5 1, 3) := by decide +kernel
theorem dX7_bestPush_134 : decode cX7_bestPush 134 = .ok (.goto (-67), 3) := by decide +kernel
theorem dX7_bestPush_137 : decode cX7_bestPush 137 = .ok (.iload_n 3, 1) := by decide +kernel
theorem dX7_bestPush_138 : decode cX7_bestPush 138 = .ok (.ifCond .ne 13, 3) := by decide +kernel
theorem dX7_bestPush_141 : decode cX7_bestPush 141 = .ok (.aload_n 0, 1) := by decide +kernel
theorem dX7_bestPush_142 : decode cX7_bestPush 142 = .ok (.getfield 56, 3) := by decide +kernel
theorem dX7_bestPush_145 : decode cX7_bestPush 145 = .ok (.getfield 184, 3) := by decide +kernel
theorem dX7_bestPush_148 : decode cX7_bestPush 148 = .ok (.goto 10, 3) := by decide +kernel
theorem dX7_bestPush_151 : decode cX7_bestPush 151 = .ok (.aload_n 0, 1) := by decide +kernel
theorem dX7_bestPush_152 : decode cX7_bestPush 152 = .ok (.getfield 56, 3) := by decide +kernel
theorem dX7_bestPush_155 : decode cX7_bestPush 155 = .ok (.getfield 178, 3) := by decide +kernel
theorem dX7_bestPush_158 : decode cX7_bestPush 158 = .ok (.ireturn, 1) := by decide +kernel
theorem dX7_work_0 : decode cX7_work 0 = .ok (.aload_n 0, 1) := by decide +kernel
theorem dX7_work_1 : decode cX7_work 1 = .ok (.iload_n 1, 1) := by decide +kernel
theorem dX7_work_2 : decode cX7_work 2 = .ok (.iload_n 2, 1) := by decide +kernel
theorem dX7_work_3 : decode cX7_work 3 = .ok (.iload_n 3, 1) := by decide +kernel
theorem dX7_work_4 : decode cX7_work 4 = .ok (.iconst 0, 1) := by decide +kernel
theorem dX7_work_5 : decode cX7_work 5 = .ok (.bipush 6, 2) := by decide +kernel
theorem dX7_work_7 : decode cX7_work 7 = .ok (.invokestatic 137, 3) := by decide +kernel
theorem dX7_work_10 : decode cX7_work 10 = .ok (.ifCond .eq 17, 3) := by decide +kernel
theorem dX7_work_13 : decode cX7_work 13 = .ok (.iload 4, 2) := by decide +kernel
theorem dX7_work_15 : decode cX7_work 15 = .ok (.iconst 0, 1) := by decide +kernel
theorem dX7_work_16 : decode cX7_work 16 = .ok (.iconst 5, 1) := by decide +kernel
theorem dX7_work_17 : decode cX7_work 17 = .ok (.invokestatic 137, 3) := by decide +kernel
theorem dX7_work_20 : decode cX7_work 20 = .ok (.ifCond .eq 7, 3) := by decide +kernel
theorem dX7_work_23 : decode cX7_work 23 = .ok (.iconst 1, 1) := by decide +kernel
theorem dX7_work_24 : decode cX7_work 24 = .ok (.goto 4, 3) := by decide +kernel
theorem dX7_work_27 : decode cX7_work 27 = .ok (.iconst 0, 1) := by decide +kernel
theorem dX7_work_28 : decode cX7_work 28 = .ok (.invokevirtual 144, 3) := by decide +kernel
theorem dX7_work_31 : decode cX7_work 31 = .ok (.istore 5, 2) := by decide +kernel
theorem dX7_work_33 : decode cX7_work 33 = .ok (.iload 5, 2) := by decide +kernel
theorem dX7_work_35 : decode cX7_work 35 = .ok (.ifCond .eq 6, 3) := by decide +kernel
theorem dX7_work_38 : decode cX7_work 38 = .ok (.iload 5, 2) := by decide +kernel
theorem dX7_work_40 : decode cX7_work 40 = .ok (.ireturn, 1) := by decide +kernel
theorem dX7_work_41 : decode cX7_work 41 = .ok (.aload_n 0, 1) := by decide +kernel
theorem dX7_work_42 : decode cX7_work 42 = .ok (.getfield 49, 3) := by decide +kernel
theorem dX7_work_45 : decode cX7_work 45 = .ok (.aload_n 0, 1) := by decide +kernel
theorem dX7_work_46 : decode cX7_work 46 = .ok (.getfield 25, 3) := by decide +kernel
theorem dX7_work_49 : decode cX7_work 49 = .ok (.iload_n 1, 1) := by decide +kernel
theorem dX7_work_50 : decode cX7_work 50 = .ok (.aaload, 1) := by decide +kernel
theorem dX7_work_51 : decode cX7_work 51 = .ok (.aload_n 0, 1) := by decide +kernel
theorem dX7_work_52 : decode cX7_work 52 = .ok (.getfield 71, 3) := by decide +kernel
theorem dX7_work_55 : decode cX7_work 55 = .ok (.invokevirtual 168, 3) := by decide +kernel
theorem dX7_work_58 : decode cX7_work 58 = .ok (.aload_n 0, 1) := by decide +kernel
theorem dX7_work_59 : decode cX7_work 59 = .ok (.getfield 56, 3) := by decide +kernel
theorem dX7_work_62 : decode cX7_work 62 = .ok (.invokevirtual 172, 3) := by decide +kernel
theorem dX7_work_65 : decode cX7_work 65 = .ok (.iconst 1, 1) := by decide +kernel
theorem dX7_work_66 : decode cX7_work 66 = .ok (.istore 6, 2) := by decide +kernel
theorem dX7_work_68 : decode cX7_work 68 = .ok (.iconst 0, 1) := by decide +kernel
theorem dX7_work_69 : decode cX7_work 69 = .ok (.istore 7, 2) := by decide +kernel
theorem dX7_work_71 : decode cX7_work 71 = .ok (.iload 6, 2) := by decide +kernel
theorem dX7_work_73 : decode cX7_work 73 = .ok (.ifCond .eq 78, 3) := by decide +kernel
theorem dX7_work_76 : decode cX7_work 76 = .ok (.iload 7, 2) := by decide +kernel
theorem dX7_work_78 : decode cX7_work 78 = .ok (.sipush 1000, 3) := by decide +kernel
theorem dX7_work_81 : decode cX7_work 81 = .ok (.if_icmp .ge 70, 3) := by decide +kernel
theorem dX7_work_84 : decode cX7_work 84 = .ok (.aload_n 0, 1) := by decide +kernel
theorem dX7_work_85 : decode cX7_work 85 = .ok (.getfield 49, 3) := by decide +kernel
theorem dX7_work_88 : decode cX7_work 88 = .ok (.iload_n 2, 1) := by decide +kernel
theorem dX7_work_89 : decode cX7_work 89 = .ok (.invokevirtual 195, 3) := by decide +kernel
theorem dX7_work_92 : decode cX7_work 92 = .ok (.aload_n 0, 1) := by decide +kernel
theorem dX7_work_93 : decode cX7_work 93 = .ok (.getfield 49, 3) := by decide +kernel
theorem dX7_work_96 : decode cX7_work 96 = .ok (.getfield 198, 3) := by decide +kernel
theorem dX7_work_99 : decode cX7_work 99 = .ok (.ifCond .ne 36, 3) := by decide +kernel
theorem dX7_work_102 : decode cX7_work 102 = .ok (.aload_n 0, 1) := by decide +kernel
theorem dX7_work_103 : decode cX7_work 103 = .ok (.getfield 56, 3) := by decide +kernel
theorem dX7_work_106 : decode cX7_work 106 = .ok (.aload_n 0, 1) := by decide +kernel
theorem dX7_work_107 : decode cX7_work 107 = .ok (.getfield 49, 3) := by decide +kernel
theorem dX7_work_110 : decode cX7_work 110 = .ok (.getfield 201, 3) := by decide +kernel
theorem dX7_work_113 : decode cX7_work 113 = .ok (.iload 7, 2) := by decide +kernel
theorem dX7_work_115 : decode cX7_work 115 = .ok (.invokevirtual 202, 3) := by decide +kernel
theorem dX7_work_118 : decode cX7_work 118 = .ok (.ifCond .eq 17, 3) := by decide +kernel
theorem dX7_work_121 : decode cX7_work 121 = .ok (.aload_n 0, 1) := by decide +kernel
theorem dX7_work_122 : decode cX7_work 122 = .ok (.getfield 56, 3) := by decide +kernel
theorem dX7_work_125 : decode cX7_work 125 = .ok (.aload_n 0, 1) := by decide +kernel
theorem dX7_work_126 : decode cX7_work 126 = .ok (.getfield 49, 3) := by decide +kernel
theorem dX7_work_129 : decode cX7_work 129 = .ok (.getfield 205, 3) := by decide +kernel
theorem dX7_work_132 : decode cX7_work 132 = .ok (.invokevirtual 208, 3) := by decide +kernel
theorem dX7_work_135 : decode cX7_work 135 = .ok (.aload_n 0, 1) := by decide +kernel
theorem dX7_work_136 : decode cX7_work 136 = .ok (.getfield 49, 3) := by decide +kernel
theorem dX7_work_139 : decode cX7_work 139 = .ok (.iload_n 3, 1) := by decide +kernel
theorem dX7_work_140 : decode cX7_work 140 = .ok (.invokevirtual 212, 3) := by decide +kernel
theorem dX7_work_143 : decode cX7_work 143 = .ok (.istore 6, 2) := by decide +kernel
theorem dX7_work_145 : decode cX7_work 145 = .ok (.iinc 7 1, 3) := by decide +kernel
theorem dX7_work_148 : decode cX7_work 148 = .ok (.goto (-77), 3) := by decide +kernel
theorem dX7_work_151 : decode cX7_work 151 = .ok (.iload 4, 2) := by decide +kernel
theorem dX7_work_153 : decode cX7_work 153 = .ok (.ifCond .eq 14, 3) := by decide +kernel
theorem dX7_work_156 : decode cX7_work 156 = .ok (.aload_n 0, 1) := by decide +kernel
theorem dX7_work_157 : decode cX7_work 157 = .ok (.getfield 56, 3) := by decide +kernel
theorem dX7_work_160 : decode cX7_work 160 = .ok (.getfield 178, 3) := by decide +kernel
theorem dX7_work_163 : decode cX7_work 163 = .ok (.iconst (-1), 1) := by decide +kernel
theorem dX7_work_164 : decode cX7_work 164 = .ok (.if_icmp .ne 11, 3) := by decide +kernel
theorem dX7_work_167 : decode cX7_work 167 = .ok (.aload_n 0, 1) := by decide +kernel
theorem dX7_work_168 : decode cX7_work 168 = .ok (.getfield 56, 3) := by decide +kernel
theorem dX7_work_171 : decode cX7_work 171 = .ok (.getfield 178, 3) := by decide +kernel
theorem dX7_work_174 : decode cX7_work 174 = .ok (.ireturn, 1) := by decide +kernel
theorem dX7_work_175 : decode cX7_work 175 = .ok (.iload 4, 2) := by decide +kernel
theorem dX7_work_177 : decode cX7_work 177 = .ok (.aload_n 0, 1) := by decide +kernel
theorem dX7_work_178 : decode cX7_work 178 = .ok (.getfield 49, 3) := by decide +kernel
theorem dX7_work_181 : decode cX7_work 181 = .ok (.getfield 215, 3) := by decide +kernel
theorem dX7_work_184 : decode cX7_work 184 = .ok (.if_icmp .gt 18, 3) := by decide +kernel
theorem dX7_work_187 : decode cX7_work 187 = .ok (.aload_n 0, 1) := by decide +kernel
theorem dX7_work_188 : decode cX7_work 188 = .ok (.getfield 56, 3) := by decide +kernel
theorem dX7_work_191 : decode cX7_work 191 = .ok (.getfield 216, 3) := by decide +kernel
theorem dX7_work_194 : decode cX7_work 194 = .ok (.iload 4, 2) := by decide +kernel
theorem dX7_work_196 : decode cX7_work 196 = .ok (.iconst 1, 1) := by decide +kernel
theorem dX7_work_197 : decode cX7_work 197 = .ok (.isub, 1) := by decide +kernel
theorem dX7_work_198 : decode cX7_work 198 = .ok (.iaload, 1) := by decide +kernel
theorem dX7_work_199 : decode cX7_work 199 = .ok (.goto 4, 3) := by decide +kernel
theorem dX7_work_202 : decode cX7_work 202 = .ok (.iconst (-1), 1) := by decide +kernel
theorem dX7_work_203 : decode cX7_work 203 = .ok (.ireturn, 1) := by decide +kernel
theorem dX7_weighed_0 : decode cX7_weighed 0 = .ok (.aload_n 0, 1) := by decide +kernel
theorem dX7_weighed_1 : decode cX7_weighed 1 = .ok (.iload_n 1, 1) := by decide +kernel
theorem dX7_weighed_2 : decode cX7_weighed 2 = .ok (.iload_n 2, 1) := by decide +kernel
theorem dX7_weighed_3 : decode cX7_weighed 3 = .ok (.iload_n 3, 1) := by decide +kernel
theorem dX7_weighed_4 : decode cX7_weighed 4 = .ok (.bipush 10, 2) := by decide +kernel
theorem dX7_weighed_6 : decode cX7_weighed 6 = .ok (.bipush 99, 2) := by decide +kernel
theorem dX7_weighed_8 : decode cX7_weighed 8 = .ok (.invokestatic 137, 3) := by decide +kernel
theorem dX7_weighed_11 : decode cX7_weighed 11 = .ok (.invokevirtual 144, 3) := by decide +kernel
theorem dX7_weighed_14 : decode cX7_weighed 14 = .ok (.istore 4, 2) := by decide +kernel
theorem dX7_weighed_16 : decode cX7_weighed 16 = .ok (.iload 4, 2) := by decide +kernel
theorem dX7_weighed_18 : decode cX7_weighed 18 = .ok (.ifCond .eq 6, 3) := by decide +kernel
theorem dX7_weighed_21 : decode cX7_weighed 21 = .ok (.iload 4, 2) := by decide +kernel
theorem dX7_weighed_23 : decode cX7_weighed 23 = .ok (.ireturn, 1) := by decide +kernel
theorem dX7_weighed_24 : decode cX7_weighed 24 = .ok (.aload_n 0, 1) := by decide +kernel
theorem dX7_weighed_25 : decode cX7_weighed 25 = .ok (.iload_n 1, 1) := by decide +kernel
theorem dX7_weighed_26 : decode cX7_weighed 26 = .ok (.iload_n 2, 1) := by decide +kernel
theorem dX7_weighed_27 : decode cX7_weighed 27 = .ok (.iload_n 3, 1) := by decide +kernel
theorem dX7_weighed_28 : decode cX7_weighed 28 = .ok (.invokevirtual 219, 3) := by decide +kernel
theorem dX7_weighed_31 : decode cX7_weighed 31 = .ok (.ireturn, 1) := by decide +kernel
theorem dX7_close_0 : decode cX7_close 0 = .ok (.aload_n 0, 1) := by decide +kernel
theorem dX7_close_1 : decode cX7_close 1 = .ok (.getfield 19, 3) := by decide +kernel
theorem dX7_close_4 : decode cX7_close 4 = .ok (.getfield 100, 3) := by decide +kernel
theorem dX7_close_7 : decode cX7_close 7 = .ok (.ifCond .eq 10, 3) := by decide +kernel
theorem dX7_close_10 : decode cX7_close 10 = .ok (.aload_n 0, 1) := by decide +kernel
theorem dX7_close_11 : decode cX7_close 11 = .ok (.getfield 67, 3) := by decide +kernel
theorem dX7_close_14 : decode cX7_close 14 = .ok (.ifCond .ne 6, 3) := by decide +kernel
theorem dX7_close_17 : decode cX7_close 17 = .ok (.bipush (-103), 2) := by decide +kernel
theorem dX7_close_19 : decode cX7_close 19 = .ok (.ireturn, 1) := by decide +kernel
theorem dX7_close_20 : decode cX7_close 20 = .ok (.iload_n 1, 1) := by decide +kernel
theorem dX7_close_21 : decode cX7_close 21 = .ok (.invokestatic 156, 3) := by decide +kernel
theorem dX7_close_24 : decode cX7_close 24 = .ok (.ifCond .eq 12, 3) := by decide +kernel
theorem dX7_close_27 : decode cX7_close 27 = .ok (.iload_n 2, 1) := by decide +kernel
theorem dX7_close_28 : decode cX7_close 28 = .ok (.iconst 0, 1) := by decide +kernel
theorem dX7_close_29 : decode cX7_close 29 = .ok (.iconst 1, 1) := by decide +kernel
theorem dX7_close_30 : decode cX7_close 30 = .ok (.invokestatic 137, 3) := by decide +kernel
theorem dX7_close_33 : decode cX7_close 33 = .ok (.ifCond .ne 6, 3) := by decide +kernel
theorem dX7_close_36 : decode cX7_close 36 = .ok (.bipush (-102), 2) := by decide +kernel
theorem dX7_close_38 : decode cX7_close 38 = .ok (.ireturn, 1) := by decide +kernel
theorem dX7_close_39 : decode cX7_close 39 = .ok (.aload_n 0, 1) := by decide +kernel
theorem dX7_close_40 : decode cX7_close 40 = .ok (.getfield 56, 3) := by decide +kernel
theorem dX7_close_43 : decode cX7_close 43 = .ok (.invokevirtual 172, 3) := by decide +kernel
theorem dX7_close_46 : decode cX7_close 46 = .ok (.bipush 99, 2) := by decide +kernel
theorem dX7_close_48 : decode cX7_close 48 = .ok (.istore_n 3, 1) := by decide +kernel
theorem dX7_close_49 : decode cX7_close 49 = .ok (.iload_n 3, 1) := by decide +kernel
theorem dX7_close_50 : decode cX7_close 50 = .ok (.bipush 10, 2) := by decide +kernel
theorem dX7_close_52 : decode cX7_close 52 = .ok (.if_icmp .lt 34, 3) := by decide +kernel
theorem dX7_close_55 : decode cX7_close 55 = .ok (.aload_n 0, 1) := by decide +kernel
theorem dX7_close_56 : decode cX7_close 56 = .ok (.iload_n 3, 1) := by decide +kernel
theorem dX7_close_57 : decode cX7_close 57 = .ok (.iload_n 1, 1) := by decide +kernel
theorem dX7_close_58 : decode cX7_close 58 = .ok (.invokevirtual 223, 3) := by decide +kernel
theorem dX7_close_61 : decode cX7_close 61 = .ok (.istore 4, 2) := by decide +kernel
theorem dX7_close_63 : decode cX7_close 63 = .ok (.iload 4, 2) := by decide +kernel
theorem dX7_close_65 : decode cX7_close 65 = .ok (.iconst (-1), 1) := by decide +kernel
theorem dX7_close_66 : decode cX7_close 66 = .ok (.if_icmp .eq 14, 3) := by decide +kernel
theorem dX7_close_69 : decode cX7_close 69 = .ok (.aload_n 0, 1) := by decide +kernel
theorem dX7_close_70 : decode cX7_close 70 = .ok (.getfield 56, 3) := by decide +kernel
theorem dX7_close_73 : decode cX7_close 73 = .ok (.iload 4, 2) := by decide +kernel
theorem dX7_close_75 : decode cX7_close 75 = .ok (.iload_n 3, 1) := by decide +kernel
theorem dX7_close_76 : decode cX7_close 76 = .ok (.invokevirtual 202, 3) := by decide +kernel
theorem dX7_close_79 : decode cX7_close 79 = .ok (.pop, 1) := by decide +kernel
theorem dX7_close_80 : decode cX7_close 80 = .ok (.iinc 3 (-1), 3) := by decide +kernel
theorem dX7_close_83 : decode cX7_close 83 = .ok (.goto (-34), 3) := by decide +kernel
theorem dX7_close_86 : decode cX7_close 86 = .ok (.iload_n 2, 1) := by decide +kernel
theorem dX7_close_87 : decode cX7_close 87 = .ok (.ifCond .ne 13, 3) := by decide +kernel
theorem dX7_close_90 : decode cX7_close 90 = .ok (.aload_n 0, 1) := by decide +kernel
theorem dX7_close_91 : decode cX7_close 91 = .ok (.getfield 56, 3) := by decide +kernel
theorem dX7_close_94 : decode cX7_close 94 = .ok (.getfield 184, 3) := by decide +kernel
theorem dX7_close_97 : decode cX7_close 97 = .ok (.goto 10, 3) := by decide +kernel
theorem dX7_close_100 : decode cX7_close 100 = .ok (.aload_n 0, 1) := by decide +kernel
theorem dX7_close_101 : decode cX7_close 101 = .ok (.getfield 56, 3) := by decide +kernel
theorem dX7_close_104 : decode cX7_close 104 = .ok (.getfield 178, 3) := by decide +kernel
theorem dX7_close_107 : decode cX7_close 107 = .ok (.ireturn, 1) := by decide +kernel
theorem dX7_farthest_0 : decode cX7_farthest 0 = .ok (.aload_n 0, 1) := by decide +kernel
theorem dX7_farthest_1 : decode cX7_farthest 1 = .ok (.iload_n 1, 1) := by decide +kernel
theorem dX7_farthest_2 : decode cX7_farthest 2 = .ok (.invokevirtual 121, 3) := by decide +kernel
theorem dX7_farthest_5 : decode cX7_farthest 5 = .ok (.ifCond .ne 6, 3) := by decide +kernel
theorem dX7_farthest_8 : decode cX7_farthest 8 = .ok (.bipush (-101), 2) := by decide +kernel
theorem dX7_farthest_10 : decode cX7_farthest 10 = .ok (.ireturn, 1) := by decide +kernel
theorem dX7_farthest_11 : decode cX7_farthest 11 = .ok (.iload_n 2, 1) := by decide +kernel
theorem dX7_farthest_12 : decode cX7_farthest 12 = .ok (.invokestatic 156, 3) := by decide +kernel
theorem dX7_farthest_15 : decode cX7_farthest 15 = .ok (.ifCond .ne 6, 3) := by decide +kernel
theorem dX7_farthest_18 : decode cX7_farthest 18 = .ok (.bipush (-102), 2) := by decide +kernel
theorem dX7_farthest_20 : decode cX7_farthest 20 = .ok (.ireturn, 1) := by decide +kernel
theorem dX7_farthest_21 : decode cX7_farthest 21 = .ok (.aload_n 0, 1) := by decide +kernel
theorem dX7_farthest_22 : decode cX7_farthest 22 = .ok (.iload_n 1, 1) := by decide +kernel
theorem dX7_farthest_23 : decode cX7_farthest 23 = .ok (.iload_n 2, 1) := by decide +kernel
theorem dX7_farthest_24 : decode cX7_farthest 24 = .ok (.invokevirtual 226, 3) := by decide +kernel
theorem dX7_farthest_27 : decode cX7_farthest 27 = .ok (.ireturn, 1) := by decide +kernel
theorem dX7_coast_0 : decode cX7_coast 0 = .ok (.aload_n 0, 1) := by decide +kernel
theorem dX7_coast_1 : decode cX7_coast 1 = .ok (.iload_n 1, 1) := by decide +kernel
theorem dX7_coast_2 : decode cX7_coast 2 = .ok (.invokevirtual 121, 3) := by decide +kernel
theorem dX7_coast_5 : decode cX7_coast 5 = .ok (.ifCond .ne 6, 3) := by decide +kernel
theorem dX7_coast_8 : decode cX7_coast 8 = .ok (.bipush (-101), 2) := by decide +kernel
theorem dX7_coast_10 : decode cX7_coast 10 = .ok (.ireturn, 1) := by decide +kernel
theorem dX7_coast_11 : decode cX7_coast 11 = .ok (.iload_n 2, 1) := by decide +kernel
theorem dX7_coast_12 : decode cX7_coast 12 = .ok (.invokestatic 156, 3) := by decide +kernel
theorem dX7_coast_15 : decode cX7_coast 15 = .ok (.ifCond .eq 13, 3) := by decide +kernel
end
section
theorem dX7_coast_18 : decode cX7_coast 18 = .ok (.iload_n 3, 1) := by decide +kernel
theorem dX7_coast_19 : decode cX7_coast 19 = .ok (.iconst 0, 1) := by decide +kernel
theorem dX7_coast_20 : decode cX7_coast 20 = .ok (.bipush 99, 2) := by decide +kernel
theorem dX7_coast_22 : decode cX7_coast 22 = .ok (.invokestatic 137, 3) := by decide +kernel
theorem dX7_coast_25 : decode cX7_coast 25 = .ok (.ifCond .ne 6, 3) := by decide +kernel
theorem dX7_coast_28 : decode cX7_coast 28 = .ok (.bipush (-102), 2) := by decide +kernel
theorem dX7_coast_30 : decode cX7_coast 30 = .ok (.ireturn, 1) := by decide +kernel
theorem dX7_coast_31 : decode cX7_coast 31 = .ok (.aload_n 0, 1) := by decide +kernel
theorem dX7_coast_32 : decode cX7_coast 32 = .ok (.getfield 33, 3) := by decide +kernel
theorem dX7_coast_35 : decode cX7_coast 35 = .ok (.getfield 229, 3) := by decide +kernel
theorem dX7_coast_38 : decode cX7_coast 38 = .ok (.bipush 8, 2) := by decide +kernel
theorem dX7_coast_40 : decode cX7_coast 40 = .ok (.if_icmp .lt 6, 3) := by decide +kernel
theorem dX7_coast_43 : decode cX7_coast 43 = .ok (.bipush (-104), 2) := by decide +kernel
theorem dX7_coast_45 : decode cX7_coast 45 = .ok (.ireturn, 1) := by decide +kernel
theorem dX7_coast_46 : decode cX7_coast 46 = .ok (.aload_n 0, 1) := by decide +kernel
theorem dX7_coast_47 : decode cX7_coast 47 = .ok (.getfield 33, 3) := by decide +kernel
theorem dX7_coast_50 : decode cX7_coast 50 = .ok (.iload_n 1, 1) := by decide +kernel
theorem dX7_coast_51 : decode cX7_coast 51 = .ok (.iload_n 2, 1) := by decide +kernel
theorem dX7_coast_52 : decode cX7_coast 52 = .ok (.iload_n 3, 1) := by decide +kernel
theorem dX7_coast_53 : decode cX7_coast 53 = .ok (.invokevirtual 230, 3) := by decide +kernel
theorem dX7_coast_56 : decode cX7_coast 56 = .ok (.aload_n 0, 1) := by decide +kernel
theorem dX7_coast_57 : decode cX7_coast 57 = .ok (.getfield 33, 3) := by decide +kernel
theorem dX7_coast_60 : decode cX7_coast 60 = .ok (.getfield 229, 3) := by decide +kernel
theorem dX7_coast_63 : decode cX7_coast 63 = .ok (.ireturn, 1) := by decide +kernel
theorem dX7_rubs_0 : decode cX7_rubs 0 = .ok (.iconst 0, 1) := by decide +kernel
theorem dX7_rubs_1 : decode cX7_rubs 1 = .ok (.istore_n 1, 1) := by decide +kernel
theorem dX7_rubs_2 : decode cX7_rubs 2 = .ok (.iconst 0, 1) := by decide +kernel
theorem dX7_rubs_3 : decode cX7_rubs 3 = .ok (.istore_n 2, 1) := by decide +kernel
theorem dX7_rubs_4 : decode cX7_rubs 4 = .ok (.iload_n 2, 1) := by decide +kernel
theorem dX7_rubs_5 : decode cX7_rubs 5 = .ok (.bipush 9, 2) := by decide +kernel
theorem dX7_rubs_7 : decode cX7_rubs 7 = .ok (.if_icmp .gt 23, 3) := by decide +kernel
theorem dX7_rubs_10 : decode cX7_rubs 10 = .ok (.aload_n 0, 1) := by decide +kernel
theorem dX7_rubs_11 : decode cX7_rubs 11 = .ok (.iload_n 2, 1) := by decide +kernel
theorem dX7_rubs_12 : decode cX7_rubs 12 = .ok (.invokevirtual 233, 3) := by decide +kernel
theorem dX7_rubs_15 : decode cX7_rubs 15 = .ok (.ifCond .eq 9, 3) := by decide +kernel
theorem dX7_rubs_18 : decode cX7_rubs 18 = .ok (.iload_n 1, 1) := by decide +kernel
theorem dX7_rubs_19 : decode cX7_rubs 19 = .ok (.iconst 1, 1) := by decide +kernel
theorem dX7_rubs_20 : decode cX7_rubs 20 = .ok (.iload_n 2, 1) := by decide +kernel
theorem dX7_rubs_21 : decode cX7_rubs 21 = .ok (.ishl, 1) := by decide +kernel
theorem dX7_rubs_22 : decode cX7_rubs 22 = .ok (.ior, 1) := by decide +kernel
theorem dX7_rubs_23 : decode cX7_rubs 23 = .ok (.istore_n 1, 1) := by decide +kernel
theorem dX7_rubs_24 : decode cX7_rubs 24 = .ok (.iinc 2 1, 3) := by decide +kernel
theorem dX7_rubs_27 : decode cX7_rubs 27 = .ok (.goto (-23), 3) := by decide +kernel
theorem dX7_rubs_30 : decode cX7_rubs 30 = .ok (.iload_n 1, 1) := by decide +kernel
theorem dX7_rubs_31 : decode cX7_rubs 31 = .ok (.ireturn, 1) := by decide +kernel
theorem dX7_chance_0 : decode cX7_chance 0 = .ok (.aload_n 0, 1) := by decide +kernel
theorem dX7_chance_1 : decode cX7_chance 1 = .ok (.iload_n 1, 1) := by decide +kernel
theorem dX7_chance_2 : decode cX7_chance 2 = .ok (.invokevirtual 121, 3) := by decide +kernel
theorem dX7_chance_5 : decode cX7_chance 5 = .ok (.ifCond .eq 11, 3) := by decide +kernel
theorem dX7_chance_8 : decode cX7_chance 8 = .ok (.aload_n 0, 1) := by decide +kernel
theorem dX7_chance_9 : decode cX7_chance 9 = .ok (.iload_n 2, 1) := by decide +kernel
theorem dX7_chance_10 : decode cX7_chance 10 = .ok (.invokevirtual 121, 3) := by decide +kernel
theorem dX7_chance_13 : decode cX7_chance 13 = .ok (.ifCond .ne 6, 3) := by decide +kernel
theorem dX7_chance_16 : decode cX7_chance 16 = .ok (.bipush (-101), 2) := by decide +kernel
theorem dX7_chance_18 : decode cX7_chance 18 = .ok (.ireturn, 1) := by decide +kernel
theorem dX7_chance_19 : decode cX7_chance 19 = .ok (.aload_n 0, 1) := by decide +kernel
theorem dX7_chance_20 : decode cX7_chance 20 = .ok (.iload_n 1, 1) := by decide +kernel
theorem dX7_chance_21 : decode cX7_chance 21 = .ok (.iload_n 3, 1) := by decide +kernel
theorem dX7_chance_22 : decode cX7_chance 22 = .ok (.iload 4, 2) := by decide +kernel
theorem dX7_chance_24 : decode cX7_chance 24 = .ok (.iconst 1, 1) := by decide +kernel
theorem dX7_chance_25 : decode cX7_chance 25 = .ok (.bipush 99, 2) := by decide +kernel
theorem dX7_chance_27 : decode cX7_chance 27 = .ok (.invokestatic 137, 3) := by decide +kernel
theorem dX7_chance_30 : decode cX7_chance 30 = .ok (.invokevirtual 144, 3) := by decide +kernel
theorem dX7_chance_33 : decode cX7_chance 33 = .ok (.istore 5, 2) := by decide +kernel
theorem dX7_chance_35 : decode cX7_chance 35 = .ok (.iload 5, 2) := by decide +kernel
theorem dX7_chance_37 : decode cX7_chance 37 = .ok (.ifCond .eq 6, 3) := by decide +kernel
theorem dX7_chance_40 : decode cX7_chance 40 = .ok (.iload 5, 2) := by decide +kernel
theorem dX7_chance_42 : decode cX7_chance 42 = .ok (.ireturn, 1) := by decide +kernel
theorem dX7_chance_43 : decode cX7_chance 43 = .ok (.aload_n 0, 1) := by decide +kernel
theorem dX7_chance_44 : decode cX7_chance 44 = .ok (.iload_n 1, 1) := by decide +kernel
theorem dX7_chance_45 : decode cX7_chance 45 = .ok (.iload_n 3, 1) := by decide +kernel
theorem dX7_chance_46 : decode cX7_chance 46 = .ok (.invokevirtual 236, 3) := by decide +kernel
theorem dX7_chance_49 : decode cX7_chance 49 = .ok (.aload_n 0, 1) := by decide +kernel
theorem dX7_chance_50 : decode cX7_chance 50 = .ok (.iload_n 2, 1) := by decide +kernel
theorem dX7_chance_51 : decode cX7_chance 51 = .ok (.iload_n 3, 1) := by decide +kernel
theorem dX7_chance_52 : decode cX7_chance 52 = .ok (.invokevirtual 236, 3) := by decide +kernel
theorem dX7_chance_55 : decode cX7_chance 55 = .ok (.iload 4, 2) := by decide +kernel
theorem dX7_chance_57 : decode cX7_chance 57 = .ok (.invokestatic 239, 3) := by decide +kernel
theorem dX7_chance_60 : decode cX7_chance 60 = .ok (.ireturn, 1) := by decide +kernel
theorem dX7_wins_0 : decode cX7_wins 0 = .ok (.aload_n 0, 1) := by decide +kernel
theorem dX7_wins_1 : decode cX7_wins 1 = .ok (.iload_n 1, 1) := by decide +kernel
theorem dX7_wins_2 : decode cX7_wins 2 = .ok (.iload_n 2, 1) := by decide +kernel
theorem dX7_wins_3 : decode cX7_wins 3 = .ok (.iload_n 3, 1) := by decide +kernel
theorem dX7_wins_4 : decode cX7_wins 4 = .ok (.iload 4, 2) := by decide +kernel
theorem dX7_wins_6 : decode cX7_wins 6 = .ok (.invokevirtual 242, 3) := by decide +kernel
theorem dX7_wins_9 : decode cX7_wins 9 = .ok (.istore 9, 2) := by decide +kernel
theorem dX7_wins_11 : decode cX7_wins 11 = .ok (.iload 9, 2) := by decide +kernel
theorem dX7_wins_13 : decode cX7_wins 13 = .ok (.ifCond .eq 6, 3) := by decide +kernel
theorem dX7_wins_16 : decode cX7_wins 16 = .ok (.iload 9, 2) := by decide +kernel
theorem dX7_wins_18 : decode cX7_wins 18 = .ok (.ireturn, 1) := by decide +kernel
theorem dX7_wins_19 : decode cX7_wins 19 = .ok (.iload 5, 2) := by decide +kernel
theorem dX7_wins_21 : decode cX7_wins 21 = .ok (.invokestatic 156, 3) := by decide +kernel
theorem dX7_wins_24 : decode cX7_wins 24 = .ok (.ifCond .eq 34, 3) := by decide +kernel
theorem dX7_wins_27 : decode cX7_wins 27 = .ok (.iload 6, 2) := by decide +kernel
theorem dX7_wins_29 : decode cX7_wins 29 = .ok (.iconst 1, 1) := by decide +kernel
theorem dX7_wins_30 : decode cX7_wins 30 = .ok (.bipush 99, 2) := by decide +kernel
theorem dX7_wins_32 : decode cX7_wins 32 = .ok (.invokestatic 137, 3) := by decide +kernel
theorem dX7_wins_35 : decode cX7_wins 35 = .ok (.ifCond .eq 23, 3) := by decide +kernel
theorem dX7_wins_38 : decode cX7_wins 38 = .ok (.iload 7, 2) := by decide +kernel
theorem dX7_wins_40 : decode cX7_wins 40 = .ok (.iconst 0, 1) := by decide +kernel
theorem dX7_wins_41 : decode cX7_wins 41 = .ok (.iconst 3, 1) := by decide +kernel
theorem dX7_wins_42 : decode cX7_wins 42 = .ok (.invokestatic 137, 3) := by decide +kernel
theorem dX7_wins_45 : decode cX7_wins 45 = .ok (.ifCond .eq 13, 3) := by decide +kernel
theorem dX7_wins_48 : decode cX7_wins 48 = .ok (.iload 8, 2) := by decide +kernel
theorem dX7_wins_50 : decode cX7_wins 50 = .ok (.iconst 0, 1) := by decide +kernel
theorem dX7_wins_51 : decode cX7_wins 51 = .ok (.iconst 1, 1) := by decide +kernel
theorem dX7_wins_52 : decode cX7_wins 52 = .ok (.invokestatic 137, 3) := by decide +kernel
theorem dX7_wins_55 : decode cX7_wins 55 = .ok (.ifCond .ne 6, 3) := by decide +kernel
theorem dX7_wins_58 : decode cX7_wins 58 = .ok (.bipush (-102), 2) := by decide +kernel
theorem dX7_wins_60 : decode cX7_wins 60 = .ok (.ireturn, 1) := by decide +kernel
theorem dX7_wins_61 : decode cX7_wins 61 = .ok (.aload_n 0, 1) := by decide +kernel
theorem dX7_wins_62 : decode cX7_wins 62 = .ok (.iload_n 1, 1) := by decide +kernel
theorem dX7_wins_63 : decode cX7_wins 63 = .ok (.iload_n 2, 1) := by decide +kernel
theorem dX7_wins_64 : decode cX7_wins 64 = .ok (.iload_n 3, 1) := by decide +kernel
theorem dX7_wins_65 : decode cX7_wins 65 = .ok (.iload 4, 2) := by decide +kernel
theorem dX7_wins_67 : decode cX7_wins 67 = .ok (.iload 5, 2) := by decide +kernel
theorem dX7_wins_69 : decode cX7_wins 69 = .ok (.invokevirtual 246, 3) := by decide +kernel
theorem dX7_wins_72 : decode cX7_wins 72 = .ok (.aload_n 0, 1) := by decide +kernel
theorem dX7_wins_73 : decode cX7_wins 73 = .ok (.iload 7, 2) := by decide +kernel
theorem dX7_wins_75 : decode cX7_wins 75 = .ok (.iconst 1, 1) := by decide +kernel
theorem dX7_wins_76 : decode cX7_wins 76 = .ok (.iload 6, 2) := by decide +kernel
theorem dX7_wins_78 : decode cX7_wins 78 = .ok (.invokevirtual 250, 3) := by decide +kernel
theorem dX7_wins_81 : decode cX7_wins 81 = .ok (.i2l, 1) := by decide +kernel
theorem dX7_wins_82 : decode cX7_wins 82 = .ok (.ldc2_w 253, 3) := by decide +kernel
theorem dX7_wins_85 : decode cX7_wins 85 = .ok (.iload 8, 2) := by decide +kernel
theorem dX7_wins_87 : decode cX7_wins 87 = .ok (.invokestatic 255, 3) := by decide +kernel
theorem dX7_wins_90 : decode cX7_wins 90 = .ok (.l2i, 1) := by decide +kernel
theorem dX7_wins_91 : decode cX7_wins 91 = .ok (.ireturn, 1) := by decide +kernel
theorem dX7_plan_0 : decode cX7_plan 0 = .ok (.aload_n 0, 1) := by decide +kernel
theorem dX7_plan_1 : decode cX7_plan 1 = .ok (.iload_n 1, 1) := by decide +kernel
theorem dX7_plan_2 : decode cX7_plan 2 = .ok (.iload_n 2, 1) := by decide +kernel
theorem dX7_plan_3 : decode cX7_plan 3 = .ok (.iload_n 3, 1) := by decide +kernel
theorem dX7_plan_4 : decode cX7_plan 4 = .ok (.iload 4, 2) := by decide +kernel
theorem dX7_plan_6 : decode cX7_plan 6 = .ok (.invokevirtual 242, 3) := by decide +kernel
theorem dX7_plan_9 : decode cX7_plan 9 = .ok (.istore 7, 2) := by decide +kernel
theorem dX7_plan_11 : decode cX7_plan 11 = .ok (.iload 7, 2) := by decide +kernel
theorem dX7_plan_13 : decode cX7_plan 13 = .ok (.ifCond .eq 6, 3) := by decide +kernel
theorem dX7_plan_16 : decode cX7_plan 16 = .ok (.iload 7, 2) := by decide +kernel
theorem dX7_plan_18 : decode cX7_plan 18 = .ok (.ireturn, 1) := by decide +kernel
theorem dX7_plan_19 : decode cX7_plan 19 = .ok (.iload 5, 2) := by decide +kernel
theorem dX7_plan_21 : decode cX7_plan 21 = .ok (.invokestatic 156, 3) := by decide +kernel
theorem dX7_plan_24 : decode cX7_plan 24 = .ok (.ifCond .eq 14, 3) := by decide +kernel
theorem dX7_plan_27 : decode cX7_plan 27 = .ok (.iload 6, 2) := by decide +kernel
theorem dX7_plan_29 : decode cX7_plan 29 = .ok (.iconst 1, 1) := by decide +kernel
theorem dX7_plan_30 : decode cX7_plan 30 = .ok (.bipush 99, 2) := by decide +kernel
theorem dX7_plan_32 : decode cX7_plan 32 = .ok (.invokestatic 137, 3) := by decide +kernel
theorem dX7_plan_35 : decode cX7_plan 35 = .ok (.ifCond .ne 6, 3) := by decide +kernel
theorem dX7_plan_38 : decode cX7_plan 38 = .ok (.bipush (-102), 2) := by decide +kernel
theorem dX7_plan_40 : decode cX7_plan 40 = .ok (.ireturn, 1) := by decide +kernel
theorem dX7_plan_41 : decode cX7_plan 41 = .ok (.aload_n 0, 1) := by decide +kernel
theorem dX7_plan_42 : decode cX7_plan 42 = .ok (.iload_n 1, 1) := by decide +kernel
theorem dX7_plan_43 : decode cX7_plan 43 = .ok (.iload_n 2, 1) := by decide +kernel
theorem dX7_plan_44 : decode cX7_plan 44 = .ok (.iload_n 3, 1) := by decide +kernel
theorem dX7_plan_45 : decode cX7_plan 45 = .ok (.iload 4, 2) := by decide +kernel
theorem dX7_plan_47 : decode cX7_plan 47 = .ok (.iload 5, 2) := by decide +kernel
theorem dX7_plan_49 : decode cX7_plan 49 = .ok (.invokevirtual 246, 3) := by decide +kernel
theorem dX7_plan_52 : decode cX7_plan 52 = .ok (.aload_n 0, 1) := by decide +kernel
theorem dX7_plan_53 : decode cX7_plan 53 = .ok (.invokevirtual 259, 3) := by decide +kernel
theorem dX7_plan_56 : decode cX7_plan 56 = .ok (.istore 8, 2) := by decide +kernel
theorem dX7_plan_58 : decode cX7_plan 58 = .ok (.iconst (-1), 1) := by decide +kernel
theorem dX7_plan_59 : decode cX7_plan 59 = .ok (.istore 9, 2) := by decide +kernel
theorem dX7_plan_61 : decode cX7_plan 61 = .ok (.iconst 0, 1) := by decide +kernel
theorem dX7_plan_62 : decode cX7_plan 62 = .ok (.istore 10, 2) := by decide +kernel
theorem dX7_plan_64 : decode cX7_plan 64 = .ok (.iconst 0, 1) := by decide +kernel
theorem dX7_plan_65 : decode cX7_plan 65 = .ok (.istore 11, 2) := by decide +kernel
theorem dX7_plan_67 : decode cX7_plan 67 = .ok (.iload 11, 2) := by decide +kernel
theorem dX7_plan_69 : decode cX7_plan 69 = .ok (.iconst 3, 1) := by decide +kernel
theorem dX7_plan_70 : decode cX7_plan 70 = .ok (.if_icmp .ge 38, 3) := by decide +kernel
theorem dX7_plan_73 : decode cX7_plan 73 = .ok (.aload_n 0, 1) := by decide +kernel
theorem dX7_plan_74 : decode cX7_plan 74 = .ok (.iload 8, 2) := by decide +kernel
theorem dX7_plan_76 : decode cX7_plan 76 = .ok (.iload 11, 2) := by decide +kernel
theorem dX7_plan_78 : decode cX7_plan 78 = .ok (.iconst 1, 1) := by decide +kernel
theorem dX7_plan_79 : decode cX7_plan 79 = .ok (.iadd, 1) := by decide +kernel
theorem dX7_plan_80 : decode cX7_plan 80 = .ok (.iload 6, 2) := by decide +kernel
theorem dX7_plan_82 : decode cX7_plan 82 = .ok (.invokevirtual 250, 3) := by decide +kernel
theorem dX7_plan_85 : decode cX7_plan 85 = .ok (.istore 12, 2) := by decide +kernel
theorem dX7_plan_87 : decode cX7_plan 87 = .ok (.iload 12, 2) := by decide +kernel
theorem dX7_plan_89 : decode cX7_plan 89 = .ok (.iload 9, 2) := by decide +kernel
theorem dX7_plan_91 : decode cX7_plan 91 = .ok (.if_icmp .le 11, 3) := by decide +kernel
theorem dX7_plan_94 : decode cX7_plan 94 = .ok (.iload 12, 2) := by decide +kernel
theorem dX7_plan_96 : decode cX7_plan 96 = .ok (.istore 9, 2) := by decide +kernel
theorem dX7_plan_98 : decode cX7_plan 98 = .ok (.iload 11, 2) := by decide +kernel
theorem dX7_plan_100 : decode cX7_plan 100 = .ok (.istore 10, 2) := by decide +kernel
theorem dX7_plan_102 : decode cX7_plan 102 = .ok (.iinc 11 1, 3) := by decide +kernel
theorem dX7_plan_105 : decode cX7_plan 105 = .ok (.goto (-38), 3) := by decide +kernel
theorem dX7_plan_108 : decode cX7_plan 108 = .ok (.iload 10, 2) := by decide +kernel
theorem dX7_plan_110 : decode cX7_plan 110 = .ok (.ireturn, 1) := by decide +kernel
theorem dX7_stays_0 : decode cX7_stays 0 = .ok (.iload_n 3, 1) := by decide +kernel
theorem dX7_stays_1 : decode cX7_stays 1 = .ok (.iconst 0, 1) := by decide +kernel
theorem dX7_stays_2 : decode cX7_stays 2 = .ok (.bipush 9, 2) := by decide +kernel
theorem dX7_stays_4 : decode cX7_stays 4 = .ok (.invokestatic 137, 3) := by decide +kernel
theorem dX7_stays_7 : decode cX7_stays 7 = .ok (.ifCond .eq 28, 3) := by decide +kernel
theorem dX7_stays_10 : decode cX7_stays 10 = .ok (.iload 4, 2) := by decide +kernel
theorem dX7_stays_12 : decode cX7_stays 12 = .ok (.iconst 0, 1) := by decide +kernel
theorem dX7_stays_13 : decode cX7_stays 13 = .ok (.bipush 15, 2) := by decide +kernel
theorem dX7_stays_15 : decode cX7_stays 15 = .ok (.invokestatic 137, 3) := by decide +kernel
theorem dX7_stays_18 : decode cX7_stays 18 = .ok (.ifCond .eq 17, 3) := by decide +kernel
theorem dX7_stays_21 : decode cX7_stays 21 = .ok (.iload 5, 2) := by decide +kernel
theorem dX7_stays_23 : decode cX7_stays 23 = .ok (.iconst 0, 1) := by decide +kernel
theorem dX7_stays_24 : decode cX7_stays 24 = .ok (.iconst 1, 1) := by decide +kernel
theorem dX7_stays_25 : decode cX7_stays 25 = .ok (.invokestatic 137, 3) := by decide +kernel
theorem dX7_stays_28 : decode cX7_stays 28 = .ok (.ifCond .eq 7, 3) := by decide +kernel
theorem dX7_stays_31 : decode cX7_stays 31 = .ok (.iconst 1, 1) := by decide +kernel
theorem dX7_stays_32 : decode cX7_stays 32 = .ok (.goto 4, 3) := by decide +kernel
theorem dX7_stays_35 : decode cX7_stays 35 = .ok (.iconst 0, 1) := by decide +kernel
theorem dX7_stays_36 : decode cX7_stays 36 = .ok (.istore 6, 2) := by decide +kernel
theorem dX7_stays_38 : decode cX7_stays 38 = .ok (.aload_n 0, 1) := by decide +kernel
theorem dX7_stays_39 : decode cX7_stays 39 = .ok (.iload_n 1, 1) := by decide +kernel
theorem dX7_stays_40 : decode cX7_stays 40 = .ok (.iload_n 2, 1) := by decide +kernel
theorem dX7_stays_41 : decode cX7_stays 41 = .ok (.iload 6, 2) := by decide +kernel
theorem dX7_stays_43 : decode cX7_stays 43 = .ok (.invokevirtual 144, 3) := by decide +kernel
theorem dX7_stays_46 : decode cX7_stays 46 = .ok (.istore 7, 2) := by decide +kernel
theorem dX7_stays_48 : decode cX7_stays 48 = .ok (.iload 7, 2) := by decide +kernel
theorem dX7_stays_50 : decode cX7_stays 50 = .ok (.ifCond .eq 7, 3) := by decide +kernel
theorem dX7_stays_53 : decode cX7_stays 53 = .ok (.iload 7, 2) := by decide +kernel
theorem dX7_stays_55 : decode cX7_stays 55 = .ok (.i2l, 1) := by decide +kernel
theorem dX7_stays_56 : decode cX7_stays 56 = .ok (.lreturn, 1) := by decide +kernel
theorem dX7_stays_57 : decode cX7_stays 57 = .ok (.aload_n 0, 1) := by decide +kernel
theorem dX7_stays_58 : decode cX7_stays 58 = .ok (.iload_n 1, 1) := by decide +kernel
theorem dX7_stays_59 : decode cX7_stays 59 = .ok (.iload_n 2, 1) := by decide +kernel
theorem dX7_stays_60 : decode cX7_stays 60 = .ok (.invokevirtual 148, 3) := by decide +kernel
theorem dX7_stays_63 : decode cX7_stays 63 = .ok (.aload_n 0, 1) := by decide +kernel
theorem dX7_stays_64 : decode cX7_stays 64 = .ok (.iload_n 3, 1) := by decide +kernel
theorem dX7_stays_65 : decode cX7_stays 65 = .ok (.invokevirtual 262, 3) := by decide +kernel
theorem dX7_stays_68 : decode cX7_stays 68 = .ok (.aload_n 0, 1) := by decide +kernel
theorem dX7_stays_69 : decode cX7_stays 69 = .ok (.iload 4, 2) := by decide +kernel
theorem dX7_stays_71 : decode cX7_stays 71 = .ok (.invokevirtual 265, 3) := by decide +kernel
theorem dX7_stays_74 : decode cX7_stays 74 = .ok (.ldc2_w 269, 3) := by decide +kernel
theorem dX7_stays_77 : decode cX7_stays 77 = .ok (.iload 5, 2) := by decide +kernel
theorem dX7_stays_79 : decode cX7_stays 79 = .ok (.invokestatic 255, 3) := by decide +kernel
theorem dX7_stays_82 : decode cX7_stays 82 = .ok (.lreturn, 1) := by decide +kernel
theorem dX7_straw_0 : decode cX7_straw 0 = .ok (.aload_n 0, 1) := by decide +kernel
theorem dX7_straw_1 : decode cX7_straw 1 = .ok (.iload_n 1, 1) := by decide +kernel
theorem dX7_straw_2 : decode cX7_straw 2 = .ok (.iload_n 2, 1) := by decide +kernel
theorem dX7_straw_3 : decode cX7_straw 3 = .ok (.iload_n 3, 1) := by decide +kernel
theorem dX7_straw_4 : decode cX7_straw 4 = .ok (.iconst 0, 1) := by decide +kernel
theorem dX7_straw_5 : decode cX7_straw 5 = .ok (.bipush 9, 2) := by decide +kernel
theorem dX7_straw_7 : decode cX7_straw 7 = .ok (.invokestatic 137, 3) := by decide +kernel
theorem dX7_straw_10 : decode cX7_straw 10 = .ok (.ifCond .eq 17, 3) := by decide +kernel
theorem dX7_straw_13 : decode cX7_straw 13 = .ok (.iload 4, 2) := by decide +kernel
theorem dX7_straw_15 : decode cX7_straw 15 = .ok (.iconst 1, 1) := by decide +kernel
theorem dX7_straw_16 : decode cX7_straw 16 = .ok (.iconst 4, 1) := by decide +kernel
theorem dX7_straw_17 : decode cX7_straw 17 = .ok (.invokestatic 137, 3) := by decide +kernel
theorem dX7_straw_20 : decode cX7_straw 20 = .ok (.ifCond .eq 7, 3) := by decide +kernel
theorem dX7_straw_23 : decode cX7_straw 23 = .ok (.iconst 1, 1) := by decide +kernel
theorem dX7_straw_24 : decode cX7_straw 24 = .ok (.goto 4, 3) := by decide +kernel
theorem dX7_straw_27 : decode cX7_straw 27 = .ok (.iconst 0, 1) := by decide +kernel
theorem dX7_straw_28 : decode cX7_straw 28 = .ok (.invokevirtual 144, 3) := by decide +kernel
theorem dX7_straw_31 : decode cX7_straw 31 = .ok (.istore 5, 2) := by decide +kernel
theorem dX7_straw_33 : decode cX7_straw 33 = .ok (.iload 5, 2) := by decide +kernel
theorem dX7_straw_35 : decode cX7_straw 35 = .ok (.ifCond .eq 6, 3) := by decide +kernel
theorem dX7_straw_38 : decode cX7_straw 38 = .ok (.iload 5, 2) := by decide +kernel
theorem dX7_straw_40 : decode cX7_straw 40 = .ok (.ireturn, 1) := by decide +kernel
theorem dX7_straw_41 : decode cX7_straw 41 = .ok (.aload_n 0, 1) := by decide +kernel
theorem dX7_straw_42 : decode cX7_straw 42 = .ok (.getfield 19, 3) := by decide +kernel
theorem dX7_straw_45 : decode cX7_straw 45 = .ok (.invokevirtual 271, 3) := by decide +kernel
theorem dX7_straw_48 : decode cX7_straw 48 = .ok (.istore 6, 2) := by decide +kernel
theorem dX7_straw_50 : decode cX7_straw 50 = .ok (.iload 6, 2) := by decide +kernel
theorem dX7_straw_52 : decode cX7_straw 52 = .ok (.iload 4, 2) := by decide +kernel
theorem dX7_straw_54 : decode cX7_straw 54 = .ok (.if_icmp .ge 6, 3) := by decide +kernel
theorem dX7_straw_57 : decode cX7_straw 57 = .ok (.bipush (-103), 2) := by decide +kernel
theorem dX7_straw_59 : decode cX7_straw 59 = .ok (.ireturn, 1) := by decide +kernel
theorem dX7_straw_60 : decode cX7_straw 60 = .ok (.aload_n 0, 1) := by decide +kernel
theorem dX7_straw_61 : decode cX7_straw 61 = .ok (.iload_n 1, 1) := by decide +kernel
theorem dX7_straw_62 : decode cX7_straw 62 = .ok (.iload_n 2, 1) := by decide +kernel
theorem dX7_straw_63 : decode cX7_straw 63 = .ok (.invokevirtual 148, 3) := by decide +kernel
theorem dX7_straw_66 : decode cX7_straw 66 = .ok (.aload_n 0, 1) := by decide +kernel
theorem dX7_straw_67 : decode cX7_straw 67 = .ok (.iload_n 3, 1) := by decide +kernel
theorem dX7_straw_68 : decode cX7_straw 68 = .ok (.invokevirtual 262, 3) := by decide +kernel
theorem dX7_straw_71 : decode cX7_straw 71 = .ok (.ldc2_w 274, 3) := by decide +kernel
theorem dX7_straw_74 : decode cX7_straw 74 = .ok (.lstore 7, 2) := by decide +kernel
theorem dX7_straw_76 : decode cX7_straw 76 = .ok (.iconst 0, 1) := by decide +kernel
theorem dX7_straw_77 : decode cX7_straw 77 = .ok (.istore 9, 2) := by decide +kernel
theorem dX7_straw_79 : decode cX7_straw 79 = .ok (.iconst 1, 1) := by decide +kernel
theorem dX7_straw_80 : decode cX7_straw 80 = .ok (.istore 10, 2) := by decide +kernel
theorem dX7_straw_82 : decode cX7_straw 82 = .ok (.iload 10, 2) := by decide +kernel
theorem dX7_straw_84 : decode cX7_straw 84 = .ok (.iconst 1, 1) := by decide +kernel
theorem dX7_straw_85 : decode cX7_straw 85 = .ok (.iload 6, 2) := by decide +kernel
theorem dX7_straw_87 : decode cX7_straw 87 = .ok (.iconst 4, 1) := by decide +kernel
theorem dX7_straw_88 : decode cX7_straw 88 = .ok (.invokestatic 276, 3) := by decide +kernel
theorem dX7_straw_91 : decode cX7_straw 91 = .ok (.ishl, 1) := by decide +kernel
theorem dX7_straw_92 : decode cX7_straw 92 = .ok (.if_icmp .ge 43, 3) := by decide +kernel
theorem dX7_straw_95 : decode cX7_straw 95 = .ok (.iload 10, 2) := by decide +kernel
theorem dX7_straw_97 : decode cX7_straw 97 = .ok (.invokestatic 281, 3) := by decide +kernel
theorem dX7_straw_100 : decode cX7_straw 100 = .ok (.iload 4, 2) := by decide +kernel
theorem dX7_straw_102 : decode cX7_straw 102 = .ok (.if_icmp .ne 27, 3) := by decide +kernel
theorem dX7_straw_105 : decode cX7_straw 105 = .ok (.aload_n 0, 1) := by decide +kernel
theorem dX7_straw_106 : decode cX7_straw 106 = .ok (.iload 10, 2) := by decide +kernel
theorem dX7_straw_108 : decode cX7_straw 108 = .ok (.invokevirtual 265, 3) := by decide +kernel
theorem dX7_straw_111 : decode cX7_straw 111 = .ok (.lload 7, 2) := by decide +kernel
theorem dX7_straw_113 : decode cX7_straw 113 = .ok (.lcmp, 1) := by decide +kernel
theorem dX7_straw_114 : decode cX7_straw 114 = .ok (.ifCond .le 15, 3) := by decide +kernel
theorem dX7_straw_117 : decode cX7_straw 117 = .ok (.aload_n 0, 1) := by decide +kernel
theorem dX7_straw_118 : decode cX7_straw 118 = .ok (.iload 10, 2) := by decide +kernel
theorem dX7_straw_120 : decode cX7_straw 120 = .ok (.invokevirtual 265, 3) := by decide +kernel
theorem dX7_straw_123 : decode cX7_straw 123 = .ok (.lstore 7, 2) := by decide +kernel
theorem dX7_straw_125 : decode cX7_straw 125 = .ok (.iload 10, 2) := by decide +kernel
theorem dX7_straw_127 : decode cX7_straw 127 = .ok (.istore 9, 2) := by decide +kernel
theorem dX7_straw_129 : decode cX7_straw 129 = .ok (.iinc 10 1, 3) := by decide +kernel
theorem dX7_straw_132 : decode cX7_straw 132 = .ok (.goto (-50), 3) := by decide +kernel
theorem dX7_straw_135 : decode cX7_straw 135 = .ok (.iload 9, 2) := by decide +kernel
theorem dX7_straw_137 : decode cX7_straw 137 = .ok (.ireturn, 1) := by decide +kernel
theorem dX7_image_0 : decode cX7_image 0 = .ok (.aload_n 0, 1) := by decide +kernel
theorem dX7_image_1 : decode cX7_image 1 = .ok (.getfield 19, 3) := by decide +kernel
theorem dX7_image_4 : decode cX7_image 4 = .ok (.getfield 100, 3) := by decide +kernel
theorem dX7_image_7 : decode cX7_image 7 = .ok (.ifCond .ne 6, 3) := by decide +kernel
theorem dX7_image_10 : decode cX7_image 10 = .ok (.bipush (-103), 2) := by decide +kernel
theorem dX7_image_12 : decode cX7_image 12 = .ok (.ireturn, 1) := by decide +kernel
theorem dX7_image_13 : decode cX7_image 13 = .ok (.aload_n 0, 1) := by decide +kernel
theorem dX7_image_14 : decode cX7_image 14 = .ok (.getfield 40, 3) := by decide +kernel
theorem dX7_image_17 : decode cX7_image 17 = .ok (.aload_n 0, 1) := by decide +kernel
theorem dX7_image_18 : decode cX7_image 18 = .ok (.getfield 19, 3) := by decide +kernel
theorem dX7_image_21 : decode cX7_image 21 = .ok (.getfield 286, 3) := by decide +kernel
theorem dX7_image_24 : decode cX7_image 24 = .ok (.putfield 289, 3) := by decide +kernel
theorem dX7_image_27 : decode cX7_image 27 = .ok (.aload_n 0, 1) := by decide +kernel
theorem dX7_image_28 : decode cX7_image 28 = .ok (.getfield 40, 3) := by decide +kernel
theorem dX7_image_31 : decode cX7_image 31 = .ok (.aload_n 0, 1) := by decide +kernel
theorem dX7_image_32 : decode cX7_image 32 = .ok (.getfield 71, 3) := by decide +kernel
theorem dX7_image_35 : decode cX7_image 35 = .ok (.putfield 292, 3) := by decide +kernel
theorem dX7_image_38 : decode cX7_image 38 = .ok (.aload_n 0, 1) := by decide +kernel
theorem dX7_image_39 : decode cX7_image 39 = .ok (.getfield 40, 3) := by decide +kernel
theorem dX7_image_42 : decode cX7_image 42 = .ok (.aload_n 0, 1) := by decide +kernel
theorem dX7_image_43 : decode cX7_image 43 = .ok (.getfield 67, 3) := by decide +kernel
theorem dX7_image_46 : decode cX7_image 46 = .ok (.putfield 293, 3) := by decide +kernel
theorem dX7_image_49 : decode cX7_image 49 = .ok (.iconst 0, 1) := by decide +kernel
theorem dX7_image_50 : decode cX7_image 50 = .ok (.istore_n 1, 1) := by decide +kernel
theorem dX7_image_51 : decode cX7_image 51 = .ok (.iload_n 1, 1) := by decide +kernel
theorem dX7_image_52 : decode cX7_image 52 = .ok (.aload_n 0, 1) := by decide +kernel
theorem dX7_image_53 : decode cX7_image 53 = .ok (.getfield 67, 3) := by decide +kernel
theorem dX7_image_56 : decode cX7_image 56 = .ok (.if_icmp .ge 27, 3) := by decide +kernel
theorem dX7_image_59 : decode cX7_image 59 = .ok (.aload_n 0, 1) := by decide +kernel
theorem dX7_image_60 : decode cX7_image 60 = .ok (.getfield 40, 3) := by decide +kernel
theorem dX7_image_63 : decode cX7_image 63 = .ok (.getfield 294, 3) := by decide +kernel
theorem dX7_image_66 : decode cX7_image 66 = .ok (.iload_n 1, 1) := by decide +kernel
theorem dX7_image_67 : decode cX7_image 67 = .ok (.aload_n 0, 1) := by decide +kernel
theorem dX7_image_68 : decode cX7_image 68 = .ok (.getfield 25, 3) := by decide +kernel
theorem dX7_image_71 : decode cX7_image 71 = .ok (.iload_n 1, 1) := by decide +kernel
theorem dX7_image_72 : decode cX7_image 72 = .ok (.aaload, 1) := by decide +kernel
theorem dX7_image_73 : decode cX7_image 73 = .ok (.getfield 123, 3) := by decide +kernel
theorem dX7_image_76 : decode cX7_image 76 = .ok (.iastore, 1) := by decide +kernel
theorem dX7_image_77 : decode cX7_image 77 = .ok (.iinc 1 1, 3) := by decide +kernel
theorem dX7_image_80 : decode cX7_image 80 = .ok (.goto (-29), 3) := by decide +kernel
theorem dX7_image_83 : decode cX7_image 83 = .ok (.aload_n 0, 1) := by decide +kernel
theorem dX7_image_84 : decode cX7_image 84 = .ok (.getfield 19, 3) := by decide +kernel
theorem dX7_image_87 : decode cX7_image 87 = .ok (.getfield 118, 3) := by decide +kernel
theorem dX7_image_90 : decode cX7_image 90 = .ok (.iconst 0, 1) := by decide +kernel
theorem dX7_image_91 : decode cX7_image 91 = .ok (.aload_n 0, 1) := by decide +kernel
theorem dX7_image_92 : decode cX7_image 92 = .ok (.getfield 40, 3) := by decide +kernel
theorem dX7_image_95 : decode cX7_image 95 = .ok (.getfield 297, 3) := by decide +kernel
theorem dX7_image_98 : decode cX7_image 98 = .ok (.iconst 0, 1) := by decide +kernel
theorem dX7_image_99 : decode cX7_image 99 = .ok (.bipush 12, 2) := by decide +kernel
theorem dX7_image_101 : decode cX7_image 101 = .ok (.invokestatic 298, 3) := by decide +kernel
theorem dX7_image_104 : decode cX7_image 104 = .ok (.aload_n 0, 1) := by decide +kernel
theorem dX7_image_105 : decode cX7_image 105 = .ok (.getfield 40, 3) := by decide +kernel
theorem dX7_image_108 : decode cX7_image 108 = .ok (.getfield 304, 3) := by decide +kernel
theorem dX7_image_111 : decode cX7_image 111 = .ok (.aload_n 0, 1) := by decide +kernel
theorem dX7_image_112 : decode cX7_image 112 = .ok (.getfield 33, 3) := by decide +kernel
theorem dX7_image_115 : decode cX7_image 115 = .ok (.invokevirtual 305, 3) := by decide +kernel
theorem dX7_image_118 : decode cX7_image 118 = .ok (.aload_n 0, 1) := by decide +kernel
theorem dX7_image_119 : decode cX7_image 119 = .ok (.getfield 67, 3) := by decide +kernel
theorem dX7_image_122 : decode cX7_image 122 = .ok (.ireturn, 1) := by decide +kernel
theorem dX7_restore_0 : decode cX7_restore 0 = .ok (.aload_n 0, 1) := by decide +kernel
theorem dX7_restore_1 : decode cX7_restore 1 = .ok (.getfield 40, 3) := by decide +kernel
theorem dX7_restore_4 : decode cX7_restore 4 = .ok (.getfield 289, 3) := by decide +kernel
theorem dX7_restore_7 : decode cX7_restore 7 = .ok (.ifCond .eq 20, 3) := by decide +kernel
theorem dX7_restore_10 : decode cX7_restore 10 = .ok (.aload_n 0, 1) := by decide +kernel
theorem dX7_restore_11 : decode cX7_restore 11 = .ok (.getfield 40, 3) := by decide +kernel
theorem dX7_restore_14 : decode cX7_restore 14 = .ok (.getfield 289, 3) := by decide +kernel
theorem dX7_restore_17 : decode cX7_restore 17 = .ok (.aload_n 0, 1) := by decide +kernel
theorem dX7_restore_18 : decode cX7_restore 18 = .ok (.getfield 19, 3) := by decide +kernel
theorem dX7_restore_21 : decode cX7_restore 21 = .ok (.getfield 286, 3) := by decide +kernel
theorem dX7_restore_24 : decode cX7_restore 24 = .ok (.if_icmp .eq 6, 3) := by decide +kernel
theorem dX7_restore_27 : decode cX7_restore 27 = .ok (.bipush (-103), 2) := by decide +kernel
theorem dX7_restore_29 : decode cX7_restore 29 = .ok (.ireturn, 1) := by decide +kernel
theorem dX7_restore_30 : decode cX7_restore 30 = .ok (.aload_n 0, 1) := by decide +kernel
theorem dX7_restore_31 : decode cX7_restore 31 = .ok (.aload_n 0, 1) := by decide +kernel
theorem dX7_restore_32 : decode cX7_restore 32 = .ok (.getfield 40, 3) := by decide +kernel
theorem dX7_restore_35 : decode cX7_restore 35 = .ok (.getfield 292, 3) := by decide +kernel
theorem dX7_restore_38 : decode cX7_restore 38 = .ok (.putfield 71, 3) := by decide +kernel
theorem dX7_restore_41 : decode cX7_restore 41 = .ok (.iconst 0, 1) := by decide +kernel
theorem dX7_restore_42 : decode cX7_restore 42 = .ok (.istore_n 1, 1) := by decide +kernel
theorem dX7_restore_43 : decode cX7_restore 43 = .ok (.iload_n 1, 1) := by decide +kernel
theorem dX7_restore_44 : decode cX7_restore 44 = .ok (.aload_n 0, 1) := by decide +kernel
theorem dX7_restore_45 : decode cX7_restore 45 = .ok (.getfield 40, 3) := by decide +kernel
theorem dX7_restore_48 : decode cX7_restore 48 = .ok (.getfield 293, 3) := by decide +kernel
theorem dX7_restore_51 : decode cX7_restore 51 = .ok (.if_icmp .ge 27, 3) := by decide +kernel
theorem dX7_restore_54 : decode cX7_restore 54 = .ok (.aload_n 0, 1) := by decide +kernel
theorem dX7_restore_55 : decode cX7_restore 55 = .ok (.getfield 25, 3) := by decide +kernel
theorem dX7_restore_58 : decode cX7_restore 58 = .ok (.iload_n 1, 1) := by decide +kernel
theorem dX7_restore_59 : decode cX7_restore 59 = .ok (.aaload, 1) := by decide +kernel
theorem dX7_restore_60 : decode cX7_restore 60 = .ok (.aload_n 0, 1) := by decide +kernel
theorem dX7_restore_61 : decode cX7_restore 61 = .ok (.getfield 40, 3) := by decide +kernel
theorem dX7_restore_64 : decode cX7_restore 64 = .ok (.getfield 294, 3) := by decide +kernel
theorem dX7_restore_67 : decode cX7_restore 67 = .ok (.iload_n 1, 1) := by decide +kernel
theorem dX7_restore_68 : decode cX7_restore 68 = .ok (.iaload, 1) := by decide +kernel
theorem dX7_restore_69 : decode cX7_restore 69 = .ok (.putfield 123, 3) := by decide +kernel
theorem dX7_restore_72 : decode cX7_restore 72 = .ok (.iinc 1 1, 3) := by decide +kernel
theorem dX7_restore_75 : decode cX7_restore 75 = .ok (.goto (-32), 3) := by decide +kernel
theorem dX7_restore_78 : decode cX7_restore 78 = .ok (.aload_n 0, 1) := by decide +kernel
theorem dX7_restore_79 : decode cX7_restore 79 = .ok (.getfield 40, 3) := by decide +kernel
theorem dX7_restore_82 : decode cX7_restore 82 = .ok (.getfield 297, 3) := by decide +kernel
theorem dX7_restore_85 : decode cX7_restore 85 = .ok (.iconst 0, 1) := by decide +kernel
theorem dX7_restore_86 : decode cX7_restore 86 = .ok (.aload_n 0, 1) := by decide +kernel
theorem dX7_restore_87 : decode cX7_restore 87 = .ok (.getfield 19, 3) := by decide +kernel
theorem dX7_restore_90 : decode cX7_restore 90 = .ok (.getfield 118, 3) := by decide +kernel
theorem dX7_restore_93 : decode cX7_restore 93 = .ok (.iconst 0, 1) := by decide +kernel
theorem dX7_restore_94 : decode cX7_restore 94 = .ok (.bipush 12, 2) := by decide +kernel
theorem dX7_restore_96 : decode cX7_restore 96 = .ok (.invokestatic 298, 3) := by decide +kernel
theorem dX7_restore_99 : decode cX7_restore 99 = .ok (.aload_n 0, 1) := by decide +kernel
theorem dX7_restore_100 : decode cX7_restore 100 = .ok (.getfield 33, 3) := by decide +kernel
theorem dX7_restore_103 : decode cX7_restore 103 = .ok (.aload_n 0, 1) := by decide +kernel
theorem dX7_restore_104 : decode cX7_restore 104 = .ok (.getfield 40, 3) := by decide +kernel
theorem dX7_restore_107 : decode cX7_restore 107 = .ok (.getfield 304, 3) := by decide +kernel
theorem dX7_restore_110 : decode cX7_restore 110 = .ok (.invokevirtual 305, 3) := by decide +kernel
theorem dX7_restore_113 : decode cX7_restore 113 = .ok (.aload_n 0, 1) := by decide +kernel
theorem dX7_restore_114 : decode cX7_restore 114 = .ok (.getfield 67, 3) := by decide +kernel
theorem dX7_restore_117 : decode cX7_restore 117 = .ok (.ireturn, 1) := by decide +kernel
theorem dX7_count_0 : decode cX7_count 0 = .ok (.iload_n 1, 1) := by decide +kernel
theorem dX7_count_1 : decode cX7_count 1 = .ok (.tableswitch 93 0 6 #[43, 51, 59, 64, 72, 80, 88], 43) := by decide +kernel
theorem dX7_count_44 : decode cX7_count 44 = .ok (.aload_n 0, 1) := by decide +kernel
theorem dX7_count_45 : decode cX7_count 45 = .ok (.getfield 19, 3) := by decide +kernel
theorem dX7_count_48 : decode cX7_count 48 = .ok (.getfield 100, 3) := by decide +kernel
theorem dX7_count_51 : decode cX7_count 51 = .ok (.ireturn, 1) := by decide +kernel
theorem dX7_count_52 : decode cX7_count 52 = .ok (.aload_n 0, 1) := by decide +kernel
theorem dX7_count_53 : decode cX7_count 53 = .ok (.getfield 19, 3) := by decide +kernel
theorem dX7_count_56 : decode cX7_count 56 = .ok (.invokevirtual 271, 3) := by decide +kernel
theorem dX7_count_59 : decode cX7_count 59 = .ok (.ireturn, 1) := by decide +kernel
theorem dX7_count_60 : decode cX7_count 60 = .ok (.aload_n 0, 1) := by decide +kernel
theorem dX7_count_61 : decode cX7_count 61 = .ok (.getfield 67, 3) := by decide +kernel
theorem dX7_count_64 : decode cX7_count 64 = .ok (.ireturn, 1) := by decide +kernel
theorem dX7_count_65 : decode cX7_count 65 = .ok (.aload_n 0, 1) := by decide +kernel
theorem dX7_count_66 : decode cX7_count 66 = .ok (.getfield 33, 3) := by decide +kernel
theorem dX7_count_69 : decode cX7_count 69 = .ok (.getfield 229, 3) := by decide +kernel
theorem dX7_count_72 : decode cX7_count 72 = .ok (.ireturn, 1) := by decide +kernel
theorem dX7_count_73 : decode cX7_count 73 = .ok (.aload_n 0, 1) := by decide +kernel
theorem dX7_count_74 : decode cX7_count 74 = .ok (.getfield 10, 3) := by decide +kernel
theorem dX7_count_77 : decode cX7_count 77 = .ok (.getfield 78, 3) := by decide +kernel
theorem dX7_count_80 : decode cX7_count 80 = .ok (.ireturn, 1) := by decide +kernel
theorem dX7_count_81 : decode cX7_count 81 = .ok (.aload_n 0, 1) := by decide +kernel
theorem dX7_count_82 : decode cX7_count 82 = .ok (.getfield 19, 3) := by decide +kernel
theorem dX7_count_85 : decode cX7_count 85 = .ok (.getfield 286, 3) := by decide +kernel
theorem dX7_count_88 : decode cX7_count 88 = .ok (.ireturn, 1) := by decide +kernel
theorem dX7_count_89 : decode cX7_count 89 = .ok (.aload_n 0, 1) := by decide +kernel
theorem dX7_count_90 : decode cX7_count 90 = .ok (.getfield 71, 3) := by decide +kernel
theorem dX7_count_93 : decode cX7_count 93 = .ok (.ireturn, 1) := by decide +kernel
theorem dX7_count_94 : decode cX7_count 94 = .ok (.bipush (-102), 2) := by decide +kernel
theorem dX7_count_96 : decode cX7_count 96 = .ok (.ireturn, 1) := by decide +kernel
theorem dX7_digest_0 : decode cX7_digest 0 = .ok (.ldc2_w 309, 3) := by decide +kernel
theorem dX7_digest_3 : decode cX7_digest 3 = .ok (.lstore_n 1, 1) := by decide +kernel
theorem dX7_digest_4 : decode cX7_digest 4 = .ok (.iconst 0, 1) := by decide +kernel
theorem dX7_digest_5 : decode cX7_digest 5 = .ok (.istore_n 3, 1) := by decide +kernel
theorem dX7_digest_6 : decode cX7_digest 6 = .ok (.iload_n 3, 1) := by decide +kernel
theorem dX7_digest_7 : decode cX7_digest 7 = .ok (.aload_n 0, 1) := by decide +kernel
theorem dX7_digest_8 : decode cX7_digest 8 = .ok (.getfield 19, 3) := by decide +kernel
theorem dX7_digest_11 : decode cX7_digest 11 = .ok (.getfield 100, 3) := by decide +kernel
theorem dX7_digest_14 : decode cX7_digest 14 = .ok (.if_icmp .ge 36, 3) := by decide +kernel
theorem dX7_digest_17 : decode cX7_digest 17 = .ok (.iconst 0, 1) := by decide +kernel
theorem dX7_digest_18 : decode cX7_digest 18 = .ok (.istore 4, 2) := by decide +kernel
theorem dX7_digest_20 : decode cX7_digest 20 = .ok (.iload 4, 2) := by decide +kernel
theorem dX7_digest_22 : decode cX7_digest 22 = .ok (.iconst 3, 1) := by decide +kernel
theorem dX7_digest_23 : decode cX7_digest 23 = .ok (.if_icmp .gt 21, 3) := by decide +kernel
theorem dX7_digest_26 : decode cX7_digest 26 = .ok (.lload_n 1, 1) := by decide +kernel
theorem dX7_digest_27 : decode cX7_digest 27 = .ok (.aload_n 0, 1) := by decide +kernel
theorem dX7_digest_28 : decode cX7_digest 28 = .ok (.iload_n 3, 1) := by decide +kernel
theorem dX7_digest_29 : decode cX7_digest 29 = .ok (.iload 4, 2) := by decide +kernel
theorem dX7_digest_31 : decode cX7_digest 31 = .ok (.invokevirtual 311, 3) := by decide +kernel
theorem dX7_digest_34 : decode cX7_digest 34 = .ok (.invokestatic 314, 3) := by decide +kernel
theorem dX7_digest_37 : decode cX7_digest 37 = .ok (.lstore_n 1, 1) := by decide +kernel
theorem dX7_digest_38 : decode cX7_digest 38 = .ok (.iinc 4 1, 3) := by decide +kernel
theorem dX7_digest_41 : decode cX7_digest 41 = .ok (.goto (-21), 3) := by decide +kernel
theorem dX7_digest_44 : decode cX7_digest 44 = .ok (.iinc 3 1, 3) := by decide +kernel
theorem dX7_digest_47 : decode cX7_digest 47 = .ok (.goto (-41), 3) := by decide +kernel
theorem dX7_digest_50 : decode cX7_digest 50 = .ok (.iconst 0, 1) := by decide +kernel
theorem dX7_digest_51 : decode cX7_digest 51 = .ok (.istore_n 3, 1) := by decide +kernel
theorem dX7_digest_52 : decode cX7_digest 52 = .ok (.iload_n 3, 1) := by decide +kernel
theorem dX7_digest_53 : decode cX7_digest 53 = .ok (.aload_n 0, 1) := by decide +kernel
theorem dX7_digest_54 : decode cX7_digest 54 = .ok (.getfield 67, 3) := by decide +kernel
theorem dX7_digest_57 : decode cX7_digest 57 = .ok (.if_icmp .ge 16, 3) := by decide +kernel
theorem dX7_digest_60 : decode cX7_digest 60 = .ok (.aload_n 0, 1) := by decide +kernel
theorem dX7_digest_61 : decode cX7_digest 61 = .ok (.lload_n 1, 1) := by decide +kernel
theorem dX7_digest_62 : decode cX7_digest 62 = .ok (.iload_n 3, 1) := by decide +kernel
theorem dX7_digest_63 : decode cX7_digest 63 = .ok (.invokevirtual 318, 3) := by decide +kernel
theorem dX7_digest_66 : decode cX7_digest 66 = .ok (.lstore_n 1, 1) := by decide +kernel
theorem dX7_digest_67 : decode cX7_digest 67 = .ok (.iinc 3 1, 3) := by decide +kernel
theorem dX7_digest_70 : decode cX7_digest 70 = .ok (.goto (-18), 3) := by decide +kernel
theorem dX7_digest_73 : decode cX7_digest 73 = .ok (.iconst 0, 1) := by decide +kernel
theorem dX7_digest_74 : decode cX7_digest 74 = .ok (.istore_n 3, 1) := by decide +kernel
theorem dX7_digest_75 : decode cX7_digest 75 = .ok (.iload_n 3, 1) := by decide +kernel
theorem dX7_digest_76 : decode cX7_digest 76 = .ok (.aload_n 0, 1) := by decide +kernel
theorem dX7_digest_77 : decode cX7_digest 77 = .ok (.getfield 33, 3) := by decide +kernel
theorem dX7_digest_80 : decode cX7_digest 80 = .ok (.getfield 229, 3) := by decide +kernel
theorem dX7_digest_83 : decode cX7_digest 83 = .ok (.if_icmp .ge 51, 3) := by decide +kernel
theorem dX7_digest_86 : decode cX7_digest 86 = .ok (.lload_n 1, 1) := by decide +kernel
theorem dX7_digest_87 : decode cX7_digest 87 = .ok (.aload_n 0, 1) := by decide +kernel
theorem dX7_digest_88 : decode cX7_digest 88 = .ok (.getfield 33, 3) := by decide +kernel
theorem dX7_digest_91 : decode cX7_digest 91 = .ok (.getfield 321, 3) := by decide +kernel
theorem dX7_digest_94 : decode cX7_digest 94 = .ok (.iload_n 3, 1) := by decide +kernel
theorem dX7_digest_95 : decode cX7_digest 95 = .ok (.iaload, 1) := by decide +kernel
theorem dX7_digest_96 : decode cX7_digest 96 = .ok (.invokestatic 314, 3) := by decide +kernel
theorem dX7_digest_99 : decode cX7_digest 99 = .ok (.lstore_n 1, 1) := by decide +kernel
theorem dX7_digest_100 : decode cX7_digest 100 = .ok (.lload_n 1, 1) := by decide +kernel
theorem dX7_digest_101 : decode cX7_digest 101 = .ok (.aload_n 0, 1) := by decide +kernel
theorem dX7_digest_102 : decode cX7_digest 102 = .ok (.getfield 33, 3) := by decide +kernel
theorem dX7_digest_105 : decode cX7_digest 105 = .ok (.getfield 324, 3) := by decide +kernel
theorem dX7_digest_108 : decode cX7_digest 108 = .ok (.iload_n 3, 1) := by decide +kernel
theorem dX7_digest_109 : decode cX7_digest 109 = .ok (.iaload, 1) := by decide +kernel
theorem dX7_digest_110 : decode cX7_digest 110 = .ok (.invokestatic 314, 3) := by decide +kernel
theorem dX7_digest_113 : decode cX7_digest 113 = .ok (.lstore_n 1, 1) := by decide +kernel
theorem dX7_digest_114 : decode cX7_digest 114 = .ok (.lload_n 1, 1) := by decide +kernel
theorem dX7_digest_115 : decode cX7_digest 115 = .ok (.aload_n 0, 1) := by decide +kernel
theorem dX7_digest_116 : decode cX7_digest 116 = .ok (.getfield 33, 3) := by decide +kernel
theorem dX7_digest_119 : decode cX7_digest 119 = .ok (.getfield 327, 3) := by decide +kernel
theorem dX7_digest_122 : decode cX7_digest 122 = .ok (.iload_n 3, 1) := by decide +kernel
theorem dX7_digest_123 : decode cX7_digest 123 = .ok (.iaload, 1) := by decide +kernel
theorem dX7_digest_124 : decode cX7_digest 124 = .ok (.invokestatic 314, 3) := by decide +kernel
theorem dX7_digest_127 : decode cX7_digest 127 = .ok (.lstore_n 1, 1) := by decide +kernel
theorem dX7_digest_128 : decode cX7_digest 128 = .ok (.iinc 3 1, 3) := by decide +kernel
theorem dX7_digest_131 : decode cX7_digest 131 = .ok (.goto (-56), 3) := by decide +kernel
theorem dX7_digest_134 : decode cX7_digest 134 = .ok (.lload_n 1, 1) := by decide +kernel
theorem dX7_digest_135 : decode cX7_digest 135 = .ok (.aload_n 0, 1) := by decide +kernel
theorem dX7_digest_136 : decode cX7_digest 136 = .ok (.invokevirtual 330, 3) := by decide +kernel
theorem dX7_digest_139 : decode cX7_digest 139 = .ok (.invokestatic 314, 3) := by decide +kernel
theorem dX7_digest_142 : decode cX7_digest 142 = .ok (.lstore_n 1, 1) := by decide +kernel
theorem dX7_digest_143 : decode cX7_digest 143 = .ok (.iconst 0, 1) := by decide +kernel
theorem dX7_digest_144 : decode cX7_digest 144 = .ok (.istore_n 3, 1) := by decide +kernel
theorem dX7_digest_145 : decode cX7_digest 145 = .ok (.iload_n 3, 1) := by decide +kernel
theorem dX7_digest_146 : decode cX7_digest 146 = .ok (.aload_n 0, 1) := by decide +kernel
theorem dX7_digest_147 : decode cX7_digest 147 = .ok (.getfield 10, 3) := by decide +kernel
theorem dX7_digest_150 : decode cX7_digest 150 = .ok (.getfield 78, 3) := by decide +kernel
theorem dX7_digest_153 : decode cX7_digest 153 = .ok (.if_icmp .ge 23, 3) := by decide +kernel
theorem dX7_digest_156 : decode cX7_digest 156 = .ok (.lload_n 1, 1) := by decide +kernel
theorem dX7_digest_157 : decode cX7_digest 157 = .ok (.aload_n 0, 1) := by decide +kernel
theorem dX7_digest_158 : decode cX7_digest 158 = .ok (.getfield 10, 3) := by decide +kernel
theorem dX7_digest_161 : decode cX7_digest 161 = .ok (.getfield 333, 3) := by decide +kernel
theorem dX7_digest_164 : decode cX7_digest 164 = .ok (.iload_n 3, 1) := by decide +kernel
theorem dX7_digest_165 : decode cX7_digest 165 = .ok (.iaload, 1) := by decide +kernel
theorem dX7_digest_166 : decode cX7_digest 166 = .ok (.invokestatic 314, 3) := by decide +kernel
theorem dX7_digest_169 : decode cX7_digest 169 = .ok (.lstore_n 1, 1) := by decide +kernel
theorem dX7_digest_170 : decode cX7_digest 170 = .ok (.iinc 3 1, 3) := by decide +kernel
theorem dX7_digest_173 : decode cX7_digest 173 = .ok (.goto (-28), 3) := by decide +kernel
theorem dX7_digest_176 : decode cX7_digest 176 = .ok (.iconst 0, 1) := by decide +kernel
theorem dX7_digest_177 : decode cX7_digest 177 = .ok (.istore_n 3, 1) := by decide +kernel
theorem dX7_digest_178 : decode cX7_digest 178 = .ok (.iload_n 3, 1) := by decide +kernel
theorem dX7_digest_179 : decode cX7_digest 179 = .ok (.bipush 6, 2) := by decide +kernel
theorem dX7_digest_181 : decode cX7_digest 181 = .ok (.if_icmp .gt 19, 3) := by decide +kernel
theorem dX7_digest_184 : decode cX7_digest 184 = .ok (.lload_n 1, 1) := by decide +kernel
theorem dX7_digest_185 : decode cX7_digest 185 = .ok (.aload_n 0, 1) := by decide +kernel
theorem dX7_digest_186 : decode cX7_digest 186 = .ok (.iload_n 3, 1) := by decide +kernel
theorem dX7_digest_187 : decode cX7_digest 187 = .ok (.invokevirtual 336, 3) := by decide +kernel
theorem dX7_digest_190 : decode cX7_digest 190 = .ok (.invokestatic 314, 3) := by decide +kernel
theorem dX7_digest_193 : decode cX7_digest 193 = .ok (.lstore_n 1, 1) := by decide +kernel
theorem dX7_digest_194 : decode cX7_digest 194 = .ok (.iinc 3 1, 3) := by decide +kernel
theorem dX7_digest_197 : decode cX7_digest 197 = .ok (.goto (-19), 3) := by decide +kernel
theorem dX7_digest_200 : decode cX7_digest 200 = .ok (.lload_n 1, 1) := by decide +kernel
theorem dX7_digest_201 : decode cX7_digest 201 = .ok (.lreturn, 1) := by decide +kernel
theorem dX7_isCart_0 : decode cX7_isCart 0 = .ok (.iload_n 1, 1) := by decide +kernel
theorem dX7_isCart_1 : decode cX7_isCart 1 = .ok (.ifCond .lt 15, 3) := by decide +kernel
theorem dX7_isCart_4 : decode cX7_isCart 4 = .ok (.iload_n 1, 1) := by decide +kernel
theorem dX7_isCart_5 : decode cX7_isCart 5 = .ok (.aload_n 0, 1) := by decide +kernel
theorem dX7_isCart_6 : decode cX7_isCart 6 = .ok (.getfield 67, 3) := by decide +kernel
theorem dX7_isCart_9 : decode cX7_isCart 9 = .ok (.if_icmp .ge 7, 3) := by decide +kernel
theorem dX7_isCart_12 : decode cX7_isCart 12 = .ok (.iconst 1, 1) := by decide +kernel
theorem dX7_isCart_13 : decode cX7_isCart 13 = .ok (.goto 4, 3) := by decide +kernel
theorem dX7_isCart_16 : decode cX7_isCart 16 = .ok (.iconst 0, 1) := by decide +kernel
theorem dX7_isCart_17 : decode cX7_isCart 17 = .ok (.ireturn, 1) := by decide +kernel
theorem dX7_isLoss_0 : decode cX7_isLoss 0 = .ok (.aload_n 0, 1) := by decide +kernel
theorem dX7_isLoss_1 : decode cX7_isLoss 1 = .ok (.iload_n 1, 1) := by decide +kernel
theorem dX7_isLoss_2 : decode cX7_isLoss 2 = .ok (.invokevirtual 121, 3) := by decide +kernel
theorem dX7_isLoss_5 : decode cX7_isLoss 5 = .ok (.ifCond .eq 24, 3) := by decide +kernel
theorem dX7_isLoss_8 : decode cX7_isLoss 8 = .ok (.iload_n 2, 1) := by decide +kernel
theorem dX7_isLoss_9 : decode cX7_isLoss 9 = .ok (.ifCond .lt 20, 3) := by decide +kernel
theorem dX7_isLoss_12 : decode cX7_isLoss 12 = .ok (.iload_n 2, 1) := by decide +kernel
theorem dX7_isLoss_13 : decode cX7_isLoss 13 = .ok (.aload_n 0, 1) := by decide +kernel
theorem dX7_isLoss_14 : decode cX7_isLoss 14 = .ok (.getfield 25, 3) := by decide +kernel
theorem dX7_isLoss_17 : decode cX7_isLoss 17 = .ok (.iload_n 1, 1) := by decide +kernel
theorem dX7_isLoss_18 : decode cX7_isLoss 18 = .ok (.aaload, 1) := by decide +kernel
theorem dX7_isLoss_19 : decode cX7_isLoss 19 = .ok (.getfield 126, 3) := by decide +kernel
theorem dX7_isLoss_22 : decode cX7_isLoss 22 = .ok (.if_icmp .ge 7, 3) := by decide +kernel
theorem dX7_isLoss_25 : decode cX7_isLoss 25 = .ok (.iconst 1, 1) := by decide +kernel
theorem dX7_isLoss_26 : decode cX7_isLoss 26 = .ok (.goto 4, 3) := by decide +kernel
theorem dX7_isLoss_29 : decode cX7_isLoss 29 = .ok (.iconst 0, 1) := by decide +kernel
theorem dX7_isLoss_30 : decode cX7_isLoss 30 = .ok (.ireturn, 1) := by decide +kernel
theorem dX7_isCell_0 : decode cX7_isCell 0 = .ok (.iload_n 1, 1) := by decide +kernel
theorem dX7_isCell_1 : decode cX7_isCell 1 = .ok (.ifCond .lt 18, 3) := by decide +kernel
theorem dX7_isCell_4 : decode cX7_isCell 4 = .ok (.iload_n 1, 1) := by decide +kernel
theorem dX7_isCell_5 : decode cX7_isCell 5 = .ok (.aload_n 0, 1) := by decide +kernel
theorem dX7_isCell_6 : decode cX7_isCell 6 = .ok (.getfield 19, 3) := by decide +kernel
theorem dX7_isCell_9 : decode cX7_isCell 9 = .ok (.getfield 100, 3) := by decide +kernel
theorem dX7_isCell_12 : decode cX7_isCell 12 = .ok (.if_icmp .ge 7, 3) := by decide +kernel
theorem dX7_isCell_15 : decode cX7_isCell 15 = .ok (.iconst 1, 1) := by decide +kernel
theorem dX7_isCell_16 : decode cX7_isCell 16 = .ok (.goto 4, 3) := by decide +kernel
theorem dX7_isCell_19 : decode cX7_isCell 19 = .ok (.iconst 0, 1) := by decide +kernel
theorem dX7_isCell_20 : decode cX7_isCell 20 = .ok (.ireturn, 1) := by decide +kernel
theorem dX7_isWithin_0 : decode cX7_isWithin 0 = .ok (.iload_n 0, 1) := by decide +kernel
theorem dX7_isWithin_1 : decode cX7_isWithin 1 = .ok (.iload_n 1, 1) := by decide +kernel
theorem dX7_isWithin_2 : decode cX7_isWithin 2 = .ok (.if_icmp .lt 12, 3) := by decide +kernel
theorem dX7_isWithin_5 : decode cX7_isWithin 5 = .ok (.iload_n 0, 1) := by decide +kernel
theorem dX7_isWithin_6 : decode cX7_isWithin 6 = .ok (.iload_n 2, 1) := by decide +kernel
theorem dX7_isWithin_7 : decode cX7_isWithin 7 = .ok (.if_icmp .gt 7, 3) := by decide +kernel
theorem dX7_isWithin_10 : decode cX7_isWithin 10 = .ok (.iconst 1, 1) := by decide +kernel
theorem dX7_isWithin_11 : decode cX7_isWithin 11 = .ok (.goto 4, 3) := by decide +kernel
theorem dX7_isWithin_14 : decode cX7_isWithin 14 = .ok (.iconst 0, 1) := by decide +kernel
theorem dX7_isWithin_15 : decode cX7_isWithin 15 = .ok (.ireturn, 1) := by decide +kernel
theorem dX7_isSwing_0 : decode cX7_isSwing 0 = .ok (.iload_n 0, 1) := by decide +kernel
theorem dX7_isSwing_1 : decode cX7_isSwing 1 = .ok (.iconst 0, 1) := by decide +kernel
theorem dX7_isSwing_2 : decode cX7_isSwing 2 = .ok (.sipush 9999, 3) := by decide +kernel
theorem dX7_isSwing_5 : decode cX7_isSwing 5 = .ok (.invokestatic 137, 3) := by decide +kernel
theorem dX7_isSwing_8 : decode cX7_isSwing 8 = .ok (.ireturn, 1) := by decide +kernel
theorem dX7_isOfKind_0 : decode cX7_isOfKind 0 = .ok (.iload_n 1, 1) := by decide +kernel
theorem dX7_isOfKind_1 : decode cX7_isOfKind 1 = .ok (.ifCond .eq 18, 3) := by decide +kernel
theorem dX7_isOfKind_4 : decode cX7_isOfKind 4 = .ok (.iload_n 1, 1) := by decide +kernel
theorem dX7_isOfKind_5 : decode cX7_isOfKind 5 = .ok (.iload_n 0, 1) := by decide +kernel
theorem dX7_isOfKind_6 : decode cX7_isOfKind 6 = .ok (.if_icmp .eq 13, 3) := by decide +kernel
theorem dX7_isOfKind_9 : decode cX7_isOfKind 9 = .ok (.iload_n 1, 1) := by decide +kernel
theorem dX7_isOfKind_10 : decode cX7_isOfKind 10 = .ok (.iconst 1, 1) := by decide +kernel
theorem dX7_isOfKind_11 : decode cX7_isOfKind 11 = .ok (.if_icmp .ne 12, 3) := by decide +kernel
theorem dX7_isOfKind_14 : decode cX7_isOfKind 14 = .ok (.iload_n 0, 1) := by decide +kernel
theorem dX7_isOfKind_15 : decode cX7_isOfKind 15 = .ok (.iconst 2, 1) := by decide +kernel
theorem dX7_isOfKind_16 : decode cX7_isOfKind 16 = .ok (.if_icmp .ne 7, 3) := by decide +kernel
theorem dX7_isOfKind_19 : decode cX7_isOfKind 19 = .ok (.iconst 1, 1) := by decide +kernel
theorem dX7_isOfKind_20 : decode cX7_isOfKind 20 = .ok (.goto 4, 3) := by decide +kernel
theorem dX7_isOfKind_23 : decode cX7_isOfKind 23 = .ok (.iconst 0, 1) := by decide +kernel
theorem dX7_isOfKind_24 : decode cX7_isOfKind 24 = .ok (.ireturn, 1) := by decide +kernel
theorem dX7_codeAt_0 : decode cX7_codeAt 0 = .ok (.lload_n 0, 1) := by decide +kernel
theorem dX7_codeAt_1 : decode cX7_codeAt 1 = .ok (.bipush 8, 2) := by decide +kernel
theorem dX7_codeAt_3 : decode cX7_codeAt 3 = .ok (.iload_n 2, 1) := by decide +kernel
theorem dX7_codeAt_4 : decode cX7_codeAt 4 = .ok (.imul, 1) := by decide +kernel
theorem dX7_codeAt_5 : decode cX7_codeAt 5 = .ok (.lushr, 1) := by decide +kernel
theorem dX7_codeAt_6 : decode cX7_codeAt 6 = .ok (.l2i, 1) := by decide +kernel
theorem dX7_codeAt_7 : decode cX7_codeAt 7 = .ok (.sipush 255, 3) := by decide +kernel
theorem dX7_codeAt_10 : decode cX7_codeAt 10 = .ok (.iand, 1) := by decide +kernel
theorem dX7_codeAt_11 : decode cX7_codeAt 11 = .ok (.ireturn, 1) := by decide +kernel
theorem dX7_by_0 : decode cX7_by 0 = .ok (.iload_n 1, 1) := by decide +kernel
theorem dX7_by_1 : decode cX7_by 1 = .ok (.ifCond .le 9, 3) := by decide +kernel
theorem dX7_by_4 : decode cX7_by 4 = .ok (.iload_n 0, 1) := by decide +kernel
theorem dX7_by_5 : decode cX7_by 5 = .ok (.iload_n 1, 1) := by decide +kernel
theorem dX7_by_6 : decode cX7_by 6 = .ok (.idiv, 1) := by decide +kernel
theorem dX7_by_7 : decode cX7_by 7 = .ok (.goto 4, 3) := by decide +kernel
theorem dX7_by_10 : decode cX7_by 10 = .ok (.iconst 0, 1) := by decide +kernel
theorem dX7_by_11 : decode cX7_by 11 = .ok (.ireturn, 1) := by decide +kernel
theorem dX7_refusalOfRun_0 : decode cX7_refusalOfRun 0 = .ok (.aload_n 0, 1) := by decide +kernel
theorem dX7_refusalOfRun_1 : decode cX7_refusalOfRun 1 = .ok (.iload_n 1, 1) := by decide +kernel
theorem dX7_refusalOfRun_2 : decode cX7_refusalOfRun 2 = .ok (.invokevirtual 121, 3) := by decide +kernel
theorem dX7_refusalOfRun_5 : decode cX7_refusalOfRun 5 = .ok (.ifCond .ne 6, 3) := by decide +kernel
theorem dX7_refusalOfRun_8 : decode cX7_refusalOfRun 8 = .ok (.bipush (-101), 2) := by decide +kernel
theorem dX7_refusalOfRun_10 : decode cX7_refusalOfRun 10 = .ok (.ireturn, 1) := by decide +kernel
theorem dX7_refusalOfRun_11 : decode cX7_refusalOfRun 11 = .ok (.aload_n 0, 1) := by decide +kernel
theorem dX7_refusalOfRun_12 : decode cX7_refusalOfRun 12 = .ok (.getfield 19, 3) := by decide +kernel
theorem dX7_refusalOfRun_15 : decode cX7_refusalOfRun 15 = .ok (.getfield 100, 3) := by decide +kernel
theorem dX7_refusalOfRun_18 : decode cX7_refusalOfRun 18 = .ok (.ifCond .ne 6, 3) := by decide +kernel
theorem dX7_refusalOfRun_21 : decode cX7_refusalOfRun 21 = .ok (.bipush (-103), 2) := by decide +kernel
theorem dX7_refusalOfRun_23 : decode cX7_refusalOfRun 23 = .ok (.ireturn, 1) := by decide +kernel
theorem dX7_refusalOfRun_24 : decode cX7_refusalOfRun 24 = .ok (.iload_n 2, 1) := by decide +kernel
theorem dX7_refusalOfRun_25 : decode cX7_refusalOfRun 25 = .ok (.invokestatic 156, 3) := by decide +kernel
theorem dX7_refusalOfRun_28 : decode cX7_refusalOfRun 28 = .ok (.ifCond .eq 11, 3) := by decide +kernel
theorem dX7_refusalOfRun_31 : decode cX7_refusalOfRun 31 = .ok (.iload_n 3, 1) := by decide +kernel
theorem dX7_refusalOfRun_32 : decode cX7_refusalOfRun 32 = .ok (.ifCond .eq 7, 3) := by decide +kernel
theorem dX7_refusalOfRun_35 : decode cX7_refusalOfRun 35 = .ok (.iconst 0, 1) := by decide +kernel
theorem dX7_refusalOfRun_36 : decode cX7_refusalOfRun 36 = .ok (.goto 5, 3) := by decide +kernel
theorem dX7_refusalOfRun_39 : decode cX7_refusalOfRun 39 = .ok (.bipush (-102), 2) := by decide +kernel
theorem dX7_refusalOfRun_41 : decode cX7_refusalOfRun 41 = .ok (.ireturn, 1) := by decide +kernel
theorem dX7_refusalOfFour_0 : decode cX7_refusalOfFour 0 = .ok (.aload_n 0, 1) := by decide +kernel
theorem dX7_refusalOfFour_1 : decode cX7_refusalOfFour 1 = .ok (.iload_n 1, 1) := by decide +kernel
theorem dX7_refusalOfFour_2 : decode cX7_refusalOfFour 2 = .ok (.invokevirtual 121, 3) := by decide +kernel
theorem dX7_refusalOfFour_5 : decode cX7_refusalOfFour 5 = .ok (.ifCond .eq 28, 3) := by decide +kernel
theorem dX7_refusalOfFour_8 : decode cX7_refusalOfFour 8 = .ok (.aload_n 0, 1) := by decide +kernel
theorem dX7_refusalOfFour_9 : decode cX7_refusalOfFour 9 = .ok (.iload_n 2, 1) := by decide +kernel
theorem dX7_refusalOfFour_10 : decode cX7_refusalOfFour 10 = .ok (.invokevirtual 121, 3) := by decide +kernel
theorem dX7_refusalOfFour_13 : decode cX7_refusalOfFour 13 = .ok (.ifCond .eq 20, 3) := by decide +kernel
theorem dX7_refusalOfFour_16 : decode cX7_refusalOfFour 16 = .ok (.aload_n 0, 1) := by decide +kernel
theorem dX7_refusalOfFour_17 : decode cX7_refusalOfFour 17 = .ok (.iload_n 3, 1) := by decide +kernel
theorem dX7_refusalOfFour_18 : decode cX7_refusalOfFour 18 = .ok (.invokevirtual 121, 3) := by decide +kernel
theorem dX7_refusalOfFour_21 : decode cX7_refusalOfFour 21 = .ok (.ifCond .eq 12, 3) := by decide +kernel
theorem dX7_refusalOfFour_24 : decode cX7_refusalOfFour 24 = .ok (.aload_n 0, 1) := by decide +kernel
theorem dX7_refusalOfFour_25 : decode cX7_refusalOfFour 25 = .ok (.iload 4, 2) := by decide +kernel
theorem dX7_refusalOfFour_27 : decode cX7_refusalOfFour 27 = .ok (.invokevirtual 121, 3) := by decide +kernel
theorem dX7_refusalOfFour_30 : decode cX7_refusalOfFour 30 = .ok (.ifCond .ne 6, 3) := by decide +kernel
theorem dX7_refusalOfFour_33 : decode cX7_refusalOfFour 33 = .ok (.bipush (-101), 2) := by decide +kernel
theorem dX7_refusalOfFour_35 : decode cX7_refusalOfFour 35 = .ok (.ireturn, 1) := by decide +kernel
theorem dX7_refusalOfFour_36 : decode cX7_refusalOfFour 36 = .ok (.iload_n 1, 1) := by decide +kernel
theorem dX7_refusalOfFour_37 : decode cX7_refusalOfFour 37 = .ok (.iload_n 2, 1) := by decide +kernel
theorem dX7_refusalOfFour_38 : decode cX7_refusalOfFour 38 = .ok (.if_icmp .eq 31, 3) := by decide +kernel
theorem dX7_refusalOfFour_41 : decode cX7_refusalOfFour 41 = .ok (.iload_n 1, 1) := by decide +kernel
theorem dX7_refusalOfFour_42 : decode cX7_refusalOfFour 42 = .ok (.iload_n 3, 1) := by decide +kernel
theorem dX7_refusalOfFour_43 : decode cX7_refusalOfFour 43 = .ok (.if_icmp .eq 26, 3) := by decide +kernel
theorem dX7_refusalOfFour_46 : decode cX7_refusalOfFour 46 = .ok (.iload_n 1, 1) := by decide +kernel
theorem dX7_refusalOfFour_47 : decode cX7_refusalOfFour 47 = .ok (.iload 4, 2) := by decide +kernel
theorem dX7_refusalOfFour_49 : decode cX7_refusalOfFour 49 = .ok (.if_icmp .eq 20, 3) := by decide +kernel
theorem dX7_refusalOfFour_52 : decode cX7_refusalOfFour 52 = .ok (.iload_n 2, 1) := by decide +kernel
theorem dX7_refusalOfFour_53 : decode cX7_refusalOfFour 53 = .ok (.iload_n 3, 1) := by decide +kernel
theorem dX7_refusalOfFour_54 : decode cX7_refusalOfFour 54 = .ok (.if_icmp .eq 15, 3) := by decide +kernel
theorem dX7_refusalOfFour_57 : decode cX7_refusalOfFour 57 = .ok (.iload_n 2, 1) := by decide +kernel
theorem dX7_refusalOfFour_58 : decode cX7_refusalOfFour 58 = .ok (.iload 4, 2) := by decide +kernel
theorem dX7_refusalOfFour_60 : decode cX7_refusalOfFour 60 = .ok (.if_icmp .eq 9, 3) := by decide +kernel
theorem dX7_refusalOfFour_63 : decode cX7_refusalOfFour 63 = .ok (.iload_n 3, 1) := by decide +kernel
theorem dX7_refusalOfFour_64 : decode cX7_refusalOfFour 64 = .ok (.iload 4, 2) := by decide +kernel
theorem dX7_refusalOfFour_66 : decode cX7_refusalOfFour 66 = .ok (.if_icmp .ne 7, 3) := by decide +kernel
theorem dX7_refusalOfFour_69 : decode cX7_refusalOfFour 69 = .ok (.iconst 1, 1) := by decide +kernel
theorem dX7_refusalOfFour_70 : decode cX7_refusalOfFour 70 = .ok (.goto 4, 3) := by decide +kernel
theorem dX7_refusalOfFour_73 : decode cX7_refusalOfFour 73 = .ok (.iconst 0, 1) := by decide +kernel
theorem dX7_refusalOfFour_74 : decode cX7_refusalOfFour 74 = .ok (.istore 5, 2) := by decide +kernel
theorem dX7_refusalOfFour_76 : decode cX7_refusalOfFour 76 = .ok (.aload_n 0, 1) := by decide +kernel
theorem dX7_refusalOfFour_77 : decode cX7_refusalOfFour 77 = .ok (.getfield 19, 3) := by decide +kernel
theorem dX7_refusalOfFour_80 : decode cX7_refusalOfFour 80 = .ok (.getfield 100, 3) := by decide +kernel
theorem dX7_refusalOfFour_83 : decode cX7_refusalOfFour 83 = .ok (.ifCond .eq 8, 3) := by decide +kernel
theorem dX7_refusalOfFour_86 : decode cX7_refusalOfFour 86 = .ok (.iload 5, 2) := by decide +kernel
theorem dX7_refusalOfFour_88 : decode cX7_refusalOfFour 88 = .ok (.ifCond .eq 8, 3) := by decide +kernel
theorem dX7_refusalOfFour_91 : decode cX7_refusalOfFour 91 = .ok (.bipush (-103), 2) := by decide +kernel
theorem dX7_refusalOfFour_93 : decode cX7_refusalOfFour 93 = .ok (.goto 4, 3) := by decide +kernel
theorem dX7_refusalOfFour_96 : decode cX7_refusalOfFour 96 = .ok (.iconst 0, 1) := by decide +kernel
theorem dX7_refusalOfFour_97 : decode cX7_refusalOfFour 97 = .ok (.ireturn, 1) := by decide +kernel
theorem dX7_goDown_0 : decode cX7_goDown 0 = .ok (.aload_n 0, 1) := by decide +kernel
theorem dX7_goDown_1 : decode cX7_goDown 1 = .ok (.getfield 49, 3) := by decide +kernel
theorem dX7_goDown_4 : decode cX7_goDown 4 = .ok (.aload_n 0, 1) := by decide +kernel
theorem dX7_goDown_5 : decode cX7_goDown 5 = .ok (.getfield 25, 3) := by decide +kernel
theorem dX7_goDown_8 : decode cX7_goDown 8 = .ok (.iload_n 1, 1) := by decide +kernel
theorem dX7_goDown_9 : decode cX7_goDown 9 = .ok (.aaload, 1) := by decide +kernel
theorem dX7_goDown_10 : decode cX7_goDown 10 = .ok (.aload_n 0, 1) := by decide +kernel
theorem dX7_goDown_11 : decode cX7_goDown 11 = .ok (.getfield 71, 3) := by decide +kernel
theorem dX7_goDown_14 : decode cX7_goDown 14 = .ok (.invokevirtual 168, 3) := by decide +kernel
theorem dX7_goDown_17 : decode cX7_goDown 17 = .ok (.aload_n 0, 1) := by decide +kernel
theorem dX7_goDown_18 : decode cX7_goDown 18 = .ok (.getfield 49, 3) := by decide +kernel
theorem dX7_goDown_21 : decode cX7_goDown 21 = .ok (.iload_n 2, 1) := by decide +kernel
theorem dX7_goDown_22 : decode cX7_goDown 22 = .ok (.invokevirtual 195, 3) := by decide +kernel
theorem dX7_goDown_25 : decode cX7_goDown 25 = .ok (.return_, 1) := by decide +kernel
theorem dX7_timeOf_0 : decode cX7_timeOf 0 = .ok (.aload_n 0, 1) := by decide +kernel
theorem dX7_timeOf_1 : decode cX7_timeOf 1 = .ok (.getfield 49, 3) := by decide +kernel
theorem dX7_timeOf_4 : decode cX7_timeOf 4 = .ok (.aload_n 0, 1) := by decide +kernel
theorem dX7_timeOf_5 : decode cX7_timeOf 5 = .ok (.getfield 25, 3) := by decide +kernel
theorem dX7_timeOf_8 : decode cX7_timeOf 8 = .ok (.iload_n 1, 1) := by decide +kernel
theorem dX7_timeOf_9 : decode cX7_timeOf 9 = .ok (.aaload, 1) := by decide +kernel
theorem dX7_timeOf_10 : decode cX7_timeOf 10 = .ok (.aload_n 0, 1) := by decide +kernel
theorem dX7_timeOf_11 : decode cX7_timeOf 11 = .ok (.getfield 71, 3) := by decide +kernel
theorem dX7_timeOf_14 : decode cX7_timeOf 14 = .ok (.invokevirtual 168, 3) := by decide +kernel
theorem dX7_timeOf_17 : decode cX7_timeOf 17 = .ok (.aload_n 0, 1) := by decide +kernel
theorem dX7_timeOf_18 : decode cX7_timeOf 18 = .ok (.getfield 49, 3) := by decide +kernel
theorem dX7_timeOf_21 : decode cX7_timeOf 21 = .ok (.iload_n 2, 1) := by decide +kernel
theorem dX7_timeOf_22 : decode cX7_timeOf 22 = .ok (.invokevirtual 195, 3) := by decide +kernel
theorem dX7_timeOf_25 : decode cX7_timeOf 25 = .ok (.aload_n 0, 1) := by decide +kernel
theorem dX7_timeOf_26 : decode cX7_timeOf 26 = .ok (.getfield 49, 3) := by decide +kernel
theorem dX7_timeOf_29 : decode cX7_timeOf 29 = .ok (.invokevirtual 339, 3) := by decide +kernel
theorem dX7_timeOf_32 : decode cX7_timeOf 32 = .ok (.ireturn, 1) := by decide +kernel
theorem dX7_timeAt_0 : decode cX7_timeAt 0 = .ok (.aload_n 0, 1) := by decide +kernel
theorem dX7_timeAt_1 : decode cX7_timeAt 1 = .ok (.getfield 49, 3) := by decide +kernel
theorem dX7_timeAt_4 : decode cX7_timeAt 4 = .ok (.aload_n 0, 1) := by decide +kernel
theorem dX7_timeAt_5 : decode cX7_timeAt 5 = .ok (.getfield 25, 3) := by decide +kernel
theorem dX7_timeAt_8 : decode cX7_timeAt 8 = .ok (.iload_n 1, 1) := by decide +kernel
theorem dX7_timeAt_9 : decode cX7_timeAt 9 = .ok (.aaload, 1) := by decide +kernel
theorem dX7_timeAt_10 : decode cX7_timeAt 10 = .ok (.aload_n 0, 1) := by decide +kernel
theorem dX7_timeAt_11 : decode cX7_timeAt 11 = .ok (.getfield 71, 3) := by decide +kernel
theorem dX7_timeAt_14 : decode cX7_timeAt 14 = .ok (.invokevirtual 168, 3) := by decide +kernel
theorem dX7_timeAt_17 : decode cX7_timeAt 17 = .ok (.aload_n 0, 1) := by decide +kernel
theorem dX7_timeAt_18 : decode cX7_timeAt 18 = .ok (.getfield 49, 3) := by decide +kernel
theorem dX7_timeAt_21 : decode cX7_timeAt 21 = .ok (.iload_n 3, 1) := by decide +kernel
theorem dX7_timeAt_22 : decode cX7_timeAt 22 = .ok (.putfield 191, 3) := by decide +kernel
theorem dX7_timeAt_25 : decode cX7_timeAt 25 = .ok (.aload_n 0, 1) := by decide +kernel
theorem dX7_timeAt_26 : decode cX7_timeAt 26 = .ok (.getfield 49, 3) := by decide +kernel
theorem dX7_timeAt_29 : decode cX7_timeAt 29 = .ok (.iload_n 2, 1) := by decide +kernel
theorem dX7_timeAt_30 : decode cX7_timeAt 30 = .ok (.invokevirtual 195, 3) := by decide +kernel
theorem dX7_timeAt_33 : decode cX7_timeAt 33 = .ok (.aload_n 0, 1) := by decide +kernel
theorem dX7_timeAt_34 : decode cX7_timeAt 34 = .ok (.getfield 49, 3) := by decide +kernel
theorem dX7_timeAt_37 : decode cX7_timeAt 37 = .ok (.invokevirtual 339, 3) := by decide +kernel
theorem dX7_timeAt_40 : decode cX7_timeAt 40 = .ok (.ireturn, 1) := by decide +kernel
theorem dX7_choice_0 : decode cX7_choice 0 = .ok (.iload_n 0, 1) := by decide +kernel
theorem dX7_choice_1 : decode cX7_choice 1 = .ok (.bipush 6, 2) := by decide +kernel
theorem dX7_choice_3 : decode cX7_choice 3 = .ok (.iconst 2, 1) := by decide +kernel
theorem dX7_choice_4 : decode cX7_choice 4 = .ok (.iload_n 1, 1) := by decide +kernel
theorem dX7_choice_5 : decode cX7_choice 5 = .ok (.imul, 1) := by decide +kernel
theorem dX7_choice_6 : decode cX7_choice 6 = .ok (.isub, 1) := by decide +kernel
theorem dX7_choice_7 : decode cX7_choice 7 = .ok (.ishr, 1) := by decide +kernel
theorem dX7_choice_8 : decode cX7_choice 8 = .ok (.iconst 3, 1) := by decide +kernel
theorem dX7_choice_9 : decode cX7_choice 9 = .ok (.iand, 1) := by decide +kernel
theorem dX7_choice_10 : decode cX7_choice 10 = .ok (.ireturn, 1) := by decide +kernel
theorem dX7_isBraked_0 : decode cX7_isBraked 0 = .ok (.aload_n 0, 1) := by decide +kernel
theorem dX7_isBraked_1 : decode cX7_isBraked 1 = .ok (.getfield 19, 3) := by decide +kernel
theorem dX7_isBraked_4 : decode cX7_isBraked 4 = .ok (.iload_n 1, 1) := by decide +kernel
theorem dX7_isBraked_5 : decode cX7_isBraked 5 = .ok (.invokevirtual 342, 3) := by decide +kernel
theorem dX7_isBraked_8 : decode cX7_isBraked 8 = .ok (.ifCond .le 7, 3) := by decide +kernel
theorem dX7_isBraked_11 : decode cX7_isBraked 11 = .ok (.iconst 1, 1) := by decide +kernel
theorem dX7_isBraked_12 : decode cX7_isBraked 12 = .ok (.goto 4, 3) := by decide +kernel
theorem dX7_isBraked_15 : decode cX7_isBraked 15 = .ok (.iconst 0, 1) := by decide +kernel
theorem dX7_isBraked_16 : decode cX7_isBraked 16 = .ok (.ireturn, 1) := by decide +kernel
theorem dX7_tryBrakes_0 : decode cX7_tryBrakes 0 = .ok (.aload_n 0, 1) := by decide +kernel
theorem dX7_tryBrakes_1 : decode cX7_tryBrakes 1 = .ok (.getfield 49, 3) := by decide +kernel
theorem dX7_tryBrakes_4 : decode cX7_tryBrakes 4 = .ok (.getfield 345, 3) := by decide +kernel
theorem dX7_tryBrakes_7 : decode cX7_tryBrakes 7 = .ok (.iconst 0, 1) := by decide +kernel
theorem dX7_tryBrakes_8 : decode cX7_tryBrakes 8 = .ok (.invokestatic 346, 3) := by decide +kernel
theorem dX7_tryBrakes_11 : decode cX7_tryBrakes 11 = .ok (.iconst 0, 1) := by decide +kernel
theorem dX7_tryBrakes_12 : decode cX7_tryBrakes 12 = .ok (.istore_n 3, 1) := by decide +kernel
theorem dX7_tryBrakes_13 : decode cX7_tryBrakes 13 = .ok (.iload_n 3, 1) := by decide +kernel
theorem dX7_tryBrakes_14 : decode cX7_tryBrakes 14 = .ok (.iconst 4, 1) := by decide +kernel
theorem dX7_tryBrakes_15 : decode cX7_tryBrakes 15 = .ok (.if_icmp .ge 56, 3) := by decide +kernel
theorem dX7_tryBrakes_18 : decode cX7_tryBrakes 18 = .ok (.iconst 3, 1) := by decide +kernel
theorem dX7_tryBrakes_19 : decode cX7_tryBrakes 19 = .ok (.iload_n 1, 1) := by decide +kernel
theorem dX7_tryBrakes_20 : decode cX7_tryBrakes 20 = .ok (.iload_n 3, 1) := by decide +kernel
theorem dX7_tryBrakes_21 : decode cX7_tryBrakes 21 = .ok (.invokestatic 187, 3) := by decide +kernel
theorem dX7_tryBrakes_24 : decode cX7_tryBrakes 24 = .ok (.imul, 1) := by decide +kernel
theorem dX7_tryBrakes_25 : decode cX7_tryBrakes 25 = .ok (.istore 4, 2) := by decide +kernel
theorem dX7_tryBrakes_27 : decode cX7_tryBrakes 27 = .ok (.aload_n 0, 1) := by decide +kernel
theorem dX7_tryBrakes_28 : decode cX7_tryBrakes 28 = .ok (.getfield 19, 3) := by decide +kernel
theorem dX7_tryBrakes_31 : decode cX7_tryBrakes 31 = .ok (.iload_n 3, 1) := by decide +kernel
theorem dX7_tryBrakes_32 : decode cX7_tryBrakes 32 = .ok (.invokevirtual 342, 3) := by decide +kernel
theorem dX7_tryBrakes_35 : decode cX7_tryBrakes 35 = .ok (.iconst 1, 1) := by decide +kernel
theorem dX7_tryBrakes_36 : decode cX7_tryBrakes 36 = .ok (.isub, 1) := by decide +kernel
theorem dX7_tryBrakes_37 : decode cX7_tryBrakes 37 = .ok (.istore 5, 2) := by decide +kernel
theorem dX7_tryBrakes_39 : decode cX7_tryBrakes 39 = .ok (.iload 5, 2) := by decide +kernel
theorem dX7_tryBrakes_41 : decode cX7_tryBrakes 41 = .ok (.ifCond .lt 18, 3) := by decide +kernel
theorem dX7_tryBrakes_44 : decode cX7_tryBrakes 44 = .ok (.aload_n 0, 1) := by decide +kernel
theorem dX7_tryBrakes_45 : decode cX7_tryBrakes 45 = .ok (.getfield 49, 3) := by decide +kernel
theorem dX7_tryBrakes_48 : decode cX7_tryBrakes 48 = .ok (.getfield 345, 3) := by decide +kernel
theorem dX7_tryBrakes_51 : decode cX7_tryBrakes 51 = .ok (.iload 5, 2) := by decide +kernel
theorem dX7_tryBrakes_53 : decode cX7_tryBrakes 53 = .ok (.iload 4, 2) := by decide +kernel
theorem dX7_tryBrakes_55 : decode cX7_tryBrakes 55 = .ok (.iastore, 1) := by decide +kernel
theorem dX7_tryBrakes_56 : decode cX7_tryBrakes 56 = .ok (.goto 9, 3) := by decide +kernel
theorem dX7_tryBrakes_59 : decode cX7_tryBrakes 59 = .ok (.iload 4, 2) := by decide +kernel
theorem dX7_tryBrakes_61 : decode cX7_tryBrakes 61 = .ok (.ifCond .le 4, 3) := by decide +kernel
theorem dX7_tryBrakes_64 : decode cX7_tryBrakes 64 = .ok (.return_, 1) := by decide +kernel
theorem dX7_tryBrakes_65 : decode cX7_tryBrakes 65 = .ok (.iinc 3 1, 3) := by decide +kernel
theorem dX7_tryBrakes_68 : decode cX7_tryBrakes 68 = .ok (.goto (-55), 3) := by decide +kernel
theorem dX7_tryBrakes_71 : decode cX7_tryBrakes 71 = .ok (.aload_n 0, 1) := by decide +kernel
theorem dX7_tryBrakes_72 : decode cX7_tryBrakes 72 = .ok (.getfield 49, 3) := by decide +kernel
theorem dX7_tryBrakes_75 : decode cX7_tryBrakes 75 = .ok (.iload_n 2, 1) := by decide +kernel
theorem dX7_tryBrakes_76 : decode cX7_tryBrakes 76 = .ok (.invokevirtual 195, 3) := by decide +kernel
theorem dX7_tryBrakes_79 : decode cX7_tryBrakes 79 = .ok (.aload_n 0, 1) := by decide +kernel
theorem dX7_tryBrakes_80 : decode cX7_tryBrakes 80 = .ok (.getfield 49, 3) := by decide +kernel
theorem dX7_tryBrakes_83 : decode cX7_tryBrakes 83 = .ok (.getfield 198, 3) := by decide +kernel
theorem dX7_tryBrakes_86 : decode cX7_tryBrakes 86 = .ok (.ifCond .ne 19, 3) := by decide +kernel
theorem dX7_tryBrakes_89 : decode cX7_tryBrakes 89 = .ok (.aload_n 0, 1) := by decide +kernel
theorem dX7_tryBrakes_90 : decode cX7_tryBrakes 90 = .ok (.getfield 56, 3) := by decide +kernel
theorem dX7_tryBrakes_93 : decode cX7_tryBrakes 93 = .ok (.aload_n 0, 1) := by decide +kernel
theorem dX7_tryBrakes_94 : decode cX7_tryBrakes 94 = .ok (.getfield 49, 3) := by decide +kernel
theorem dX7_tryBrakes_97 : decode cX7_tryBrakes 97 = .ok (.getfield 201, 3) := by decide +kernel
theorem dX7_tryBrakes_100 : decode cX7_tryBrakes 100 = .ok (.iload_n 1, 1) := by decide +kernel
theorem dX7_tryBrakes_101 : decode cX7_tryBrakes 101 = .ok (.invokevirtual 202, 3) := by decide +kernel
theorem dX7_tryBrakes_104 : decode cX7_tryBrakes 104 = .ok (.pop, 1) := by decide +kernel
theorem dX7_tryBrakes_105 : decode cX7_tryBrakes 105 = .ok (.return_, 1) := by decide +kernel
theorem dX7_apartBy_0 : decode cX7_apartBy 0 = .ok (.ldc_w 352, 3) := by decide +kernel
theorem dX7_apartBy_3 : decode cX7_apartBy 3 = .ok (.istore_n 3, 1) := by decide +kernel
theorem dX7_apartBy_4 : decode cX7_apartBy 4 = .ok (.iconst 0, 1) := by decide +kernel
theorem dX7_apartBy_5 : decode cX7_apartBy 5 = .ok (.istore 4, 2) := by decide +kernel
theorem dX7_apartBy_7 : decode cX7_apartBy 7 = .ok (.iconst 0, 1) := by decide +kernel
theorem dX7_apartBy_8 : decode cX7_apartBy 8 = .ok (.istore 5, 2) := by decide +kernel
theorem dX7_apartBy_10 : decode cX7_apartBy 10 = .ok (.iload 5, 2) := by decide +kernel
theorem dX7_apartBy_12 : decode cX7_apartBy 12 = .ok (.aload_n 0, 1) := by decide +kernel
theorem dX7_apartBy_13 : decode cX7_apartBy 13 = .ok (.getfield 67, 3) := by decide +kernel
theorem dX7_apartBy_16 : decode cX7_apartBy 16 = .ok (.if_icmp .ge 56, 3) := by decide +kernel
theorem dX7_apartBy_19 : decode cX7_apartBy 19 = .ok (.aload_n 0, 1) := by decide +kernel
theorem dX7_apartBy_20 : decode cX7_apartBy 20 = .ok (.iload 5, 2) := by decide +kernel
theorem dX7_apartBy_22 : decode cX7_apartBy 22 = .ok (.iload_n 2, 1) := by decide +kernel
theorem dX7_apartBy_23 : decode cX7_apartBy 23 = .ok (.iload_n 1, 1) := by decide +kernel
theorem dX7_apartBy_24 : decode cX7_apartBy 24 = .ok (.aload_n 0, 1) := by decide +kernel
theorem dX7_apartBy_25 : decode cX7_apartBy 25 = .ok (.getfield 25, 3) := by decide +kernel
theorem dX7_apartBy_28 : decode cX7_apartBy 28 = .ok (.iload 5, 2) := by decide +kernel
theorem dX7_apartBy_30 : decode cX7_apartBy 30 = .ok (.aaload, 1) := by decide +kernel
theorem dX7_apartBy_31 : decode cX7_apartBy 31 = .ok (.getfield 123, 3) := by decide +kernel
theorem dX7_apartBy_34 : decode cX7_apartBy 34 = .ok (.invokestatic 276, 3) := by decide +kernel
theorem dX7_apartBy_37 : decode cX7_apartBy 37 = .ok (.invokevirtual 219, 3) := by decide +kernel
theorem dX7_apartBy_40 : decode cX7_apartBy 40 = .ok (.istore 6, 2) := by decide +kernel
theorem dX7_apartBy_42 : decode cX7_apartBy 42 = .ok (.iload 6, 2) := by decide +kernel
theorem dX7_apartBy_44 : decode cX7_apartBy 44 = .ok (.iconst (-1), 1) := by decide +kernel
theorem dX7_apartBy_45 : decode cX7_apartBy 45 = .ok (.if_icmp .ne 5, 3) := by decide +kernel
theorem dX7_apartBy_48 : decode cX7_apartBy 48 = .ok (.iconst (-1), 1) := by decide +kernel
theorem dX7_apartBy_49 : decode cX7_apartBy 49 = .ok (.ireturn, 1) := by decide +kernel
theorem dX7_apartBy_50 : decode cX7_apartBy 50 = .ok (.iload_n 3, 1) := by decide +kernel
theorem dX7_apartBy_51 : decode cX7_apartBy 51 = .ok (.iload 6, 2) := by decide +kernel
theorem dX7_apartBy_53 : decode cX7_apartBy 53 = .ok (.invokestatic 276, 3) := by decide +kernel
theorem dX7_apartBy_56 : decode cX7_apartBy 56 = .ok (.istore_n 3, 1) := by decide +kernel
theorem dX7_apartBy_57 : decode cX7_apartBy 57 = .ok (.iload 4, 2) := by decide +kernel
theorem dX7_apartBy_59 : decode cX7_apartBy 59 = .ok (.iload 6, 2) := by decide +kernel
theorem dX7_apartBy_61 : decode cX7_apartBy 61 = .ok (.invokestatic 353, 3) := by decide +kernel
theorem dX7_apartBy_64 : decode cX7_apartBy 64 = .ok (.istore 4, 2) := by decide +kernel
theorem dX7_apartBy_66 : decode cX7_apartBy 66 = .ok (.iinc 5 1, 3) := by decide +kernel
theorem dX7_apartBy_69 : decode cX7_apartBy 69 = .ok (.goto (-59), 3) := by decide +kernel
theorem dX7_apartBy_72 : decode cX7_apartBy 72 = .ok (.iload 4, 2) := by decide +kernel
theorem dX7_apartBy_74 : decode cX7_apartBy 74 = .ok (.iload_n 3, 1) := by decide +kernel
theorem dX7_apartBy_75 : decode cX7_apartBy 75 = .ok (.isub, 1) := by decide +kernel
theorem dX7_apartBy_76 : decode cX7_apartBy 76 = .ok (.ireturn, 1) := by decide +kernel
theorem dX7_flatCells_0 : decode cX7_flatCells 0 = .ok (.aload_n 0, 1) := by decide +kernel
theorem dX7_flatCells_1 : decode cX7_flatCells 1 = .ok (.getfield 49, 3) := by decide +kernel
theorem dX7_flatCells_4 : decode cX7_flatCells 4 = .ok (.aload_n 0, 1) := by decide +kernel
theorem dX7_flatCells_5 : decode cX7_flatCells 5 = .ok (.getfield 25, 3) := by decide +kernel
theorem dX7_flatCells_8 : decode cX7_flatCells 8 = .ok (.iload_n 1, 1) := by decide +kernel
theorem dX7_flatCells_9 : decode cX7_flatCells 9 = .ok (.aaload, 1) := by decide +kernel
theorem dX7_flatCells_10 : decode cX7_flatCells 10 = .ok (.aload_n 0, 1) := by decide +kernel
theorem dX7_flatCells_11 : decode cX7_flatCells 11 = .ok (.getfield 71, 3) := by decide +kernel
theorem dX7_flatCells_14 : decode cX7_flatCells 14 = .ok (.invokevirtual 168, 3) := by decide +kernel
theorem dX7_flatCells_17 : decode cX7_flatCells 17 = .ok (.aload_n 0, 1) := by decide +kernel
theorem dX7_flatCells_18 : decode cX7_flatCells 18 = .ok (.getfield 49, 3) := by decide +kernel
theorem dX7_flatCells_21 : decode cX7_flatCells 21 = .ok (.iload_n 2, 1) := by decide +kernel
theorem dX7_flatCells_22 : decode cX7_flatCells 22 = .ok (.iconst 0, 1) := by decide +kernel
theorem dX7_flatCells_23 : decode cX7_flatCells 23 = .ok (.sipush 999, 3) := by decide +kernel
theorem dX7_flatCells_26 : decode cX7_flatCells 26 = .ok (.invokevirtual 356, 3) := by decide +kernel
theorem dX7_flatCells_29 : decode cX7_flatCells 29 = .ok (.ireturn, 1) := by decide +kernel
theorem dX7_allCoastsAreSo_0 : decode cX7_allCoastsAreSo 0 = .ok (.iconst 0, 1) := by decide +kernel
theorem dX7_allCoastsAreSo_1 : decode cX7_allCoastsAreSo 1 = .ok (.istore_n 2, 1) := by decide +kernel
theorem dX7_allCoastsAreSo_2 : decode cX7_allCoastsAreSo 2 = .ok (.iload_n 2, 1) := by decide +kernel
theorem dX7_allCoastsAreSo_3 : decode cX7_allCoastsAreSo 3 = .ok (.aload_n 0, 1) := by decide +kernel
theorem dX7_allCoastsAreSo_4 : decode cX7_allCoastsAreSo 4 = .ok (.getfield 33, 3) := by decide +kernel
theorem dX7_allCoastsAreSo_7 : decode cX7_allCoastsAreSo 7 = .ok (.getfield 229, 3) := by decide +kernel
theorem dX7_allCoastsAreSo_10 : decode cX7_allCoastsAreSo 10 = .ok (.if_icmp .ge 70, 3) := by decide +kernel
theorem dX7_allCoastsAreSo_13 : decode cX7_allCoastsAreSo 13 = .ok (.aload_n 0, 1) := by decide +kernel
theorem dX7_allCoastsAreSo_14 : decode cX7_allCoastsAreSo 14 = .ok (.getfield 49, 3) := by decide +kernel
theorem dX7_allCoastsAreSo_17 : decode cX7_allCoastsAreSo 17 = .ok (.aload_n 0, 1) := by decide +kernel
theorem dX7_allCoastsAreSo_18 : decode cX7_allCoastsAreSo 18 = .ok (.getfield 25, 3) := by decide +kernel
theorem dX7_allCoastsAreSo_21 : decode cX7_allCoastsAreSo 21 = .ok (.aload_n 0, 1) := by decide +kernel
theorem dX7_allCoastsAreSo_22 : decode cX7_allCoastsAreSo 22 = .ok (.getfield 33, 3) := by decide +kernel
theorem dX7_allCoastsAreSo_25 : decode cX7_allCoastsAreSo 25 = .ok (.getfield 321, 3) := by decide +kernel
theorem dX7_allCoastsAreSo_28 : decode cX7_allCoastsAreSo 28 = .ok (.iload_n 2, 1) := by decide +kernel
theorem dX7_allCoastsAreSo_29 : decode cX7_allCoastsAreSo 29 = .ok (.iaload, 1) := by decide +kernel
theorem dX7_allCoastsAreSo_30 : decode cX7_allCoastsAreSo 30 = .ok (.aaload, 1) := by decide +kernel
theorem dX7_allCoastsAreSo_31 : decode cX7_allCoastsAreSo 31 = .ok (.aload_n 0, 1) := by decide +kernel
theorem dX7_allCoastsAreSo_32 : decode cX7_allCoastsAreSo 32 = .ok (.getfield 71, 3) := by decide +kernel
theorem dX7_allCoastsAreSo_35 : decode cX7_allCoastsAreSo 35 = .ok (.invokevirtual 168, 3) := by decide +kernel
theorem dX7_allCoastsAreSo_38 : decode cX7_allCoastsAreSo 38 = .ok (.aload_n 0, 1) := by decide +kernel
theorem dX7_allCoastsAreSo_39 : decode cX7_allCoastsAreSo 39 = .ok (.getfield 33, 3) := by decide +kernel
theorem dX7_allCoastsAreSo_42 : decode cX7_allCoastsAreSo 42 = .ok (.getfield 327, 3) := by decide +kernel
theorem dX7_allCoastsAreSo_45 : decode cX7_allCoastsAreSo 45 = .ok (.iload_n 2, 1) := by decide +kernel
theorem dX7_allCoastsAreSo_46 : decode cX7_allCoastsAreSo 46 = .ok (.iaload, 1) := by decide +kernel
theorem dX7_allCoastsAreSo_47 : decode cX7_allCoastsAreSo 47 = .ok (.istore_n 3, 1) := by decide +kernel
theorem dX7_allCoastsAreSo_48 : decode cX7_allCoastsAreSo 48 = .ok (.aload_n 0, 1) := by decide +kernel
theorem dX7_allCoastsAreSo_49 : decode cX7_allCoastsAreSo 49 = .ok (.getfield 49, 3) := by decide +kernel
theorem dX7_allCoastsAreSo_52 : decode cX7_allCoastsAreSo 52 = .ok (.aload_n 0, 1) := by decide +kernel
theorem dX7_allCoastsAreSo_53 : decode cX7_allCoastsAreSo 53 = .ok (.getfield 33, 3) := by decide +kernel
theorem dX7_allCoastsAreSo_56 : decode cX7_allCoastsAreSo 56 = .ok (.getfield 324, 3) := by decide +kernel
theorem dX7_allCoastsAreSo_59 : decode cX7_allCoastsAreSo 59 = .ok (.iload_n 2, 1) := by decide +kernel
theorem dX7_allCoastsAreSo_60 : decode cX7_allCoastsAreSo 60 = .ok (.iaload, 1) := by decide +kernel
theorem dX7_allCoastsAreSo_61 : decode cX7_allCoastsAreSo 61 = .ok (.iload_n 1, 1) := by decide +kernel
theorem dX7_allCoastsAreSo_62 : decode cX7_allCoastsAreSo 62 = .ok (.iload_n 3, 1) := by decide +kernel
theorem dX7_allCoastsAreSo_63 : decode cX7_allCoastsAreSo 63 = .ok (.iconst 1, 1) := by decide +kernel
theorem dX7_allCoastsAreSo_64 : decode cX7_allCoastsAreSo 64 = .ok (.iadd, 1) := by decide +kernel
theorem dX7_allCoastsAreSo_65 : decode cX7_allCoastsAreSo 65 = .ok (.invokevirtual 356, 3) := by decide +kernel
theorem dX7_allCoastsAreSo_68 : decode cX7_allCoastsAreSo 68 = .ok (.iload_n 3, 1) := by decide +kernel
theorem dX7_allCoastsAreSo_69 : decode cX7_allCoastsAreSo 69 = .ok (.if_icmp .eq 5, 3) := by decide +kernel
theorem dX7_allCoastsAreSo_72 : decode cX7_allCoastsAreSo 72 = .ok (.iconst 0, 1) := by decide +kernel
theorem dX7_allCoastsAreSo_73 : decode cX7_allCoastsAreSo 73 = .ok (.ireturn, 1) := by decide +kernel
theorem dX7_allCoastsAreSo_74 : decode cX7_allCoastsAreSo 74 = .ok (.iinc 2 1, 3) := by decide +kernel
theorem dX7_allCoastsAreSo_77 : decode cX7_allCoastsAreSo 77 = .ok (.goto (-75), 3) := by decide +kernel
theorem dX7_allCoastsAreSo_80 : decode cX7_allCoastsAreSo 80 = .ok (.iconst 1, 1) := by decide +kernel
theorem dX7_allCoastsAreSo_81 : decode cX7_allCoastsAreSo 81 = .ok (.ireturn, 1) := by decide +kernel
theorem dX7_tenths_0 : decode cX7_tenths 0 = .ok (.iload_n 0, 1) := by decide +kernel
theorem dX7_tenths_1 : decode cX7_tenths 1 = .ok (.iload_n 1, 1) := by decide +kernel
theorem dX7_tenths_2 : decode cX7_tenths 2 = .ok (.if_icmp .ne 5, 3) := by decide +kernel
theorem dX7_tenths_5 : decode cX7_tenths 5 = .ok (.iconst 5, 1) := by decide +kernel
theorem dX7_tenths_6 : decode cX7_tenths 6 = .ok (.ireturn, 1) := by decide +kernel
theorem dX7_tenths_7 : decode cX7_tenths 7 = .ok (.iload_n 0, 1) := by decide +kernel
theorem dX7_tenths_8 : decode cX7_tenths 8 = .ok (.iconst (-1), 1) := by decide +kernel
theorem dX7_tenths_9 : decode cX7_tenths 9 = .ok (.if_icmp .ne 5, 3) := by decide +kernel
theorem dX7_tenths_12 : decode cX7_tenths 12 = .ok (.iconst 0, 1) := by decide +kernel
theorem dX7_tenths_13 : decode cX7_tenths 13 = .ok (.ireturn, 1) := by decide +kernel
theorem dX7_tenths_14 : decode cX7_tenths 14 = .ok (.iload_n 1, 1) := by decide +kernel
theorem dX7_tenths_15 : decode cX7_tenths 15 = .ok (.iconst (-1), 1) := by decide +kernel
theorem dX7_tenths_16 : decode cX7_tenths 16 = .ok (.if_icmp .ne 6, 3) := by decide +kernel
theorem dX7_tenths_19 : decode cX7_tenths 19 = .ok (.bipush 10, 2) := by decide +kernel
theorem dX7_tenths_21 : decode cX7_tenths 21 = .ok (.ireturn, 1) := by decide +kernel
theorem dX7_tenths_22 : decode cX7_tenths 22 = .ok (.iconst 5, 1) := by decide +kernel
theorem dX7_tenths_23 : decode cX7_tenths 23 = .ok (.iload_n 1, 1) := by decide +kernel
theorem dX7_tenths_24 : decode cX7_tenths 24 = .ok (.iload_n 0, 1) := by decide +kernel
theorem dX7_tenths_25 : decode cX7_tenths 25 = .ok (.isub, 1) := by decide +kernel
theorem dX7_tenths_26 : decode cX7_tenths 26 = .ok (.invokestatic 359, 3) := by decide +kernel
theorem dX7_tenths_29 : decode cX7_tenths 29 = .ok (.bipush 100, 2) := by decide +kernel
theorem dX7_tenths_31 : decode cX7_tenths 31 = .ok (.iload_n 2, 1) := by decide +kernel
theorem dX7_tenths_32 : decode cX7_tenths 32 = .ok (.imul, 1) := by decide +kernel
theorem dX7_tenths_33 : decode cX7_tenths 33 = .ok (.invokestatic 192, 3) := by decide +kernel
theorem dX7_tenths_36 : decode cX7_tenths 36 = .ok (.invokestatic 276, 3) := by decide +kernel
theorem dX7_tenths_39 : decode cX7_tenths 39 = .ok (.istore_n 3, 1) := by decide +kernel
theorem dX7_tenths_40 : decode cX7_tenths 40 = .ok (.iload_n 0, 1) := by decide +kernel
theorem dX7_tenths_41 : decode cX7_tenths 41 = .ok (.iload_n 1, 1) := by decide +kernel
theorem dX7_tenths_42 : decode cX7_tenths 42 = .ok (.if_icmp .ge 9, 3) := by decide +kernel
theorem dX7_tenths_45 : decode cX7_tenths 45 = .ok (.iconst 5, 1) := by decide +kernel
theorem dX7_tenths_46 : decode cX7_tenths 46 = .ok (.iload_n 3, 1) := by decide +kernel
theorem dX7_tenths_47 : decode cX7_tenths 47 = .ok (.iadd, 1) := by decide +kernel
theorem dX7_tenths_48 : decode cX7_tenths 48 = .ok (.goto 6, 3) := by decide +kernel
theorem dX7_tenths_51 : decode cX7_tenths 51 = .ok (.iconst 5, 1) := by decide +kernel
theorem dX7_tenths_52 : decode cX7_tenths 52 = .ok (.iload_n 3, 1) := by decide +kernel
theorem dX7_tenths_53 : decode cX7_tenths 53 = .ok (.isub, 1) := by decide +kernel
theorem dX7_tenths_54 : decode cX7_tenths 54 = .ok (.ireturn, 1) := by decide +kernel
theorem dX7_takeTimes_0 : decode cX7_takeTimes 0 = .ok (.aload_n 0, 1) := by decide +kernel
theorem dX7_takeTimes_1 : decode cX7_takeTimes 1 = .ok (.getfield 60, 3) := by decide +kernel
theorem dX7_takeTimes_4 : decode cX7_takeTimes 4 = .ok (.iconst 0, 1) := by decide +kernel
theorem dX7_takeTimes_5 : decode cX7_takeTimes 5 = .ok (.aload_n 0, 1) := by decide +kernel
theorem dX7_takeTimes_6 : decode cX7_takeTimes 6 = .ok (.iload_n 1, 1) := by decide +kernel
theorem dX7_takeTimes_7 : decode cX7_takeTimes 7 = .ok (.iload 5, 2) := by decide +kernel
theorem dX7_takeTimes_9 : decode cX7_takeTimes 9 = .ok (.invokevirtual 236, 3) := by decide +kernel
theorem dX7_takeTimes_12 : decode cX7_takeTimes 12 = .ok (.iastore, 1) := by decide +kernel
theorem dX7_takeTimes_13 : decode cX7_takeTimes 13 = .ok (.aload_n 0, 1) := by decide +kernel
theorem dX7_takeTimes_14 : decode cX7_takeTimes 14 = .ok (.getfield 60, 3) := by decide +kernel
theorem dX7_takeTimes_17 : decode cX7_takeTimes 17 = .ok (.iconst 1, 1) := by decide +kernel
theorem dX7_takeTimes_18 : decode cX7_takeTimes 18 = .ok (.aload_n 0, 1) := by decide +kernel
theorem dX7_takeTimes_19 : decode cX7_takeTimes 19 = .ok (.iload_n 2, 1) := by decide +kernel
theorem dX7_takeTimes_20 : decode cX7_takeTimes 20 = .ok (.iload 5, 2) := by decide +kernel
theorem dX7_takeTimes_22 : decode cX7_takeTimes 22 = .ok (.invokevirtual 236, 3) := by decide +kernel
theorem dX7_takeTimes_25 : decode cX7_takeTimes 25 = .ok (.iastore, 1) := by decide +kernel
theorem dX7_takeTimes_26 : decode cX7_takeTimes 26 = .ok (.aload_n 0, 1) := by decide +kernel
theorem dX7_takeTimes_27 : decode cX7_takeTimes 27 = .ok (.getfield 60, 3) := by decide +kernel
theorem dX7_takeTimes_30 : decode cX7_takeTimes 30 = .ok (.iconst 2, 1) := by decide +kernel
theorem dX7_takeTimes_31 : decode cX7_takeTimes 31 = .ok (.aload_n 0, 1) := by decide +kernel
theorem dX7_takeTimes_32 : decode cX7_takeTimes 32 = .ok (.iload_n 3, 1) := by decide +kernel
theorem dX7_takeTimes_33 : decode cX7_takeTimes 33 = .ok (.iload 5, 2) := by decide +kernel
theorem dX7_takeTimes_35 : decode cX7_takeTimes 35 = .ok (.invokevirtual 236, 3) := by decide +kernel
theorem dX7_takeTimes_38 : decode cX7_takeTimes 38 = .ok (.iastore, 1) := by decide +kernel
theorem dX7_takeTimes_39 : decode cX7_takeTimes 39 = .ok (.aload_n 0, 1) := by decide +kernel
theorem dX7_takeTimes_40 : decode cX7_takeTimes 40 = .ok (.getfield 60, 3) := by decide +kernel
theorem dX7_takeTimes_43 : decode cX7_takeTimes 43 = .ok (.iconst 3, 1) := by decide +kernel
theorem dX7_takeTimes_44 : decode cX7_takeTimes 44 = .ok (.aload_n 0, 1) := by decide +kernel
theorem dX7_takeTimes_45 : decode cX7_takeTimes 45 = .ok (.iload 4, 2) := by decide +kernel
theorem dX7_takeTimes_47 : decode cX7_takeTimes 47 = .ok (.iload 5, 2) := by decide +kernel
theorem dX7_takeTimes_49 : decode cX7_takeTimes 49 = .ok (.invokevirtual 236, 3) := by decide +kernel
theorem dX7_takeTimes_52 : decode cX7_takeTimes 52 = .ok (.iastore, 1) := by decide +kernel
theorem dX7_takeTimes_53 : decode cX7_takeTimes 53 = .ok (.return_, 1) := by decide +kernel
theorem dX7_quickestOfFour_0 : decode cX7_quickestOfFour 0 = .ok (.iconst 0, 1) := by decide +kernel
theorem dX7_quickestOfFour_1 : decode cX7_quickestOfFour 1 = .ok (.istore_n 1, 1) := by decide +kernel
theorem dX7_quickestOfFour_2 : decode cX7_quickestOfFour 2 = .ok (.iconst 1, 1) := by decide +kernel
theorem dX7_quickestOfFour_3 : decode cX7_quickestOfFour 3 = .ok (.istore_n 2, 1) := by decide +kernel
theorem dX7_quickestOfFour_4 : decode cX7_quickestOfFour 4 = .ok (.iload_n 2, 1) := by decide +kernel
theorem dX7_quickestOfFour_5 : decode cX7_quickestOfFour 5 = .ok (.iconst 4, 1) := by decide +kernel
theorem dX7_quickestOfFour_6 : decode cX7_quickestOfFour 6 = .ok (.if_icmp .ge 56, 3) := by decide +kernel
theorem dX7_quickestOfFour_9 : decode cX7_quickestOfFour 9 = .ok (.aload_n 0, 1) := by decide +kernel
theorem dX7_quickestOfFour_10 : decode cX7_quickestOfFour 10 = .ok (.getfield 60, 3) := by decide +kernel
theorem dX7_quickestOfFour_13 : decode cX7_quickestOfFour 13 = .ok (.iload_n 1, 1) := by decide +kernel
theorem dX7_quickestOfFour_14 : decode cX7_quickestOfFour 14 = .ok (.iaload, 1) := by decide +kernel
theorem dX7_quickestOfFour_15 : decode cX7_quickestOfFour 15 = .ok (.iconst (-1), 1) := by decide +kernel
theorem dX7_quickestOfFour_16 : decode cX7_quickestOfFour 16 = .ok (.if_icmp .eq 18, 3) := by decide +kernel
theorem dX7_quickestOfFour_19 : decode cX7_quickestOfFour 19 = .ok (.aload_n 0, 1) := by decide +kernel
theorem dX7_quickestOfFour_20 : decode cX7_quickestOfFour 20 = .ok (.getfield 60, 3) := by decide +kernel
theorem dX7_quickestOfFour_23 : decode cX7_quickestOfFour 23 = .ok (.iload_n 2, 1) := by decide +kernel
theorem dX7_quickestOfFour_24 : decode cX7_quickestOfFour 24 = .ok (.iaload, 1) := by decide +kernel
theorem dX7_quickestOfFour_25 : decode cX7_quickestOfFour 25 = .ok (.aload_n 0, 1) := by decide +kernel
theorem dX7_quickestOfFour_26 : decode cX7_quickestOfFour 26 = .ok (.getfield 60, 3) := by decide +kernel
theorem dX7_quickestOfFour_29 : decode cX7_quickestOfFour 29 = .ok (.iload_n 1, 1) := by decide +kernel
theorem dX7_quickestOfFour_30 : decode cX7_quickestOfFour 30 = .ok (.iaload, 1) := by decide +kernel
theorem dX7_quickestOfFour_31 : decode cX7_quickestOfFour 31 = .ok (.if_icmp .ge 7, 3) := by decide +kernel
theorem dX7_quickestOfFour_34 : decode cX7_quickestOfFour 34 = .ok (.iconst 1, 1) := by decide +kernel
theorem dX7_quickestOfFour_35 : decode cX7_quickestOfFour 35 = .ok (.goto 4, 3) := by decide +kernel
theorem dX7_quickestOfFour_38 : decode cX7_quickestOfFour 38 = .ok (.iconst 0, 1) := by decide +kernel
theorem dX7_quickestOfFour_39 : decode cX7_quickestOfFour 39 = .ok (.istore_n 3, 1) := by decide +kernel
theorem dX7_quickestOfFour_40 : decode cX7_quickestOfFour 40 = .ok (.aload_n 0, 1) := by decide +kernel
theorem dX7_quickestOfFour_41 : decode cX7_quickestOfFour 41 = .ok (.getfield 60, 3) := by decide +kernel
theorem dX7_quickestOfFour_44 : decode cX7_quickestOfFour 44 = .ok (.iload_n 2, 1) := by decide +kernel
theorem dX7_quickestOfFour_45 : decode cX7_quickestOfFour 45 = .ok (.iaload, 1) := by decide +kernel
theorem dX7_quickestOfFour_46 : decode cX7_quickestOfFour 46 = .ok (.iconst (-1), 1) := by decide +kernel
theorem dX7_quickestOfFour_47 : decode cX7_quickestOfFour 47 = .ok (.if_icmp .eq 9, 3) := by decide +kernel
theorem dX7_quickestOfFour_50 : decode cX7_quickestOfFour 50 = .ok (.iload_n 3, 1) := by decide +kernel
theorem dX7_quickestOfFour_51 : decode cX7_quickestOfFour 51 = .ok (.ifCond .eq 5, 3) := by decide +kernel
theorem dX7_quickestOfFour_54 : decode cX7_quickestOfFour 54 = .ok (.iload_n 2, 1) := by decide +kernel
theorem dX7_quickestOfFour_55 : decode cX7_quickestOfFour 55 = .ok (.istore_n 1, 1) := by decide +kernel
theorem dX7_quickestOfFour_56 : decode cX7_quickestOfFour 56 = .ok (.iinc 2 1, 3) := by decide +kernel
theorem dX7_quickestOfFour_59 : decode cX7_quickestOfFour 59 = .ok (.goto (-55), 3) := by decide +kernel
theorem dX7_quickestOfFour_62 : decode cX7_quickestOfFour 62 = .ok (.iload_n 1, 1) := by decide +kernel
theorem dX7_quickestOfFour_63 : decode cX7_quickestOfFour 63 = .ok (.ireturn, 1) := by decide +kernel
theorem dX7_thousandths_0 : decode cX7_thousandths 0 = .ok (.aload_n 0, 1) := by decide +kernel
theorem dX7_thousandths_1 : decode cX7_thousandths 1 = .ok (.getfield 60, 3) := by decide +kernel
theorem dX7_thousandths_4 : decode cX7_thousandths 4 = .ok (.iload_n 1, 1) := by decide +kernel
theorem dX7_thousandths_5 : decode cX7_thousandths 5 = .ok (.iconst 3, 1) := by decide +kernel
theorem dX7_thousandths_6 : decode cX7_thousandths 6 = .ok (.iand, 1) := by decide +kernel
theorem dX7_thousandths_7 : decode cX7_thousandths 7 = .ok (.iaload, 1) := by decide +kernel
theorem dX7_thousandths_8 : decode cX7_thousandths 8 = .ok (.istore 4, 2) := by decide +kernel
theorem dX7_thousandths_10 : decode cX7_thousandths 10 = .ok (.aload_n 0, 1) := by decide +kernel
theorem dX7_thousandths_11 : decode cX7_thousandths 11 = .ok (.getfield 60, 3) := by decide +kernel
theorem dX7_thousandths_14 : decode cX7_thousandths 14 = .ok (.iload_n 1, 1) := by decide +kernel
theorem dX7_thousandths_15 : decode cX7_thousandths 15 = .ok (.iload_n 2, 1) := by decide +kernel
theorem dX7_thousandths_16 : decode cX7_thousandths 16 = .ok (.ixor, 1) := by decide +kernel
theorem dX7_thousandths_17 : decode cX7_thousandths 17 = .ok (.iconst 3, 1) := by decide +kernel
theorem dX7_thousandths_18 : decode cX7_thousandths 18 = .ok (.iand, 1) := by decide +kernel
theorem dX7_thousandths_19 : decode cX7_thousandths 19 = .ok (.iaload, 1) := by decide +kernel
theorem dX7_thousandths_20 : decode cX7_thousandths 20 = .ok (.istore 5, 2) := by decide +kernel
theorem dX7_thousandths_22 : decode cX7_thousandths 22 = .ok (.aload_n 0, 1) := by decide +kernel
theorem dX7_thousandths_23 : decode cX7_thousandths 23 = .ok (.getfield 60, 3) := by decide +kernel
theorem dX7_thousandths_26 : decode cX7_thousandths 26 = .ok (.iload_n 1, 1) := by decide +kernel
theorem dX7_thousandths_27 : decode cX7_thousandths 27 = .ok (.iload_n 2, 1) := by decide +kernel
theorem dX7_thousandths_28 : decode cX7_thousandths 28 = .ok (.iconst 3, 1) := by decide +kernel
theorem dX7_thousandths_29 : decode cX7_thousandths 29 = .ok (.irem, 1) := by decide +kernel
theorem dX7_thousandths_30 : decode cX7_thousandths 30 = .ok (.iconst 1, 1) := by decide +kernel
theorem dX7_thousandths_31 : decode cX7_thousandths 31 = .ok (.iadd, 1) := by decide +kernel
theorem dX7_thousandths_32 : decode cX7_thousandths 32 = .ok (.ixor, 1) := by decide +kernel
theorem dX7_thousandths_33 : decode cX7_thousandths 33 = .ok (.iconst 3, 1) := by decide +kernel
theorem dX7_thousandths_34 : decode cX7_thousandths 34 = .ok (.iand, 1) := by decide +kernel
theorem dX7_thousandths_35 : decode cX7_thousandths 35 = .ok (.iaload, 1) := by decide +kernel
theorem dX7_thousandths_36 : decode cX7_thousandths 36 = .ok (.istore 6, 2) := by decide +kernel
theorem dX7_thousandths_38 : decode cX7_thousandths 38 = .ok (.aload_n 0, 1) := by decide +kernel
theorem dX7_thousandths_39 : decode cX7_thousandths 39 = .ok (.getfield 60, 3) := by decide +kernel
theorem dX7_thousandths_42 : decode cX7_thousandths 42 = .ok (.iload_n 1, 1) := by decide +kernel
theorem dX7_thousandths_43 : decode cX7_thousandths 43 = .ok (.iload_n 2, 1) := by decide +kernel
theorem dX7_thousandths_44 : decode cX7_thousandths 44 = .ok (.iconst 1, 1) := by decide +kernel
theorem dX7_thousandths_45 : decode cX7_thousandths 45 = .ok (.iadd, 1) := by decide +kernel
theorem dX7_thousandths_46 : decode cX7_thousandths 46 = .ok (.iconst 3, 1) := by decide +kernel
theorem dX7_thousandths_47 : decode cX7_thousandths 47 = .ok (.irem, 1) := by decide +kernel
theorem dX7_thousandths_48 : decode cX7_thousandths 48 = .ok (.iconst 1, 1) := by decide +kernel
theorem dX7_thousandths_49 : decode cX7_thousandths 49 = .ok (.iadd, 1) := by decide +kernel
theorem dX7_thousandths_50 : decode cX7_thousandths 50 = .ok (.ixor, 1) := by decide +kernel
theorem dX7_thousandths_51 : decode cX7_thousandths 51 = .ok (.iconst 3, 1) := by decide +kernel
theorem dX7_thousandths_52 : decode cX7_thousandths 52 = .ok (.iand, 1) := by decide +kernel
theorem dX7_thousandths_53 : decode cX7_thousandths 53 = .ok (.iaload, 1) := by decide +kernel
theorem dX7_thousandths_54 : decode cX7_thousandths 54 = .ok (.istore 7, 2) := by decide +kernel
theorem dX7_thousandths_56 : decode cX7_thousandths 56 = .ok (.iload 6, 2) := by decide +kernel
theorem dX7_thousandths_58 : decode cX7_thousandths 58 = .ok (.iload 7, 2) := by decide +kernel
theorem dX7_thousandths_60 : decode cX7_thousandths 60 = .ok (.iload_n 3, 1) := by decide +kernel
theorem dX7_thousandths_61 : decode cX7_thousandths 61 = .ok (.invokestatic 239, 3) := by decide +kernel
theorem dX7_thousandths_64 : decode cX7_thousandths 64 = .ok (.iload 4, 2) := by decide +kernel
theorem dX7_thousandths_66 : decode cX7_thousandths 66 = .ok (.iload 6, 2) := by decide +kernel
theorem dX7_thousandths_68 : decode cX7_thousandths 68 = .ok (.iload_n 3, 1) := by decide +kernel
theorem dX7_thousandths_69 : decode cX7_thousandths 69 = .ok (.invokestatic 239, 3) := by decide +kernel
theorem dX7_thousandths_72 : decode cX7_thousandths 72 = .ok (.imul, 1) := by decide +kernel
theorem dX7_thousandths_73 : decode cX7_thousandths 73 = .ok (.istore 8, 2) := by decide +kernel
theorem dX7_thousandths_75 : decode cX7_thousandths 75 = .ok (.iload 7, 2) := by decide +kernel
theorem dX7_thousandths_77 : decode cX7_thousandths 77 = .ok (.iload 6, 2) := by decide +kernel
theorem dX7_thousandths_79 : decode cX7_thousandths 79 = .ok (.iload_n 3, 1) := by decide +kernel
theorem dX7_thousandths_80 : decode cX7_thousandths 80 = .ok (.invokestatic 239, 3) := by decide +kernel
theorem dX7_thousandths_83 : decode cX7_thousandths 83 = .ok (.iload 4, 2) := by decide +kernel
theorem dX7_thousandths_85 : decode cX7_thousandths 85 = .ok (.iload 7, 2) := by decide +kernel
theorem dX7_thousandths_87 : decode cX7_thousandths 87 = .ok (.iload_n 3, 1) := by decide +kernel
theorem dX7_thousandths_88 : decode cX7_thousandths 88 = .ok (.invokestatic 239, 3) := by decide +kernel
theorem dX7_thousandths_91 : decode cX7_thousandths 91 = .ok (.imul, 1) := by decide +kernel
theorem dX7_thousandths_92 : decode cX7_thousandths 92 = .ok (.istore 9, 2) := by decide +kernel
theorem dX7_thousandths_94 : decode cX7_thousandths 94 = .ok (.iload 4, 2) := by decide +kernel
theorem dX7_thousandths_96 : decode cX7_thousandths 96 = .ok (.iload 5, 2) := by decide +kernel
theorem dX7_thousandths_98 : decode cX7_thousandths 98 = .ok (.iload_n 3, 1) := by decide +kernel
theorem dX7_thousandths_99 : decode cX7_thousandths 99 = .ok (.invokestatic 239, 3) := by decide +kernel
theorem dX7_thousandths_102 : decode cX7_thousandths 102 = .ok (.iload 8, 2) := by decide +kernel
theorem dX7_thousandths_104 : decode cX7_thousandths 104 = .ok (.iload 9, 2) := by decide +kernel
theorem dX7_thousandths_106 : decode cX7_thousandths 106 = .ok (.iadd, 1) := by decide +kernel
theorem dX7_thousandths_107 : decode cX7_thousandths 107 = .ok (.imul, 1) := by decide +kernel
theorem dX7_thousandths_108 : decode cX7_thousandths 108 = .ok (.ireturn, 1) := by decide +kernel
theorem dX7_weighBends_0 : decode cX7_weighBends 0 = .ok (.iconst 0, 1) := by decide +kernel
theorem dX7_weighBends_1 : decode cX7_weighBends 1 = .ok (.istore_n 2, 1) := by decide +kernel
theorem dX7_weighBends_2 : decode cX7_weighBends 2 = .ok (.iload_n 2, 1) := by decide +kernel
theorem dX7_weighBends_3 : decode cX7_weighBends 3 = .ok (.iconst 4, 1) := by decide +kernel
theorem dX7_weighBends_4 : decode cX7_weighBends 4 = .ok (.if_icmp .ge 71, 3) := by decide +kernel
theorem dX7_weighBends_7 : decode cX7_weighBends 7 = .ok (.aload_n 0, 1) := by decide +kernel
theorem dX7_weighBends_8 : decode cX7_weighBends 8 = .ok (.getfield 64, 3) := by decide +kernel
theorem dX7_weighBends_11 : decode cX7_weighBends 11 = .ok (.iload_n 2, 1) := by decide +kernel
theorem dX7_weighBends_12 : decode cX7_weighBends 12 = .ok (.bipush 100, 2) := by decide +kernel
theorem dX7_weighBends_14 : decode cX7_weighBends 14 = .ok (.iastore, 1) := by decide +kernel
theorem dX7_weighBends_15 : decode cX7_weighBends 15 = .ok (.aload_n 0, 1) := by decide +kernel
theorem dX7_weighBends_16 : decode cX7_weighBends 16 = .ok (.getfield 19, 3) := by decide +kernel
theorem dX7_weighBends_19 : decode cX7_weighBends 19 = .ok (.iload_n 2, 1) := by decide +kernel
theorem dX7_weighBends_20 : decode cX7_weighBends 20 = .ok (.invokevirtual 342, 3) := by decide +kernel
theorem dX7_weighBends_23 : decode cX7_weighBends 23 = .ok (.istore_n 3, 1) := by decide +kernel
theorem dX7_weighBends_24 : decode cX7_weighBends 24 = .ok (.iload_n 3, 1) := by decide +kernel
theorem dX7_weighBends_25 : decode cX7_weighBends 25 = .ok (.iconst (-1), 1) := by decide +kernel
theorem dX7_weighBends_26 : decode cX7_weighBends 26 = .ok (.if_icmp .eq 43, 3) := by decide +kernel
theorem dX7_weighBends_29 : decode cX7_weighBends 29 = .ok (.aload_n 0, 1) := by decide +kernel
theorem dX7_weighBends_30 : decode cX7_weighBends 30 = .ok (.getfield 49, 3) := by decide +kernel
theorem dX7_weighBends_33 : decode cX7_weighBends 33 = .ok (.getfield 159, 3) := by decide +kernel
theorem dX7_weighBends_36 : decode cX7_weighBends 36 = .ok (.iload_n 3, 1) := by decide +kernel
theorem dX7_weighBends_37 : decode cX7_weighBends 37 = .ok (.iaload, 1) := by decide +kernel
theorem dX7_weighBends_38 : decode cX7_weighBends 38 = .ok (.iconst (-1), 1) := by decide +kernel
theorem dX7_weighBends_39 : decode cX7_weighBends 39 = .ok (.if_icmp .eq 30, 3) := by decide +kernel
theorem dX7_weighBends_42 : decode cX7_weighBends 42 = .ok (.aload_n 0, 1) := by decide +kernel
theorem dX7_weighBends_43 : decode cX7_weighBends 43 = .ok (.getfield 64, 3) := by decide +kernel
theorem dX7_weighBends_46 : decode cX7_weighBends 46 = .ok (.iload_n 2, 1) := by decide +kernel
theorem dX7_weighBends_47 : decode cX7_weighBends 47 = .ok (.aload_n 0, 1) := by decide +kernel
theorem dX7_weighBends_48 : decode cX7_weighBends 48 = .ok (.getfield 49, 3) := by decide +kernel
theorem dX7_weighBends_51 : decode cX7_weighBends 51 = .ok (.getfield 159, 3) := by decide +kernel
theorem dX7_weighBends_54 : decode cX7_weighBends 54 = .ok (.iload_n 3, 1) := by decide +kernel
theorem dX7_weighBends_55 : decode cX7_weighBends 55 = .ok (.iaload, 1) := by decide +kernel
theorem dX7_weighBends_56 : decode cX7_weighBends 56 = .ok (.aload_n 0, 1) := by decide +kernel
theorem dX7_weighBends_57 : decode cX7_weighBends 57 = .ok (.getfield 49, 3) := by decide +kernel
theorem dX7_weighBends_60 : decode cX7_weighBends 60 = .ok (.iload_n 3, 1) := by decide +kernel
theorem dX7_weighBends_61 : decode cX7_weighBends 61 = .ok (.invokevirtual 362, 3) := by decide +kernel
theorem dX7_weighBends_64 : decode cX7_weighBends 64 = .ok (.iload_n 1, 1) := by decide +kernel
theorem dX7_weighBends_65 : decode cX7_weighBends 65 = .ok (.invokestatic 365, 3) := by decide +kernel
theorem dX7_weighBends_68 : decode cX7_weighBends 68 = .ok (.iastore, 1) := by decide +kernel
theorem dX7_weighBends_69 : decode cX7_weighBends 69 = .ok (.iinc 2 1, 3) := by decide +kernel
theorem dX7_weighBends_72 : decode cX7_weighBends 72 = .ok (.goto (-70), 3) := by decide +kernel
theorem dX7_weighBends_75 : decode cX7_weighBends 75 = .ok (.return_, 1) := by decide +kernel
theorem dX7_safeHundredths_0 : decode cX7_safeHundredths 0 = .ok (.iload_n 0, 1) := by decide +kernel
theorem dX7_safeHundredths_1 : decode cX7_safeHundredths 1 = .ok (.iload_n 1, 1) := by decide +kernel
theorem dX7_safeHundredths_2 : decode cX7_safeHundredths 2 = .ok (.if_icmp .le 5, 3) := by decide +kernel
theorem dX7_safeHundredths_5 : decode cX7_safeHundredths 5 = .ok (.iconst 0, 1) := by decide +kernel
theorem dX7_safeHundredths_6 : decode cX7_safeHundredths 6 = .ok (.ireturn, 1) := by decide +kernel
theorem dX7_safeHundredths_7 : decode cX7_safeHundredths 7 = .ok (.bipush 100, 2) := by decide +kernel
theorem dX7_safeHundredths_9 : decode cX7_safeHundredths 9 = .ok (.bipush 10, 2) := by decide +kernel
theorem dX7_safeHundredths_11 : decode cX7_safeHundredths 11 = .ok (.bipush 10, 2) := by decide +kernel
theorem dX7_safeHundredths_13 : decode cX7_safeHundredths 13 = .ok (.iload_n 0, 1) := by decide +kernel
theorem dX7_safeHundredths_14 : decode cX7_safeHundredths 14 = .ok (.imul, 1) := by decide +kernel
theorem dX7_safeHundredths_15 : decode cX7_safeHundredths 15 = .ok (.iload_n 1, 1) := by decide +kernel
theorem dX7_safeHundredths_16 : decode cX7_safeHundredths 16 = .ok (.invokestatic 192, 3) := by decide +kernel
theorem dX7_safeHundredths_19 : decode cX7_safeHundredths 19 = .ok (.invokestatic 276, 3) := by decide +kernel
theorem dX7_safeHundredths_22 : decode cX7_safeHundredths 22 = .ok (.iload_n 2, 1) := by decide +kernel
theorem dX7_safeHundredths_23 : decode cX7_safeHundredths 23 = .ok (.imul, 1) := by decide +kernel
theorem dX7_safeHundredths_24 : decode cX7_safeHundredths 24 = .ok (.isub, 1) := by decide +kernel
theorem dX7_safeHundredths_25 : decode cX7_safeHundredths 25 = .ok (.ireturn, 1) := by decide +kernel
theorem dX7_stayingWith_0 : decode cX7_stayingWith 0 = .ok (.lconst 1, 1) := by decide +kernel
theorem dX7_stayingWith_1 : decode cX7_stayingWith 1 = .ok (.lstore_n 2, 1) := by decide +kernel
theorem dX7_stayingWith_2 : decode cX7_stayingWith 2 = .ok (.iconst 0, 1) := by decide +kernel
theorem dX7_stayingWith_3 : decode cX7_stayingWith 3 = .ok (.istore 4, 2) := by decide +kernel
theorem dX7_stayingWith_5 : decode cX7_stayingWith 5 = .ok (.iload 4, 2) := by decide +kernel
theorem dX7_stayingWith_7 : decode cX7_stayingWith 7 = .ok (.iconst 4, 1) := by decide +kernel
theorem dX7_stayingWith_8 : decode cX7_stayingWith 8 = .ok (.if_icmp .ge 48, 3) := by decide +kernel
theorem dX7_stayingWith_11 : decode cX7_stayingWith 11 = .ok (.iload_n 1, 1) := by decide +kernel
theorem dX7_stayingWith_12 : decode cX7_stayingWith 12 = .ok (.iload 4, 2) := by decide +kernel
theorem dX7_stayingWith_14 : decode cX7_stayingWith 14 = .ok (.ishr, 1) := by decide +kernel
theorem dX7_stayingWith_15 : decode cX7_stayingWith 15 = .ok (.iconst 1, 1) := by decide +kernel
theorem dX7_stayingWith_16 : decode cX7_stayingWith 16 = .ok (.iand, 1) := by decide +kernel
theorem dX7_stayingWith_17 : decode cX7_stayingWith 17 = .ok (.iconst 1, 1) := by decide +kernel
theorem dX7_stayingWith_18 : decode cX7_stayingWith 18 = .ok (.if_icmp .ne 7, 3) := by decide +kernel
theorem dX7_stayingWith_21 : decode cX7_stayingWith 21 = .ok (.iconst 1, 1) := by decide +kernel
theorem dX7_stayingWith_22 : decode cX7_stayingWith 22 = .ok (.goto 4, 3) := by decide +kernel
theorem dX7_stayingWith_25 : decode cX7_stayingWith 25 = .ok (.iconst 0, 1) := by decide +kernel
theorem dX7_stayingWith_26 : decode cX7_stayingWith 26 = .ok (.istore 5, 2) := by decide +kernel
theorem dX7_stayingWith_28 : decode cX7_stayingWith 28 = .ok (.lload_n 2, 1) := by decide +kernel
theorem dX7_stayingWith_29 : decode cX7_stayingWith 29 = .ok (.iload 5, 2) := by decide +kernel
theorem dX7_stayingWith_31 : decode cX7_stayingWith 31 = .ok (.ifCond .eq 9, 3) := by decide +kernel
theorem dX7_stayingWith_34 : decode cX7_stayingWith 34 = .ok (.ldc2_w 368, 3) := by decide +kernel
theorem dX7_stayingWith_37 : decode cX7_stayingWith 37 = .ok (.goto 11, 3) := by decide +kernel
theorem dX7_stayingWith_40 : decode cX7_stayingWith 40 = .ok (.aload_n 0, 1) := by decide +kernel
theorem dX7_stayingWith_41 : decode cX7_stayingWith 41 = .ok (.getfield 64, 3) := by decide +kernel
theorem dX7_stayingWith_44 : decode cX7_stayingWith 44 = .ok (.iload 4, 2) := by decide +kernel
theorem dX7_stayingWith_46 : decode cX7_stayingWith 46 = .ok (.iaload, 1) := by decide +kernel
theorem dX7_stayingWith_47 : decode cX7_stayingWith 47 = .ok (.i2l, 1) := by decide +kernel
theorem dX7_stayingWith_48 : decode cX7_stayingWith 48 = .ok (.lmul, 1) := by decide +kernel
theorem dX7_stayingWith_49 : decode cX7_stayingWith 49 = .ok (.lstore_n 2, 1) := by decide +kernel
theorem dX7_stayingWith_50 : decode cX7_stayingWith 50 = .ok (.iinc 4 1, 3) := by decide +kernel
theorem dX7_stayingWith_53 : decode cX7_stayingWith 53 = .ok (.goto (-48), 3) := by decide +kernel
theorem dX7_stayingWith_56 : decode cX7_stayingWith 56 = .ok (.lload_n 2, 1) := by decide +kernel
theorem dX7_stayingWith_57 : decode cX7_stayingWith 57 = .ok (.lreturn, 1) := by decide +kernel
theorem dX7_lowest_0 : decode cX7_lowest 0 = .ok (.lload_n 0, 1) := by decide +kernel
theorem dX7_lowest_1 : decode cX7_lowest 1 = .ok (.lstore 5, 2) := by decide +kernel
theorem dX7_lowest_3 : decode cX7_lowest 3 = .ok (.lload_n 2, 1) := by decide +kernel
theorem dX7_lowest_4 : decode cX7_lowest 4 = .ok (.lstore 7, 2) := by decide +kernel
theorem dX7_lowest_6 : decode cX7_lowest 6 = .ok (.iconst 0, 1) := by decide +kernel
theorem dX7_lowest_7 : decode cX7_lowest 7 = .ok (.istore 9, 2) := by decide +kernel
theorem dX7_lowest_9 : decode cX7_lowest 9 = .ok (.iload 9, 2) := by decide +kernel
theorem dX7_lowest_11 : decode cX7_lowest 11 = .ok (.bipush 100, 2) := by decide +kernel
theorem dX7_lowest_13 : decode cX7_lowest 13 = .ok (.if_icmp .ge 31, 3) := by decide +kernel
theorem dX7_lowest_16 : decode cX7_lowest 16 = .ok (.lload 7, 2) := by decide +kernel
theorem dX7_lowest_18 : decode cX7_lowest 18 = .ok (.lconst 0, 1) := by decide +kernel
theorem dX7_lowest_19 : decode cX7_lowest 19 = .ok (.lcmp, 1) := by decide +kernel
theorem dX7_lowest_20 : decode cX7_lowest 20 = .ok (.ifCond .eq 24, 3) := by decide +kernel
theorem dX7_lowest_23 : decode cX7_lowest 23 = .ok (.lload 5, 2) := by decide +kernel
theorem dX7_lowest_25 : decode cX7_lowest 25 = .ok (.lload 7, 2) := by decide +kernel
theorem dX7_lowest_27 : decode cX7_lowest 27 = .ok (.lrem, 1) := by decide +kernel
theorem dX7_lowest_28 : decode cX7_lowest 28 = .ok (.lstore 10, 2) := by decide +kernel
theorem dX7_lowest_30 : decode cX7_lowest 30 = .ok (.lload 7, 2) := by decide +kernel
theorem dX7_lowest_32 : decode cX7_lowest 32 = .ok (.lstore 5, 2) := by decide +kernel
theorem dX7_lowest_34 : decode cX7_lowest 34 = .ok (.lload 10, 2) := by decide +kernel
theorem dX7_lowest_36 : decode cX7_lowest 36 = .ok (.lstore 7, 2) := by decide +kernel
theorem dX7_lowest_38 : decode cX7_lowest 38 = .ok (.iinc 9 1, 3) := by decide +kernel
theorem dX7_lowest_41 : decode cX7_lowest 41 = .ok (.goto (-32), 3) := by decide +kernel
theorem dX7_lowest_44 : decode cX7_lowest 44 = .ok (.iload 4, 2) := by decide +kernel
theorem dX7_lowest_46 : decode cX7_lowest 46 = .ok (.ifCond .ne 7, 3) := by decide +kernel
theorem dX7_lowest_49 : decode cX7_lowest 49 = .ok (.lload_n 0, 1) := by decide +kernel
theorem dX7_lowest_50 : decode cX7_lowest 50 = .ok (.goto 4, 3) := by decide +kernel
theorem dX7_lowest_53 : decode cX7_lowest 53 = .ok (.lload_n 2, 1) := by decide +kernel
theorem dX7_lowest_54 : decode cX7_lowest 54 = .ok (.lstore 9, 2) := by decide +kernel
theorem dX7_lowest_56 : decode cX7_lowest 56 = .ok (.lload 5, 2) := by decide +kernel
theorem dX7_lowest_58 : decode cX7_lowest 58 = .ok (.lconst 0, 1) := by decide +kernel
theorem dX7_lowest_59 : decode cX7_lowest 59 = .ok (.lcmp, 1) := by decide +kernel
theorem dX7_lowest_60 : decode cX7_lowest 60 = .ok (.ifCond .le 11, 3) := by decide +kernel
theorem dX7_lowest_63 : decode cX7_lowest 63 = .ok (.lload 9, 2) := by decide +kernel
theorem dX7_lowest_65 : decode cX7_lowest 65 = .ok (.lload 5, 2) := by decide +kernel
theorem dX7_lowest_67 : decode cX7_lowest 67 = .ok (.ldiv, 1) := by decide +kernel
theorem dX7_lowest_68 : decode cX7_lowest 68 = .ok (.goto 5, 3) := by decide +kernel
theorem dX7_lowest_71 : decode cX7_lowest 71 = .ok (.lload 9, 2) := by decide +kernel
theorem dX7_lowest_73 : decode cX7_lowest 73 = .ok (.lreturn, 1) := by decide +kernel
theorem dX7_mixed_0 : decode cX7_mixed 0 = .ok (.ldc2_w 370, 3) := by decide +kernel
theorem dX7_mixed_3 : decode cX7_mixed 3 = .ok (.lload_n 0, 1) := by decide +kernel
theorem dX7_mixed_4 : decode cX7_mixed 4 = .ok (.lmul, 1) := by decide +kernel
theorem dX7_mixed_5 : decode cX7_mixed 5 = .ok (.iload_n 2, 1) := by decide +kernel
theorem dX7_mixed_6 : decode cX7_mixed 6 = .ok (.i2l, 1) := by decide +kernel
theorem dX7_mixed_7 : decode cX7_mixed 7 = .ok (.ladd, 1) := by decide +kernel
theorem dX7_mixed_8 : decode cX7_mixed 8 = .ok (.lreturn, 1) := by decide +kernel
theorem dX7_mixedCart_0 : decode cX7_mixedCart 0 = .ok (.lload_n 1, 1) := by decide +kernel
theorem dX7_mixedCart_1 : decode cX7_mixedCart 1 = .ok (.aload_n 0, 1) := by decide +kernel
theorem dX7_mixedCart_2 : decode cX7_mixedCart 2 = .ok (.getfield 25, 3) := by decide +kernel
theorem dX7_mixedCart_5 : decode cX7_mixedCart 5 = .ok (.iload_n 3, 1) := by decide +kernel
theorem dX7_mixedCart_6 : decode cX7_mixedCart 6 = .ok (.aaload, 1) := by decide +kernel
theorem dX7_mixedCart_7 : decode cX7_mixedCart 7 = .ok (.getfield 123, 3) := by decide +kernel
theorem dX7_mixedCart_10 : decode cX7_mixedCart 10 = .ok (.invokestatic 314, 3) := by decide +kernel
theorem dX7_mixedCart_13 : decode cX7_mixedCart 13 = .ok (.aload_n 0, 1) := by decide +kernel
theorem dX7_mixedCart_14 : decode cX7_mixedCart 14 = .ok (.getfield 25, 3) := by decide +kernel
theorem dX7_mixedCart_17 : decode cX7_mixedCart 17 = .ok (.iload_n 3, 1) := by decide +kernel
theorem dX7_mixedCart_18 : decode cX7_mixedCart 18 = .ok (.aaload, 1) := by decide +kernel
theorem dX7_mixedCart_19 : decode cX7_mixedCart 19 = .ok (.getfield 126, 3) := by decide +kernel
theorem dX7_mixedCart_22 : decode cX7_mixedCart 22 = .ok (.invokestatic 314, 3) := by decide +kernel
theorem dX7_mixedCart_25 : decode cX7_mixedCart 25 = .ok (.lstore 4, 2) := by decide +kernel
theorem dX7_mixedCart_27 : decode cX7_mixedCart 27 = .ok (.iconst 0, 1) := by decide +kernel
theorem dX7_mixedCart_28 : decode cX7_mixedCart 28 = .ok (.istore 6, 2) := by decide +kernel
theorem dX7_mixedCart_30 : decode cX7_mixedCart 30 = .ok (.iload 6, 2) := by decide +kernel
theorem dX7_mixedCart_32 : decode cX7_mixedCart 32 = .ok (.aload_n 0, 1) := by decide +kernel
theorem dX7_mixedCart_33 : decode cX7_mixedCart 33 = .ok (.getfield 25, 3) := by decide +kernel
theorem dX7_mixedCart_36 : decode cX7_mixedCart 36 = .ok (.iload_n 3, 1) := by decide +kernel
theorem dX7_mixedCart_37 : decode cX7_mixedCart 37 = .ok (.aaload, 1) := by decide +kernel
theorem dX7_mixedCart_38 : decode cX7_mixedCart 38 = .ok (.getfield 126, 3) := by decide +kernel
theorem dX7_mixedCart_41 : decode cX7_mixedCart 41 = .ok (.if_icmp .ge 43, 3) := by decide +kernel
theorem dX7_mixedCart_44 : decode cX7_mixedCart 44 = .ok (.lload 4, 2) := by decide +kernel
theorem dX7_mixedCart_46 : decode cX7_mixedCart 46 = .ok (.aload_n 0, 1) := by decide +kernel
theorem dX7_mixedCart_47 : decode cX7_mixedCart 47 = .ok (.getfield 25, 3) := by decide +kernel
theorem dX7_mixedCart_50 : decode cX7_mixedCart 50 = .ok (.iload_n 3, 1) := by decide +kernel
theorem dX7_mixedCart_51 : decode cX7_mixedCart 51 = .ok (.aaload, 1) := by decide +kernel
theorem dX7_mixedCart_52 : decode cX7_mixedCart 52 = .ok (.getfield 131, 3) := by decide +kernel
theorem dX7_mixedCart_55 : decode cX7_mixedCart 55 = .ok (.iload 6, 2) := by decide +kernel
theorem dX7_mixedCart_57 : decode cX7_mixedCart 57 = .ok (.iaload, 1) := by decide +kernel
theorem dX7_mixedCart_58 : decode cX7_mixedCart 58 = .ok (.invokestatic 314, 3) := by decide +kernel
theorem dX7_mixedCart_61 : decode cX7_mixedCart 61 = .ok (.aload_n 0, 1) := by decide +kernel
theorem dX7_mixedCart_62 : decode cX7_mixedCart 62 = .ok (.getfield 25, 3) := by decide +kernel
theorem dX7_mixedCart_65 : decode cX7_mixedCart 65 = .ok (.iload_n 3, 1) := by decide +kernel
theorem dX7_mixedCart_66 : decode cX7_mixedCart 66 = .ok (.aaload, 1) := by decide +kernel
theorem dX7_mixedCart_67 : decode cX7_mixedCart 67 = .ok (.getfield 134, 3) := by decide +kernel
theorem dX7_mixedCart_70 : decode cX7_mixedCart 70 = .ok (.iload 6, 2) := by decide +kernel
theorem dX7_mixedCart_72 : decode cX7_mixedCart 72 = .ok (.iaload, 1) := by decide +kernel
theorem dX7_mixedCart_73 : decode cX7_mixedCart 73 = .ok (.invokestatic 314, 3) := by decide +kernel
theorem dX7_mixedCart_76 : decode cX7_mixedCart 76 = .ok (.lstore 4, 2) := by decide +kernel
theorem dX7_mixedCart_78 : decode cX7_mixedCart 78 = .ok (.iinc 6 1, 3) := by decide +kernel
theorem dX7_mixedCart_81 : decode cX7_mixedCart 81 = .ok (.goto (-51), 3) := by decide +kernel
theorem dX7_mixedCart_84 : decode cX7_mixedCart 84 = .ok (.lload 4, 2) := by decide +kernel
theorem dX7_mixedCart_86 : decode cX7_mixedCart 86 = .ok (.aload_n 0, 1) := by decide +kernel
theorem dX7_mixedCart_87 : decode cX7_mixedCart 87 = .ok (.iload_n 3, 1) := by decide +kernel
theorem dX7_mixedCart_88 : decode cX7_mixedCart 88 = .ok (.sipush 400, 3) := by decide +kernel
theorem dX7_mixedCart_91 : decode cX7_mixedCart 91 = .ok (.invokevirtual 226, 3) := by decide +kernel
theorem dX7_mixedCart_94 : decode cX7_mixedCart 94 = .ok (.invokestatic 314, 3) := by decide +kernel
theorem dX7_mixedCart_97 : decode cX7_mixedCart 97 = .ok (.lstore 4, 2) := by decide +kernel
theorem dX7_mixedCart_99 : decode cX7_mixedCart 99 = .ok (.aload_n 0, 1) := by decide +kernel
theorem dX7_mixedCart_100 : decode cX7_mixedCart 100 = .ok (.getfield 19, 3) := by decide +kernel
theorem dX7_mixedCart_103 : decode cX7_mixedCart 103 = .ok (.getfield 100, 3) := by decide +kernel
theorem dX7_mixedCart_106 : decode cX7_mixedCart 106 = .ok (.ifCond .le 41, 3) := by decide +kernel
theorem dX7_mixedCart_109 : decode cX7_mixedCart 109 = .ok (.aload_n 0, 1) := by decide +kernel
theorem dX7_mixedCart_110 : decode cX7_mixedCart 110 = .ok (.iload_n 3, 1) := by decide +kernel
theorem dX7_mixedCart_111 : decode cX7_mixedCart 111 = .ok (.bipush 100, 2) := by decide +kernel
theorem dX7_mixedCart_113 : decode cX7_mixedCart 113 = .ok (.invokevirtual 148, 3) := by decide +kernel
theorem dX7_mixedCart_116 : decode cX7_mixedCart 116 = .ok (.iconst 0, 1) := by decide +kernel
theorem dX7_mixedCart_117 : decode cX7_mixedCart 117 = .ok (.istore 6, 2) := by decide +kernel
theorem dX7_mixedCart_119 : decode cX7_mixedCart 119 = .ok (.iload 6, 2) := by decide +kernel
theorem dX7_mixedCart_121 : decode cX7_mixedCart 121 = .ok (.iconst 3, 1) := by decide +kernel
theorem dX7_mixedCart_122 : decode cX7_mixedCart 122 = .ok (.if_icmp .gt 25, 3) := by decide +kernel
theorem dX7_mixedCart_125 : decode cX7_mixedCart 125 = .ok (.lload 4, 2) := by decide +kernel
theorem dX7_mixedCart_127 : decode cX7_mixedCart 127 = .ok (.aload_n 0, 1) := by decide +kernel
theorem dX7_mixedCart_128 : decode cX7_mixedCart 128 = .ok (.getfield 49, 3) := by decide +kernel
theorem dX7_mixedCart_131 : decode cX7_mixedCart 131 = .ok (.iload 6, 2) := by decide +kernel
theorem dX7_mixedCart_133 : decode cX7_mixedCart 133 = .ok (.invokevirtual 152, 3) := by decide +kernel
theorem dX7_mixedCart_136 : decode cX7_mixedCart 136 = .ok (.invokestatic 314, 3) := by decide +kernel
theorem dX7_mixedCart_139 : decode cX7_mixedCart 139 = .ok (.lstore 4, 2) := by decide +kernel
theorem dX7_mixedCart_141 : decode cX7_mixedCart 141 = .ok (.iinc 6 1, 3) := by decide +kernel
theorem dX7_mixedCart_144 : decode cX7_mixedCart 144 = .ok (.goto (-25), 3) := by decide +kernel
theorem dX7_mixedCart_147 : decode cX7_mixedCart 147 = .ok (.lload 4, 2) := by decide +kernel
theorem dX7_mixedCart_149 : decode cX7_mixedCart 149 = .ok (.lreturn, 1) := by decide +kernel
theorem dX8_init_0 : decode cX8_init 0 = .ok (.aload_n 0, 1) := by decide +kernel
theorem dX8_init_1 : decode cX8_init 1 = .ok (.invokespecial 1, 3) := by decide +kernel
theorem dX8_init_4 : decode cX8_init 4 = .ok (.aload_n 0, 1) := by decide +kernel
theorem dX8_init_5 : decode cX8_init 5 = .ok (.bipush 50, 2) := by decide +kernel
theorem dX8_init_7 : decode cX8_init 7 = .ok (.newarray .int, 2) := by decide +kernel
theorem dX8_init_9 : decode cX8_init 9 = .ok (.putfield 7, 3) := by decide +kernel
theorem dX8_init_12 : decode cX8_init 12 = .ok (.aload_n 0, 1) := by decide +kernel
theorem dX8_init_13 : decode cX8_init 13 = .ok (.bipush 36, 2) := by decide +kernel
theorem dX8_init_15 : decode cX8_init 15 = .ok (.newarray .int, 2) := by decide +kernel
theorem dX8_init_17 : decode cX8_init 17 = .ok (.putfield 13, 3) := by decide +kernel
theorem dX8_init_20 : decode cX8_init 20 = .ok (.aload_n 0, 1) := by decide +kernel
theorem dX8_init_21 : decode cX8_init 21 = .ok (.bipush 12, 2) := by decide +kernel
theorem dX8_init_23 : decode cX8_init 23 = .ok (.newarray .int, 2) := by decide +kernel
theorem dX8_init_25 : decode cX8_init 25 = .ok (.putfield 16, 3) := by decide +kernel
theorem dX8_init_28 : decode cX8_init 28 = .ok (.aload_n 0, 1) := by decide +kernel
theorem dX8_init_29 : decode cX8_init 29 = .ok (.bipush 12, 2) := by decide +kernel
theorem dX8_init_31 : decode cX8_init 31 = .ok (.newarray .int, 2) := by decide +kernel
theorem dX8_init_33 : decode cX8_init 33 = .ok (.putfield 19, 3) := by decide +kernel
theorem dX8_init_36 : decode cX8_init 36 = .ok (.aload_n 0, 1) := by decide +kernel
theorem dX8_init_37 : decode cX8_init 37 = .ok (.bipush 12, 2) := by decide +kernel
theorem dX8_init_39 : decode cX8_init 39 = .ok (.newarray .int, 2) := by decide +kernel
theorem dX8_init_41 : decode cX8_init 41 = .ok (.putfield 22, 3) := by decide +kernel
theorem dX8_init_44 : decode cX8_init 44 = .ok (.aload_n 0, 1) := by decide +kernel
theorem dX8_init_45 : decode cX8_init 45 = .ok (.bipush 12, 2) := by decide +kernel
theorem dX8_init_47 : decode cX8_init 47 = .ok (.newarray .int, 2) := by decide +kernel
theorem dX8_init_49 : decode cX8_init 49 = .ok (.putfield 25, 3) := by decide +kernel
theorem dX8_init_52 : decode cX8_init 52 = .ok (.aload_n 0, 1) := by decide +kernel
theorem dX8_init_53 : decode cX8_init 53 = .ok (.bipush 8, 2) := by decide +kernel
theorem dX8_init_55 : decode cX8_init 55 = .ok (.newarray .int, 2) := by decide +kernel
theorem dX8_init_57 : decode cX8_init 57 = .ok (.putfield 28, 3) := by decide +kernel
theorem dX8_init_60 : decode cX8_init 60 = .ok (.aload_n 0, 1) := by decide +kernel
theorem dX8_init_61 : decode cX8_init 61 = .ok (.bipush 8, 2) := by decide +kernel
theorem dX8_init_63 : decode cX8_init 63 = .ok (.newarray .int, 2) := by decide +kernel
theorem dX8_init_65 : decode cX8_init 65 = .ok (.putfield 31, 3) := by decide +kernel
theorem dX8_init_68 : decode cX8_init 68 = .ok (.aload_n 0, 1) := by decide +kernel
theorem dX8_init_69 : decode cX8_init 69 = .ok (.bipush 80, 2) := by decide +kernel
theorem dX8_init_71 : decode cX8_init 71 = .ok (.newarray .int, 2) := by decide +kernel
theorem dX8_init_73 : decode cX8_init 73 = .ok (.putfield 34, 3) := by decide +kernel
theorem dX8_init_76 : decode cX8_init 76 = .ok (.aload_n 0, 1) := by decide +kernel
theorem dX8_init_77 : decode cX8_init 77 = .ok (.bipush 6, 2) := by decide +kernel
theorem dX8_init_79 : decode cX8_init 79 = .ok (.newarray .int, 2) := by decide +kernel
theorem dX8_init_81 : decode cX8_init 81 = .ok (.putfield 37, 3) := by decide +kernel
theorem dX8_init_84 : decode cX8_init 84 = .ok (.aload_n 0, 1) := by decide +kernel
theorem dX8_init_85 : decode cX8_init 85 = .ok (.bipush 6, 2) := by decide +kernel
theorem dX8_init_87 : decode cX8_init 87 = .ok (.newarray .int, 2) := by decide +kernel
theorem dX8_init_89 : decode cX8_init 89 = .ok (.putfield 40, 3) := by decide +kernel
theorem dX8_init_92 : decode cX8_init 92 = .ok (.aload_n 0, 1) := by decide +kernel
theorem dX8_init_93 : decode cX8_init 93 = .ok (.bipush 12, 2) := by decide +kernel
theorem dX8_init_95 : decode cX8_init 95 = .ok (.newarray .int, 2) := by decide +kernel
theorem dX8_init_97 : decode cX8_init 97 = .ok (.putfield 43, 3) := by decide +kernel
theorem dX8_init_100 : decode cX8_init 100 = .ok (.aload_n 0, 1) := by decide +kernel
theorem dX8_init_101 : decode cX8_init 101 = .ok (.bipush 12, 2) := by decide +kernel
theorem dX8_init_103 : decode cX8_init 103 = .ok (.newarray .int, 2) := by decide +kernel
theorem dX8_init_105 : decode cX8_init 105 = .ok (.putfield 46, 3) := by decide +kernel
theorem dX8_init_108 : decode cX8_init 108 = .ok (.aload_n 0, 1) := by decide +kernel
theorem dX8_init_109 : decode cX8_init 109 = .ok (.bipush 6, 2) := by decide +kernel
theorem dX8_init_111 : decode cX8_init 111 = .ok (.newarray .int, 2) := by decide +kernel
theorem dX8_init_113 : decode cX8_init 113 = .ok (.putfield 49, 3) := by decide +kernel
theorem dX8_init_116 : decode cX8_init 116 = .ok (.aload_n 0, 1) := by decide +kernel
theorem dX8_init_117 : decode cX8_init 117 = .ok (.bipush 24, 2) := by decide +kernel
theorem dX8_init_119 : decode cX8_init 119 = .ok (.newarray .int, 2) := by decide +kernel
theorem dX8_init_121 : decode cX8_init 121 = .ok (.putfield 52, 3) := by decide +kernel
theorem dX8_init_124 : decode cX8_init 124 = .ok (.aload_n 0, 1) := by decide +kernel
theorem dX8_init_125 : decode cX8_init 125 = .ok (.iconst 4, 1) := by decide +kernel
theorem dX8_init_126 : decode cX8_init 126 = .ok (.newarray .int, 2) := by decide +kernel
theorem dX8_init_128 : decode cX8_init 128 = .ok (.putfield 55, 3) := by decide +kernel
theorem dX8_init_131 : decode cX8_init 131 = .ok (.aload_n 0, 1) := by decide +kernel
theorem dX8_init_132 : decode cX8_init 132 = .ok (.bipush 12, 2) := by decide +kernel
theorem dX8_init_134 : decode cX8_init 134 = .ok (.newarray .int, 2) := by decide +kernel
theorem dX8_init_136 : decode cX8_init 136 = .ok (.putfield 58, 3) := by decide +kernel
theorem dX8_init_139 : decode cX8_init 139 = .ok (.aload_n 0, 1) := by decide +kernel
theorem dX8_init_140 : decode cX8_init 140 = .ok (.bipush 8, 2) := by decide +kernel
theorem dX8_init_142 : decode cX8_init 142 = .ok (.newarray .int, 2) := by decide +kernel
theorem dX8_init_144 : decode cX8_init 144 = .ok (.putfield 61, 3) := by decide +kernel
theorem dX8_init_147 : decode cX8_init 147 = .ok (.aload_n 0, 1) := by decide +kernel
theorem dX8_init_148 : decode cX8_init 148 = .ok (.bipush 24, 2) := by decide +kernel
theorem dX8_init_150 : decode cX8_init 150 = .ok (.newarray .int, 2) := by decide +kernel
theorem dX8_init_152 : decode cX8_init 152 = .ok (.putfield 64, 3) := by decide +kernel
theorem dX8_init_155 : decode cX8_init 155 = .ok (.aload_n 0, 1) := by decide +kernel
theorem dX8_init_156 : decode cX8_init 156 = .ok (.bipush 9, 2) := by decide +kernel
theorem dX8_init_158 : decode cX8_init 158 = .ok (.putfield 67, 3) := by decide +kernel
theorem dX8_init_161 : decode cX8_init 161 = .ok (.aload_n 0, 1) := by decide +kernel
theorem dX8_init_162 : decode cX8_init 162 = .ok (.iconst (-1), 1) := by decide +kernel
theorem dX8_init_163 : decode cX8_init 163 = .ok (.putfield 71, 3) := by decide +kernel
theorem dX8_init_166 : decode cX8_init 166 = .ok (.return_, 1) := by decide +kernel
theorem dX8_in_0 : decode cX8_in 0 = .ok (.lload_n 0, 1) := by decide +kernel
theorem dX8_in_1 : decode cX8_in 1 = .ok (.lload_n 2, 1) := by decide +kernel
theorem dX8_in_2 : decode cX8_in 2 = .ok (.lcmp, 1) := by decide +kernel
theorem dX8_in_3 : decode cX8_in 3 = .ok (.ifCond .lt 14, 3) := by decide +kernel
theorem dX8_in_6 : decode cX8_in 6 = .ok (.lload_n 0, 1) := by decide +kernel
theorem dX8_in_7 : decode cX8_in 7 = .ok (.lload 4, 2) := by decide +kernel
theorem dX8_in_9 : decode cX8_in 9 = .ok (.lcmp, 1) := by decide +kernel
theorem dX8_in_10 : decode cX8_in 10 = .ok (.ifCond .gt 7, 3) := by decide +kernel
theorem dX8_in_13 : decode cX8_in 13 = .ok (.iconst 1, 1) := by decide +kernel
theorem dX8_in_14 : decode cX8_in 14 = .ok (.goto 4, 3) := by decide +kernel
theorem dX8_in_17 : decode cX8_in 17 = .ok (.iconst 0, 1) := by decide +kernel
theorem dX8_in_18 : decode cX8_in 18 = .ok (.ireturn, 1) := by decide +kernel
theorem dX8_letters_0 : decode cX8_letters 0 = .ok (.iconst 0, 1) := by decide +kernel
theorem dX8_letters_1 : decode cX8_letters 1 = .ok (.istore_n 3, 1) := by decide +kernel
theorem dX8_letters_2 : decode cX8_letters 2 = .ok (.iconst 1, 1) := by decide +kernel
theorem dX8_letters_3 : decode cX8_letters 3 = .ok (.istore 4, 2) := by decide +kernel
theorem dX8_letters_5 : decode cX8_letters 5 = .ok (.lload_n 1, 1) := by decide +kernel
theorem dX8_letters_6 : decode cX8_letters 6 = .ok (.lstore 5, 2) := by decide +kernel
theorem dX8_letters_8 : decode cX8_letters 8 = .ok (.iconst 0, 1) := by decide +kernel
theorem dX8_letters_9 : decode cX8_letters 9 = .ok (.istore 7, 2) := by decide +kernel
theorem dX8_letters_11 : decode cX8_letters 11 = .ok (.iload 7, 2) := by decide +kernel
theorem dX8_letters_13 : decode cX8_letters 13 = .ok (.bipush 8, 2) := by decide +kernel
theorem dX8_letters_15 : decode cX8_letters 15 = .ok (.if_icmp .ge 68, 3) := by decide +kernel
theorem dX8_letters_18 : decode cX8_letters 18 = .ok (.lload 5, 2) := by decide +kernel
theorem dX8_letters_20 : decode cX8_letters 20 = .ok (.ldc2_w 74, 3) := by decide +kernel
theorem dX8_letters_23 : decode cX8_letters 23 = .ok (.land, 1) := by decide +kernel
theorem dX8_letters_24 : decode cX8_letters 24 = .ok (.l2i, 1) := by decide +kernel
theorem dX8_letters_25 : decode cX8_letters 25 = .ok (.istore 8, 2) := by decide +kernel
theorem dX8_letters_27 : decode cX8_letters 27 = .ok (.lload 5, 2) := by decide +kernel
theorem dX8_letters_29 : decode cX8_letters 29 = .ok (.bipush 8, 2) := by decide +kernel
theorem dX8_letters_31 : decode cX8_letters 31 = .ok (.lushr, 1) := by decide +kernel
theorem dX8_letters_32 : decode cX8_letters 32 = .ok (.lstore 5, 2) := by decide +kernel
theorem dX8_letters_34 : decode cX8_letters 34 = .ok (.iload 4, 2) := by decide +kernel
theorem dX8_letters_36 : decode cX8_letters 36 = .ok (.ifCond .eq 25, 3) := by decide +kernel
theorem dX8_letters_39 : decode cX8_letters 39 = .ok (.iload 8, 2) := by decide +kernel
theorem dX8_letters_41 : decode cX8_letters 41 = .ok (.bipush 126, 2) := by decide +kernel
theorem dX8_letters_43 : decode cX8_letters 43 = .ok (.if_icmp .gt 18, 3) := by decide +kernel
theorem dX8_letters_46 : decode cX8_letters 46 = .ok (.iload 8, 2) := by decide +kernel
theorem dX8_letters_48 : decode cX8_letters 48 = .ok (.ifCond .eq 9, 3) := by decide +kernel
theorem dX8_letters_51 : decode cX8_letters 51 = .ok (.iload_n 3, 1) := by decide +kernel
theorem dX8_letters_52 : decode cX8_letters 52 = .ok (.iload 7, 2) := by decide +kernel
theorem dX8_letters_54 : decode cX8_letters 54 = .ok (.if_icmp .ne 7, 3) := by decide +kernel
theorem dX8_letters_57 : decode cX8_letters 57 = .ok (.iconst 1, 1) := by decide +kernel
theorem dX8_letters_58 : decode cX8_letters 58 = .ok (.goto 4, 3) := by decide +kernel
theorem dX8_letters_61 : decode cX8_letters 61 = .ok (.iconst 0, 1) := by decide +kernel
theorem dX8_letters_62 : decode cX8_letters 62 = .ok (.istore 4, 2) := by decide +kernel
theorem dX8_letters_64 : decode cX8_letters 64 = .ok (.iload_n 3, 1) := by decide +kernel
theorem dX8_letters_65 : decode cX8_letters 65 = .ok (.iload 8, 2) := by decide +kernel
theorem dX8_letters_67 : decode cX8_letters 67 = .ok (.ifCond .le 7, 3) := by decide +kernel
theorem dX8_letters_70 : decode cX8_letters 70 = .ok (.iconst 1, 1) := by decide +kernel
theorem dX8_letters_71 : decode cX8_letters 71 = .ok (.goto 4, 3) := by decide +kernel
theorem dX8_letters_74 : decode cX8_letters 74 = .ok (.iconst 0, 1) := by decide +kernel
theorem dX8_letters_75 : decode cX8_letters 75 = .ok (.iadd, 1) := by decide +kernel
theorem dX8_letters_76 : decode cX8_letters 76 = .ok (.istore_n 3, 1) := by decide +kernel
theorem dX8_letters_77 : decode cX8_letters 77 = .ok (.iinc 7 1, 3) := by decide +kernel
theorem dX8_letters_80 : decode cX8_letters 80 = .ok (.goto (-69), 3) := by decide +kernel
theorem dX8_letters_83 : decode cX8_letters 83 = .ok (.iload 4, 2) := by decide +kernel
theorem dX8_letters_85 : decode cX8_letters 85 = .ok (.ifCond .ne 6, 3) := by decide +kernel
theorem dX8_letters_88 : decode cX8_letters 88 = .ok (.bipush (-102), 2) := by decide +kernel
theorem dX8_letters_90 : decode cX8_letters 90 = .ok (.ireturn, 1) := by decide +kernel
theorem dX8_letters_91 : decode cX8_letters 91 = .ok (.aload_n 0, 1) := by decide +kernel
theorem dX8_letters_92 : decode cX8_letters 92 = .ok (.getfield 76, 3) := by decide +kernel
theorem dX8_letters_95 : decode cX8_letters 95 = .ok (.iload_n 3, 1) := by decide +kernel
theorem dX8_letters_96 : decode cX8_letters 96 = .ok (.iadd, 1) := by decide +kernel
theorem dX8_letters_97 : decode cX8_letters 97 = .ok (.bipush 50, 2) := by decide +kernel
theorem dX8_letters_99 : decode cX8_letters 99 = .ok (.if_icmp .le 6, 3) := by decide +kernel
theorem dX8_letters_102 : decode cX8_letters 102 = .ok (.bipush (-104), 2) := by decide +kernel
theorem dX8_letters_104 : decode cX8_letters 104 = .ok (.ireturn, 1) := by decide +kernel
theorem dX8_letters_105 : decode cX8_letters 105 = .ok (.iconst 0, 1) := by decide +kernel
theorem dX8_letters_106 : decode cX8_letters 106 = .ok (.istore 7, 2) := by decide +kernel
theorem dX8_letters_108 : decode cX8_letters 108 = .ok (.iload 7, 2) := by decide +kernel
theorem dX8_letters_110 : decode cX8_letters 110 = .ok (.iload_n 3, 1) := by decide +kernel
theorem dX8_letters_111 : decode cX8_letters 111 = .ok (.if_icmp .ge 40, 3) := by decide +kernel
theorem dX8_letters_114 : decode cX8_letters 114 = .ok (.aload_n 0, 1) := by decide +kernel
theorem dX8_letters_115 : decode cX8_letters 115 = .ok (.getfield 7, 3) := by decide +kernel
theorem dX8_letters_118 : decode cX8_letters 118 = .ok (.aload_n 0, 1) := by decide +kernel
theorem dX8_letters_119 : decode cX8_letters 119 = .ok (.getfield 76, 3) := by decide +kernel
theorem dX8_letters_122 : decode cX8_letters 122 = .ok (.lload_n 1, 1) := by decide +kernel
theorem dX8_letters_123 : decode cX8_letters 123 = .ok (.bipush 8, 2) := by decide +kernel
theorem dX8_letters_125 : decode cX8_letters 125 = .ok (.iload 7, 2) := by decide +kernel
theorem dX8_letters_127 : decode cX8_letters 127 = .ok (.imul, 1) := by decide +kernel
theorem dX8_letters_128 : decode cX8_letters 128 = .ok (.lushr, 1) := by decide +kernel
theorem dX8_letters_129 : decode cX8_letters 129 = .ok (.ldc2_w 74, 3) := by decide +kernel
theorem dX8_letters_132 : decode cX8_letters 132 = .ok (.land, 1) := by decide +kernel
theorem dX8_letters_133 : decode cX8_letters 133 = .ok (.l2i, 1) := by decide +kernel
theorem dX8_letters_134 : decode cX8_letters 134 = .ok (.iastore, 1) := by decide +kernel
theorem dX8_letters_135 : decode cX8_letters 135 = .ok (.aload_n 0, 1) := by decide +kernel
theorem dX8_letters_136 : decode cX8_letters 136 = .ok (.dup, 1) := by decide +kernel
theorem dX8_letters_137 : decode cX8_letters 137 = .ok (.getfield 76, 3) := by decide +kernel
theorem dX8_letters_140 : decode cX8_letters 140 = .ok (.iconst 1, 1) := by decide +kernel
theorem dX8_letters_141 : decode cX8_letters 141 = .ok (.iadd, 1) := by decide +kernel
theorem dX8_letters_142 : decode cX8_letters 142 = .ok (.putfield 76, 3) := by decide +kernel
theorem dX8_letters_145 : decode cX8_letters 145 = .ok (.iinc 7 1, 3) := by decide +kernel
theorem dX8_letters_148 : decode cX8_letters 148 = .ok (.goto (-40), 3) := by decide +kernel
theorem dX8_letters_151 : decode cX8_letters 151 = .ok (.aload_n 0, 1) := by decide +kernel
theorem dX8_letters_152 : decode cX8_letters 152 = .ok (.getfield 76, 3) := by decide +kernel
theorem dX8_letters_155 : decode cX8_letters 155 = .ok (.ireturn, 1) := by decide +kernel
theorem dX8_blank_0 : decode cX8_blank 0 = .ok (.aload_n 0, 1) := by decide +kernel
theorem dX8_blank_1 : decode cX8_blank 1 = .ok (.getfield 76, 3) := by decide +kernel
theorem dX8_blank_4 : decode cX8_blank 4 = .ok (.istore_n 1, 1) := by decide +kernel
theorem dX8_blank_5 : decode cX8_blank 5 = .ok (.aload_n 0, 1) := by decide +kernel
theorem dX8_blank_6 : decode cX8_blank 6 = .ok (.iconst 0, 1) := by decide +kernel
theorem dX8_blank_7 : decode cX8_blank 7 = .ok (.putfield 76, 3) := by decide +kernel
theorem dX8_blank_10 : decode cX8_blank 10 = .ok (.iload_n 1, 1) := by decide +kernel
theorem dX8_blank_11 : decode cX8_blank 11 = .ok (.ireturn, 1) := by decide +kernel
theorem dX8_goHill_0 : decode cX8_goHill 0 = .ok (.iconst 3, 1) := by decide +kernel
theorem dX8_goHill_1 : decode cX8_goHill 1 = .ok (.aload_n 0, 1) := by decide +kernel
theorem dX8_goHill_2 : decode cX8_goHill 2 = .ok (.getfield 79, 3) := by decide +kernel
theorem dX8_goHill_5 : decode cX8_goHill 5 = .ok (.imul, 1) := by decide +kernel
theorem dX8_goHill_6 : decode cX8_goHill 6 = .ok (.istore_n 2, 1) := by decide +kernel
theorem dX8_goHill_7 : decode cX8_goHill 7 = .ok (.aload_n 0, 1) := by decide +kernel
theorem dX8_goHill_8 : decode cX8_goHill 8 = .ok (.getfield 82, 3) := by decide +kernel
theorem dX8_goHill_11 : decode cX8_goHill 11 = .ok (.tableswitch 142 0 2 #[25, 70, 113], 25) := by decide +kernel
theorem dX8_goHill_36 : decode cX8_goHill 36 = .ok (.aload_n 0, 1) := by decide +kernel
theorem dX8_goHill_37 : decode cX8_goHill 37 = .ok (.getfield 13, 3) := by decide +kernel
theorem dX8_goHill_40 : decode cX8_goHill 40 = .ok (.iload_n 2, 1) := by decide +kernel
theorem dX8_goHill_41 : decode cX8_goHill 41 = .ok (.iload_n 1, 1) := by decide +kernel
theorem dX8_goHill_42 : decode cX8_goHill 42 = .ok (.bipush 48, 2) := by decide +kernel
theorem dX8_goHill_44 : decode cX8_goHill 44 = .ok (.isub, 1) := by decide +kernel
theorem dX8_goHill_45 : decode cX8_goHill 45 = .ok (.iastore, 1) := by decide +kernel
theorem dX8_goHill_46 : decode cX8_goHill 46 = .ok (.aload_n 0, 1) := by decide +kernel
theorem dX8_goHill_47 : decode cX8_goHill 47 = .ok (.getfield 13, 3) := by decide +kernel
theorem dX8_goHill_50 : decode cX8_goHill 50 = .ok (.iload_n 2, 1) := by decide +kernel
theorem dX8_goHill_51 : decode cX8_goHill 51 = .ok (.iconst 1, 1) := by decide +kernel
theorem dX8_goHill_52 : decode cX8_goHill 52 = .ok (.iadd, 1) := by decide +kernel
theorem dX8_goHill_53 : decode cX8_goHill 53 = .ok (.iconst 0, 1) := by decide +kernel
theorem dX8_goHill_54 : decode cX8_goHill 54 = .ok (.iastore, 1) := by decide +kernel
theorem dX8_goHill_55 : decode cX8_goHill 55 = .ok (.aload_n 0, 1) := by decide +kernel
theorem dX8_goHill_56 : decode cX8_goHill 56 = .ok (.getfield 13, 3) := by decide +kernel
theorem dX8_goHill_59 : decode cX8_goHill 59 = .ok (.iload_n 2, 1) := by decide +kernel
theorem dX8_goHill_60 : decode cX8_goHill 60 = .ok (.iconst 2, 1) := by decide +kernel
theorem dX8_goHill_61 : decode cX8_goHill 61 = .ok (.iadd, 1) := by decide +kernel
theorem dX8_goHill_62 : decode cX8_goHill 62 = .ok (.iconst 0, 1) := by decide +kernel
theorem dX8_goHill_63 : decode cX8_goHill 63 = .ok (.iastore, 1) := by decide +kernel
theorem dX8_goHill_64 : decode cX8_goHill 64 = .ok (.aload_n 0, 1) := by decide +kernel
theorem dX8_goHill_65 : decode cX8_goHill 65 = .ok (.iconst 1, 1) := by decide +kernel
theorem dX8_goHill_66 : decode cX8_goHill 66 = .ok (.putfield 82, 3) := by decide +kernel
theorem dX8_goHill_69 : decode cX8_goHill 69 = .ok (.iload_n 1, 1) := by decide +kernel
theorem dX8_goHill_70 : decode cX8_goHill 70 = .ok (.i2l, 1) := by decide +kernel
theorem dX8_goHill_71 : decode cX8_goHill 71 = .ok (.ldc2_w 85, 3) := by decide +kernel
theorem dX8_goHill_74 : decode cX8_goHill 74 = .ok (.ldc2_w 87, 3) := by decide +kernel
theorem dX8_goHill_77 : decode cX8_goHill 77 = .ok (.invokestatic 89, 3) := by decide +kernel
theorem dX8_goHill_80 : decode cX8_goHill 80 = .ok (.ireturn, 1) := by decide +kernel
theorem dX8_goHill_81 : decode cX8_goHill 81 = .ok (.iload_n 1, 1) := by decide +kernel
theorem dX8_goHill_82 : decode cX8_goHill 82 = .ok (.bipush 98, 2) := by decide +kernel
theorem dX8_goHill_84 : decode cX8_goHill 84 = .ok (.if_icmp .ne 10, 3) := by decide +kernel
theorem dX8_goHill_87 : decode cX8_goHill 87 = .ok (.aload_n 0, 1) := by decide +kernel
theorem dX8_goHill_88 : decode cX8_goHill 88 = .ok (.iconst 2, 1) := by decide +kernel
theorem dX8_goHill_89 : decode cX8_goHill 89 = .ok (.putfield 82, 3) := by decide +kernel
theorem dX8_goHill_92 : decode cX8_goHill 92 = .ok (.iconst 1, 1) := by decide +kernel
theorem dX8_goHill_93 : decode cX8_goHill 93 = .ok (.ireturn, 1) := by decide +kernel
theorem dX8_goHill_94 : decode cX8_goHill 94 = .ok (.iload_n 1, 1) := by decide +kernel
theorem dX8_goHill_95 : decode cX8_goHill 95 = .ok (.bipush 117, 2) := by decide +kernel
theorem dX8_goHill_97 : decode cX8_goHill 97 = .ok (.if_icmp .ne 19, 3) := by decide +kernel
theorem dX8_goHill_100 : decode cX8_goHill 100 = .ok (.aload_n 0, 1) := by decide +kernel
theorem dX8_goHill_101 : decode cX8_goHill 101 = .ok (.getfield 13, 3) := by decide +kernel
theorem dX8_goHill_104 : decode cX8_goHill 104 = .ok (.iload_n 2, 1) := by decide +kernel
theorem dX8_goHill_105 : decode cX8_goHill 105 = .ok (.iconst 2, 1) := by decide +kernel
theorem dX8_goHill_106 : decode cX8_goHill 106 = .ok (.iadd, 1) := by decide +kernel
theorem dX8_goHill_107 : decode cX8_goHill 107 = .ok (.iconst 1, 1) := by decide +kernel
theorem dX8_goHill_108 : decode cX8_goHill 108 = .ok (.iastore, 1) := by decide +kernel
theorem dX8_goHill_109 : decode cX8_goHill 109 = .ok (.aload_n 0, 1) := by decide +kernel
theorem dX8_goHill_110 : decode cX8_goHill 110 = .ok (.iconst 3, 1) := by decide +kernel
theorem dX8_goHill_111 : decode cX8_goHill 111 = .ok (.putfield 82, 3) := by decide +kernel
theorem dX8_goHill_114 : decode cX8_goHill 114 = .ok (.iconst 1, 1) := by decide +kernel
theorem dX8_goHill_115 : decode cX8_goHill 115 = .ok (.ireturn, 1) := by decide +kernel
theorem dX8_goHill_116 : decode cX8_goHill 116 = .ok (.aload_n 0, 1) := by decide +kernel
theorem dX8_goHill_117 : decode cX8_goHill 117 = .ok (.iload_n 1, 1) := by decide +kernel
theorem dX8_goHill_118 : decode cX8_goHill 118 = .ok (.bipush 11, 2) := by decide +kernel
theorem dX8_goHill_120 : decode cX8_goHill 120 = .ok (.invokevirtual 93, 3) := by decide +kernel
theorem dX8_goHill_123 : decode cX8_goHill 123 = .ok (.ireturn, 1) := by decide +kernel
theorem dX8_goHill_124 : decode cX8_goHill 124 = .ok (.aload_n 0, 1) := by decide +kernel
theorem dX8_goHill_125 : decode cX8_goHill 125 = .ok (.getfield 13, 3) := by decide +kernel
theorem dX8_goHill_128 : decode cX8_goHill 128 = .ok (.iload_n 2, 1) := by decide +kernel
theorem dX8_goHill_129 : decode cX8_goHill 129 = .ok (.iconst 1, 1) := by decide +kernel
theorem dX8_goHill_130 : decode cX8_goHill 130 = .ok (.iadd, 1) := by decide +kernel
theorem dX8_goHill_131 : decode cX8_goHill 131 = .ok (.iload_n 1, 1) := by decide +kernel
theorem dX8_goHill_132 : decode cX8_goHill 132 = .ok (.bipush 48, 2) := by decide +kernel
theorem dX8_goHill_134 : decode cX8_goHill 134 = .ok (.isub, 1) := by decide +kernel
theorem dX8_goHill_135 : decode cX8_goHill 135 = .ok (.iastore, 1) := by decide +kernel
theorem dX8_goHill_136 : decode cX8_goHill 136 = .ok (.aload_n 0, 1) := by decide +kernel
theorem dX8_goHill_137 : decode cX8_goHill 137 = .ok (.iconst 3, 1) := by decide +kernel
theorem dX8_goHill_138 : decode cX8_goHill 138 = .ok (.putfield 82, 3) := by decide +kernel
theorem dX8_goHill_141 : decode cX8_goHill 141 = .ok (.iload_n 1, 1) := by decide +kernel
theorem dX8_goHill_142 : decode cX8_goHill 142 = .ok (.i2l, 1) := by decide +kernel
theorem dX8_goHill_143 : decode cX8_goHill 143 = .ok (.ldc2_w 97, 3) := by decide +kernel
theorem dX8_goHill_146 : decode cX8_goHill 146 = .ok (.ldc2_w 87, 3) := by decide +kernel
theorem dX8_goHill_149 : decode cX8_goHill 149 = .ok (.invokestatic 89, 3) := by decide +kernel
theorem dX8_goHill_152 : decode cX8_goHill 152 = .ok (.ireturn, 1) := by decide +kernel
theorem dX8_goHill_153 : decode cX8_goHill 153 = .ok (.aload_n 0, 1) := by decide +kernel
theorem dX8_goHill_154 : decode cX8_goHill 154 = .ok (.iload_n 1, 1) := by decide +kernel
theorem dX8_goHill_155 : decode cX8_goHill 155 = .ok (.bipush 11, 2) := by decide +kernel
theorem dX8_goHill_157 : decode cX8_goHill 157 = .ok (.invokevirtual 93, 3) := by decide +kernel
theorem dX8_goHill_160 : decode cX8_goHill 160 = .ok (.ireturn, 1) := by decide +kernel
theorem dX8_goNext_0 : decode cX8_goNext 0 = .ok (.aload_n 0, 1) := by decide +kernel
theorem dX8_goNext_1 : decode cX8_goNext 1 = .ok (.dup, 1) := by decide +kernel
theorem dX8_goNext_2 : decode cX8_goNext 2 = .ok (.getfield 79, 3) := by decide +kernel
theorem dX8_goNext_5 : decode cX8_goNext 5 = .ok (.iconst 1, 1) := by decide +kernel
theorem dX8_goNext_6 : decode cX8_goNext 6 = .ok (.iadd, 1) := by decide +kernel
theorem dX8_goNext_7 : decode cX8_goNext 7 = .ok (.putfield 79, 3) := by decide +kernel
theorem dX8_goNext_10 : decode cX8_goNext 10 = .ok (.aload_n 0, 1) := by decide +kernel
theorem dX8_goNext_11 : decode cX8_goNext 11 = .ok (.iconst 0, 1) := by decide +kernel
theorem dX8_goNext_12 : decode cX8_goNext 12 = .ok (.putfield 82, 3) := by decide +kernel
theorem dX8_goNext_15 : decode cX8_goNext 15 = .ok (.iload_n 1, 1) := by decide +kernel
theorem dX8_goNext_16 : decode cX8_goNext 16 = .ok (.bipush 44, 2) := by decide +kernel
theorem dX8_goNext_18 : decode cX8_goNext 18 = .ok (.if_icmp .ne 15, 3) := by decide +kernel
theorem dX8_goNext_21 : decode cX8_goNext 21 = .ok (.aload_n 0, 1) := by decide +kernel
theorem dX8_goNext_22 : decode cX8_goNext 22 = .ok (.getfield 79, 3) := by decide +kernel
theorem dX8_goNext_25 : decode cX8_goNext 25 = .ok (.iload_n 2, 1) := by decide +kernel
theorem dX8_goNext_26 : decode cX8_goNext 26 = .ok (.if_icmp .gt 7, 3) := by decide +kernel
theorem dX8_goNext_29 : decode cX8_goNext 29 = .ok (.iconst 1, 1) := by decide +kernel
theorem dX8_goNext_30 : decode cX8_goNext 30 = .ok (.goto 4, 3) := by decide +kernel
theorem dX8_goNext_33 : decode cX8_goNext 33 = .ok (.iconst 0, 1) := by decide +kernel
theorem dX8_goNext_34 : decode cX8_goNext 34 = .ok (.ireturn, 1) := by decide +kernel
theorem dX8_kindOf_0 : decode cX8_kindOf 0 = .ok (.iload_n 0, 1) := by decide +kernel
theorem dX8_kindOf_1 : decode cX8_kindOf 1 = .ok (.bipush 108, 2) := by decide +kernel
theorem dX8_kindOf_3 : decode cX8_kindOf 3 = .ok (.if_icmp .ne 7, 3) := by decide +kernel
theorem dX8_kindOf_6 : decode cX8_kindOf 6 = .ok (.iconst 0, 1) := by decide +kernel
theorem dX8_kindOf_7 : decode cX8_kindOf 7 = .ok (.goto 54, 3) := by decide +kernel
theorem dX8_kindOf_10 : decode cX8_kindOf 10 = .ok (.iload_n 0, 1) := by decide +kernel
theorem dX8_kindOf_11 : decode cX8_kindOf 11 = .ok (.bipush 114, 2) := by decide +kernel
theorem dX8_kindOf_13 : decode cX8_kindOf 13 = .ok (.if_icmp .ne 7, 3) := by decide +kernel
theorem dX8_kindOf_16 : decode cX8_kindOf 16 = .ok (.iconst 1, 1) := by decide +kernel
theorem dX8_kindOf_17 : decode cX8_kindOf 17 = .ok (.goto 44, 3) := by decide +kernel
theorem dX8_kindOf_20 : decode cX8_kindOf 20 = .ok (.iload_n 0, 1) := by decide +kernel
theorem dX8_kindOf_21 : decode cX8_kindOf 21 = .ok (.bipush 116, 2) := by decide +kernel
theorem dX8_kindOf_23 : decode cX8_kindOf 23 = .ok (.if_icmp .ne 7, 3) := by decide +kernel
theorem dX8_kindOf_26 : decode cX8_kindOf 26 = .ok (.iconst 2, 1) := by decide +kernel
theorem dX8_kindOf_27 : decode cX8_kindOf 27 = .ok (.goto 34, 3) := by decide +kernel
theorem dX8_kindOf_30 : decode cX8_kindOf 30 = .ok (.iload_n 0, 1) := by decide +kernel
theorem dX8_kindOf_31 : decode cX8_kindOf 31 = .ok (.bipush 97, 2) := by decide +kernel
theorem dX8_kindOf_33 : decode cX8_kindOf 33 = .ok (.if_icmp .ne 7, 3) := by decide +kernel
theorem dX8_kindOf_36 : decode cX8_kindOf 36 = .ok (.iconst 3, 1) := by decide +kernel
theorem dX8_kindOf_37 : decode cX8_kindOf 37 = .ok (.goto 24, 3) := by decide +kernel
theorem dX8_kindOf_40 : decode cX8_kindOf 40 = .ok (.iload_n 0, 1) := by decide +kernel
theorem dX8_kindOf_41 : decode cX8_kindOf 41 = .ok (.bipush 117, 2) := by decide +kernel
theorem dX8_kindOf_43 : decode cX8_kindOf 43 = .ok (.if_icmp .ne 7, 3) := by decide +kernel
theorem dX8_kindOf_46 : decode cX8_kindOf 46 = .ok (.iconst 4, 1) := by decide +kernel
theorem dX8_kindOf_47 : decode cX8_kindOf 47 = .ok (.goto 14, 3) := by decide +kernel
theorem dX8_kindOf_50 : decode cX8_kindOf 50 = .ok (.iload_n 0, 1) := by decide +kernel
theorem dX8_kindOf_51 : decode cX8_kindOf 51 = .ok (.bipush 115, 2) := by decide +kernel
theorem dX8_kindOf_53 : decode cX8_kindOf 53 = .ok (.if_icmp .ne 7, 3) := by decide +kernel
theorem dX8_kindOf_56 : decode cX8_kindOf 56 = .ok (.iconst 5, 1) := by decide +kernel
theorem dX8_kindOf_57 : decode cX8_kindOf 57 = .ok (.goto 4, 3) := by decide +kernel
theorem dX8_kindOf_60 : decode cX8_kindOf 60 = .ok (.iconst (-1), 1) := by decide +kernel
theorem dX8_kindOf_61 : decode cX8_kindOf 61 = .ok (.ireturn, 1) := by decide +kernel
theorem dX8_goCart_0 : decode cX8_goCart 0 = .ok (.aload_n 0, 1) := by decide +kernel
theorem dX8_goCart_1 : decode cX8_goCart 1 = .ok (.getfield 82, 3) := by decide +kernel
theorem dX8_goCart_4 : decode cX8_goCart 4 = .ok (.istore_n 2, 1) := by decide +kernel
theorem dX8_goCart_5 : decode cX8_goCart 5 = .ok (.aload_n 0, 1) := by decide +kernel
theorem dX8_goCart_6 : decode cX8_goCart 6 = .ok (.dup, 1) := by decide +kernel
theorem dX8_goCart_7 : decode cX8_goCart 7 = .ok (.getfield 82, 3) := by decide +kernel
theorem dX8_goCart_10 : decode cX8_goCart 10 = .ok (.iconst 1, 1) := by decide +kernel
theorem dX8_goCart_11 : decode cX8_goCart 11 = .ok (.iadd, 1) := by decide +kernel
theorem dX8_goCart_12 : decode cX8_goCart 12 = .ok (.putfield 82, 3) := by decide +kernel
theorem dX8_goCart_15 : decode cX8_goCart 15 = .ok (.iload_n 2, 1) := by decide +kernel
theorem dX8_goCart_16 : decode cX8_goCart 16 = .ok (.tableswitch 145 0 4 #[36, 48, 71, 96, 116], 36) := by decide +kernel
theorem dX8_goCart_52 : decode cX8_goCart 52 = .ok (.iload_n 1, 1) := by decide +kernel
theorem dX8_goCart_53 : decode cX8_goCart 53 = .ok (.bipush 119, 2) := by decide +kernel
theorem dX8_goCart_55 : decode cX8_goCart 55 = .ok (.if_icmp .ne 7, 3) := by decide +kernel
theorem dX8_goCart_58 : decode cX8_goCart 58 = .ok (.iconst 1, 1) := by decide +kernel
theorem dX8_goCart_59 : decode cX8_goCart 59 = .ok (.goto 4, 3) := by decide +kernel
theorem dX8_goCart_62 : decode cX8_goCart 62 = .ok (.iconst 0, 1) := by decide +kernel
theorem dX8_goCart_63 : decode cX8_goCart 63 = .ok (.ireturn, 1) := by decide +kernel
theorem dX8_goCart_64 : decode cX8_goCart 64 = .ok (.aload_n 0, 1) := by decide +kernel
theorem dX8_goCart_65 : decode cX8_goCart 65 = .ok (.bipush 10, 2) := by decide +kernel
theorem dX8_goCart_67 : decode cX8_goCart 67 = .ok (.iload_n 1, 1) := by decide +kernel
theorem dX8_goCart_68 : decode cX8_goCart 68 = .ok (.bipush 48, 2) := by decide +kernel
theorem dX8_goCart_70 : decode cX8_goCart 70 = .ok (.isub, 1) := by decide +kernel
theorem dX8_goCart_71 : decode cX8_goCart 71 = .ok (.imul, 1) := by decide +kernel
theorem dX8_goCart_72 : decode cX8_goCart 72 = .ok (.putfield 99, 3) := by decide +kernel
theorem dX8_goCart_75 : decode cX8_goCart 75 = .ok (.iload_n 1, 1) := by decide +kernel
theorem dX8_goCart_76 : decode cX8_goCart 76 = .ok (.i2l, 1) := by decide +kernel
theorem dX8_goCart_77 : decode cX8_goCart 77 = .ok (.ldc2_w 97, 3) := by decide +kernel
theorem dX8_goCart_80 : decode cX8_goCart 80 = .ok (.ldc2_w 87, 3) := by decide +kernel
theorem dX8_goCart_83 : decode cX8_goCart 83 = .ok (.invokestatic 89, 3) := by decide +kernel
theorem dX8_goCart_86 : decode cX8_goCart 86 = .ok (.ireturn, 1) := by decide +kernel
theorem dX8_goCart_87 : decode cX8_goCart 87 = .ok (.aload_n 0, 1) := by decide +kernel
theorem dX8_goCart_88 : decode cX8_goCart 88 = .ok (.dup, 1) := by decide +kernel
theorem dX8_goCart_89 : decode cX8_goCart 89 = .ok (.getfield 99, 3) := by decide +kernel
theorem dX8_goCart_92 : decode cX8_goCart 92 = .ok (.iload_n 1, 1) := by decide +kernel
theorem dX8_goCart_93 : decode cX8_goCart 93 = .ok (.bipush 48, 2) := by decide +kernel
theorem dX8_goCart_95 : decode cX8_goCart 95 = .ok (.isub, 1) := by decide +kernel
theorem dX8_goCart_96 : decode cX8_goCart 96 = .ok (.iadd, 1) := by decide +kernel
theorem dX8_goCart_97 : decode cX8_goCart 97 = .ok (.putfield 99, 3) := by decide +kernel
theorem dX8_goCart_100 : decode cX8_goCart 100 = .ok (.iload_n 1, 1) := by decide +kernel
theorem dX8_goCart_101 : decode cX8_goCart 101 = .ok (.i2l, 1) := by decide +kernel
theorem dX8_goCart_102 : decode cX8_goCart 102 = .ok (.ldc2_w 85, 3) := by decide +kernel
theorem dX8_goCart_105 : decode cX8_goCart 105 = .ok (.ldc2_w 87, 3) := by decide +kernel
theorem dX8_goCart_108 : decode cX8_goCart 108 = .ok (.invokestatic 89, 3) := by decide +kernel
theorem dX8_goCart_111 : decode cX8_goCart 111 = .ok (.ireturn, 1) := by decide +kernel
theorem dX8_goCart_112 : decode cX8_goCart 112 = .ok (.iload_n 1, 1) := by decide +kernel
theorem dX8_goCart_113 : decode cX8_goCart 113 = .ok (.bipush 44, 2) := by decide +kernel
theorem dX8_goCart_115 : decode cX8_goCart 115 = .ok (.if_icmp .ne 15, 3) := by decide +kernel
theorem dX8_goCart_118 : decode cX8_goCart 118 = .ok (.aload_n 0, 1) := by decide +kernel
theorem dX8_goCart_119 : decode cX8_goCart 119 = .ok (.getfield 79, 3) := by decide +kernel
theorem dX8_goCart_122 : decode cX8_goCart 122 = .ok (.iconst 5, 1) := by decide +kernel
theorem dX8_goCart_123 : decode cX8_goCart 123 = .ok (.if_icmp .ge 7, 3) := by decide +kernel
theorem dX8_goCart_126 : decode cX8_goCart 126 = .ok (.iconst 1, 1) := by decide +kernel
theorem dX8_goCart_127 : decode cX8_goCart 127 = .ok (.goto 4, 3) := by decide +kernel
theorem dX8_goCart_130 : decode cX8_goCart 130 = .ok (.iconst 0, 1) := by decide +kernel
theorem dX8_goCart_131 : decode cX8_goCart 131 = .ok (.ireturn, 1) := by decide +kernel
theorem dX8_goCart_132 : decode cX8_goCart 132 = .ok (.aload_n 0, 1) := by decide +kernel
theorem dX8_goCart_133 : decode cX8_goCart 133 = .ok (.getfield 13, 3) := by decide +kernel
theorem dX8_goCart_136 : decode cX8_goCart 136 = .ok (.iconst 2, 1) := by decide +kernel
theorem dX8_goCart_137 : decode cX8_goCart 137 = .ok (.aload_n 0, 1) := by decide +kernel
theorem dX8_goCart_138 : decode cX8_goCart 138 = .ok (.getfield 79, 3) := by decide +kernel
theorem dX8_goCart_141 : decode cX8_goCart 141 = .ok (.imul, 1) := by decide +kernel
theorem dX8_goCart_142 : decode cX8_goCart 142 = .ok (.iload_n 1, 1) := by decide +kernel
theorem dX8_goCart_143 : decode cX8_goCart 143 = .ok (.invokestatic 102, 3) := by decide +kernel
theorem dX8_goCart_146 : decode cX8_goCart 146 = .ok (.iastore, 1) := by decide +kernel
theorem dX8_goCart_147 : decode cX8_goCart 147 = .ok (.iload_n 1, 1) := by decide +kernel
theorem dX8_goCart_148 : decode cX8_goCart 148 = .ok (.invokestatic 102, 3) := by decide +kernel
theorem dX8_goCart_151 : decode cX8_goCart 151 = .ok (.iconst (-1), 1) := by decide +kernel
theorem dX8_goCart_152 : decode cX8_goCart 152 = .ok (.if_icmp .eq 7, 3) := by decide +kernel
theorem dX8_goCart_155 : decode cX8_goCart 155 = .ok (.iconst 1, 1) := by decide +kernel
theorem dX8_goCart_156 : decode cX8_goCart 156 = .ok (.goto 4, 3) := by decide +kernel
theorem dX8_goCart_159 : decode cX8_goCart 159 = .ok (.iconst 0, 1) := by decide +kernel
theorem dX8_goCart_160 : decode cX8_goCart 160 = .ok (.ireturn, 1) := by decide +kernel
theorem dX8_goCart_161 : decode cX8_goCart 161 = .ok (.aload_n 0, 1) := by decide +kernel
theorem dX8_goCart_162 : decode cX8_goCart 162 = .ok (.getfield 13, 3) := by decide +kernel
theorem dX8_goCart_165 : decode cX8_goCart 165 = .ok (.iconst 2, 1) := by decide +kernel
theorem dX8_goCart_166 : decode cX8_goCart 166 = .ok (.aload_n 0, 1) := by decide +kernel
theorem dX8_goCart_167 : decode cX8_goCart 167 = .ok (.getfield 79, 3) := by decide +kernel
theorem dX8_goCart_170 : decode cX8_goCart 170 = .ok (.imul, 1) := by decide +kernel
theorem dX8_goCart_171 : decode cX8_goCart 171 = .ok (.iconst 1, 1) := by decide +kernel
theorem dX8_goCart_172 : decode cX8_goCart 172 = .ok (.iadd, 1) := by decide +kernel
theorem dX8_goCart_173 : decode cX8_goCart 173 = .ok (.iload_n 1, 1) := by decide +kernel
theorem dX8_goCart_174 : decode cX8_goCart 174 = .ok (.bipush 48, 2) := by decide +kernel
theorem dX8_goCart_176 : decode cX8_goCart 176 = .ok (.isub, 1) := by decide +kernel
theorem dX8_goCart_177 : decode cX8_goCart 177 = .ok (.iastore, 1) := by decide +kernel
theorem dX8_goCart_178 : decode cX8_goCart 178 = .ok (.aload_n 0, 1) := by decide +kernel
theorem dX8_goCart_179 : decode cX8_goCart 179 = .ok (.dup, 1) := by decide +kernel
theorem dX8_goCart_180 : decode cX8_goCart 180 = .ok (.getfield 79, 3) := by decide +kernel
theorem dX8_goCart_183 : decode cX8_goCart 183 = .ok (.iconst 1, 1) := by decide +kernel
theorem dX8_goCart_184 : decode cX8_goCart 184 = .ok (.iadd, 1) := by decide +kernel
theorem dX8_goCart_185 : decode cX8_goCart 185 = .ok (.putfield 79, 3) := by decide +kernel
theorem dX8_goCart_188 : decode cX8_goCart 188 = .ok (.aload_n 0, 1) := by decide +kernel
theorem dX8_goCart_189 : decode cX8_goCart 189 = .ok (.iconst 3, 1) := by decide +kernel
theorem dX8_goCart_190 : decode cX8_goCart 190 = .ok (.putfield 82, 3) := by decide +kernel
theorem dX8_goCart_193 : decode cX8_goCart 193 = .ok (.iload_n 1, 1) := by decide +kernel
theorem dX8_goCart_194 : decode cX8_goCart 194 = .ok (.i2l, 1) := by decide +kernel
theorem dX8_goCart_195 : decode cX8_goCart 195 = .ok (.ldc2_w 97, 3) := by decide +kernel
theorem dX8_goCart_198 : decode cX8_goCart 198 = .ok (.ldc2_w 87, 3) := by decide +kernel
theorem dX8_goCart_201 : decode cX8_goCart 201 = .ok (.invokestatic 89, 3) := by decide +kernel
theorem dX8_goCart_204 : decode cX8_goCart 204 = .ok (.ireturn, 1) := by decide +kernel
theorem dX8_faultOf_0 : decode cX8_faultOf 0 = .ok (.aload_n 0, 1) := by decide +kernel
theorem dX8_faultOf_1 : decode cX8_faultOf 1 = .ok (.iconst 0, 1) := by decide +kernel
theorem dX8_faultOf_2 : decode cX8_faultOf 2 = .ok (.putfield 82, 3) := by decide +kernel
theorem dX8_faultOf_5 : decode cX8_faultOf 5 = .ok (.aload_n 0, 1) := by decide +kernel
theorem dX8_faultOf_6 : decode cX8_faultOf 6 = .ok (.iconst 0, 1) := by decide +kernel
theorem dX8_faultOf_7 : decode cX8_faultOf 7 = .ok (.putfield 79, 3) := by decide +kernel
theorem dX8_faultOf_10 : decode cX8_faultOf 10 = .ok (.iconst 0, 1) := by decide +kernel
theorem dX8_faultOf_11 : decode cX8_faultOf 11 = .ok (.istore_n 2, 1) := by decide +kernel
theorem dX8_faultOf_12 : decode cX8_faultOf 12 = .ok (.iload_n 2, 1) := by decide +kernel
theorem dX8_faultOf_13 : decode cX8_faultOf 13 = .ok (.aload_n 0, 1) := by decide +kernel
theorem dX8_faultOf_14 : decode cX8_faultOf 14 = .ok (.getfield 76, 3) := by decide +kernel
theorem dX8_faultOf_17 : decode cX8_faultOf 17 = .ok (.if_icmp .ge 42, 3) := by decide +kernel
theorem dX8_faultOf_20 : decode cX8_faultOf 20 = .ok (.iload_n 1, 1) := by decide +kernel
theorem dX8_faultOf_21 : decode cX8_faultOf 21 = .ok (.ifCond .ne 19, 3) := by decide +kernel
theorem dX8_faultOf_24 : decode cX8_faultOf 24 = .ok (.aload_n 0, 1) := by decide +kernel
theorem dX8_faultOf_25 : decode cX8_faultOf 25 = .ok (.aload_n 0, 1) := by decide +kernel
theorem dX8_faultOf_26 : decode cX8_faultOf 26 = .ok (.getfield 7, 3) := by decide +kernel
theorem dX8_faultOf_29 : decode cX8_faultOf 29 = .ok (.iload_n 2, 1) := by decide +kernel
theorem dX8_faultOf_30 : decode cX8_faultOf 30 = .ok (.iaload, 1) := by decide +kernel
theorem dX8_faultOf_31 : decode cX8_faultOf 31 = .ok (.invokevirtual 106, 3) := by decide +kernel
theorem dX8_faultOf_34 : decode cX8_faultOf 34 = .ok (.ifCond .eq 25, 3) := by decide +kernel
theorem dX8_faultOf_37 : decode cX8_faultOf 37 = .ok (.goto 16, 3) := by decide +kernel
theorem dX8_faultOf_40 : decode cX8_faultOf 40 = .ok (.aload_n 0, 1) := by decide +kernel
theorem dX8_faultOf_41 : decode cX8_faultOf 41 = .ok (.aload_n 0, 1) := by decide +kernel
theorem dX8_faultOf_42 : decode cX8_faultOf 42 = .ok (.getfield 7, 3) := by decide +kernel
theorem dX8_faultOf_45 : decode cX8_faultOf 45 = .ok (.iload_n 2, 1) := by decide +kernel
theorem dX8_faultOf_46 : decode cX8_faultOf 46 = .ok (.iaload, 1) := by decide +kernel
theorem dX8_faultOf_47 : decode cX8_faultOf 47 = .ok (.invokevirtual 110, 3) := by decide +kernel
theorem dX8_faultOf_50 : decode cX8_faultOf 50 = .ok (.ifCond .eq 9, 3) := by decide +kernel
theorem dX8_faultOf_53 : decode cX8_faultOf 53 = .ok (.iinc 2 1, 3) := by decide +kernel
theorem dX8_faultOf_56 : decode cX8_faultOf 56 = .ok (.goto (-44), 3) := by decide +kernel
theorem dX8_faultOf_59 : decode cX8_faultOf 59 = .ok (.iload_n 2, 1) := by decide +kernel
theorem dX8_faultOf_60 : decode cX8_faultOf 60 = .ok (.ireturn, 1) := by decide +kernel
theorem dX8_fault_0 : decode cX8_fault 0 = .ok (.iload_n 1, 1) := by decide +kernel
theorem dX8_fault_1 : decode cX8_fault 1 = .ok (.i2l, 1) := by decide +kernel
theorem dX8_fault_2 : decode cX8_fault 2 = .ok (.lconst 0, 1) := by decide +kernel
theorem dX8_fault_3 : decode cX8_fault 3 = .ok (.lconst 1, 1) := by decide +kernel
theorem dX8_fault_4 : decode cX8_fault 4 = .ok (.invokestatic 89, 3) := by decide +kernel
theorem dX8_fault_7 : decode cX8_fault 7 = .ok (.ifCond .eq 11, 3) := by decide +kernel
theorem dX8_fault_10 : decode cX8_fault 10 = .ok (.aload_n 0, 1) := by decide +kernel
theorem dX8_fault_11 : decode cX8_fault 11 = .ok (.iload_n 1, 1) := by decide +kernel
theorem dX8_fault_12 : decode cX8_fault 12 = .ok (.invokevirtual 113, 3) := by decide +kernel
theorem dX8_fault_15 : decode cX8_fault 15 = .ok (.goto 5, 3) := by decide +kernel
theorem dX8_fault_18 : decode cX8_fault 18 = .ok (.bipush (-102), 2) := by decide +kernel
theorem dX8_fault_20 : decode cX8_fault 20 = .ok (.ireturn, 1) := by decide +kernel
theorem dX8_hill_0 : decode cX8_hill 0 = .ok (.aload_n 0, 1) := by decide +kernel
theorem dX8_hill_1 : decode cX8_hill 1 = .ok (.iconst 0, 1) := by decide +kernel
theorem dX8_hill_2 : decode cX8_hill 2 = .ok (.invokevirtual 113, 3) := by decide +kernel
theorem dX8_hill_5 : decode cX8_hill 5 = .ok (.aload_n 0, 1) := by decide +kernel
theorem dX8_hill_6 : decode cX8_hill 6 = .ok (.getfield 76, 3) := by decide +kernel
theorem dX8_hill_9 : decode cX8_hill 9 = .ok (.if_icmp .lt 27, 3) := by decide +kernel
theorem dX8_hill_12 : decode cX8_hill 12 = .ok (.aload_n 0, 1) := by decide +kernel
theorem dX8_hill_13 : decode cX8_hill 13 = .ok (.getfield 82, 3) := by decide +kernel
theorem dX8_hill_16 : decode cX8_hill 16 = .ok (.iconst 1, 1) := by decide +kernel
theorem dX8_hill_17 : decode cX8_hill 17 = .ok (.if_icmp .eq 11, 3) := by decide +kernel
theorem dX8_hill_20 : decode cX8_hill 20 = .ok (.aload_n 0, 1) := by decide +kernel
theorem dX8_hill_21 : decode cX8_hill 21 = .ok (.getfield 82, 3) := by decide +kernel
theorem dX8_hill_24 : decode cX8_hill 24 = .ok (.iconst 3, 1) := by decide +kernel
theorem dX8_hill_25 : decode cX8_hill 25 = .ok (.if_icmp .ne 11, 3) := by decide +kernel
theorem dX8_hill_28 : decode cX8_hill 28 = .ok (.aload_n 0, 1) := by decide +kernel
theorem dX8_hill_29 : decode cX8_hill 29 = .ok (.getfield 79, 3) := by decide +kernel
theorem dX8_hill_32 : decode cX8_hill 32 = .ok (.iconst 1, 1) := by decide +kernel
theorem dX8_hill_33 : decode cX8_hill 33 = .ok (.if_icmp .ge 6, 3) := by decide +kernel
theorem dX8_hill_36 : decode cX8_hill 36 = .ok (.bipush (-103), 2) := by decide +kernel
theorem dX8_hill_38 : decode cX8_hill 38 = .ok (.ireturn, 1) := by decide +kernel
theorem dX8_hill_39 : decode cX8_hill 39 = .ok (.aload_n 0, 1) := by decide +kernel
theorem dX8_hill_40 : decode cX8_hill 40 = .ok (.aload_n 0, 1) := by decide +kernel
theorem dX8_hill_41 : decode cX8_hill 41 = .ok (.getfield 79, 3) := by decide +kernel
theorem dX8_hill_44 : decode cX8_hill 44 = .ok (.iconst 1, 1) := by decide +kernel
theorem dX8_hill_45 : decode cX8_hill 45 = .ok (.iadd, 1) := by decide +kernel
theorem dX8_hill_46 : decode cX8_hill 46 = .ok (.putfield 116, 3) := by decide +kernel
theorem dX8_hill_49 : decode cX8_hill 49 = .ok (.iconst 0, 1) := by decide +kernel
theorem dX8_hill_50 : decode cX8_hill 50 = .ok (.istore_n 1, 1) := by decide +kernel
theorem dX8_hill_51 : decode cX8_hill 51 = .ok (.iload_n 1, 1) := by decide +kernel
theorem dX8_hill_52 : decode cX8_hill 52 = .ok (.aload_n 0, 1) := by decide +kernel
theorem dX8_hill_53 : decode cX8_hill 53 = .ok (.getfield 116, 3) := by decide +kernel
theorem dX8_hill_56 : decode cX8_hill 56 = .ok (.if_icmp .ge 62, 3) := by decide +kernel
theorem dX8_hill_59 : decode cX8_hill 59 = .ok (.aload_n 0, 1) := by decide +kernel
theorem dX8_hill_60 : decode cX8_hill 60 = .ok (.getfield 16, 3) := by decide +kernel
theorem dX8_hill_63 : decode cX8_hill 63 = .ok (.iload_n 1, 1) := by decide +kernel
theorem dX8_hill_64 : decode cX8_hill 64 = .ok (.aload_n 0, 1) := by decide +kernel
theorem dX8_hill_65 : decode cX8_hill 65 = .ok (.getfield 13, 3) := by decide +kernel
theorem dX8_hill_68 : decode cX8_hill 68 = .ok (.iconst 3, 1) := by decide +kernel
theorem dX8_hill_69 : decode cX8_hill 69 = .ok (.iload_n 1, 1) := by decide +kernel
theorem dX8_hill_70 : decode cX8_hill 70 = .ok (.imul, 1) := by decide +kernel
theorem dX8_hill_71 : decode cX8_hill 71 = .ok (.iaload, 1) := by decide +kernel
theorem dX8_hill_72 : decode cX8_hill 72 = .ok (.iastore, 1) := by decide +kernel
theorem dX8_hill_73 : decode cX8_hill 73 = .ok (.aload_n 0, 1) := by decide +kernel
theorem dX8_hill_74 : decode cX8_hill 74 = .ok (.getfield 19, 3) := by decide +kernel
theorem dX8_hill_77 : decode cX8_hill 77 = .ok (.iload_n 1, 1) := by decide +kernel
theorem dX8_hill_78 : decode cX8_hill 78 = .ok (.aload_n 0, 1) := by decide +kernel
theorem dX8_hill_79 : decode cX8_hill 79 = .ok (.getfield 13, 3) := by decide +kernel
theorem dX8_hill_82 : decode cX8_hill 82 = .ok (.iconst 3, 1) := by decide +kernel
theorem dX8_hill_83 : decode cX8_hill 83 = .ok (.iload_n 1, 1) := by decide +kernel
theorem dX8_hill_84 : decode cX8_hill 84 = .ok (.imul, 1) := by decide +kernel
theorem dX8_hill_85 : decode cX8_hill 85 = .ok (.iconst 1, 1) := by decide +kernel
theorem dX8_hill_86 : decode cX8_hill 86 = .ok (.iadd, 1) := by decide +kernel
theorem dX8_hill_87 : decode cX8_hill 87 = .ok (.iaload, 1) := by decide +kernel
theorem dX8_hill_88 : decode cX8_hill 88 = .ok (.iastore, 1) := by decide +kernel
theorem dX8_hill_89 : decode cX8_hill 89 = .ok (.aload_n 0, 1) := by decide +kernel
theorem dX8_hill_90 : decode cX8_hill 90 = .ok (.getfield 22, 3) := by decide +kernel
theorem dX8_hill_93 : decode cX8_hill 93 = .ok (.iload_n 1, 1) := by decide +kernel
theorem dX8_hill_94 : decode cX8_hill 94 = .ok (.aload_n 0, 1) := by decide +kernel
theorem dX8_hill_95 : decode cX8_hill 95 = .ok (.getfield 13, 3) := by decide +kernel
theorem dX8_hill_98 : decode cX8_hill 98 = .ok (.iconst 3, 1) := by decide +kernel
theorem dX8_hill_99 : decode cX8_hill 99 = .ok (.iload_n 1, 1) := by decide +kernel
theorem dX8_hill_100 : decode cX8_hill 100 = .ok (.imul, 1) := by decide +kernel
theorem dX8_hill_101 : decode cX8_hill 101 = .ok (.iconst 2, 1) := by decide +kernel
theorem dX8_hill_102 : decode cX8_hill 102 = .ok (.iadd, 1) := by decide +kernel
theorem dX8_hill_103 : decode cX8_hill 103 = .ok (.iaload, 1) := by decide +kernel
theorem dX8_hill_104 : decode cX8_hill 104 = .ok (.iastore, 1) := by decide +kernel
theorem dX8_hill_105 : decode cX8_hill 105 = .ok (.aload_n 0, 1) := by decide +kernel
theorem dX8_hill_106 : decode cX8_hill 106 = .ok (.getfield 25, 3) := by decide +kernel
theorem dX8_hill_109 : decode cX8_hill 109 = .ok (.iload_n 1, 1) := by decide +kernel
theorem dX8_hill_110 : decode cX8_hill 110 = .ok (.iconst 0, 1) := by decide +kernel
theorem dX8_hill_111 : decode cX8_hill 111 = .ok (.iastore, 1) := by decide +kernel
theorem dX8_hill_112 : decode cX8_hill 112 = .ok (.iinc 1 1, 3) := by decide +kernel
theorem dX8_hill_115 : decode cX8_hill 115 = .ok (.goto (-64), 3) := by decide +kernel
theorem dX8_hill_118 : decode cX8_hill 118 = .ok (.aload_n 0, 1) := by decide +kernel
theorem dX8_hill_119 : decode cX8_hill 119 = .ok (.dup, 1) := by decide +kernel
theorem dX8_hill_120 : decode cX8_hill 120 = .ok (.getfield 119, 3) := by decide +kernel
theorem dX8_hill_123 : decode cX8_hill 123 = .ok (.iconst 1, 1) := by decide +kernel
theorem dX8_hill_124 : decode cX8_hill 124 = .ok (.iadd, 1) := by decide +kernel
theorem dX8_hill_125 : decode cX8_hill 125 = .ok (.putfield 119, 3) := by decide +kernel
theorem dX8_hill_128 : decode cX8_hill 128 = .ok (.aload_n 0, 1) := by decide +kernel
theorem dX8_hill_129 : decode cX8_hill 129 = .ok (.iconst 0, 1) := by decide +kernel
theorem dX8_hill_130 : decode cX8_hill 130 = .ok (.putfield 76, 3) := by decide +kernel
theorem dX8_hill_133 : decode cX8_hill 133 = .ok (.aload_n 0, 1) := by decide +kernel
theorem dX8_hill_134 : decode cX8_hill 134 = .ok (.getfield 116, 3) := by decide +kernel
theorem dX8_hill_137 : decode cX8_hill 137 = .ok (.ireturn, 1) := by decide +kernel
theorem dX8_cart_0 : decode cX8_cart 0 = .ok (.aload_n 0, 1) := by decide +kernel
theorem dX8_cart_1 : decode cX8_cart 1 = .ok (.iconst 1, 1) := by decide +kernel
theorem dX8_cart_2 : decode cX8_cart 2 = .ok (.invokevirtual 113, 3) := by decide +kernel
theorem dX8_cart_5 : decode cX8_cart 5 = .ok (.aload_n 0, 1) := by decide +kernel
theorem dX8_cart_6 : decode cX8_cart 6 = .ok (.getfield 76, 3) := by decide +kernel
theorem dX8_cart_9 : decode cX8_cart 9 = .ok (.if_icmp .lt 11, 3) := by decide +kernel
theorem dX8_cart_12 : decode cX8_cart 12 = .ok (.aload_n 0, 1) := by decide +kernel
theorem dX8_cart_13 : decode cX8_cart 13 = .ok (.getfield 82, 3) := by decide +kernel
theorem dX8_cart_16 : decode cX8_cart 16 = .ok (.iconst 3, 1) := by decide +kernel
theorem dX8_cart_17 : decode cX8_cart 17 = .ok (.if_icmp .eq 6, 3) := by decide +kernel
theorem dX8_cart_20 : decode cX8_cart 20 = .ok (.bipush (-103), 2) := by decide +kernel
theorem dX8_cart_22 : decode cX8_cart 22 = .ok (.ireturn, 1) := by decide +kernel
theorem dX8_cart_23 : decode cX8_cart 23 = .ok (.aload_n 0, 1) := by decide +kernel
theorem dX8_cart_24 : decode cX8_cart 24 = .ok (.getfield 122, 3) := by decide +kernel
theorem dX8_cart_27 : decode cX8_cart 27 = .ok (.bipush 8, 2) := by decide +kernel
theorem dX8_cart_29 : decode cX8_cart 29 = .ok (.if_icmp .ne 6, 3) := by decide +kernel
theorem dX8_cart_32 : decode cX8_cart 32 = .ok (.bipush (-104), 2) := by decide +kernel
theorem dX8_cart_34 : decode cX8_cart 34 = .ok (.ireturn, 1) := by decide +kernel
theorem dX8_cart_35 : decode cX8_cart 35 = .ok (.aload_n 0, 1) := by decide +kernel
theorem dX8_cart_36 : decode cX8_cart 36 = .ok (.getfield 28, 3) := by decide +kernel
theorem dX8_cart_39 : decode cX8_cart 39 = .ok (.aload_n 0, 1) := by decide +kernel
theorem dX8_cart_40 : decode cX8_cart 40 = .ok (.getfield 122, 3) := by decide +kernel
theorem dX8_cart_43 : decode cX8_cart 43 = .ok (.aload_n 0, 1) := by decide +kernel
theorem dX8_cart_44 : decode cX8_cart 44 = .ok (.getfield 99, 3) := by decide +kernel
theorem dX8_cart_47 : decode cX8_cart 47 = .ok (.iastore, 1) := by decide +kernel
theorem dX8_cart_48 : decode cX8_cart 48 = .ok (.aload_n 0, 1) := by decide +kernel
theorem dX8_cart_49 : decode cX8_cart 49 = .ok (.getfield 31, 3) := by decide +kernel
theorem dX8_cart_52 : decode cX8_cart 52 = .ok (.aload_n 0, 1) := by decide +kernel
theorem dX8_cart_53 : decode cX8_cart 53 = .ok (.getfield 122, 3) := by decide +kernel
theorem dX8_cart_56 : decode cX8_cart 56 = .ok (.aload_n 0, 1) := by decide +kernel
theorem dX8_cart_57 : decode cX8_cart 57 = .ok (.getfield 79, 3) := by decide +kernel
theorem dX8_cart_60 : decode cX8_cart 60 = .ok (.iastore, 1) := by decide +kernel
end
section
theorem dX8_cart_61 : decode cX8_cart 61 = .ok (.iconst 0, 1) := by decide +kernel
theorem dX8_cart_62 : decode cX8_cart 62 = .ok (.istore_n 1, 1) := by decide +kernel
theorem dX8_cart_63 : decode cX8_cart 63 = .ok (.iload_n 1, 1) := by decide +kernel
theorem dX8_cart_64 : decode cX8_cart 64 = .ok (.bipush 10, 2) := by decide +kernel
theorem dX8_cart_66 : decode cX8_cart 66 = .ok (.if_icmp .ge 29, 3) := by decide +kernel
theorem dX8_cart_69 : decode cX8_cart 69 = .ok (.aload_n 0, 1) := by decide +kernel
theorem dX8_cart_70 : decode cX8_cart 70 = .ok (.getfield 34, 3) := by decide +kernel
theorem dX8_cart_73 : decode cX8_cart 73 = .ok (.bipush 10, 2) := by decide +kernel
theorem dX8_cart_75 : decode cX8_cart 75 = .ok (.aload_n 0, 1) := by decide +kernel
theorem dX8_cart_76 : decode cX8_cart 76 = .ok (.getfield 122, 3) := by decide +kernel
theorem dX8_cart_79 : decode cX8_cart 79 = .ok (.imul, 1) := by decide +kernel
theorem dX8_cart_80 : decode cX8_cart 80 = .ok (.iload_n 1, 1) := by decide +kernel
theorem dX8_cart_81 : decode cX8_cart 81 = .ok (.iadd, 1) := by decide +kernel
theorem dX8_cart_82 : decode cX8_cart 82 = .ok (.aload_n 0, 1) := by decide +kernel
theorem dX8_cart_83 : decode cX8_cart 83 = .ok (.getfield 13, 3) := by decide +kernel
theorem dX8_cart_86 : decode cX8_cart 86 = .ok (.iload_n 1, 1) := by decide +kernel
theorem dX8_cart_87 : decode cX8_cart 87 = .ok (.iaload, 1) := by decide +kernel
theorem dX8_cart_88 : decode cX8_cart 88 = .ok (.iastore, 1) := by decide +kernel
theorem dX8_cart_89 : decode cX8_cart 89 = .ok (.iinc 1 1, 3) := by decide +kernel
theorem dX8_cart_92 : decode cX8_cart 92 = .ok (.goto (-29), 3) := by decide +kernel
theorem dX8_cart_95 : decode cX8_cart 95 = .ok (.aload_n 0, 1) := by decide +kernel
theorem dX8_cart_96 : decode cX8_cart 96 = .ok (.dup, 1) := by decide +kernel
theorem dX8_cart_97 : decode cX8_cart 97 = .ok (.getfield 122, 3) := by decide +kernel
theorem dX8_cart_100 : decode cX8_cart 100 = .ok (.iconst 1, 1) := by decide +kernel
theorem dX8_cart_101 : decode cX8_cart 101 = .ok (.iadd, 1) := by decide +kernel
theorem dX8_cart_102 : decode cX8_cart 102 = .ok (.putfield 122, 3) := by decide +kernel
theorem dX8_cart_105 : decode cX8_cart 105 = .ok (.aload_n 0, 1) := by decide +kernel
theorem dX8_cart_106 : decode cX8_cart 106 = .ok (.iconst 0, 1) := by decide +kernel
theorem dX8_cart_107 : decode cX8_cart 107 = .ok (.putfield 76, 3) := by decide +kernel
theorem dX8_cart_110 : decode cX8_cart 110 = .ok (.aload_n 0, 1) := by decide +kernel
theorem dX8_cart_111 : decode cX8_cart 111 = .ok (.getfield 122, 3) := by decide +kernel
theorem dX8_cart_114 : decode cX8_cart 114 = .ok (.iconst 1, 1) := by decide +kernel
theorem dX8_cart_115 : decode cX8_cart 115 = .ok (.isub, 1) := by decide +kernel
theorem dX8_cart_116 : decode cX8_cart 116 = .ok (.ireturn, 1) := by decide +kernel
theorem dX8_isCell_0 : decode cX8_isCell 0 = .ok (.iload_n 1, 1) := by decide +kernel
theorem dX8_isCell_1 : decode cX8_isCell 1 = .ok (.i2l, 1) := by decide +kernel
theorem dX8_isCell_2 : decode cX8_isCell 2 = .ok (.lconst 0, 1) := by decide +kernel
theorem dX8_isCell_3 : decode cX8_isCell 3 = .ok (.aload_n 0, 1) := by decide +kernel
theorem dX8_isCell_4 : decode cX8_isCell 4 = .ok (.getfield 116, 3) := by decide +kernel
theorem dX8_isCell_7 : decode cX8_isCell 7 = .ok (.iconst 1, 1) := by decide +kernel
theorem dX8_isCell_8 : decode cX8_isCell 8 = .ok (.isub, 1) := by decide +kernel
theorem dX8_isCell_9 : decode cX8_isCell 9 = .ok (.i2l, 1) := by decide +kernel
theorem dX8_isCell_10 : decode cX8_isCell 10 = .ok (.invokestatic 89, 3) := by decide +kernel
theorem dX8_isCell_13 : decode cX8_isCell 13 = .ok (.ireturn, 1) := by decide +kernel
theorem dX8_isCart_0 : decode cX8_isCart 0 = .ok (.iload_n 1, 1) := by decide +kernel
theorem dX8_isCart_1 : decode cX8_isCart 1 = .ok (.i2l, 1) := by decide +kernel
theorem dX8_isCart_2 : decode cX8_isCart 2 = .ok (.lconst 0, 1) := by decide +kernel
theorem dX8_isCart_3 : decode cX8_isCart 3 = .ok (.aload_n 0, 1) := by decide +kernel
theorem dX8_isCart_4 : decode cX8_isCart 4 = .ok (.getfield 122, 3) := by decide +kernel
theorem dX8_isCart_7 : decode cX8_isCart 7 = .ok (.iconst 1, 1) := by decide +kernel
theorem dX8_isCart_8 : decode cX8_isCart 8 = .ok (.isub, 1) := by decide +kernel
theorem dX8_isCart_9 : decode cX8_isCart 9 = .ok (.i2l, 1) := by decide +kernel
theorem dX8_isCart_10 : decode cX8_isCart 10 = .ok (.invokestatic 89, 3) := by decide +kernel
theorem dX8_isCart_13 : decode cX8_isCart 13 = .ok (.ireturn, 1) := by decide +kernel
theorem dX8_cellOf_0 : decode cX8_cellOf 0 = .ok (.iload_n 2, 1) := by decide +kernel
theorem dX8_cellOf_1 : decode cX8_cellOf 1 = .ok (.tableswitch 59 0 3 #[31, 38, 45, 52], 31) := by decide +kernel
theorem dX8_cellOf_32 : decode cX8_cellOf 32 = .ok (.aload_n 0, 1) := by decide +kernel
theorem dX8_cellOf_33 : decode cX8_cellOf 33 = .ok (.getfield 16, 3) := by decide +kernel
theorem dX8_cellOf_36 : decode cX8_cellOf 36 = .ok (.iload_n 1, 1) := by decide +kernel
theorem dX8_cellOf_37 : decode cX8_cellOf 37 = .ok (.iaload, 1) := by decide +kernel
theorem dX8_cellOf_38 : decode cX8_cellOf 38 = .ok (.ireturn, 1) := by decide +kernel
theorem dX8_cellOf_39 : decode cX8_cellOf 39 = .ok (.aload_n 0, 1) := by decide +kernel
theorem dX8_cellOf_40 : decode cX8_cellOf 40 = .ok (.getfield 19, 3) := by decide +kernel
theorem dX8_cellOf_43 : decode cX8_cellOf 43 = .ok (.iload_n 1, 1) := by decide +kernel
theorem dX8_cellOf_44 : decode cX8_cellOf 44 = .ok (.iaload, 1) := by decide +kernel
theorem dX8_cellOf_45 : decode cX8_cellOf 45 = .ok (.ireturn, 1) := by decide +kernel
theorem dX8_cellOf_46 : decode cX8_cellOf 46 = .ok (.aload_n 0, 1) := by decide +kernel
theorem dX8_cellOf_47 : decode cX8_cellOf 47 = .ok (.getfield 22, 3) := by decide +kernel
theorem dX8_cellOf_50 : decode cX8_cellOf 50 = .ok (.iload_n 1, 1) := by decide +kernel
theorem dX8_cellOf_51 : decode cX8_cellOf 51 = .ok (.iaload, 1) := by decide +kernel
theorem dX8_cellOf_52 : decode cX8_cellOf 52 = .ok (.ireturn, 1) := by decide +kernel
theorem dX8_cellOf_53 : decode cX8_cellOf 53 = .ok (.aload_n 0, 1) := by decide +kernel
theorem dX8_cellOf_54 : decode cX8_cellOf 54 = .ok (.getfield 25, 3) := by decide +kernel
theorem dX8_cellOf_57 : decode cX8_cellOf 57 = .ok (.iload_n 1, 1) := by decide +kernel
theorem dX8_cellOf_58 : decode cX8_cellOf 58 = .ok (.iaload, 1) := by decide +kernel
theorem dX8_cellOf_59 : decode cX8_cellOf 59 = .ok (.ireturn, 1) := by decide +kernel
theorem dX8_cellOf_60 : decode cX8_cellOf 60 = .ok (.bipush (-102), 2) := by decide +kernel
theorem dX8_cellOf_62 : decode cX8_cellOf 62 = .ok (.ireturn, 1) := by decide +kernel
theorem dX8_cell_0 : decode cX8_cell 0 = .ok (.aload_n 0, 1) := by decide +kernel
theorem dX8_cell_1 : decode cX8_cell 1 = .ok (.iload_n 1, 1) := by decide +kernel
theorem dX8_cell_2 : decode cX8_cell 2 = .ok (.invokevirtual 125, 3) := by decide +kernel
theorem dX8_cell_5 : decode cX8_cell 5 = .ok (.ifCond .eq 12, 3) := by decide +kernel
theorem dX8_cell_8 : decode cX8_cell 8 = .ok (.aload_n 0, 1) := by decide +kernel
theorem dX8_cell_9 : decode cX8_cell 9 = .ok (.iload_n 1, 1) := by decide +kernel
theorem dX8_cell_10 : decode cX8_cell 10 = .ok (.iload_n 2, 1) := by decide +kernel
theorem dX8_cell_11 : decode cX8_cell 11 = .ok (.invokevirtual 128, 3) := by decide +kernel
theorem dX8_cell_14 : decode cX8_cell 14 = .ok (.goto 5, 3) := by decide +kernel
theorem dX8_cell_17 : decode cX8_cell 17 = .ok (.bipush (-101), 2) := by decide +kernel
theorem dX8_cell_19 : decode cX8_cell 19 = .ok (.ireturn, 1) := by decide +kernel
theorem dX8_about_0 : decode cX8_about 0 = .ok (.aload_n 0, 1) := by decide +kernel
theorem dX8_about_1 : decode cX8_about 1 = .ok (.iload_n 1, 1) := by decide +kernel
theorem dX8_about_2 : decode cX8_about 2 = .ok (.invokevirtual 132, 3) := by decide +kernel
theorem dX8_about_5 : decode cX8_about 5 = .ok (.ifCond .ne 6, 3) := by decide +kernel
theorem dX8_about_8 : decode cX8_about 8 = .ok (.bipush (-101), 2) := by decide +kernel
theorem dX8_about_10 : decode cX8_about 10 = .ok (.ireturn, 1) := by decide +kernel
theorem dX8_about_11 : decode cX8_about 11 = .ok (.iload_n 2, 1) := by decide +kernel
theorem dX8_about_12 : decode cX8_about 12 = .ok (.ifCond .ne 12, 3) := by decide +kernel
theorem dX8_about_15 : decode cX8_about 15 = .ok (.aload_n 0, 1) := by decide +kernel
theorem dX8_about_16 : decode cX8_about 16 = .ok (.getfield 28, 3) := by decide +kernel
theorem dX8_about_19 : decode cX8_about 19 = .ok (.iload_n 1, 1) := by decide +kernel
theorem dX8_about_20 : decode cX8_about 20 = .ok (.iaload, 1) := by decide +kernel
theorem dX8_about_21 : decode cX8_about 21 = .ok (.goto 19, 3) := by decide +kernel
theorem dX8_about_24 : decode cX8_about 24 = .ok (.iload_n 2, 1) := by decide +kernel
theorem dX8_about_25 : decode cX8_about 25 = .ok (.iconst 1, 1) := by decide +kernel
theorem dX8_about_26 : decode cX8_about 26 = .ok (.if_icmp .ne 12, 3) := by decide +kernel
theorem dX8_about_29 : decode cX8_about 29 = .ok (.aload_n 0, 1) := by decide +kernel
theorem dX8_about_30 : decode cX8_about 30 = .ok (.getfield 31, 3) := by decide +kernel
theorem dX8_about_33 : decode cX8_about 33 = .ok (.iload_n 1, 1) := by decide +kernel
theorem dX8_about_34 : decode cX8_about 34 = .ok (.iaload, 1) := by decide +kernel
theorem dX8_about_35 : decode cX8_about 35 = .ok (.goto 5, 3) := by decide +kernel
theorem dX8_about_38 : decode cX8_about 38 = .ok (.bipush (-102), 2) := by decide +kernel
theorem dX8_about_40 : decode cX8_about 40 = .ok (.ireturn, 1) := by decide +kernel
theorem dX8_isLoss_0 : decode cX8_isLoss 0 = .ok (.aload_n 0, 1) := by decide +kernel
theorem dX8_isLoss_1 : decode cX8_isLoss 1 = .ok (.iload_n 1, 1) := by decide +kernel
theorem dX8_isLoss_2 : decode cX8_isLoss 2 = .ok (.invokevirtual 132, 3) := by decide +kernel
theorem dX8_isLoss_5 : decode cX8_isLoss 5 = .ok (.ifCond .eq 25, 3) := by decide +kernel
theorem dX8_isLoss_8 : decode cX8_isLoss 8 = .ok (.iload_n 2, 1) := by decide +kernel
theorem dX8_isLoss_9 : decode cX8_isLoss 9 = .ok (.i2l, 1) := by decide +kernel
theorem dX8_isLoss_10 : decode cX8_isLoss 10 = .ok (.lconst 0, 1) := by decide +kernel
theorem dX8_isLoss_11 : decode cX8_isLoss 11 = .ok (.aload_n 0, 1) := by decide +kernel
theorem dX8_isLoss_12 : decode cX8_isLoss 12 = .ok (.getfield 31, 3) := by decide +kernel
theorem dX8_isLoss_15 : decode cX8_isLoss 15 = .ok (.iload_n 1, 1) := by decide +kernel
theorem dX8_isLoss_16 : decode cX8_isLoss 16 = .ok (.iaload, 1) := by decide +kernel
theorem dX8_isLoss_17 : decode cX8_isLoss 17 = .ok (.iconst 1, 1) := by decide +kernel
theorem dX8_isLoss_18 : decode cX8_isLoss 18 = .ok (.isub, 1) := by decide +kernel
theorem dX8_isLoss_19 : decode cX8_isLoss 19 = .ok (.i2l, 1) := by decide +kernel
theorem dX8_isLoss_20 : decode cX8_isLoss 20 = .ok (.invokestatic 89, 3) := by decide +kernel
theorem dX8_isLoss_23 : decode cX8_isLoss 23 = .ok (.ifCond .eq 7, 3) := by decide +kernel
theorem dX8_isLoss_26 : decode cX8_isLoss 26 = .ok (.iconst 1, 1) := by decide +kernel
theorem dX8_isLoss_27 : decode cX8_isLoss 27 = .ok (.goto 4, 3) := by decide +kernel
theorem dX8_isLoss_30 : decode cX8_isLoss 30 = .ok (.iconst 0, 1) := by decide +kernel
theorem dX8_isLoss_31 : decode cX8_isLoss 31 = .ok (.ireturn, 1) := by decide +kernel
theorem dX8_loss_0 : decode cX8_loss 0 = .ok (.aload_n 0, 1) := by decide +kernel
theorem dX8_loss_1 : decode cX8_loss 1 = .ok (.iload_n 1, 1) := by decide +kernel
theorem dX8_loss_2 : decode cX8_loss 2 = .ok (.iload_n 2, 1) := by decide +kernel
theorem dX8_loss_3 : decode cX8_loss 3 = .ok (.invokevirtual 135, 3) := by decide +kernel
theorem dX8_loss_6 : decode cX8_loss 6 = .ok (.ifCond .ne 6, 3) := by decide +kernel
theorem dX8_loss_9 : decode cX8_loss 9 = .ok (.bipush (-101), 2) := by decide +kernel
theorem dX8_loss_11 : decode cX8_loss 11 = .ok (.ireturn, 1) := by decide +kernel
theorem dX8_loss_12 : decode cX8_loss 12 = .ok (.iload_n 3, 1) := by decide +kernel
theorem dX8_loss_13 : decode cX8_loss 13 = .ok (.i2l, 1) := by decide +kernel
theorem dX8_loss_14 : decode cX8_loss 14 = .ok (.lconst 0, 1) := by decide +kernel
theorem dX8_loss_15 : decode cX8_loss 15 = .ok (.lconst 1, 1) := by decide +kernel
theorem dX8_loss_16 : decode cX8_loss 16 = .ok (.invokestatic 89, 3) := by decide +kernel
theorem dX8_loss_19 : decode cX8_loss 19 = .ok (.ifCond .eq 21, 3) := by decide +kernel
theorem dX8_loss_22 : decode cX8_loss 22 = .ok (.aload_n 0, 1) := by decide +kernel
theorem dX8_loss_23 : decode cX8_loss 23 = .ok (.getfield 34, 3) := by decide +kernel
theorem dX8_loss_26 : decode cX8_loss 26 = .ok (.bipush 10, 2) := by decide +kernel
theorem dX8_loss_28 : decode cX8_loss 28 = .ok (.iload_n 1, 1) := by decide +kernel
theorem dX8_loss_29 : decode cX8_loss 29 = .ok (.imul, 1) := by decide +kernel
theorem dX8_loss_30 : decode cX8_loss 30 = .ok (.iconst 2, 1) := by decide +kernel
theorem dX8_loss_31 : decode cX8_loss 31 = .ok (.iload_n 2, 1) := by decide +kernel
theorem dX8_loss_32 : decode cX8_loss 32 = .ok (.imul, 1) := by decide +kernel
theorem dX8_loss_33 : decode cX8_loss 33 = .ok (.iadd, 1) := by decide +kernel
theorem dX8_loss_34 : decode cX8_loss 34 = .ok (.iload_n 3, 1) := by decide +kernel
theorem dX8_loss_35 : decode cX8_loss 35 = .ok (.iadd, 1) := by decide +kernel
theorem dX8_loss_36 : decode cX8_loss 36 = .ok (.iaload, 1) := by decide +kernel
theorem dX8_loss_37 : decode cX8_loss 37 = .ok (.goto 5, 3) := by decide +kernel
theorem dX8_loss_40 : decode cX8_loss 40 = .ok (.bipush (-102), 2) := by decide +kernel
theorem dX8_loss_42 : decode cX8_loss 42 = .ok (.ireturn, 1) := by decide +kernel
theorem dX8_as_0 : decode cX8_as 0 = .ok (.aload_n 0, 1) := by decide +kernel
theorem dX8_as_1 : decode cX8_as 1 = .ok (.iload_n 1, 1) := by decide +kernel
theorem dX8_as_2 : decode cX8_as 2 = .ok (.iload_n 2, 1) := by decide +kernel
theorem dX8_as_3 : decode cX8_as 3 = .ok (.invokevirtual 135, 3) := by decide +kernel
theorem dX8_as_6 : decode cX8_as 6 = .ok (.ifCond .ne 6, 3) := by decide +kernel
theorem dX8_as_9 : decode cX8_as 9 = .ok (.bipush (-101), 2) := by decide +kernel
theorem dX8_as_11 : decode cX8_as 11 = .ok (.ireturn, 1) := by decide +kernel
theorem dX8_as_12 : decode cX8_as 12 = .ok (.iload_n 3, 1) := by decide +kernel
theorem dX8_as_13 : decode cX8_as 13 = .ok (.i2l, 1) := by decide +kernel
theorem dX8_as_14 : decode cX8_as 14 = .ok (.lconst 0, 1) := by decide +kernel
theorem dX8_as_15 : decode cX8_as 15 = .ok (.ldc2_w 138, 3) := by decide +kernel
theorem dX8_as_18 : decode cX8_as 18 = .ok (.invokestatic 89, 3) := by decide +kernel
theorem dX8_as_21 : decode cX8_as 21 = .ok (.ifCond .ne 6, 3) := by decide +kernel
theorem dX8_as_24 : decode cX8_as 24 = .ok (.bipush (-102), 2) := by decide +kernel
theorem dX8_as_26 : decode cX8_as 26 = .ok (.ireturn, 1) := by decide +kernel
theorem dX8_as_27 : decode cX8_as 27 = .ok (.aload_n 0, 1) := by decide +kernel
theorem dX8_as_28 : decode cX8_as 28 = .ok (.getfield 34, 3) := by decide +kernel
theorem dX8_as_31 : decode cX8_as 31 = .ok (.bipush 10, 2) := by decide +kernel
theorem dX8_as_33 : decode cX8_as 33 = .ok (.iload_n 1, 1) := by decide +kernel
theorem dX8_as_34 : decode cX8_as 34 = .ok (.imul, 1) := by decide +kernel
theorem dX8_as_35 : decode cX8_as 35 = .ok (.iconst 2, 1) := by decide +kernel
theorem dX8_as_36 : decode cX8_as 36 = .ok (.iload_n 2, 1) := by decide +kernel
theorem dX8_as_37 : decode cX8_as 37 = .ok (.imul, 1) := by decide +kernel
theorem dX8_as_38 : decode cX8_as 38 = .ok (.iadd, 1) := by decide +kernel
theorem dX8_as_39 : decode cX8_as 39 = .ok (.iaload, 1) := by decide +kernel
theorem dX8_as_40 : decode cX8_as 40 = .ok (.istore 4, 2) := by decide +kernel
theorem dX8_as_42 : decode cX8_as 42 = .ok (.iload_n 3, 1) := by decide +kernel
theorem dX8_as_43 : decode cX8_as 43 = .ok (.ifCond .eq 20, 3) := by decide +kernel
theorem dX8_as_46 : decode cX8_as 46 = .ok (.iload_n 3, 1) := by decide +kernel
theorem dX8_as_47 : decode cX8_as 47 = .ok (.iload 4, 2) := by decide +kernel
theorem dX8_as_49 : decode cX8_as 49 = .ok (.if_icmp .eq 14, 3) := by decide +kernel
theorem dX8_as_52 : decode cX8_as 52 = .ok (.iload_n 3, 1) := by decide +kernel
theorem dX8_as_53 : decode cX8_as 53 = .ok (.iconst 1, 1) := by decide +kernel
theorem dX8_as_54 : decode cX8_as 54 = .ok (.if_icmp .ne 13, 3) := by decide +kernel
theorem dX8_as_57 : decode cX8_as 57 = .ok (.iload 4, 2) := by decide +kernel
theorem dX8_as_59 : decode cX8_as 59 = .ok (.iconst 2, 1) := by decide +kernel
theorem dX8_as_60 : decode cX8_as 60 = .ok (.if_icmp .ne 7, 3) := by decide +kernel
theorem dX8_as_63 : decode cX8_as 63 = .ok (.iconst 1, 1) := by decide +kernel
theorem dX8_as_64 : decode cX8_as 64 = .ok (.goto 4, 3) := by decide +kernel
theorem dX8_as_67 : decode cX8_as 67 = .ok (.iconst 0, 1) := by decide +kernel
theorem dX8_as_68 : decode cX8_as 68 = .ok (.istore 5, 2) := by decide +kernel
theorem dX8_as_70 : decode cX8_as 70 = .ok (.iload 5, 2) := by decide +kernel
theorem dX8_as_72 : decode cX8_as 72 = .ok (.ifCond .eq 7, 3) := by decide +kernel
theorem dX8_as_75 : decode cX8_as 75 = .ok (.iload_n 2, 1) := by decide +kernel
theorem dX8_as_76 : decode cX8_as 76 = .ok (.goto 4, 3) := by decide +kernel
theorem dX8_as_79 : decode cX8_as 79 = .ok (.iconst (-1), 1) := by decide +kernel
theorem dX8_as_80 : decode cX8_as 80 = .ok (.ireturn, 1) := by decide +kernel
theorem dX8_weigh_0 : decode cX8_weigh 0 = .ok (.aload_n 0, 1) := by decide +kernel
theorem dX8_weigh_1 : decode cX8_weigh 1 = .ok (.iload_n 1, 1) := by decide +kernel
theorem dX8_weigh_2 : decode cX8_weigh 2 = .ok (.invokevirtual 132, 3) := by decide +kernel
theorem dX8_weigh_5 : decode cX8_weigh 5 = .ok (.ifCond .ne 6, 3) := by decide +kernel
theorem dX8_weigh_8 : decode cX8_weigh 8 = .ok (.bipush (-101), 2) := by decide +kernel
theorem dX8_weigh_10 : decode cX8_weigh 10 = .ok (.ireturn, 1) := by decide +kernel
theorem dX8_weigh_11 : decode cX8_weigh 11 = .ok (.iload_n 2, 1) := by decide +kernel
theorem dX8_weigh_12 : decode cX8_weigh 12 = .ok (.i2l, 1) := by decide +kernel
theorem dX8_weigh_13 : decode cX8_weigh 13 = .ok (.ldc2_w 140, 3) := by decide +kernel
theorem dX8_weigh_16 : decode cX8_weigh 16 = .ok (.ldc2_w 142, 3) := by decide +kernel
theorem dX8_weigh_19 : decode cX8_weigh 19 = .ok (.invokestatic 89, 3) := by decide +kernel
theorem dX8_weigh_22 : decode cX8_weigh 22 = .ok (.ifCond .ne 6, 3) := by decide +kernel
theorem dX8_weigh_25 : decode cX8_weigh 25 = .ok (.bipush (-102), 2) := by decide +kernel
theorem dX8_weigh_27 : decode cX8_weigh 27 = .ok (.ireturn, 1) := by decide +kernel
theorem dX8_weigh_28 : decode cX8_weigh 28 = .ok (.aload_n 0, 1) := by decide +kernel
theorem dX8_weigh_29 : decode cX8_weigh 29 = .ok (.getfield 28, 3) := by decide +kernel
theorem dX8_weigh_32 : decode cX8_weigh 32 = .ok (.iload_n 1, 1) := by decide +kernel
theorem dX8_weigh_33 : decode cX8_weigh 33 = .ok (.iaload, 1) := by decide +kernel
theorem dX8_weigh_34 : decode cX8_weigh 34 = .ok (.istore_n 3, 1) := by decide +kernel
theorem dX8_weigh_35 : decode cX8_weigh 35 = .ok (.aload_n 0, 1) := by decide +kernel
theorem dX8_weigh_36 : decode cX8_weigh 36 = .ok (.getfield 28, 3) := by decide +kernel
theorem dX8_weigh_39 : decode cX8_weigh 39 = .ok (.iload_n 1, 1) := by decide +kernel
theorem dX8_weigh_40 : decode cX8_weigh 40 = .ok (.iload_n 2, 1) := by decide +kernel
theorem dX8_weigh_41 : decode cX8_weigh 41 = .ok (.iastore, 1) := by decide +kernel
theorem dX8_weigh_42 : decode cX8_weigh 42 = .ok (.iload_n 3, 1) := by decide +kernel
theorem dX8_weigh_43 : decode cX8_weigh 43 = .ok (.ireturn, 1) := by decide +kernel
theorem dX8_grip_0 : decode cX8_grip 0 = .ok (.iload_n 1, 1) := by decide +kernel
theorem dX8_grip_1 : decode cX8_grip 1 = .ok (.i2l, 1) := by decide +kernel
theorem dX8_grip_2 : decode cX8_grip 2 = .ok (.lconst 1, 1) := by decide +kernel
theorem dX8_grip_3 : decode cX8_grip 3 = .ok (.ldc2_w 142, 3) := by decide +kernel
theorem dX8_grip_6 : decode cX8_grip 6 = .ok (.invokestatic 89, 3) := by decide +kernel
theorem dX8_grip_9 : decode cX8_grip 9 = .ok (.ifCond .ne 6, 3) := by decide +kernel
theorem dX8_grip_12 : decode cX8_grip 12 = .ok (.bipush (-102), 2) := by decide +kernel
theorem dX8_grip_14 : decode cX8_grip 14 = .ok (.ireturn, 1) := by decide +kernel
theorem dX8_grip_15 : decode cX8_grip 15 = .ok (.aload_n 0, 1) := by decide +kernel
theorem dX8_grip_16 : decode cX8_grip 16 = .ok (.getfield 67, 3) := by decide +kernel
theorem dX8_grip_19 : decode cX8_grip 19 = .ok (.istore_n 2, 1) := by decide +kernel
theorem dX8_grip_20 : decode cX8_grip 20 = .ok (.aload_n 0, 1) := by decide +kernel
theorem dX8_grip_21 : decode cX8_grip 21 = .ok (.iload_n 1, 1) := by decide +kernel
theorem dX8_grip_22 : decode cX8_grip 22 = .ok (.putfield 67, 3) := by decide +kernel
theorem dX8_grip_25 : decode cX8_grip 25 = .ok (.iload_n 2, 1) := by decide +kernel
theorem dX8_grip_26 : decode cX8_grip 26 = .ok (.ireturn, 1) := by decide +kernel
theorem dX8_brake_0 : decode cX8_brake 0 = .ok (.aload_n 0, 1) := by decide +kernel
theorem dX8_brake_1 : decode cX8_brake 1 = .ok (.iload_n 1, 1) := by decide +kernel
theorem dX8_brake_2 : decode cX8_brake 2 = .ok (.invokevirtual 125, 3) := by decide +kernel
theorem dX8_brake_5 : decode cX8_brake 5 = .ok (.ifCond .ne 6, 3) := by decide +kernel
theorem dX8_brake_8 : decode cX8_brake 8 = .ok (.bipush (-101), 2) := by decide +kernel
theorem dX8_brake_10 : decode cX8_brake 10 = .ok (.ireturn, 1) := by decide +kernel
theorem dX8_brake_11 : decode cX8_brake 11 = .ok (.iload_n 2, 1) := by decide +kernel
theorem dX8_brake_12 : decode cX8_brake 12 = .ok (.i2l, 1) := by decide +kernel
theorem dX8_brake_13 : decode cX8_brake 13 = .ok (.lconst 0, 1) := by decide +kernel
theorem dX8_brake_14 : decode cX8_brake 14 = .ok (.ldc2_w 144, 3) := by decide +kernel
theorem dX8_brake_17 : decode cX8_brake 17 = .ok (.invokestatic 89, 3) := by decide +kernel
theorem dX8_brake_20 : decode cX8_brake 20 = .ok (.ifCond .ne 6, 3) := by decide +kernel
theorem dX8_brake_23 : decode cX8_brake 23 = .ok (.bipush (-102), 2) := by decide +kernel
theorem dX8_brake_25 : decode cX8_brake 25 = .ok (.ireturn, 1) := by decide +kernel
theorem dX8_brake_26 : decode cX8_brake 26 = .ok (.aload_n 0, 1) := by decide +kernel
theorem dX8_brake_27 : decode cX8_brake 27 = .ok (.getfield 25, 3) := by decide +kernel
theorem dX8_brake_30 : decode cX8_brake 30 = .ok (.iload_n 1, 1) := by decide +kernel
theorem dX8_brake_31 : decode cX8_brake 31 = .ok (.iaload, 1) := by decide +kernel
theorem dX8_brake_32 : decode cX8_brake 32 = .ok (.istore_n 3, 1) := by decide +kernel
theorem dX8_brake_33 : decode cX8_brake 33 = .ok (.aload_n 0, 1) := by decide +kernel
theorem dX8_brake_34 : decode cX8_brake 34 = .ok (.getfield 25, 3) := by decide +kernel
theorem dX8_brake_37 : decode cX8_brake 37 = .ok (.iload_n 1, 1) := by decide +kernel
theorem dX8_brake_38 : decode cX8_brake 38 = .ok (.iload_n 2, 1) := by decide +kernel
theorem dX8_brake_39 : decode cX8_brake 39 = .ok (.iastore, 1) := by decide +kernel
theorem dX8_brake_40 : decode cX8_brake 40 = .ok (.iload_n 3, 1) := by decide +kernel
theorem dX8_brake_41 : decode cX8_brake 41 = .ok (.ireturn, 1) := by decide +kernel
theorem dX8_take_0 : decode cX8_take 0 = .ok (.aload_n 0, 1) := by decide +kernel
theorem dX8_take_1 : decode cX8_take 1 = .ok (.aload_n 0, 1) := by decide +kernel
theorem dX8_take_2 : decode cX8_take 2 = .ok (.getfield 28, 3) := by decide +kernel
theorem dX8_take_5 : decode cX8_take 5 = .ok (.iload_n 1, 1) := by decide +kernel
theorem dX8_take_6 : decode cX8_take 6 = .ok (.iaload, 1) := by decide +kernel
theorem dX8_take_7 : decode cX8_take 7 = .ok (.putfield 146, 3) := by decide +kernel
theorem dX8_take_10 : decode cX8_take 10 = .ok (.aload_n 0, 1) := by decide +kernel
theorem dX8_take_11 : decode cX8_take 11 = .ok (.aload_n 0, 1) := by decide +kernel
theorem dX8_take_12 : decode cX8_take 12 = .ok (.getfield 31, 3) := by decide +kernel
theorem dX8_take_15 : decode cX8_take 15 = .ok (.iload_n 1, 1) := by decide +kernel
theorem dX8_take_16 : decode cX8_take 16 = .ok (.iaload, 1) := by decide +kernel
theorem dX8_take_17 : decode cX8_take 17 = .ok (.putfield 149, 3) := by decide +kernel
theorem dX8_take_20 : decode cX8_take 20 = .ok (.iconst 0, 1) := by decide +kernel
theorem dX8_take_21 : decode cX8_take 21 = .ok (.istore_n 2, 1) := by decide +kernel
theorem dX8_take_22 : decode cX8_take 22 = .ok (.iload_n 2, 1) := by decide +kernel
theorem dX8_take_23 : decode cX8_take 23 = .ok (.aload_n 0, 1) := by decide +kernel
theorem dX8_take_24 : decode cX8_take 24 = .ok (.getfield 149, 3) := by decide +kernel
theorem dX8_take_27 : decode cX8_take 27 = .ok (.if_icmp .ge 49, 3) := by decide +kernel
theorem dX8_take_30 : decode cX8_take 30 = .ok (.aload_n 0, 1) := by decide +kernel
theorem dX8_take_31 : decode cX8_take 31 = .ok (.getfield 37, 3) := by decide +kernel
theorem dX8_take_34 : decode cX8_take 34 = .ok (.iload_n 2, 1) := by decide +kernel
theorem dX8_take_35 : decode cX8_take 35 = .ok (.aload_n 0, 1) := by decide +kernel
theorem dX8_take_36 : decode cX8_take 36 = .ok (.getfield 34, 3) := by decide +kernel
theorem dX8_take_39 : decode cX8_take 39 = .ok (.bipush 10, 2) := by decide +kernel
theorem dX8_take_41 : decode cX8_take 41 = .ok (.iload_n 1, 1) := by decide +kernel
theorem dX8_take_42 : decode cX8_take 42 = .ok (.imul, 1) := by decide +kernel
theorem dX8_take_43 : decode cX8_take 43 = .ok (.iconst 2, 1) := by decide +kernel
theorem dX8_take_44 : decode cX8_take 44 = .ok (.iload_n 2, 1) := by decide +kernel
theorem dX8_take_45 : decode cX8_take 45 = .ok (.imul, 1) := by decide +kernel
theorem dX8_take_46 : decode cX8_take 46 = .ok (.iadd, 1) := by decide +kernel
theorem dX8_take_47 : decode cX8_take 47 = .ok (.iaload, 1) := by decide +kernel
theorem dX8_take_48 : decode cX8_take 48 = .ok (.iastore, 1) := by decide +kernel
theorem dX8_take_49 : decode cX8_take 49 = .ok (.aload_n 0, 1) := by decide +kernel
theorem dX8_take_50 : decode cX8_take 50 = .ok (.getfield 40, 3) := by decide +kernel
theorem dX8_take_53 : decode cX8_take 53 = .ok (.iload_n 2, 1) := by decide +kernel
theorem dX8_take_54 : decode cX8_take 54 = .ok (.aload_n 0, 1) := by decide +kernel
theorem dX8_take_55 : decode cX8_take 55 = .ok (.getfield 34, 3) := by decide +kernel
theorem dX8_take_58 : decode cX8_take 58 = .ok (.bipush 10, 2) := by decide +kernel
theorem dX8_take_60 : decode cX8_take 60 = .ok (.iload_n 1, 1) := by decide +kernel
theorem dX8_take_61 : decode cX8_take 61 = .ok (.imul, 1) := by decide +kernel
theorem dX8_take_62 : decode cX8_take 62 = .ok (.iconst 2, 1) := by decide +kernel
theorem dX8_take_63 : decode cX8_take 63 = .ok (.iload_n 2, 1) := by decide +kernel
theorem dX8_take_64 : decode cX8_take 64 = .ok (.imul, 1) := by decide +kernel
theorem dX8_take_65 : decode cX8_take 65 = .ok (.iadd, 1) := by decide +kernel
theorem dX8_take_66 : decode cX8_take 66 = .ok (.iconst 1, 1) := by decide +kernel
theorem dX8_take_67 : decode cX8_take 67 = .ok (.iadd, 1) := by decide +kernel
theorem dX8_take_68 : decode cX8_take 68 = .ok (.iaload, 1) := by decide +kernel
theorem dX8_take_69 : decode cX8_take 69 = .ok (.iastore, 1) := by decide +kernel
theorem dX8_take_70 : decode cX8_take 70 = .ok (.iinc 2 1, 3) := by decide +kernel
theorem dX8_take_73 : decode cX8_take 73 = .ok (.goto (-51), 3) := by decide +kernel
theorem dX8_take_76 : decode cX8_take 76 = .ok (.iconst 0, 1) := by decide +kernel
theorem dX8_take_77 : decode cX8_take 77 = .ok (.istore_n 2, 1) := by decide +kernel
theorem dX8_take_78 : decode cX8_take 78 = .ok (.iload_n 2, 1) := by decide +kernel
theorem dX8_take_79 : decode cX8_take 79 = .ok (.bipush 12, 2) := by decide +kernel
theorem dX8_take_81 : decode cX8_take 81 = .ok (.if_icmp .ge 21, 3) := by decide +kernel
theorem dX8_take_84 : decode cX8_take 84 = .ok (.aload_n 0, 1) := by decide +kernel
theorem dX8_take_85 : decode cX8_take 85 = .ok (.getfield 43, 3) := by decide +kernel
theorem dX8_take_88 : decode cX8_take 88 = .ok (.iload_n 2, 1) := by decide +kernel
theorem dX8_take_89 : decode cX8_take 89 = .ok (.aload_n 0, 1) := by decide +kernel
theorem dX8_take_90 : decode cX8_take 90 = .ok (.getfield 25, 3) := by decide +kernel
theorem dX8_take_93 : decode cX8_take 93 = .ok (.iload_n 2, 1) := by decide +kernel
theorem dX8_take_94 : decode cX8_take 94 = .ok (.iaload, 1) := by decide +kernel
theorem dX8_take_95 : decode cX8_take 95 = .ok (.iastore, 1) := by decide +kernel
theorem dX8_take_96 : decode cX8_take 96 = .ok (.iinc 2 1, 3) := by decide +kernel
theorem dX8_take_99 : decode cX8_take 99 = .ok (.goto (-21), 3) := by decide +kernel
theorem dX8_take_102 : decode cX8_take 102 = .ok (.return_, 1) := by decide +kernel
theorem dX8_takes_0 : decode cX8_takes 0 = .ok (.aload_n 0, 1) := by decide +kernel
theorem dX8_takes_1 : decode cX8_takes 1 = .ok (.getfield 40, 3) := by decide +kernel
theorem dX8_takes_4 : decode cX8_takes 4 = .ok (.iload_n 1, 1) := by decide +kernel
theorem dX8_takes_5 : decode cX8_takes 5 = .ok (.iaload, 1) := by decide +kernel
theorem dX8_takes_6 : decode cX8_takes 6 = .ok (.istore 6, 2) := by decide +kernel
theorem dX8_takes_8 : decode cX8_takes 8 = .ok (.aload_n 0, 1) := by decide +kernel
theorem dX8_takes_9 : decode cX8_takes 9 = .ok (.getfield 37, 3) := by decide +kernel
theorem dX8_takes_12 : decode cX8_takes 12 = .ok (.iload_n 1, 1) := by decide +kernel
theorem dX8_takes_13 : decode cX8_takes 13 = .ok (.iaload, 1) := by decide +kernel
theorem dX8_takes_14 : decode cX8_takes 14 = .ok (.tableswitch 82 0 4 #[34, 37, 42, 51, 64], 34) := by decide +kernel
theorem dX8_takes_48 : decode cX8_takes 48 = .ok (.iload 6, 2) := by decide +kernel
theorem dX8_takes_50 : decode cX8_takes 50 = .ok (.ireturn, 1) := by decide +kernel
theorem dX8_takes_51 : decode cX8_takes 51 = .ok (.iconst 2, 1) := by decide +kernel
theorem dX8_takes_52 : decode cX8_takes 52 = .ok (.iload 6, 2) := by decide +kernel
theorem dX8_takes_54 : decode cX8_takes 54 = .ok (.imul, 1) := by decide +kernel
theorem dX8_takes_55 : decode cX8_takes 55 = .ok (.ireturn, 1) := by decide +kernel
theorem dX8_takes_56 : decode cX8_takes 56 = .ok (.iload 6, 2) := by decide +kernel
theorem dX8_takes_58 : decode cX8_takes 58 = .ok (.iload 6, 2) := by decide +kernel
theorem dX8_takes_60 : decode cX8_takes 60 = .ok (.iload 4, 2) := by decide +kernel
theorem dX8_takes_62 : decode cX8_takes 62 = .ok (.imul, 1) := by decide +kernel
theorem dX8_takes_63 : decode cX8_takes 63 = .ok (.iadd, 1) := by decide +kernel
theorem dX8_takes_64 : decode cX8_takes 64 = .ok (.ireturn, 1) := by decide +kernel
theorem dX8_takes_65 : decode cX8_takes 65 = .ok (.iload_n 2, 1) := by decide +kernel
theorem dX8_takes_66 : decode cX8_takes 66 = .ok (.iload 6, 2) := by decide +kernel
theorem dX8_takes_68 : decode cX8_takes 68 = .ok (.imul, 1) := by decide +kernel
theorem dX8_takes_69 : decode cX8_takes 69 = .ok (.bipush 10, 2) := by decide +kernel
theorem dX8_takes_71 : decode cX8_takes 71 = .ok (.aload_n 0, 1) := by decide +kernel
theorem dX8_takes_72 : decode cX8_takes 72 = .ok (.getfield 146, 3) := by decide +kernel
theorem dX8_takes_75 : decode cX8_takes 75 = .ok (.imul, 1) := by decide +kernel
theorem dX8_takes_76 : decode cX8_takes 76 = .ok (.idiv, 1) := by decide +kernel
theorem dX8_takes_77 : decode cX8_takes 77 = .ok (.ireturn, 1) := by decide +kernel
theorem dX8_takes_78 : decode cX8_takes 78 = .ok (.iload 5, 2) := by decide +kernel
theorem dX8_takes_80 : decode cX8_takes 80 = .ok (.iconst 1, 1) := by decide +kernel
theorem dX8_takes_81 : decode cX8_takes 81 = .ok (.if_icmp .ne 13, 3) := by decide +kernel
theorem dX8_takes_84 : decode cX8_takes 84 = .ok (.iload_n 2, 1) := by decide +kernel
theorem dX8_takes_85 : decode cX8_takes 85 = .ok (.iload 6, 2) := by decide +kernel
theorem dX8_takes_87 : decode cX8_takes 87 = .ok (.imul, 1) := by decide +kernel
theorem dX8_takes_88 : decode cX8_takes 88 = .ok (.bipush 40, 2) := by decide +kernel
theorem dX8_takes_90 : decode cX8_takes 90 = .ok (.idiv, 1) := by decide +kernel
theorem dX8_takes_91 : decode cX8_takes 91 = .ok (.goto 4, 3) := by decide +kernel
theorem dX8_takes_94 : decode cX8_takes 94 = .ok (.iconst 0, 1) := by decide +kernel
theorem dX8_takes_95 : decode cX8_takes 95 = .ok (.ireturn, 1) := by decide +kernel
theorem dX8_takes_96 : decode cX8_takes 96 = .ok (.iload 6, 2) := by decide +kernel
theorem dX8_takes_98 : decode cX8_takes 98 = .ok (.iload_n 3, 1) := by decide +kernel
theorem dX8_takes_99 : decode cX8_takes 99 = .ok (.imul, 1) := by decide +kernel
theorem dX8_takes_100 : decode cX8_takes 100 = .ok (.ireturn, 1) := by decide +kernel
theorem dX8_root_0 : decode cX8_root 0 = .ok (.iconst 0, 1) := by decide +kernel
theorem dX8_root_1 : decode cX8_root 1 = .ok (.istore_n 1, 1) := by decide +kernel
theorem dX8_root_2 : decode cX8_root 2 = .ok (.iload_n 1, 1) := by decide +kernel
theorem dX8_root_3 : decode cX8_root 3 = .ok (.iconst 1, 1) := by decide +kernel
theorem dX8_root_4 : decode cX8_root 4 = .ok (.iadd, 1) := by decide +kernel
theorem dX8_root_5 : decode cX8_root 5 = .ok (.iload_n 1, 1) := by decide +kernel
theorem dX8_root_6 : decode cX8_root 6 = .ok (.iconst 1, 1) := by decide +kernel
theorem dX8_root_7 : decode cX8_root 7 = .ok (.iadd, 1) := by decide +kernel
theorem dX8_root_8 : decode cX8_root 8 = .ok (.imul, 1) := by decide +kernel
theorem dX8_root_9 : decode cX8_root 9 = .ok (.iload_n 0, 1) := by decide +kernel
theorem dX8_root_10 : decode cX8_root 10 = .ok (.if_icmp .gt 9, 3) := by decide +kernel
theorem dX8_root_13 : decode cX8_root 13 = .ok (.iinc 1 1, 3) := by decide +kernel
theorem dX8_root_16 : decode cX8_root 16 = .ok (.goto (-14), 3) := by decide +kernel
theorem dX8_root_19 : decode cX8_root 19 = .ok (.iload_n 1, 1) := by decide +kernel
theorem dX8_root_20 : decode cX8_root 20 = .ok (.ireturn, 1) := by decide +kernel
theorem dX8_bearable_0 : decode cX8_bearable 0 = .ok (.bipush 100, 2) := by decide +kernel
theorem dX8_bearable_2 : decode cX8_bearable 2 = .ok (.aload_n 0, 1) := by decide +kernel
theorem dX8_bearable_3 : decode cX8_bearable 3 = .ok (.getfield 67, 3) := by decide +kernel
theorem dX8_bearable_6 : decode cX8_bearable 6 = .ok (.imul, 1) := by decide +kernel
theorem dX8_bearable_7 : decode cX8_bearable 7 = .ok (.aload_n 0, 1) := by decide +kernel
theorem dX8_bearable_8 : decode cX8_bearable 8 = .ok (.getfield 19, 3) := by decide +kernel
theorem dX8_bearable_11 : decode cX8_bearable 11 = .ok (.iload_n 1, 1) := by decide +kernel
theorem dX8_bearable_12 : decode cX8_bearable 12 = .ok (.iaload, 1) := by decide +kernel
theorem dX8_bearable_13 : decode cX8_bearable 13 = .ok (.idiv, 1) := by decide +kernel
theorem dX8_bearable_14 : decode cX8_bearable 14 = .ok (.ireturn, 1) := by decide +kernel
theorem dX8_goCell_0 : decode cX8_goCell 0 = .ok (.aload_n 0, 1) := by decide +kernel
theorem dX8_goCell_1 : decode cX8_goCell 1 = .ok (.getfield 152, 3) := by decide +kernel
theorem dX8_goCell_4 : decode cX8_goCell 4 = .ok (.bipush 20, 2) := by decide +kernel
theorem dX8_goCell_6 : decode cX8_goCell 6 = .ok (.aload_n 0, 1) := by decide +kernel
theorem dX8_goCell_7 : decode cX8_goCell 7 = .ok (.getfield 16, 3) := by decide +kernel
theorem dX8_goCell_10 : decode cX8_goCell 10 = .ok (.iload_n 1, 1) := by decide +kernel
theorem dX8_goCell_11 : decode cX8_goCell 11 = .ok (.iaload, 1) := by decide +kernel
theorem dX8_goCell_12 : decode cX8_goCell 12 = .ok (.imul, 1) := by decide +kernel
theorem dX8_goCell_13 : decode cX8_goCell 13 = .ok (.iadd, 1) := by decide +kernel
theorem dX8_goCell_14 : decode cX8_goCell 14 = .ok (.istore_n 2, 1) := by decide +kernel
theorem dX8_goCell_15 : decode cX8_goCell 15 = .ok (.iload_n 2, 1) := by decide +kernel
theorem dX8_goCell_16 : decode cX8_goCell 16 = .ok (.istore_n 3, 1) := by decide +kernel
theorem dX8_goCell_17 : decode cX8_goCell 17 = .ok (.iconst 0, 1) := by decide +kernel
theorem dX8_goCell_18 : decode cX8_goCell 18 = .ok (.istore 4, 2) := by decide +kernel
theorem dX8_goCell_20 : decode cX8_goCell 20 = .ok (.iload 4, 2) := by decide +kernel
theorem dX8_goCell_22 : decode cX8_goCell 22 = .ok (.aload_n 0, 1) := by decide +kernel
theorem dX8_goCell_23 : decode cX8_goCell 23 = .ok (.getfield 149, 3) := by decide +kernel
theorem dX8_goCell_26 : decode cX8_goCell 26 = .ok (.if_icmp .ge 53, 3) := by decide +kernel
theorem dX8_goCell_29 : decode cX8_goCell 29 = .ok (.aload_n 0, 1) := by decide +kernel
theorem dX8_goCell_30 : decode cX8_goCell 30 = .ok (.iload 4, 2) := by decide +kernel
theorem dX8_goCell_32 : decode cX8_goCell 32 = .ok (.iload_n 2, 1) := by decide +kernel
theorem dX8_goCell_33 : decode cX8_goCell 33 = .ok (.aload_n 0, 1) := by decide +kernel
theorem dX8_goCell_34 : decode cX8_goCell 34 = .ok (.getfield 16, 3) := by decide +kernel
theorem dX8_goCell_37 : decode cX8_goCell 37 = .ok (.iload_n 1, 1) := by decide +kernel
theorem dX8_goCell_38 : decode cX8_goCell 38 = .ok (.iaload, 1) := by decide +kernel
theorem dX8_goCell_39 : decode cX8_goCell 39 = .ok (.aload_n 0, 1) := by decide +kernel
theorem dX8_goCell_40 : decode cX8_goCell 40 = .ok (.getfield 19, 3) := by decide +kernel
theorem dX8_goCell_43 : decode cX8_goCell 43 = .ok (.iload_n 1, 1) := by decide +kernel
theorem dX8_goCell_44 : decode cX8_goCell 44 = .ok (.iaload, 1) := by decide +kernel
theorem dX8_goCell_45 : decode cX8_goCell 45 = .ok (.aload_n 0, 1) := by decide +kernel
theorem dX8_goCell_46 : decode cX8_goCell 46 = .ok (.getfield 22, 3) := by decide +kernel
theorem dX8_goCell_49 : decode cX8_goCell 49 = .ok (.iload_n 1, 1) := by decide +kernel
theorem dX8_goCell_50 : decode cX8_goCell 50 = .ok (.iaload, 1) := by decide +kernel
theorem dX8_goCell_51 : decode cX8_goCell 51 = .ok (.invokevirtual 155, 3) := by decide +kernel
theorem dX8_goCell_54 : decode cX8_goCell 54 = .ok (.istore 5, 2) := by decide +kernel
theorem dX8_goCell_56 : decode cX8_goCell 56 = .ok (.aload_n 0, 1) := by decide +kernel
theorem dX8_goCell_57 : decode cX8_goCell 57 = .ok (.getfield 49, 3) := by decide +kernel
theorem dX8_goCell_60 : decode cX8_goCell 60 = .ok (.iload 4, 2) := by decide +kernel
theorem dX8_goCell_62 : decode cX8_goCell 62 = .ok (.dup2, 1) := by decide +kernel
theorem dX8_goCell_63 : decode cX8_goCell 63 = .ok (.iaload, 1) := by decide +kernel
theorem dX8_goCell_64 : decode cX8_goCell 64 = .ok (.iload 5, 2) := by decide +kernel
theorem dX8_goCell_66 : decode cX8_goCell 66 = .ok (.iadd, 1) := by decide +kernel
theorem dX8_goCell_67 : decode cX8_goCell 67 = .ok (.iastore, 1) := by decide +kernel
theorem dX8_goCell_68 : decode cX8_goCell 68 = .ok (.iload_n 3, 1) := by decide +kernel
theorem dX8_goCell_69 : decode cX8_goCell 69 = .ok (.iload 5, 2) := by decide +kernel
theorem dX8_goCell_71 : decode cX8_goCell 71 = .ok (.isub, 1) := by decide +kernel
theorem dX8_goCell_72 : decode cX8_goCell 72 = .ok (.istore_n 3, 1) := by decide +kernel
theorem dX8_goCell_73 : decode cX8_goCell 73 = .ok (.iinc 4 1, 3) := by decide +kernel
theorem dX8_goCell_76 : decode cX8_goCell 76 = .ok (.goto (-56), 3) := by decide +kernel
theorem dX8_goCell_79 : decode cX8_goCell 79 = .ok (.iload_n 3, 1) := by decide +kernel
theorem dX8_goCell_80 : decode cX8_goCell 80 = .ok (.ifCond .le 17, 3) := by decide +kernel
theorem dX8_goCell_83 : decode cX8_goCell 83 = .ok (.iload_n 3, 1) := by decide +kernel
theorem dX8_goCell_84 : decode cX8_goCell 84 = .ok (.aload_n 0, 1) := by decide +kernel
theorem dX8_goCell_85 : decode cX8_goCell 85 = .ok (.getfield 43, 3) := by decide +kernel
theorem dX8_goCell_88 : decode cX8_goCell 88 = .ok (.iload_n 1, 1) := by decide +kernel
theorem dX8_goCell_89 : decode cX8_goCell 89 = .ok (.iaload, 1) := by decide +kernel
theorem dX8_goCell_90 : decode cX8_goCell 90 = .ok (.imul, 1) := by decide +kernel
theorem dX8_goCell_91 : decode cX8_goCell 91 = .ok (.bipush 10, 2) := by decide +kernel
theorem dX8_goCell_93 : decode cX8_goCell 93 = .ok (.idiv, 1) := by decide +kernel
theorem dX8_goCell_94 : decode cX8_goCell 94 = .ok (.goto 4, 3) := by decide +kernel
theorem dX8_goCell_97 : decode cX8_goCell 97 = .ok (.iconst 0, 1) := by decide +kernel
theorem dX8_goCell_98 : decode cX8_goCell 98 = .ok (.istore 4, 2) := by decide +kernel
theorem dX8_goCell_100 : decode cX8_goCell 100 = .ok (.aload_n 0, 1) := by decide +kernel
theorem dX8_goCell_101 : decode cX8_goCell 101 = .ok (.dup, 1) := by decide +kernel
theorem dX8_goCell_102 : decode cX8_goCell 102 = .ok (.getfield 159, 3) := by decide +kernel
theorem dX8_goCell_105 : decode cX8_goCell 105 = .ok (.iload 4, 2) := by decide +kernel
theorem dX8_goCell_107 : decode cX8_goCell 107 = .ok (.iadd, 1) := by decide +kernel
theorem dX8_goCell_108 : decode cX8_goCell 108 = .ok (.putfield 159, 3) := by decide +kernel
theorem dX8_goCell_111 : decode cX8_goCell 111 = .ok (.iload_n 3, 1) := by decide +kernel
theorem dX8_goCell_112 : decode cX8_goCell 112 = .ok (.iload 4, 2) := by decide +kernel
theorem dX8_goCell_114 : decode cX8_goCell 114 = .ok (.isub, 1) := by decide +kernel
theorem dX8_goCell_115 : decode cX8_goCell 115 = .ok (.ireturn, 1) := by decide +kernel
theorem dX8_go_0 : decode cX8_go 0 = .ok (.aload_n 0, 1) := by decide +kernel
theorem dX8_go_1 : decode cX8_go 1 = .ok (.iload_n 1, 1) := by decide +kernel
theorem dX8_go_2 : decode cX8_go 2 = .ok (.putfield 152, 3) := by decide +kernel
theorem dX8_go_5 : decode cX8_go 5 = .ok (.aload_n 0, 1) := by decide +kernel
theorem dX8_go_6 : decode cX8_go 6 = .ok (.iconst 0, 1) := by decide +kernel
theorem dX8_go_7 : decode cX8_go 7 = .ok (.putfield 162, 3) := by decide +kernel
theorem dX8_go_10 : decode cX8_go 10 = .ok (.aload_n 0, 1) := by decide +kernel
theorem dX8_go_11 : decode cX8_go 11 = .ok (.iconst 0, 1) := by decide +kernel
theorem dX8_go_12 : decode cX8_go 12 = .ok (.putfield 165, 3) := by decide +kernel
theorem dX8_go_15 : decode cX8_go 15 = .ok (.aload_n 0, 1) := by decide +kernel
theorem dX8_go_16 : decode cX8_go 16 = .ok (.aload_n 0, 1) := by decide +kernel
theorem dX8_go_17 : decode cX8_go 17 = .ok (.getfield 116, 3) := by decide +kernel
theorem dX8_go_20 : decode cX8_go 20 = .ok (.iconst 1, 1) := by decide +kernel
theorem dX8_go_21 : decode cX8_go 21 = .ok (.isub, 1) := by decide +kernel
theorem dX8_go_22 : decode cX8_go 22 = .ok (.putfield 168, 3) := by decide +kernel
theorem dX8_go_25 : decode cX8_go 25 = .ok (.aload_n 0, 1) := by decide +kernel
theorem dX8_go_26 : decode cX8_go 26 = .ok (.iconst 0, 1) := by decide +kernel
theorem dX8_go_27 : decode cX8_go 27 = .ok (.putfield 159, 3) := by decide +kernel
theorem dX8_go_30 : decode cX8_go 30 = .ok (.iconst 0, 1) := by decide +kernel
theorem dX8_go_31 : decode cX8_go 31 = .ok (.istore_n 2, 1) := by decide +kernel
theorem dX8_go_32 : decode cX8_go 32 = .ok (.iload_n 2, 1) := by decide +kernel
theorem dX8_go_33 : decode cX8_go 33 = .ok (.bipush 6, 2) := by decide +kernel
theorem dX8_go_35 : decode cX8_go 35 = .ok (.if_icmp .ge 16, 3) := by decide +kernel
theorem dX8_go_38 : decode cX8_go 38 = .ok (.aload_n 0, 1) := by decide +kernel
theorem dX8_go_39 : decode cX8_go 39 = .ok (.getfield 49, 3) := by decide +kernel
theorem dX8_go_42 : decode cX8_go 42 = .ok (.iload_n 2, 1) := by decide +kernel
theorem dX8_go_43 : decode cX8_go 43 = .ok (.iconst 0, 1) := by decide +kernel
theorem dX8_go_44 : decode cX8_go 44 = .ok (.iastore, 1) := by decide +kernel
theorem dX8_go_45 : decode cX8_go 45 = .ok (.iinc 2 1, 3) := by decide +kernel
theorem dX8_go_48 : decode cX8_go 48 = .ok (.goto (-16), 3) := by decide +kernel
theorem dX8_go_51 : decode cX8_go 51 = .ok (.iconst 0, 1) := by decide +kernel
theorem dX8_go_52 : decode cX8_go 52 = .ok (.istore_n 2, 1) := by decide +kernel
theorem dX8_go_53 : decode cX8_go 53 = .ok (.iload_n 2, 1) := by decide +kernel
theorem dX8_go_54 : decode cX8_go 54 = .ok (.bipush 12, 2) := by decide +kernel
theorem dX8_go_56 : decode cX8_go 56 = .ok (.if_icmp .ge 16, 3) := by decide +kernel
theorem dX8_go_59 : decode cX8_go 59 = .ok (.aload_n 0, 1) := by decide +kernel
theorem dX8_go_60 : decode cX8_go 60 = .ok (.getfield 46, 3) := by decide +kernel
theorem dX8_go_63 : decode cX8_go 63 = .ok (.iload_n 2, 1) := by decide +kernel
theorem dX8_go_64 : decode cX8_go 64 = .ok (.iconst (-1), 1) := by decide +kernel
theorem dX8_go_65 : decode cX8_go 65 = .ok (.iastore, 1) := by decide +kernel
theorem dX8_go_66 : decode cX8_go 66 = .ok (.iinc 2 1, 3) := by decide +kernel
theorem dX8_go_69 : decode cX8_go 69 = .ok (.goto (-16), 3) := by decide +kernel
theorem dX8_go_72 : decode cX8_go 72 = .ok (.iconst 0, 1) := by decide +kernel
theorem dX8_go_73 : decode cX8_go 73 = .ok (.istore_n 2, 1) := by decide +kernel
theorem dX8_go_74 : decode cX8_go 74 = .ok (.iload_n 2, 1) := by decide +kernel
theorem dX8_go_75 : decode cX8_go 75 = .ok (.aload_n 0, 1) := by decide +kernel
theorem dX8_go_76 : decode cX8_go 76 = .ok (.getfield 116, 3) := by decide +kernel
theorem dX8_go_79 : decode cX8_go 79 = .ok (.if_icmp .ge 103, 3) := by decide +kernel
theorem dX8_go_82 : decode cX8_go 82 = .ok (.aload_n 0, 1) := by decide +kernel
theorem dX8_go_83 : decode cX8_go 83 = .ok (.aload_n 0, 1) := by decide +kernel
theorem dX8_go_84 : decode cX8_go 84 = .ok (.iload_n 2, 1) := by decide +kernel
theorem dX8_go_85 : decode cX8_go 85 = .ok (.invokevirtual 171, 3) := by decide +kernel
theorem dX8_go_88 : decode cX8_go 88 = .ok (.putfield 152, 3) := by decide +kernel
theorem dX8_go_91 : decode cX8_go 91 = .ok (.aload_n 0, 1) := by decide +kernel
theorem dX8_go_92 : decode cX8_go 92 = .ok (.getfield 152, 3) := by decide +kernel
theorem dX8_go_95 : decode cX8_go 95 = .ok (.ifCond .gt 19, 3) := by decide +kernel
theorem dX8_go_98 : decode cX8_go 98 = .ok (.aload_n 0, 1) := by decide +kernel
theorem dX8_go_99 : decode cX8_go 99 = .ok (.iconst 0, 1) := by decide +kernel
theorem dX8_go_100 : decode cX8_go 100 = .ok (.putfield 152, 3) := by decide +kernel
theorem dX8_go_103 : decode cX8_go 103 = .ok (.aload_n 0, 1) := by decide +kernel
theorem dX8_go_104 : decode cX8_go 104 = .ok (.iconst 1, 1) := by decide +kernel
theorem dX8_go_105 : decode cX8_go 105 = .ok (.putfield 165, 3) := by decide +kernel
theorem dX8_go_108 : decode cX8_go 108 = .ok (.aload_n 0, 1) := by decide +kernel
theorem dX8_go_109 : decode cX8_go 109 = .ok (.iload_n 2, 1) := by decide +kernel
theorem dX8_go_110 : decode cX8_go 110 = .ok (.putfield 168, 3) := by decide +kernel
theorem dX8_go_113 : decode cX8_go 113 = .ok (.return_, 1) := by decide +kernel
theorem dX8_go_114 : decode cX8_go 114 = .ok (.aload_n 0, 1) := by decide +kernel
theorem dX8_go_115 : decode cX8_go 115 = .ok (.getfield 46, 3) := by decide +kernel
theorem dX8_go_118 : decode cX8_go 118 = .ok (.iload_n 2, 1) := by decide +kernel
theorem dX8_go_119 : decode cX8_go 119 = .ok (.aload_n 0, 1) := by decide +kernel
theorem dX8_go_120 : decode cX8_go 120 = .ok (.getfield 152, 3) := by decide +kernel
theorem dX8_go_123 : decode cX8_go 123 = .ok (.iastore, 1) := by decide +kernel
theorem dX8_go_124 : decode cX8_go 124 = .ok (.aload_n 0, 1) := by decide +kernel
theorem dX8_go_125 : decode cX8_go 125 = .ok (.dup, 1) := by decide +kernel
theorem dX8_go_126 : decode cX8_go 126 = .ok (.getfield 162, 3) := by decide +kernel
theorem dX8_go_129 : decode cX8_go 129 = .ok (.sipush 1000, 3) := by decide +kernel
theorem dX8_go_132 : decode cX8_go 132 = .ok (.aload_n 0, 1) := by decide +kernel
theorem dX8_go_133 : decode cX8_go 133 = .ok (.getfield 152, 3) := by decide +kernel
theorem dX8_go_136 : decode cX8_go 136 = .ok (.invokestatic 174, 3) := by decide +kernel
theorem dX8_go_139 : decode cX8_go 139 = .ok (.idiv, 1) := by decide +kernel
theorem dX8_go_140 : decode cX8_go 140 = .ok (.iadd, 1) := by decide +kernel
theorem dX8_go_141 : decode cX8_go 141 = .ok (.putfield 162, 3) := by decide +kernel
theorem dX8_go_144 : decode cX8_go 144 = .ok (.aload_n 0, 1) := by decide +kernel
theorem dX8_go_145 : decode cX8_go 145 = .ok (.getfield 19, 3) := by decide +kernel
theorem dX8_go_148 : decode cX8_go 148 = .ok (.iload_n 2, 1) := by decide +kernel
theorem dX8_go_149 : decode cX8_go 149 = .ok (.iaload, 1) := by decide +kernel
theorem dX8_go_150 : decode cX8_go 150 = .ok (.ifCond .le 26, 3) := by decide +kernel
theorem dX8_go_153 : decode cX8_go 153 = .ok (.aload_n 0, 1) := by decide +kernel
theorem dX8_go_154 : decode cX8_go 154 = .ok (.getfield 152, 3) := by decide +kernel
theorem dX8_go_157 : decode cX8_go 157 = .ok (.aload_n 0, 1) := by decide +kernel
theorem dX8_go_158 : decode cX8_go 158 = .ok (.iload_n 2, 1) := by decide +kernel
theorem dX8_go_159 : decode cX8_go 159 = .ok (.invokevirtual 177, 3) := by decide +kernel
theorem dX8_go_162 : decode cX8_go 162 = .ok (.if_icmp .le 14, 3) := by decide +kernel
theorem dX8_go_165 : decode cX8_go 165 = .ok (.aload_n 0, 1) := by decide +kernel
theorem dX8_go_166 : decode cX8_go 166 = .ok (.iconst 2, 1) := by decide +kernel
theorem dX8_go_167 : decode cX8_go 167 = .ok (.putfield 165, 3) := by decide +kernel
theorem dX8_go_170 : decode cX8_go 170 = .ok (.aload_n 0, 1) := by decide +kernel
theorem dX8_go_171 : decode cX8_go 171 = .ok (.iload_n 2, 1) := by decide +kernel
theorem dX8_go_172 : decode cX8_go 172 = .ok (.putfield 168, 3) := by decide +kernel
theorem dX8_go_175 : decode cX8_go 175 = .ok (.return_, 1) := by decide +kernel
theorem dX8_go_176 : decode cX8_go 176 = .ok (.iinc 2 1, 3) := by decide +kernel
theorem dX8_go_179 : decode cX8_go 179 = .ok (.goto (-105), 3) := by decide +kernel
theorem dX8_go_182 : decode cX8_go 182 = .ok (.return_, 1) := by decide +kernel
theorem dX8_isSwing_0 : decode cX8_isSwing 0 = .ok (.iload_n 0, 1) := by decide +kernel
theorem dX8_isSwing_1 : decode cX8_isSwing 1 = .ok (.i2l, 1) := by decide +kernel
theorem dX8_isSwing_2 : decode cX8_isSwing 2 = .ok (.lconst 0, 1) := by decide +kernel
theorem dX8_isSwing_3 : decode cX8_isSwing 3 = .ok (.ldc2_w 180, 3) := by decide +kernel
theorem dX8_isSwing_6 : decode cX8_isSwing 6 = .ok (.invokestatic 89, 3) := by decide +kernel
theorem dX8_isSwing_9 : decode cX8_isSwing 9 = .ok (.ireturn, 1) := by decide +kernel
theorem dX8_lacks_0 : decode cX8_lacks 0 = .ok (.aload_n 0, 1) := by decide +kernel
theorem dX8_lacks_1 : decode cX8_lacks 1 = .ok (.getfield 116, 3) := by decide +kernel
theorem dX8_lacks_4 : decode cX8_lacks 4 = .ok (.ifCond .ne 7, 3) := by decide +kernel
theorem dX8_lacks_7 : decode cX8_lacks 7 = .ok (.iconst 1, 1) := by decide +kernel
theorem dX8_lacks_8 : decode cX8_lacks 8 = .ok (.goto 4, 3) := by decide +kernel
theorem dX8_lacks_11 : decode cX8_lacks 11 = .ok (.iconst 0, 1) := by decide +kernel
theorem dX8_lacks_12 : decode cX8_lacks 12 = .ok (.ireturn, 1) := by decide +kernel
theorem dX8_run_0 : decode cX8_run 0 = .ok (.aload_n 0, 1) := by decide +kernel
theorem dX8_run_1 : decode cX8_run 1 = .ok (.iload_n 1, 1) := by decide +kernel
theorem dX8_run_2 : decode cX8_run 2 = .ok (.invokevirtual 132, 3) := by decide +kernel
theorem dX8_run_5 : decode cX8_run 5 = .ok (.ifCond .ne 6, 3) := by decide +kernel
theorem dX8_run_8 : decode cX8_run 8 = .ok (.bipush (-101), 2) := by decide +kernel
theorem dX8_run_10 : decode cX8_run 10 = .ok (.ireturn, 1) := by decide +kernel
theorem dX8_run_11 : decode cX8_run 11 = .ok (.aload_n 0, 1) := by decide +kernel
theorem dX8_run_12 : decode cX8_run 12 = .ok (.invokevirtual 182, 3) := by decide +kernel
theorem dX8_run_15 : decode cX8_run 15 = .ok (.ifCond .eq 6, 3) := by decide +kernel
theorem dX8_run_18 : decode cX8_run 18 = .ok (.bipush (-103), 2) := by decide +kernel
theorem dX8_run_20 : decode cX8_run 20 = .ok (.ireturn, 1) := by decide +kernel
theorem dX8_run_21 : decode cX8_run 21 = .ok (.iload_n 2, 1) := by decide +kernel
theorem dX8_run_22 : decode cX8_run 22 = .ok (.invokestatic 186, 3) := by decide +kernel
theorem dX8_run_25 : decode cX8_run 25 = .ok (.ifCond .eq 15, 3) := by decide +kernel
theorem dX8_run_28 : decode cX8_run 28 = .ok (.iload_n 3, 1) := by decide +kernel
theorem dX8_run_29 : decode cX8_run 29 = .ok (.i2l, 1) := by decide +kernel
theorem dX8_run_30 : decode cX8_run 30 = .ok (.lconst 0, 1) := by decide +kernel
theorem dX8_run_31 : decode cX8_run 31 = .ok (.ldc2_w 189, 3) := by decide +kernel
theorem dX8_run_34 : decode cX8_run 34 = .ok (.invokestatic 89, 3) := by decide +kernel
theorem dX8_run_37 : decode cX8_run 37 = .ok (.ifCond .ne 6, 3) := by decide +kernel
theorem dX8_run_40 : decode cX8_run 40 = .ok (.bipush (-102), 2) := by decide +kernel
theorem dX8_run_42 : decode cX8_run 42 = .ok (.ireturn, 1) := by decide +kernel
theorem dX8_run_43 : decode cX8_run 43 = .ok (.aload_n 0, 1) := by decide +kernel
theorem dX8_run_44 : decode cX8_run 44 = .ok (.iload_n 1, 1) := by decide +kernel
theorem dX8_run_45 : decode cX8_run 45 = .ok (.invokevirtual 191, 3) := by decide +kernel
theorem dX8_run_48 : decode cX8_run 48 = .ok (.aload_n 0, 1) := by decide +kernel
theorem dX8_run_49 : decode cX8_run 49 = .ok (.iload_n 2, 1) := by decide +kernel
theorem dX8_run_50 : decode cX8_run 50 = .ok (.invokevirtual 195, 3) := by decide +kernel
theorem dX8_run_53 : decode cX8_run 53 = .ok (.iload_n 3, 1) := by decide +kernel
theorem dX8_run_54 : decode cX8_run 54 = .ok (.ifCond .ne 10, 3) := by decide +kernel
theorem dX8_run_57 : decode cX8_run 57 = .ok (.aload_n 0, 1) := by decide +kernel
theorem dX8_run_58 : decode cX8_run 58 = .ok (.getfield 165, 3) := by decide +kernel
theorem dX8_run_61 : decode cX8_run 61 = .ok (.goto 31, 3) := by decide +kernel
theorem dX8_run_64 : decode cX8_run 64 = .ok (.iload_n 3, 1) := by decide +kernel
theorem dX8_run_65 : decode cX8_run 65 = .ok (.iconst 1, 1) := by decide +kernel
theorem dX8_run_66 : decode cX8_run 66 = .ok (.if_icmp .ne 10, 3) := by decide +kernel
theorem dX8_run_69 : decode cX8_run 69 = .ok (.aload_n 0, 1) := by decide +kernel
theorem dX8_run_70 : decode cX8_run 70 = .ok (.getfield 168, 3) := by decide +kernel
theorem dX8_run_73 : decode cX8_run 73 = .ok (.goto 19, 3) := by decide +kernel
theorem dX8_run_76 : decode cX8_run 76 = .ok (.iload_n 3, 1) := by decide +kernel
theorem dX8_run_77 : decode cX8_run 77 = .ok (.iconst 2, 1) := by decide +kernel
theorem dX8_run_78 : decode cX8_run 78 = .ok (.if_icmp .ne 10, 3) := by decide +kernel
theorem dX8_run_81 : decode cX8_run 81 = .ok (.aload_n 0, 1) := by decide +kernel
theorem dX8_run_82 : decode cX8_run 82 = .ok (.getfield 162, 3) := by decide +kernel
theorem dX8_run_85 : decode cX8_run 85 = .ok (.goto 7, 3) := by decide +kernel
theorem dX8_run_88 : decode cX8_run 88 = .ok (.aload_n 0, 1) := by decide +kernel
theorem dX8_run_89 : decode cX8_run 89 = .ok (.getfield 152, 3) := by decide +kernel
theorem dX8_run_92 : decode cX8_run 92 = .ok (.ireturn, 1) := by decide +kernel
theorem dX8_pace_0 : decode cX8_pace 0 = .ok (.aload_n 0, 1) := by decide +kernel
theorem dX8_pace_1 : decode cX8_pace 1 = .ok (.iload_n 1, 1) := by decide +kernel
theorem dX8_pace_2 : decode cX8_pace 2 = .ok (.invokevirtual 132, 3) := by decide +kernel
theorem dX8_pace_5 : decode cX8_pace 5 = .ok (.ifCond .eq 11, 3) := by decide +kernel
theorem dX8_pace_8 : decode cX8_pace 8 = .ok (.aload_n 0, 1) := by decide +kernel
theorem dX8_pace_9 : decode cX8_pace 9 = .ok (.iload_n 3, 1) := by decide +kernel
theorem dX8_pace_10 : decode cX8_pace 10 = .ok (.invokevirtual 125, 3) := by decide +kernel
theorem dX8_pace_13 : decode cX8_pace 13 = .ok (.ifCond .ne 6, 3) := by decide +kernel
theorem dX8_pace_16 : decode cX8_pace 16 = .ok (.bipush (-101), 2) := by decide +kernel
theorem dX8_pace_18 : decode cX8_pace 18 = .ok (.ireturn, 1) := by decide +kernel
theorem dX8_pace_19 : decode cX8_pace 19 = .ok (.iload_n 2, 1) := by decide +kernel
theorem dX8_pace_20 : decode cX8_pace 20 = .ok (.invokestatic 186, 3) := by decide +kernel
theorem dX8_pace_23 : decode cX8_pace 23 = .ok (.ifCond .ne 6, 3) := by decide +kernel
theorem dX8_pace_26 : decode cX8_pace 26 = .ok (.bipush (-102), 2) := by decide +kernel
theorem dX8_pace_28 : decode cX8_pace 28 = .ok (.ireturn, 1) := by decide +kernel
theorem dX8_pace_29 : decode cX8_pace 29 = .ok (.aload_n 0, 1) := by decide +kernel
theorem dX8_pace_30 : decode cX8_pace 30 = .ok (.iload_n 1, 1) := by decide +kernel
theorem dX8_pace_31 : decode cX8_pace 31 = .ok (.invokevirtual 191, 3) := by decide +kernel
theorem dX8_pace_34 : decode cX8_pace 34 = .ok (.aload_n 0, 1) := by decide +kernel
theorem dX8_pace_35 : decode cX8_pace 35 = .ok (.iload_n 2, 1) := by decide +kernel
theorem dX8_pace_36 : decode cX8_pace 36 = .ok (.invokevirtual 195, 3) := by decide +kernel
theorem dX8_pace_39 : decode cX8_pace 39 = .ok (.aload_n 0, 1) := by decide +kernel
theorem dX8_pace_40 : decode cX8_pace 40 = .ok (.getfield 46, 3) := by decide +kernel
theorem dX8_pace_43 : decode cX8_pace 43 = .ok (.iload_n 3, 1) := by decide +kernel
theorem dX8_pace_44 : decode cX8_pace 44 = .ok (.iaload, 1) := by decide +kernel
theorem dX8_pace_45 : decode cX8_pace 45 = .ok (.ireturn, 1) := by decide +kernel
theorem dX8_lost_0 : decode cX8_lost 0 = .ok (.aload_n 0, 1) := by decide +kernel
theorem dX8_lost_1 : decode cX8_lost 1 = .ok (.iload_n 1, 1) := by decide +kernel
theorem dX8_lost_2 : decode cX8_lost 2 = .ok (.invokevirtual 132, 3) := by decide +kernel
theorem dX8_lost_5 : decode cX8_lost 5 = .ok (.ifCond .eq 17, 3) := by decide +kernel
theorem dX8_lost_8 : decode cX8_lost 8 = .ok (.iload_n 3, 1) := by decide +kernel
theorem dX8_lost_9 : decode cX8_lost 9 = .ok (.iconst (-1), 1) := by decide +kernel
theorem dX8_lost_10 : decode cX8_lost 10 = .ok (.if_icmp .eq 15, 3) := by decide +kernel
theorem dX8_lost_13 : decode cX8_lost 13 = .ok (.aload_n 0, 1) := by decide +kernel
theorem dX8_lost_14 : decode cX8_lost 14 = .ok (.iload_n 1, 1) := by decide +kernel
theorem dX8_lost_15 : decode cX8_lost 15 = .ok (.iload_n 3, 1) := by decide +kernel
theorem dX8_lost_16 : decode cX8_lost 16 = .ok (.invokevirtual 135, 3) := by decide +kernel
theorem dX8_lost_19 : decode cX8_lost 19 = .ok (.ifCond .ne 6, 3) := by decide +kernel
theorem dX8_lost_22 : decode cX8_lost 22 = .ok (.bipush (-101), 2) := by decide +kernel
theorem dX8_lost_24 : decode cX8_lost 24 = .ok (.ireturn, 1) := by decide +kernel
theorem dX8_lost_25 : decode cX8_lost 25 = .ok (.aload_n 0, 1) := by decide +kernel
theorem dX8_lost_26 : decode cX8_lost 26 = .ok (.invokevirtual 182, 3) := by decide +kernel
theorem dX8_lost_29 : decode cX8_lost 29 = .ok (.ifCond .eq 6, 3) := by decide +kernel
theorem dX8_lost_32 : decode cX8_lost 32 = .ok (.bipush (-103), 2) := by decide +kernel
theorem dX8_lost_34 : decode cX8_lost 34 = .ok (.ireturn, 1) := by decide +kernel
theorem dX8_lost_35 : decode cX8_lost 35 = .ok (.iload_n 2, 1) := by decide +kernel
theorem dX8_lost_36 : decode cX8_lost 36 = .ok (.invokestatic 186, 3) := by decide +kernel
theorem dX8_lost_39 : decode cX8_lost 39 = .ok (.ifCond .ne 6, 3) := by decide +kernel
theorem dX8_lost_42 : decode cX8_lost 42 = .ok (.bipush (-102), 2) := by decide +kernel
theorem dX8_lost_44 : decode cX8_lost 44 = .ok (.ireturn, 1) := by decide +kernel
theorem dX8_lost_45 : decode cX8_lost 45 = .ok (.aload_n 0, 1) := by decide +kernel
theorem dX8_lost_46 : decode cX8_lost 46 = .ok (.iload_n 1, 1) := by decide +kernel
theorem dX8_lost_47 : decode cX8_lost 47 = .ok (.invokevirtual 191, 3) := by decide +kernel
theorem dX8_lost_50 : decode cX8_lost 50 = .ok (.aload_n 0, 1) := by decide +kernel
theorem dX8_lost_51 : decode cX8_lost 51 = .ok (.iload_n 2, 1) := by decide +kernel
theorem dX8_lost_52 : decode cX8_lost 52 = .ok (.invokevirtual 195, 3) := by decide +kernel
theorem dX8_lost_55 : decode cX8_lost 55 = .ok (.iload_n 3, 1) := by decide +kernel
theorem dX8_lost_56 : decode cX8_lost 56 = .ok (.iconst (-1), 1) := by decide +kernel
theorem dX8_lost_57 : decode cX8_lost 57 = .ok (.if_icmp .ne 10, 3) := by decide +kernel
theorem dX8_lost_60 : decode cX8_lost 60 = .ok (.aload_n 0, 1) := by decide +kernel
theorem dX8_lost_61 : decode cX8_lost 61 = .ok (.getfield 159, 3) := by decide +kernel
theorem dX8_lost_64 : decode cX8_lost 64 = .ok (.goto 9, 3) := by decide +kernel
theorem dX8_lost_67 : decode cX8_lost 67 = .ok (.aload_n 0, 1) := by decide +kernel
theorem dX8_lost_68 : decode cX8_lost 68 = .ok (.getfield 49, 3) := by decide +kernel
theorem dX8_lost_71 : decode cX8_lost 71 = .ok (.iload_n 3, 1) := by decide +kernel
theorem dX8_lost_72 : decode cX8_lost 72 = .ok (.iaload, 1) := by decide +kernel
theorem dX8_lost_73 : decode cX8_lost 73 = .ok (.ireturn, 1) := by decide +kernel
theorem dX8_bendAt_0 : decode cX8_bendAt 0 = .ok (.iconst 0, 1) := by decide +kernel
theorem dX8_bendAt_1 : decode cX8_bendAt 1 = .ok (.istore_n 2, 1) := by decide +kernel
theorem dX8_bendAt_2 : decode cX8_bendAt 2 = .ok (.iconst 0, 1) := by decide +kernel
theorem dX8_bendAt_3 : decode cX8_bendAt 3 = .ok (.istore_n 3, 1) := by decide +kernel
theorem dX8_bendAt_4 : decode cX8_bendAt 4 = .ok (.iload_n 3, 1) := by decide +kernel
theorem dX8_bendAt_5 : decode cX8_bendAt 5 = .ok (.aload_n 0, 1) := by decide +kernel
theorem dX8_bendAt_6 : decode cX8_bendAt 6 = .ok (.getfield 116, 3) := by decide +kernel
theorem dX8_bendAt_9 : decode cX8_bendAt 9 = .ok (.if_icmp .ge 28, 3) := by decide +kernel
theorem dX8_bendAt_12 : decode cX8_bendAt 12 = .ok (.aload_n 0, 1) := by decide +kernel
theorem dX8_bendAt_13 : decode cX8_bendAt 13 = .ok (.getfield 19, 3) := by decide +kernel
theorem dX8_bendAt_16 : decode cX8_bendAt 16 = .ok (.iload_n 3, 1) := by decide +kernel
theorem dX8_bendAt_17 : decode cX8_bendAt 17 = .ok (.iaload, 1) := by decide +kernel
theorem dX8_bendAt_18 : decode cX8_bendAt 18 = .ok (.ifCond .le 13, 3) := by decide +kernel
theorem dX8_bendAt_21 : decode cX8_bendAt 21 = .ok (.iload_n 2, 1) := by decide +kernel
theorem dX8_bendAt_22 : decode cX8_bendAt 22 = .ok (.iload_n 1, 1) := by decide +kernel
theorem dX8_bendAt_23 : decode cX8_bendAt 23 = .ok (.if_icmp .ne 5, 3) := by decide +kernel
theorem dX8_bendAt_26 : decode cX8_bendAt 26 = .ok (.iload_n 3, 1) := by decide +kernel
theorem dX8_bendAt_27 : decode cX8_bendAt 27 = .ok (.ireturn, 1) := by decide +kernel
theorem dX8_bendAt_28 : decode cX8_bendAt 28 = .ok (.iinc 2 1, 3) := by decide +kernel
theorem dX8_bendAt_31 : decode cX8_bendAt 31 = .ok (.iinc 3 1, 3) := by decide +kernel
theorem dX8_bendAt_34 : decode cX8_bendAt 34 = .ok (.goto (-30), 3) := by decide +kernel
theorem dX8_bendAt_37 : decode cX8_bendAt 37 = .ok (.iconst (-1), 1) := by decide +kernel
theorem dX8_bendAt_38 : decode cX8_bendAt 38 = .ok (.ireturn, 1) := by decide +kernel
theorem dX8_isBraked_0 : decode cX8_isBraked 0 = .ok (.aload_n 0, 1) := by decide +kernel
theorem dX8_isBraked_1 : decode cX8_isBraked 1 = .ok (.iload_n 1, 1) := by decide +kernel
theorem dX8_isBraked_2 : decode cX8_isBraked 2 = .ok (.invokevirtual 198, 3) := by decide +kernel
theorem dX8_isBraked_5 : decode cX8_isBraked 5 = .ok (.ifCond .le 7, 3) := by decide +kernel
theorem dX8_isBraked_8 : decode cX8_isBraked 8 = .ok (.iconst 1, 1) := by decide +kernel
theorem dX8_isBraked_9 : decode cX8_isBraked 9 = .ok (.goto 4, 3) := by decide +kernel
theorem dX8_isBraked_12 : decode cX8_isBraked 12 = .ok (.iconst 0, 1) := by decide +kernel
theorem dX8_isBraked_13 : decode cX8_isBraked 13 = .ok (.ireturn, 1) := by decide +kernel
theorem dX8_bestBrakes_0 : decode cX8_bestBrakes 0 = .ok (.aload_n 0, 1) := by decide +kernel
theorem dX8_bestBrakes_1 : decode cX8_bestBrakes 1 = .ok (.iload_n 1, 1) := by decide +kernel
theorem dX8_bestBrakes_2 : decode cX8_bestBrakes 2 = .ok (.invokevirtual 132, 3) := by decide +kernel
theorem dX8_bestBrakes_5 : decode cX8_bestBrakes 5 = .ok (.ifCond .ne 6, 3) := by decide +kernel
theorem dX8_bestBrakes_8 : decode cX8_bestBrakes 8 = .ok (.bipush (-101), 2) := by decide +kernel
theorem dX8_bestBrakes_10 : decode cX8_bestBrakes 10 = .ok (.ireturn, 1) := by decide +kernel
theorem dX8_bestBrakes_11 : decode cX8_bestBrakes 11 = .ok (.aload_n 0, 1) := by decide +kernel
theorem dX8_bestBrakes_12 : decode cX8_bestBrakes 12 = .ok (.invokevirtual 182, 3) := by decide +kernel
theorem dX8_bestBrakes_15 : decode cX8_bestBrakes 15 = .ok (.ifCond .eq 6, 3) := by decide +kernel
theorem dX8_bestBrakes_18 : decode cX8_bestBrakes 18 = .ok (.bipush (-103), 2) := by decide +kernel
theorem dX8_bestBrakes_20 : decode cX8_bestBrakes 20 = .ok (.ireturn, 1) := by decide +kernel
theorem dX8_bestBrakes_21 : decode cX8_bestBrakes 21 = .ok (.iload_n 2, 1) := by decide +kernel
theorem dX8_bestBrakes_22 : decode cX8_bestBrakes 22 = .ok (.invokestatic 186, 3) := by decide +kernel
theorem dX8_bestBrakes_25 : decode cX8_bestBrakes 25 = .ok (.ifCond .eq 15, 3) := by decide +kernel
theorem dX8_bestBrakes_28 : decode cX8_bestBrakes 28 = .ok (.iload_n 3, 1) := by decide +kernel
theorem dX8_bestBrakes_29 : decode cX8_bestBrakes 29 = .ok (.i2l, 1) := by decide +kernel
theorem dX8_bestBrakes_30 : decode cX8_bestBrakes 30 = .ok (.lconst 0, 1) := by decide +kernel
theorem dX8_bestBrakes_31 : decode cX8_bestBrakes 31 = .ok (.ldc2_w 201, 3) := by decide +kernel
theorem dX8_bestBrakes_34 : decode cX8_bestBrakes 34 = .ok (.invokestatic 89, 3) := by decide +kernel
theorem dX8_bestBrakes_37 : decode cX8_bestBrakes 37 = .ok (.ifCond .ne 6, 3) := by decide +kernel
theorem dX8_bestBrakes_40 : decode cX8_bestBrakes 40 = .ok (.bipush (-102), 2) := by decide +kernel
theorem dX8_bestBrakes_42 : decode cX8_bestBrakes 42 = .ok (.ireturn, 1) := by decide +kernel
theorem dX8_bestBrakes_43 : decode cX8_bestBrakes 43 = .ok (.aload_n 0, 1) := by decide +kernel
theorem dX8_bestBrakes_44 : decode cX8_bestBrakes 44 = .ok (.iload_n 1, 1) := by decide +kernel
theorem dX8_bestBrakes_45 : decode cX8_bestBrakes 45 = .ok (.invokevirtual 191, 3) := by decide +kernel
theorem dX8_bestBrakes_48 : decode cX8_bestBrakes 48 = .ok (.iconst (-1), 1) := by decide +kernel
theorem dX8_bestBrakes_49 : decode cX8_bestBrakes 49 = .ok (.istore 4, 2) := by decide +kernel
theorem dX8_bestBrakes_51 : decode cX8_bestBrakes 51 = .ok (.iconst 0, 1) := by decide +kernel
theorem dX8_bestBrakes_52 : decode cX8_bestBrakes 52 = .ok (.istore 5, 2) := by decide +kernel
theorem dX8_bestBrakes_54 : decode cX8_bestBrakes 54 = .ok (.iconst 0, 1) := by decide +kernel
theorem dX8_bestBrakes_55 : decode cX8_bestBrakes 55 = .ok (.istore 6, 2) := by decide +kernel
theorem dX8_bestBrakes_57 : decode cX8_bestBrakes 57 = .ok (.iload 6, 2) := by decide +kernel
theorem dX8_bestBrakes_59 : decode cX8_bestBrakes 59 = .ok (.sipush 256, 3) := by decide +kernel
theorem dX8_bestBrakes_62 : decode cX8_bestBrakes 62 = .ok (.if_icmp .ge 186, 3) := by decide +kernel
theorem dX8_bestBrakes_65 : decode cX8_bestBrakes 65 = .ok (.iconst 1, 1) := by decide +kernel
theorem dX8_bestBrakes_66 : decode cX8_bestBrakes 66 = .ok (.istore 7, 2) := by decide +kernel
theorem dX8_bestBrakes_68 : decode cX8_bestBrakes 68 = .ok (.iconst 0, 1) := by decide +kernel
theorem dX8_bestBrakes_69 : decode cX8_bestBrakes 69 = .ok (.istore 8, 2) := by decide +kernel
theorem dX8_bestBrakes_71 : decode cX8_bestBrakes 71 = .ok (.iload 8, 2) := by decide +kernel
theorem dX8_bestBrakes_73 : decode cX8_bestBrakes 73 = .ok (.bipush 12, 2) := by decide +kernel
theorem dX8_bestBrakes_75 : decode cX8_bestBrakes 75 = .ok (.if_icmp .ge 17, 3) := by decide +kernel
theorem dX8_bestBrakes_78 : decode cX8_bestBrakes 78 = .ok (.aload_n 0, 1) := by decide +kernel
theorem dX8_bestBrakes_79 : decode cX8_bestBrakes 79 = .ok (.getfield 43, 3) := by decide +kernel
theorem dX8_bestBrakes_82 : decode cX8_bestBrakes 82 = .ok (.iload 8, 2) := by decide +kernel
theorem dX8_bestBrakes_84 : decode cX8_bestBrakes 84 = .ok (.iconst 0, 1) := by decide +kernel
theorem dX8_bestBrakes_85 : decode cX8_bestBrakes 85 = .ok (.iastore, 1) := by decide +kernel
theorem dX8_bestBrakes_86 : decode cX8_bestBrakes 86 = .ok (.iinc 8 1, 3) := by decide +kernel
theorem dX8_bestBrakes_89 : decode cX8_bestBrakes 89 = .ok (.goto (-18), 3) := by decide +kernel
theorem dX8_bestBrakes_92 : decode cX8_bestBrakes 92 = .ok (.iconst 0, 1) := by decide +kernel
theorem dX8_bestBrakes_93 : decode cX8_bestBrakes 93 = .ok (.istore 8, 2) := by decide +kernel
theorem dX8_bestBrakes_95 : decode cX8_bestBrakes 95 = .ok (.iload 8, 2) := by decide +kernel
theorem dX8_bestBrakes_97 : decode cX8_bestBrakes 97 = .ok (.iconst 4, 1) := by decide +kernel
theorem dX8_bestBrakes_98 : decode cX8_bestBrakes 98 = .ok (.if_icmp .ge 75, 3) := by decide +kernel
theorem dX8_bestBrakes_101 : decode cX8_bestBrakes 101 = .ok (.iload 6, 2) := by decide +kernel
theorem dX8_bestBrakes_103 : decode cX8_bestBrakes 103 = .ok (.bipush 6, 2) := by decide +kernel
theorem dX8_bestBrakes_105 : decode cX8_bestBrakes 105 = .ok (.iconst 2, 1) := by decide +kernel
theorem dX8_bestBrakes_106 : decode cX8_bestBrakes 106 = .ok (.iload 8, 2) := by decide +kernel
theorem dX8_bestBrakes_108 : decode cX8_bestBrakes 108 = .ok (.imul, 1) := by decide +kernel
theorem dX8_bestBrakes_109 : decode cX8_bestBrakes 109 = .ok (.isub, 1) := by decide +kernel
theorem dX8_bestBrakes_110 : decode cX8_bestBrakes 110 = .ok (.ishr, 1) := by decide +kernel
theorem dX8_bestBrakes_111 : decode cX8_bestBrakes 111 = .ok (.iconst 3, 1) := by decide +kernel
theorem dX8_bestBrakes_112 : decode cX8_bestBrakes 112 = .ok (.iand, 1) := by decide +kernel
theorem dX8_bestBrakes_113 : decode cX8_bestBrakes 113 = .ok (.istore 9, 2) := by decide +kernel
theorem dX8_bestBrakes_115 : decode cX8_bestBrakes 115 = .ok (.iload 7, 2) := by decide +kernel
theorem dX8_bestBrakes_117 : decode cX8_bestBrakes 117 = .ok (.ifCond .eq 21, 3) := by decide +kernel
theorem dX8_bestBrakes_120 : decode cX8_bestBrakes 120 = .ok (.iload 9, 2) := by decide +kernel
theorem dX8_bestBrakes_122 : decode cX8_bestBrakes 122 = .ok (.ifCond .eq 12, 3) := by decide +kernel
theorem dX8_bestBrakes_125 : decode cX8_bestBrakes 125 = .ok (.aload_n 0, 1) := by decide +kernel
theorem dX8_bestBrakes_126 : decode cX8_bestBrakes 126 = .ok (.iload 8, 2) := by decide +kernel
theorem dX8_bestBrakes_128 : decode cX8_bestBrakes 128 = .ok (.invokevirtual 203, 3) := by decide +kernel
theorem dX8_bestBrakes_131 : decode cX8_bestBrakes 131 = .ok (.ifCond .eq 7, 3) := by decide +kernel
theorem dX8_bestBrakes_134 : decode cX8_bestBrakes 134 = .ok (.iconst 1, 1) := by decide +kernel
theorem dX8_bestBrakes_135 : decode cX8_bestBrakes 135 = .ok (.goto 4, 3) := by decide +kernel
theorem dX8_bestBrakes_138 : decode cX8_bestBrakes 138 = .ok (.iconst 0, 1) := by decide +kernel
theorem dX8_bestBrakes_139 : decode cX8_bestBrakes 139 = .ok (.istore 7, 2) := by decide +kernel
theorem dX8_bestBrakes_141 : decode cX8_bestBrakes 141 = .ok (.aload_n 0, 1) := by decide +kernel
theorem dX8_bestBrakes_142 : decode cX8_bestBrakes 142 = .ok (.iload 8, 2) := by decide +kernel
theorem dX8_bestBrakes_144 : decode cX8_bestBrakes 144 = .ok (.invokevirtual 203, 3) := by decide +kernel
theorem dX8_bestBrakes_147 : decode cX8_bestBrakes 147 = .ok (.ifCond .eq 20, 3) := by decide +kernel
theorem dX8_bestBrakes_150 : decode cX8_bestBrakes 150 = .ok (.aload_n 0, 1) := by decide +kernel
theorem dX8_bestBrakes_151 : decode cX8_bestBrakes 151 = .ok (.getfield 43, 3) := by decide +kernel
theorem dX8_bestBrakes_154 : decode cX8_bestBrakes 154 = .ok (.aload_n 0, 1) := by decide +kernel
theorem dX8_bestBrakes_155 : decode cX8_bestBrakes 155 = .ok (.iload 8, 2) := by decide +kernel
theorem dX8_bestBrakes_157 : decode cX8_bestBrakes 157 = .ok (.invokevirtual 198, 3) := by decide +kernel
theorem dX8_bestBrakes_160 : decode cX8_bestBrakes 160 = .ok (.iconst 1, 1) := by decide +kernel
theorem dX8_bestBrakes_161 : decode cX8_bestBrakes 161 = .ok (.isub, 1) := by decide +kernel
theorem dX8_bestBrakes_162 : decode cX8_bestBrakes 162 = .ok (.iconst 3, 1) := by decide +kernel
theorem dX8_bestBrakes_163 : decode cX8_bestBrakes 163 = .ok (.iload 9, 2) := by decide +kernel
theorem dX8_bestBrakes_165 : decode cX8_bestBrakes 165 = .ok (.imul, 1) := by decide +kernel
theorem dX8_bestBrakes_166 : decode cX8_bestBrakes 166 = .ok (.iastore, 1) := by decide +kernel
theorem dX8_bestBrakes_167 : decode cX8_bestBrakes 167 = .ok (.iinc 8 1, 3) := by decide +kernel
theorem dX8_bestBrakes_170 : decode cX8_bestBrakes 170 = .ok (.goto (-75), 3) := by decide +kernel
theorem dX8_bestBrakes_173 : decode cX8_bestBrakes 173 = .ok (.iload 7, 2) := by decide +kernel
theorem dX8_bestBrakes_175 : decode cX8_bestBrakes 175 = .ok (.ifCond .eq 67, 3) := by decide +kernel
theorem dX8_bestBrakes_178 : decode cX8_bestBrakes 178 = .ok (.aload_n 0, 1) := by decide +kernel
theorem dX8_bestBrakes_179 : decode cX8_bestBrakes 179 = .ok (.iload_n 2, 1) := by decide +kernel
theorem dX8_bestBrakes_180 : decode cX8_bestBrakes 180 = .ok (.invokevirtual 195, 3) := by decide +kernel
theorem dX8_bestBrakes_183 : decode cX8_bestBrakes 183 = .ok (.aload_n 0, 1) := by decide +kernel
theorem dX8_bestBrakes_184 : decode cX8_bestBrakes 184 = .ok (.getfield 165, 3) := by decide +kernel
theorem dX8_bestBrakes_187 : decode cX8_bestBrakes 187 = .ok (.ifCond .ne 22, 3) := by decide +kernel
theorem dX8_bestBrakes_190 : decode cX8_bestBrakes 190 = .ok (.iload 4, 2) := by decide +kernel
theorem dX8_bestBrakes_192 : decode cX8_bestBrakes 192 = .ok (.iconst (-1), 1) := by decide +kernel
theorem dX8_bestBrakes_193 : decode cX8_bestBrakes 193 = .ok (.if_icmp .eq 12, 3) := by decide +kernel
theorem dX8_bestBrakes_196 : decode cX8_bestBrakes 196 = .ok (.aload_n 0, 1) := by decide +kernel
theorem dX8_bestBrakes_197 : decode cX8_bestBrakes 197 = .ok (.getfield 162, 3) := by decide +kernel
theorem dX8_bestBrakes_200 : decode cX8_bestBrakes 200 = .ok (.iload 5, 2) := by decide +kernel
theorem dX8_bestBrakes_202 : decode cX8_bestBrakes 202 = .ok (.if_icmp .ge 7, 3) := by decide +kernel
theorem dX8_bestBrakes_205 : decode cX8_bestBrakes 205 = .ok (.iconst 1, 1) := by decide +kernel
theorem dX8_bestBrakes_206 : decode cX8_bestBrakes 206 = .ok (.goto 4, 3) := by decide +kernel
theorem dX8_bestBrakes_209 : decode cX8_bestBrakes 209 = .ok (.iconst 0, 1) := by decide +kernel
theorem dX8_bestBrakes_210 : decode cX8_bestBrakes 210 = .ok (.istore 8, 2) := by decide +kernel
theorem dX8_bestBrakes_212 : decode cX8_bestBrakes 212 = .ok (.iload 8, 2) := by decide +kernel
theorem dX8_bestBrakes_214 : decode cX8_bestBrakes 214 = .ok (.ifCond .eq 8, 3) := by decide +kernel
theorem dX8_bestBrakes_217 : decode cX8_bestBrakes 217 = .ok (.iload 6, 2) := by decide +kernel
theorem dX8_bestBrakes_219 : decode cX8_bestBrakes 219 = .ok (.goto 5, 3) := by decide +kernel
theorem dX8_bestBrakes_222 : decode cX8_bestBrakes 222 = .ok (.iload 4, 2) := by decide +kernel
theorem dX8_bestBrakes_224 : decode cX8_bestBrakes 224 = .ok (.istore 4, 2) := by decide +kernel
theorem dX8_bestBrakes_226 : decode cX8_bestBrakes 226 = .ok (.iload 8, 2) := by decide +kernel
theorem dX8_bestBrakes_228 : decode cX8_bestBrakes 228 = .ok (.ifCond .eq 10, 3) := by decide +kernel
theorem dX8_bestBrakes_231 : decode cX8_bestBrakes 231 = .ok (.aload_n 0, 1) := by decide +kernel
theorem dX8_bestBrakes_232 : decode cX8_bestBrakes 232 = .ok (.getfield 162, 3) := by decide +kernel
theorem dX8_bestBrakes_235 : decode cX8_bestBrakes 235 = .ok (.goto 5, 3) := by decide +kernel
theorem dX8_bestBrakes_238 : decode cX8_bestBrakes 238 = .ok (.iload 5, 2) := by decide +kernel
theorem dX8_bestBrakes_240 : decode cX8_bestBrakes 240 = .ok (.istore 5, 2) := by decide +kernel
theorem dX8_bestBrakes_242 : decode cX8_bestBrakes 242 = .ok (.iinc 6 1, 3) := by decide +kernel
theorem dX8_bestBrakes_245 : decode cX8_bestBrakes 245 = .ok (.goto (-188), 3) := by decide +kernel
theorem dX8_bestBrakes_248 : decode cX8_bestBrakes 248 = .ok (.iload 4, 2) := by decide +kernel
theorem dX8_bestBrakes_250 : decode cX8_bestBrakes 250 = .ok (.iconst (-1), 1) := by decide +kernel
theorem dX8_bestBrakes_251 : decode cX8_bestBrakes 251 = .ok (.if_icmp .eq 7, 3) := by decide +kernel
theorem dX8_bestBrakes_254 : decode cX8_bestBrakes 254 = .ok (.iload_n 3, 1) := by decide +kernel
theorem dX8_bestBrakes_255 : decode cX8_bestBrakes 255 = .ok (.ifCond .ne 16, 3) := by decide +kernel
theorem dX8_bestBrakes_258 : decode cX8_bestBrakes 258 = .ok (.iload 4, 2) := by decide +kernel
theorem dX8_bestBrakes_260 : decode cX8_bestBrakes 260 = .ok (.iconst (-1), 1) := by decide +kernel
theorem dX8_bestBrakes_261 : decode cX8_bestBrakes 261 = .ok (.if_icmp .ne 7, 3) := by decide +kernel
theorem dX8_bestBrakes_264 : decode cX8_bestBrakes 264 = .ok (.iconst (-1), 1) := by decide +kernel
theorem dX8_bestBrakes_265 : decode cX8_bestBrakes 265 = .ok (.goto 5, 3) := by decide +kernel
theorem dX8_bestBrakes_268 : decode cX8_bestBrakes 268 = .ok (.iload 5, 2) := by decide +kernel
theorem dX8_bestBrakes_270 : decode cX8_bestBrakes 270 = .ok (.ireturn, 1) := by decide +kernel
theorem dX8_bestBrakes_271 : decode cX8_bestBrakes 271 = .ok (.aload_n 0, 1) := by decide +kernel
theorem dX8_bestBrakes_272 : decode cX8_bestBrakes 272 = .ok (.iload_n 3, 1) := by decide +kernel
theorem dX8_bestBrakes_273 : decode cX8_bestBrakes 273 = .ok (.iconst 1, 1) := by decide +kernel
theorem dX8_bestBrakes_274 : decode cX8_bestBrakes 274 = .ok (.isub, 1) := by decide +kernel
theorem dX8_bestBrakes_275 : decode cX8_bestBrakes 275 = .ok (.invokevirtual 203, 3) := by decide +kernel
theorem dX8_bestBrakes_278 : decode cX8_bestBrakes 278 = .ok (.ifCond .eq 19, 3) := by decide +kernel
theorem dX8_bestBrakes_281 : decode cX8_bestBrakes 281 = .ok (.iconst 3, 1) := by decide +kernel
theorem dX8_bestBrakes_282 : decode cX8_bestBrakes 282 = .ok (.iload 4, 2) := by decide +kernel
theorem dX8_bestBrakes_284 : decode cX8_bestBrakes 284 = .ok (.bipush 8, 2) := by decide +kernel
theorem dX8_bestBrakes_286 : decode cX8_bestBrakes 286 = .ok (.iconst 2, 1) := by decide +kernel
theorem dX8_bestBrakes_287 : decode cX8_bestBrakes 287 = .ok (.iload_n 3, 1) := by decide +kernel
theorem dX8_bestBrakes_288 : decode cX8_bestBrakes 288 = .ok (.imul, 1) := by decide +kernel
theorem dX8_bestBrakes_289 : decode cX8_bestBrakes 289 = .ok (.isub, 1) := by decide +kernel
theorem dX8_bestBrakes_290 : decode cX8_bestBrakes 290 = .ok (.ishr, 1) := by decide +kernel
theorem dX8_bestBrakes_291 : decode cX8_bestBrakes 291 = .ok (.iconst 3, 1) := by decide +kernel
theorem dX8_bestBrakes_292 : decode cX8_bestBrakes 292 = .ok (.iand, 1) := by decide +kernel
theorem dX8_bestBrakes_293 : decode cX8_bestBrakes 293 = .ok (.imul, 1) := by decide +kernel
theorem dX8_bestBrakes_294 : decode cX8_bestBrakes 294 = .ok (.goto 4, 3) := by decide +kernel
theorem dX8_bestBrakes_297 : decode cX8_bestBrakes 297 = .ok (.iconst (-1), 1) := by decide +kernel
theorem dX8_bestBrakes_298 : decode cX8_bestBrakes 298 = .ok (.ireturn, 1) := by decide +kernel
theorem dX8_bestPush_0 : decode cX8_bestPush 0 = .ok (.aload_n 0, 1) := by decide +kernel
theorem dX8_bestPush_1 : decode cX8_bestPush 1 = .ok (.iload_n 1, 1) := by decide +kernel
theorem dX8_bestPush_2 : decode cX8_bestPush 2 = .ok (.invokevirtual 132, 3) := by decide +kernel
theorem dX8_bestPush_5 : decode cX8_bestPush 5 = .ok (.ifCond .ne 6, 3) := by decide +kernel
theorem dX8_bestPush_8 : decode cX8_bestPush 8 = .ok (.bipush (-101), 2) := by decide +kernel
theorem dX8_bestPush_10 : decode cX8_bestPush 10 = .ok (.ireturn, 1) := by decide +kernel
theorem dX8_bestPush_11 : decode cX8_bestPush 11 = .ok (.aload_n 0, 1) := by decide +kernel
theorem dX8_bestPush_12 : decode cX8_bestPush 12 = .ok (.invokevirtual 182, 3) := by decide +kernel
theorem dX8_bestPush_15 : decode cX8_bestPush 15 = .ok (.ifCond .eq 6, 3) := by decide +kernel
theorem dX8_bestPush_18 : decode cX8_bestPush 18 = .ok (.bipush (-103), 2) := by decide +kernel
theorem dX8_bestPush_20 : decode cX8_bestPush 20 = .ok (.ireturn, 1) := by decide +kernel
theorem dX8_bestPush_21 : decode cX8_bestPush 21 = .ok (.iload_n 2, 1) := by decide +kernel
theorem dX8_bestPush_22 : decode cX8_bestPush 22 = .ok (.i2l, 1) := by decide +kernel
theorem dX8_bestPush_23 : decode cX8_bestPush 23 = .ok (.lconst 1, 1) := by decide +kernel
theorem dX8_bestPush_24 : decode cX8_bestPush 24 = .ok (.ldc2_w 142, 3) := by decide +kernel
theorem dX8_bestPush_27 : decode cX8_bestPush 27 = .ok (.invokestatic 89, 3) := by decide +kernel
theorem dX8_bestPush_30 : decode cX8_bestPush 30 = .ok (.ifCond .eq 13, 3) := by decide +kernel
theorem dX8_bestPush_33 : decode cX8_bestPush 33 = .ok (.iload_n 3, 1) := by decide +kernel
theorem dX8_bestPush_34 : decode cX8_bestPush 34 = .ok (.i2l, 1) := by decide +kernel
theorem dX8_bestPush_35 : decode cX8_bestPush 35 = .ok (.lconst 0, 1) := by decide +kernel
theorem dX8_bestPush_36 : decode cX8_bestPush 36 = .ok (.lconst 1, 1) := by decide +kernel
theorem dX8_bestPush_37 : decode cX8_bestPush 37 = .ok (.invokestatic 89, 3) := by decide +kernel
theorem dX8_bestPush_40 : decode cX8_bestPush 40 = .ok (.ifCond .ne 6, 3) := by decide +kernel
theorem dX8_bestPush_43 : decode cX8_bestPush 43 = .ok (.bipush (-102), 2) := by decide +kernel
theorem dX8_bestPush_45 : decode cX8_bestPush 45 = .ok (.ireturn, 1) := by decide +kernel
theorem dX8_bestPush_46 : decode cX8_bestPush 46 = .ok (.aload_n 0, 1) := by decide +kernel
theorem dX8_bestPush_47 : decode cX8_bestPush 47 = .ok (.iload_n 1, 1) := by decide +kernel
theorem dX8_bestPush_48 : decode cX8_bestPush 48 = .ok (.invokevirtual 191, 3) := by decide +kernel
theorem dX8_bestPush_51 : decode cX8_bestPush 51 = .ok (.iconst (-1), 1) := by decide +kernel
theorem dX8_bestPush_52 : decode cX8_bestPush 52 = .ok (.istore 4, 2) := by decide +kernel
theorem dX8_bestPush_54 : decode cX8_bestPush 54 = .ok (.iconst 0, 1) := by decide +kernel
theorem dX8_bestPush_55 : decode cX8_bestPush 55 = .ok (.istore 5, 2) := by decide +kernel
theorem dX8_bestPush_57 : decode cX8_bestPush 57 = .ok (.iconst 0, 1) := by decide +kernel
theorem dX8_bestPush_58 : decode cX8_bestPush 58 = .ok (.istore 6, 2) := by decide +kernel
theorem dX8_bestPush_60 : decode cX8_bestPush 60 = .ok (.iload 6, 2) := by decide +kernel
theorem dX8_bestPush_62 : decode cX8_bestPush 62 = .ok (.bipush 20, 2) := by decide +kernel
theorem dX8_bestPush_64 : decode cX8_bestPush 64 = .ok (.if_icmp .gt 92, 3) := by decide +kernel
theorem dX8_bestPush_67 : decode cX8_bestPush 67 = .ok (.aload_n 0, 1) := by decide +kernel
theorem dX8_bestPush_68 : decode cX8_bestPush 68 = .ok (.iload 6, 2) := by decide +kernel
theorem dX8_bestPush_70 : decode cX8_bestPush 70 = .ok (.iload_n 2, 1) := by decide +kernel
theorem dX8_bestPush_71 : decode cX8_bestPush 71 = .ok (.imul, 1) := by decide +kernel
theorem dX8_bestPush_72 : decode cX8_bestPush 72 = .ok (.bipush 10, 2) := by decide +kernel
theorem dX8_bestPush_74 : decode cX8_bestPush 74 = .ok (.imul, 1) := by decide +kernel
theorem dX8_bestPush_75 : decode cX8_bestPush 75 = .ok (.aload_n 0, 1) := by decide +kernel
theorem dX8_bestPush_76 : decode cX8_bestPush 76 = .ok (.getfield 146, 3) := by decide +kernel
theorem dX8_bestPush_79 : decode cX8_bestPush 79 = .ok (.idiv, 1) := by decide +kernel
theorem dX8_bestPush_80 : decode cX8_bestPush 80 = .ok (.invokevirtual 195, 3) := by decide +kernel
theorem dX8_bestPush_83 : decode cX8_bestPush 83 = .ok (.aload_n 0, 1) := by decide +kernel
theorem dX8_bestPush_84 : decode cX8_bestPush 84 = .ok (.getfield 162, 3) := by decide +kernel
theorem dX8_bestPush_87 : decode cX8_bestPush 87 = .ok (.bipush 60, 2) := by decide +kernel
theorem dX8_bestPush_89 : decode cX8_bestPush 89 = .ok (.iload 6, 2) := by decide +kernel
theorem dX8_bestPush_91 : decode cX8_bestPush 91 = .ok (.imul, 1) := by decide +kernel
theorem dX8_bestPush_92 : decode cX8_bestPush 92 = .ok (.iadd, 1) := by decide +kernel
theorem dX8_bestPush_93 : decode cX8_bestPush 93 = .ok (.istore 7, 2) := by decide +kernel
theorem dX8_bestPush_95 : decode cX8_bestPush 95 = .ok (.aload_n 0, 1) := by decide +kernel
theorem dX8_bestPush_96 : decode cX8_bestPush 96 = .ok (.getfield 165, 3) := by decide +kernel
theorem dX8_bestPush_99 : decode cX8_bestPush 99 = .ok (.ifCond .ne 20, 3) := by decide +kernel
theorem dX8_bestPush_102 : decode cX8_bestPush 102 = .ok (.iload 4, 2) := by decide +kernel
theorem dX8_bestPush_104 : decode cX8_bestPush 104 = .ok (.iconst (-1), 1) := by decide +kernel
theorem dX8_bestPush_105 : decode cX8_bestPush 105 = .ok (.if_icmp .eq 10, 3) := by decide +kernel
theorem dX8_bestPush_108 : decode cX8_bestPush 108 = .ok (.iload 7, 2) := by decide +kernel
theorem dX8_bestPush_110 : decode cX8_bestPush 110 = .ok (.iload 5, 2) := by decide +kernel
theorem dX8_bestPush_112 : decode cX8_bestPush 112 = .ok (.if_icmp .ge 7, 3) := by decide +kernel
theorem dX8_bestPush_115 : decode cX8_bestPush 115 = .ok (.iconst 1, 1) := by decide +kernel
theorem dX8_bestPush_116 : decode cX8_bestPush 116 = .ok (.goto 4, 3) := by decide +kernel
theorem dX8_bestPush_119 : decode cX8_bestPush 119 = .ok (.iconst 0, 1) := by decide +kernel
theorem dX8_bestPush_120 : decode cX8_bestPush 120 = .ok (.istore 8, 2) := by decide +kernel
theorem dX8_bestPush_122 : decode cX8_bestPush 122 = .ok (.iload 8, 2) := by decide +kernel
theorem dX8_bestPush_124 : decode cX8_bestPush 124 = .ok (.ifCond .eq 8, 3) := by decide +kernel
theorem dX8_bestPush_127 : decode cX8_bestPush 127 = .ok (.iload 6, 2) := by decide +kernel
theorem dX8_bestPush_129 : decode cX8_bestPush 129 = .ok (.goto 5, 3) := by decide +kernel
theorem dX8_bestPush_132 : decode cX8_bestPush 132 = .ok (.iload 4, 2) := by decide +kernel
theorem dX8_bestPush_134 : decode cX8_bestPush 134 = .ok (.istore 4, 2) := by decide +kernel
theorem dX8_bestPush_136 : decode cX8_bestPush 136 = .ok (.iload 8, 2) := by decide +kernel
theorem dX8_bestPush_138 : decode cX8_bestPush 138 = .ok (.ifCond .eq 8, 3) := by decide +kernel
theorem dX8_bestPush_141 : decode cX8_bestPush 141 = .ok (.iload 7, 2) := by decide +kernel
theorem dX8_bestPush_143 : decode cX8_bestPush 143 = .ok (.goto 5, 3) := by decide +kernel
theorem dX8_bestPush_146 : decode cX8_bestPush 146 = .ok (.iload 5, 2) := by decide +kernel
theorem dX8_bestPush_148 : decode cX8_bestPush 148 = .ok (.istore 5, 2) := by decide +kernel
theorem dX8_bestPush_150 : decode cX8_bestPush 150 = .ok (.iinc 6 1, 3) := by decide +kernel
theorem dX8_bestPush_153 : decode cX8_bestPush 153 = .ok (.goto (-93), 3) := by decide +kernel
theorem dX8_bestPush_156 : decode cX8_bestPush 156 = .ok (.iload 4, 2) := by decide +kernel
theorem dX8_bestPush_158 : decode cX8_bestPush 158 = .ok (.iconst (-1), 1) := by decide +kernel
theorem dX8_bestPush_159 : decode cX8_bestPush 159 = .ok (.if_icmp .eq 7, 3) := by decide +kernel
theorem dX8_bestPush_162 : decode cX8_bestPush 162 = .ok (.iload_n 3, 1) := by decide +kernel
theorem dX8_bestPush_163 : decode cX8_bestPush 163 = .ok (.ifCond .ne 8, 3) := by decide +kernel
theorem dX8_bestPush_166 : decode cX8_bestPush 166 = .ok (.iload 4, 2) := by decide +kernel
theorem dX8_bestPush_168 : decode cX8_bestPush 168 = .ok (.goto 5, 3) := by decide +kernel
theorem dX8_bestPush_171 : decode cX8_bestPush 171 = .ok (.iload 5, 2) := by decide +kernel
theorem dX8_bestPush_173 : decode cX8_bestPush 173 = .ok (.ireturn, 1) := by decide +kernel
theorem dX8_work_0 : decode cX8_work 0 = .ok (.aload_n 0, 1) := by decide +kernel
theorem dX8_work_1 : decode cX8_work 1 = .ok (.iload_n 1, 1) := by decide +kernel
theorem dX8_work_2 : decode cX8_work 2 = .ok (.invokevirtual 132, 3) := by decide +kernel
theorem dX8_work_5 : decode cX8_work 5 = .ok (.ifCond .ne 6, 3) := by decide +kernel
theorem dX8_work_8 : decode cX8_work 8 = .ok (.bipush (-101), 2) := by decide +kernel
theorem dX8_work_10 : decode cX8_work 10 = .ok (.ireturn, 1) := by decide +kernel
theorem dX8_work_11 : decode cX8_work 11 = .ok (.aload_n 0, 1) := by decide +kernel
theorem dX8_work_12 : decode cX8_work 12 = .ok (.invokevirtual 182, 3) := by decide +kernel
theorem dX8_work_15 : decode cX8_work 15 = .ok (.ifCond .eq 6, 3) := by decide +kernel
theorem dX8_work_18 : decode cX8_work 18 = .ok (.bipush (-103), 2) := by decide +kernel
theorem dX8_work_20 : decode cX8_work 20 = .ok (.ireturn, 1) := by decide +kernel
theorem dX8_work_21 : decode cX8_work 21 = .ok (.iload_n 2, 1) := by decide +kernel
theorem dX8_work_22 : decode cX8_work 22 = .ok (.invokestatic 186, 3) := by decide +kernel
theorem dX8_work_25 : decode cX8_work 25 = .ok (.ifCond .eq 28, 3) := by decide +kernel
theorem dX8_work_28 : decode cX8_work 28 = .ok (.iload_n 3, 1) := by decide +kernel
theorem dX8_work_29 : decode cX8_work 29 = .ok (.i2l, 1) := by decide +kernel
theorem dX8_work_30 : decode cX8_work 30 = .ok (.lconst 0, 1) := by decide +kernel
theorem dX8_work_31 : decode cX8_work 31 = .ok (.ldc2_w 206, 3) := by decide +kernel
theorem dX8_work_34 : decode cX8_work 34 = .ok (.invokestatic 89, 3) := by decide +kernel
theorem dX8_work_37 : decode cX8_work 37 = .ok (.ifCond .eq 16, 3) := by decide +kernel
theorem dX8_work_40 : decode cX8_work 40 = .ok (.iload 4, 2) := by decide +kernel
theorem dX8_work_42 : decode cX8_work 42 = .ok (.i2l, 1) := by decide +kernel
theorem dX8_work_43 : decode cX8_work 43 = .ok (.lconst 0, 1) := by decide +kernel
theorem dX8_work_44 : decode cX8_work 44 = .ok (.ldc2_w 138, 3) := by decide +kernel
theorem dX8_work_47 : decode cX8_work 47 = .ok (.invokestatic 89, 3) := by decide +kernel
theorem dX8_work_50 : decode cX8_work 50 = .ok (.ifCond .ne 6, 3) := by decide +kernel
theorem dX8_work_53 : decode cX8_work 53 = .ok (.bipush (-102), 2) := by decide +kernel
theorem dX8_work_55 : decode cX8_work 55 = .ok (.ireturn, 1) := by decide +kernel
theorem dX8_work_56 : decode cX8_work 56 = .ok (.iconst (-1), 1) := by decide +kernel
theorem dX8_work_57 : decode cX8_work 57 = .ok (.istore 5, 2) := by decide +kernel
theorem dX8_work_59 : decode cX8_work 59 = .ok (.iconst 0, 1) := by decide +kernel
theorem dX8_work_60 : decode cX8_work 60 = .ok (.istore 6, 2) := by decide +kernel
theorem dX8_work_62 : decode cX8_work 62 = .ok (.iconst 1, 1) := by decide +kernel
theorem dX8_work_63 : decode cX8_work 63 = .ok (.istore 7, 2) := by decide +kernel
theorem dX8_work_65 : decode cX8_work 65 = .ok (.iconst 0, 1) := by decide +kernel
theorem dX8_work_66 : decode cX8_work 66 = .ok (.istore 8, 2) := by decide +kernel
theorem dX8_work_68 : decode cX8_work 68 = .ok (.iload 8, 2) := by decide +kernel
theorem dX8_work_70 : decode cX8_work 70 = .ok (.aload_n 0, 1) := by decide +kernel
theorem dX8_work_71 : decode cX8_work 71 = .ok (.getfield 31, 3) := by decide +kernel
theorem dX8_work_74 : decode cX8_work 74 = .ok (.iload_n 1, 1) := by decide +kernel
theorem dX8_work_75 : decode cX8_work 75 = .ok (.iaload, 1) := by decide +kernel
theorem dX8_work_76 : decode cX8_work 76 = .ok (.if_icmp .ge 16, 3) := by decide +kernel
theorem dX8_work_79 : decode cX8_work 79 = .ok (.iload 7, 2) := by decide +kernel
theorem dX8_work_81 : decode cX8_work 81 = .ok (.bipush 7, 2) := by decide +kernel
theorem dX8_work_83 : decode cX8_work 83 = .ok (.imul, 1) := by decide +kernel
theorem dX8_work_84 : decode cX8_work 84 = .ok (.istore 7, 2) := by decide +kernel
theorem dX8_work_86 : decode cX8_work 86 = .ok (.iinc 8 1, 3) := by decide +kernel
theorem dX8_work_89 : decode cX8_work 89 = .ok (.goto (-21), 3) := by decide +kernel
theorem dX8_work_92 : decode cX8_work 92 = .ok (.iconst 0, 1) := by decide +kernel
theorem dX8_work_93 : decode cX8_work 93 = .ok (.istore 8, 2) := by decide +kernel
theorem dX8_work_95 : decode cX8_work 95 = .ok (.iload 8, 2) := by decide +kernel
theorem dX8_work_97 : decode cX8_work 97 = .ok (.iload 7, 2) := by decide +kernel
theorem dX8_work_99 : decode cX8_work 99 = .ok (.if_icmp .ge 175, 3) := by decide +kernel
theorem dX8_work_102 : decode cX8_work 102 = .ok (.aload_n 0, 1) := by decide +kernel
theorem dX8_work_103 : decode cX8_work 103 = .ok (.iload_n 1, 1) := by decide +kernel
theorem dX8_work_104 : decode cX8_work 104 = .ok (.invokevirtual 191, 3) := by decide +kernel
theorem dX8_work_107 : decode cX8_work 107 = .ok (.iload 8, 2) := by decide +kernel
theorem dX8_work_109 : decode cX8_work 109 = .ok (.istore 9, 2) := by decide +kernel
theorem dX8_work_111 : decode cX8_work 111 = .ok (.iconst 0, 1) := by decide +kernel
theorem dX8_work_112 : decode cX8_work 112 = .ok (.istore 10, 2) := by decide +kernel
theorem dX8_work_114 : decode cX8_work 114 = .ok (.iconst 1, 1) := by decide +kernel
theorem dX8_work_115 : decode cX8_work 115 = .ok (.istore 11, 2) := by decide +kernel
theorem dX8_work_117 : decode cX8_work 117 = .ok (.aload_n 0, 1) := by decide +kernel
theorem dX8_work_118 : decode cX8_work 118 = .ok (.getfield 149, 3) := by decide +kernel
theorem dX8_work_121 : decode cX8_work 121 = .ok (.iconst 1, 1) := by decide +kernel
theorem dX8_work_122 : decode cX8_work 122 = .ok (.isub, 1) := by decide +kernel
theorem dX8_work_123 : decode cX8_work 123 = .ok (.istore 12, 2) := by decide +kernel
theorem dX8_work_125 : decode cX8_work 125 = .ok (.iload 12, 2) := by decide +kernel
theorem dX8_work_127 : decode cX8_work 127 = .ok (.ifCond .lt 66, 3) := by decide +kernel
theorem dX8_work_130 : decode cX8_work 130 = .ok (.iload 9, 2) := by decide +kernel
theorem dX8_work_132 : decode cX8_work 132 = .ok (.bipush 7, 2) := by decide +kernel
theorem dX8_work_134 : decode cX8_work 134 = .ok (.irem, 1) := by decide +kernel
theorem dX8_work_135 : decode cX8_work 135 = .ok (.istore 13, 2) := by decide +kernel
theorem dX8_work_137 : decode cX8_work 137 = .ok (.iload 9, 2) := by decide +kernel
theorem dX8_work_139 : decode cX8_work 139 = .ok (.bipush 7, 2) := by decide +kernel
theorem dX8_work_141 : decode cX8_work 141 = .ok (.idiv, 1) := by decide +kernel
theorem dX8_work_142 : decode cX8_work 142 = .ok (.istore 9, 2) := by decide +kernel
theorem dX8_work_144 : decode cX8_work 144 = .ok (.iload 10, 2) := by decide +kernel
theorem dX8_work_146 : decode cX8_work 146 = .ok (.iload 13, 2) := by decide +kernel
theorem dX8_work_148 : decode cX8_work 148 = .ok (.iadd, 1) := by decide +kernel
theorem dX8_work_149 : decode cX8_work 149 = .ok (.istore 10, 2) := by decide +kernel
theorem dX8_work_151 : decode cX8_work 151 = .ok (.iload 11, 2) := by decide +kernel
theorem dX8_work_153 : decode cX8_work 153 = .ok (.ifCond .eq 19, 3) := by decide +kernel
theorem dX8_work_156 : decode cX8_work 156 = .ok (.iload 13, 2) := by decide +kernel
theorem dX8_work_158 : decode cX8_work 158 = .ok (.aload_n 0, 1) := by decide +kernel
theorem dX8_work_159 : decode cX8_work 159 = .ok (.getfield 40, 3) := by decide +kernel
theorem dX8_work_162 : decode cX8_work 162 = .ok (.iload 12, 2) := by decide +kernel
theorem dX8_work_164 : decode cX8_work 164 = .ok (.iaload, 1) := by decide +kernel
theorem dX8_work_165 : decode cX8_work 165 = .ok (.if_icmp .gt 7, 3) := by decide +kernel
theorem dX8_work_168 : decode cX8_work 168 = .ok (.iconst 1, 1) := by decide +kernel
theorem dX8_work_169 : decode cX8_work 169 = .ok (.goto 4, 3) := by decide +kernel
theorem dX8_work_172 : decode cX8_work 172 = .ok (.iconst 0, 1) := by decide +kernel
theorem dX8_work_173 : decode cX8_work 173 = .ok (.istore 11, 2) := by decide +kernel
theorem dX8_work_175 : decode cX8_work 175 = .ok (.aload_n 0, 1) := by decide +kernel
theorem dX8_work_176 : decode cX8_work 176 = .ok (.getfield 40, 3) := by decide +kernel
theorem dX8_work_179 : decode cX8_work 179 = .ok (.iload 12, 2) := by decide +kernel
theorem dX8_work_181 : decode cX8_work 181 = .ok (.dup2, 1) := by decide +kernel
theorem dX8_work_182 : decode cX8_work 182 = .ok (.iaload, 1) := by decide +kernel
theorem dX8_work_183 : decode cX8_work 183 = .ok (.iload 13, 2) := by decide +kernel
theorem dX8_work_185 : decode cX8_work 185 = .ok (.isub, 1) := by decide +kernel
theorem dX8_work_186 : decode cX8_work 186 = .ok (.iastore, 1) := by decide +kernel
theorem dX8_work_187 : decode cX8_work 187 = .ok (.iinc 12 (-1), 3) := by decide +kernel
theorem dX8_work_190 : decode cX8_work 190 = .ok (.goto (-65), 3) := by decide +kernel
theorem dX8_work_193 : decode cX8_work 193 = .ok (.iload 11, 2) := by decide +kernel
theorem dX8_work_195 : decode cX8_work 195 = .ok (.ifCond .eq 73, 3) := by decide +kernel
theorem dX8_work_198 : decode cX8_work 198 = .ok (.iload 10, 2) := by decide +kernel
theorem dX8_work_200 : decode cX8_work 200 = .ok (.iload_n 3, 1) := by decide +kernel
theorem dX8_work_201 : decode cX8_work 201 = .ok (.if_icmp .gt 67, 3) := by decide +kernel
theorem dX8_work_204 : decode cX8_work 204 = .ok (.aload_n 0, 1) := by decide +kernel
theorem dX8_work_205 : decode cX8_work 205 = .ok (.iload_n 2, 1) := by decide +kernel
theorem dX8_work_206 : decode cX8_work 206 = .ok (.invokevirtual 195, 3) := by decide +kernel
theorem dX8_work_209 : decode cX8_work 209 = .ok (.aload_n 0, 1) := by decide +kernel
theorem dX8_work_210 : decode cX8_work 210 = .ok (.getfield 165, 3) := by decide +kernel
theorem dX8_work_213 : decode cX8_work 213 = .ok (.ifCond .ne 22, 3) := by decide +kernel
theorem dX8_work_216 : decode cX8_work 216 = .ok (.iload 5, 2) := by decide +kernel
theorem dX8_work_218 : decode cX8_work 218 = .ok (.iconst (-1), 1) := by decide +kernel
theorem dX8_work_219 : decode cX8_work 219 = .ok (.if_icmp .eq 12, 3) := by decide +kernel
theorem dX8_work_222 : decode cX8_work 222 = .ok (.aload_n 0, 1) := by decide +kernel
theorem dX8_work_223 : decode cX8_work 223 = .ok (.getfield 162, 3) := by decide +kernel
theorem dX8_work_226 : decode cX8_work 226 = .ok (.iload 6, 2) := by decide +kernel
theorem dX8_work_228 : decode cX8_work 228 = .ok (.if_icmp .ge 7, 3) := by decide +kernel
theorem dX8_work_231 : decode cX8_work 231 = .ok (.iconst 1, 1) := by decide +kernel
theorem dX8_work_232 : decode cX8_work 232 = .ok (.goto 4, 3) := by decide +kernel
theorem dX8_work_235 : decode cX8_work 235 = .ok (.iconst 0, 1) := by decide +kernel
theorem dX8_work_236 : decode cX8_work 236 = .ok (.istore 12, 2) := by decide +kernel
theorem dX8_work_238 : decode cX8_work 238 = .ok (.iload 12, 2) := by decide +kernel
theorem dX8_work_240 : decode cX8_work 240 = .ok (.ifCond .eq 8, 3) := by decide +kernel
theorem dX8_work_243 : decode cX8_work 243 = .ok (.iload 8, 2) := by decide +kernel
theorem dX8_work_245 : decode cX8_work 245 = .ok (.goto 5, 3) := by decide +kernel
theorem dX8_work_248 : decode cX8_work 248 = .ok (.iload 5, 2) := by decide +kernel
theorem dX8_work_250 : decode cX8_work 250 = .ok (.istore 5, 2) := by decide +kernel
theorem dX8_work_252 : decode cX8_work 252 = .ok (.iload 12, 2) := by decide +kernel
theorem dX8_work_254 : decode cX8_work 254 = .ok (.ifCond .eq 10, 3) := by decide +kernel
theorem dX8_work_257 : decode cX8_work 257 = .ok (.aload_n 0, 1) := by decide +kernel
theorem dX8_work_258 : decode cX8_work 258 = .ok (.getfield 162, 3) := by decide +kernel
theorem dX8_work_261 : decode cX8_work 261 = .ok (.goto 5, 3) := by decide +kernel
theorem dX8_work_264 : decode cX8_work 264 = .ok (.iload 6, 2) := by decide +kernel
theorem dX8_work_266 : decode cX8_work 266 = .ok (.istore 6, 2) := by decide +kernel
theorem dX8_work_268 : decode cX8_work 268 = .ok (.iinc 8 1, 3) := by decide +kernel
theorem dX8_work_271 : decode cX8_work 271 = .ok (.goto (-176), 3) := by decide +kernel
theorem dX8_work_274 : decode cX8_work 274 = .ok (.iload 5, 2) := by decide +kernel
theorem dX8_work_276 : decode cX8_work 276 = .ok (.iconst (-1), 1) := by decide +kernel
theorem dX8_work_277 : decode cX8_work 277 = .ok (.if_icmp .eq 8, 3) := by decide +kernel
theorem dX8_work_280 : decode cX8_work 280 = .ok (.iload 4, 2) := by decide +kernel
theorem dX8_work_282 : decode cX8_work 282 = .ok (.ifCond .ne 16, 3) := by decide +kernel
theorem dX8_work_285 : decode cX8_work 285 = .ok (.iload 5, 2) := by decide +kernel
theorem dX8_work_287 : decode cX8_work 287 = .ok (.iconst (-1), 1) := by decide +kernel
theorem dX8_work_288 : decode cX8_work 288 = .ok (.if_icmp .ne 7, 3) := by decide +kernel
theorem dX8_work_291 : decode cX8_work 291 = .ok (.iconst (-1), 1) := by decide +kernel
theorem dX8_work_292 : decode cX8_work 292 = .ok (.goto 5, 3) := by decide +kernel
theorem dX8_work_295 : decode cX8_work 295 = .ok (.iload 6, 2) := by decide +kernel
theorem dX8_work_297 : decode cX8_work 297 = .ok (.ireturn, 1) := by decide +kernel
theorem dX8_work_298 : decode cX8_work 298 = .ok (.iload 4, 2) := by decide +kernel
theorem dX8_work_300 : decode cX8_work 300 = .ok (.aload_n 0, 1) := by decide +kernel
theorem dX8_work_301 : decode cX8_work 301 = .ok (.getfield 31, 3) := by decide +kernel
theorem dX8_work_304 : decode cX8_work 304 = .ok (.iload_n 1, 1) := by decide +kernel
theorem dX8_work_305 : decode cX8_work 305 = .ok (.iaload, 1) := by decide +kernel
theorem dX8_work_306 : decode cX8_work 306 = .ok (.if_icmp .le 5, 3) := by decide +kernel
theorem dX8_work_309 : decode cX8_work 309 = .ok (.iconst (-1), 1) := by decide +kernel
theorem dX8_work_310 : decode cX8_work 310 = .ok (.ireturn, 1) := by decide +kernel
theorem dX8_work_311 : decode cX8_work 311 = .ok (.aload_n 0, 1) := by decide +kernel
theorem dX8_work_312 : decode cX8_work 312 = .ok (.getfield 31, 3) := by decide +kernel
theorem dX8_work_315 : decode cX8_work 315 = .ok (.iload_n 1, 1) := by decide +kernel
theorem dX8_work_316 : decode cX8_work 316 = .ok (.iaload, 1) := by decide +kernel
theorem dX8_work_317 : decode cX8_work 317 = .ok (.istore 8, 2) := by decide +kernel
theorem dX8_work_319 : decode cX8_work 319 = .ok (.iload 8, 2) := by decide +kernel
theorem dX8_work_321 : decode cX8_work 321 = .ok (.iload 4, 2) := by decide +kernel
theorem dX8_work_323 : decode cX8_work 323 = .ok (.if_icmp .le 16, 3) := by decide +kernel
theorem dX8_work_326 : decode cX8_work 326 = .ok (.iload 5, 2) := by decide +kernel
theorem dX8_work_328 : decode cX8_work 328 = .ok (.bipush 7, 2) := by decide +kernel
theorem dX8_work_330 : decode cX8_work 330 = .ok (.idiv, 1) := by decide +kernel
theorem dX8_work_331 : decode cX8_work 331 = .ok (.istore 5, 2) := by decide +kernel
theorem dX8_work_333 : decode cX8_work 333 = .ok (.iinc 8 (-1), 3) := by decide +kernel
theorem dX8_work_336 : decode cX8_work 336 = .ok (.goto (-17), 3) := by decide +kernel
theorem dX8_work_339 : decode cX8_work 339 = .ok (.iload 5, 2) := by decide +kernel
theorem dX8_work_341 : decode cX8_work 341 = .ok (.bipush 7, 2) := by decide +kernel
theorem dX8_work_343 : decode cX8_work 343 = .ok (.irem, 1) := by decide +kernel
theorem dX8_work_344 : decode cX8_work 344 = .ok (.ireturn, 1) := by decide +kernel
theorem dX8_timeBy_0 : decode cX8_timeBy 0 = .ok (.aload_n 0, 1) := by decide +kernel
theorem dX8_timeBy_1 : decode cX8_timeBy 1 = .ok (.iload_n 1, 1) := by decide +kernel
theorem dX8_timeBy_2 : decode cX8_timeBy 2 = .ok (.invokevirtual 191, 3) := by decide +kernel
theorem dX8_timeBy_5 : decode cX8_timeBy 5 = .ok (.aload_n 0, 1) := by decide +kernel
theorem dX8_timeBy_6 : decode cX8_timeBy 6 = .ok (.iload_n 3, 1) := by decide +kernel
theorem dX8_timeBy_7 : decode cX8_timeBy 7 = .ok (.putfield 146, 3) := by decide +kernel
theorem dX8_timeBy_10 : decode cX8_timeBy 10 = .ok (.aload_n 0, 1) := by decide +kernel
theorem dX8_timeBy_11 : decode cX8_timeBy 11 = .ok (.iload_n 2, 1) := by decide +kernel
theorem dX8_timeBy_12 : decode cX8_timeBy 12 = .ok (.invokevirtual 195, 3) := by decide +kernel
theorem dX8_timeBy_15 : decode cX8_timeBy 15 = .ok (.aload_n 0, 1) := by decide +kernel
theorem dX8_timeBy_16 : decode cX8_timeBy 16 = .ok (.getfield 165, 3) := by decide +kernel
theorem dX8_timeBy_19 : decode cX8_timeBy 19 = .ok (.ifCond .ne 10, 3) := by decide +kernel
theorem dX8_timeBy_22 : decode cX8_timeBy 22 = .ok (.aload_n 0, 1) := by decide +kernel
theorem dX8_timeBy_23 : decode cX8_timeBy 23 = .ok (.getfield 162, 3) := by decide +kernel
theorem dX8_timeBy_26 : decode cX8_timeBy 26 = .ok (.goto 4, 3) := by decide +kernel
theorem dX8_timeBy_29 : decode cX8_timeBy 29 = .ok (.iconst (-1), 1) := by decide +kernel
theorem dX8_timeBy_30 : decode cX8_timeBy 30 = .ok (.ireturn, 1) := by decide +kernel
theorem dX8_weighed_0 : decode cX8_weighed 0 = .ok (.aload_n 0, 1) := by decide +kernel
theorem dX8_weighed_1 : decode cX8_weighed 1 = .ok (.iload_n 1, 1) := by decide +kernel
theorem dX8_weighed_2 : decode cX8_weighed 2 = .ok (.invokevirtual 132, 3) := by decide +kernel
theorem dX8_weighed_5 : decode cX8_weighed 5 = .ok (.ifCond .ne 6, 3) := by decide +kernel
theorem dX8_weighed_8 : decode cX8_weighed 8 = .ok (.bipush (-101), 2) := by decide +kernel
theorem dX8_weighed_10 : decode cX8_weighed 10 = .ok (.ireturn, 1) := by decide +kernel
theorem dX8_weighed_11 : decode cX8_weighed 11 = .ok (.aload_n 0, 1) := by decide +kernel
theorem dX8_weighed_12 : decode cX8_weighed 12 = .ok (.invokevirtual 182, 3) := by decide +kernel
theorem dX8_weighed_15 : decode cX8_weighed 15 = .ok (.ifCond .eq 6, 3) := by decide +kernel
theorem dX8_weighed_18 : decode cX8_weighed 18 = .ok (.bipush (-103), 2) := by decide +kernel
theorem dX8_weighed_20 : decode cX8_weighed 20 = .ok (.ireturn, 1) := by decide +kernel
theorem dX8_weighed_21 : decode cX8_weighed 21 = .ok (.iload_n 2, 1) := by decide +kernel
theorem dX8_weighed_22 : decode cX8_weighed 22 = .ok (.invokestatic 186, 3) := by decide +kernel
theorem dX8_weighed_25 : decode cX8_weighed 25 = .ok (.ifCond .eq 27, 3) := by decide +kernel
theorem dX8_weighed_28 : decode cX8_weighed 28 = .ok (.iload_n 3, 1) := by decide +kernel
theorem dX8_weighed_29 : decode cX8_weighed 29 = .ok (.i2l, 1) := by decide +kernel
theorem dX8_weighed_30 : decode cX8_weighed 30 = .ok (.ldc2_w 140, 3) := by decide +kernel
theorem dX8_weighed_33 : decode cX8_weighed 33 = .ok (.ldc2_w 142, 3) := by decide +kernel
theorem dX8_weighed_36 : decode cX8_weighed 36 = .ok (.invokestatic 89, 3) := by decide +kernel
theorem dX8_weighed_39 : decode cX8_weighed 39 = .ok (.ifCond .eq 13, 3) := by decide +kernel
theorem dX8_weighed_42 : decode cX8_weighed 42 = .ok (.aload_n 0, 1) := by decide +kernel
theorem dX8_weighed_43 : decode cX8_weighed 43 = .ok (.iload_n 1, 1) := by decide +kernel
theorem dX8_weighed_44 : decode cX8_weighed 44 = .ok (.iload_n 2, 1) := by decide +kernel
theorem dX8_weighed_45 : decode cX8_weighed 45 = .ok (.iload_n 3, 1) := by decide +kernel
theorem dX8_weighed_46 : decode cX8_weighed 46 = .ok (.invokevirtual 208, 3) := by decide +kernel
theorem dX8_weighed_49 : decode cX8_weighed 49 = .ok (.goto 5, 3) := by decide +kernel
theorem dX8_weighed_52 : decode cX8_weighed 52 = .ok (.bipush (-102), 2) := by decide +kernel
theorem dX8_weighed_54 : decode cX8_weighed 54 = .ok (.ireturn, 1) := by decide +kernel
theorem dX8_close_0 : decode cX8_close 0 = .ok (.aload_n 0, 1) := by decide +kernel
theorem dX8_close_1 : decode cX8_close 1 = .ok (.invokevirtual 182, 3) := by decide +kernel
theorem dX8_close_4 : decode cX8_close 4 = .ok (.ifCond .ne 10, 3) := by decide +kernel
theorem dX8_close_7 : decode cX8_close 7 = .ok (.aload_n 0, 1) := by decide +kernel
theorem dX8_close_8 : decode cX8_close 8 = .ok (.getfield 122, 3) := by decide +kernel
theorem dX8_close_11 : decode cX8_close 11 = .ok (.ifCond .ne 6, 3) := by decide +kernel
theorem dX8_close_14 : decode cX8_close 14 = .ok (.bipush (-103), 2) := by decide +kernel
theorem dX8_close_16 : decode cX8_close 16 = .ok (.ireturn, 1) := by decide +kernel
theorem dX8_close_17 : decode cX8_close 17 = .ok (.iload_n 1, 1) := by decide +kernel
theorem dX8_close_18 : decode cX8_close 18 = .ok (.invokestatic 186, 3) := by decide +kernel
theorem dX8_close_21 : decode cX8_close 21 = .ok (.ifCond .eq 13, 3) := by decide +kernel
theorem dX8_close_24 : decode cX8_close 24 = .ok (.iload_n 2, 1) := by decide +kernel
theorem dX8_close_25 : decode cX8_close 25 = .ok (.i2l, 1) := by decide +kernel
theorem dX8_close_26 : decode cX8_close 26 = .ok (.lconst 0, 1) := by decide +kernel
theorem dX8_close_27 : decode cX8_close 27 = .ok (.lconst 1, 1) := by decide +kernel
theorem dX8_close_28 : decode cX8_close 28 = .ok (.invokestatic 89, 3) := by decide +kernel
theorem dX8_close_31 : decode cX8_close 31 = .ok (.ifCond .ne 6, 3) := by decide +kernel
theorem dX8_close_34 : decode cX8_close 34 = .ok (.bipush (-102), 2) := by decide +kernel
theorem dX8_close_36 : decode cX8_close 36 = .ok (.ireturn, 1) := by decide +kernel
theorem dX8_close_37 : decode cX8_close 37 = .ok (.iconst (-1), 1) := by decide +kernel
theorem dX8_close_38 : decode cX8_close 38 = .ok (.istore_n 3, 1) := by decide +kernel
theorem dX8_close_39 : decode cX8_close 39 = .ok (.iconst 0, 1) := by decide +kernel
theorem dX8_close_40 : decode cX8_close 40 = .ok (.istore 4, 2) := by decide +kernel
theorem dX8_close_42 : decode cX8_close 42 = .ok (.bipush 10, 2) := by decide +kernel
theorem dX8_close_44 : decode cX8_close 44 = .ok (.istore 5, 2) := by decide +kernel
theorem dX8_close_46 : decode cX8_close 46 = .ok (.iload 5, 2) := by decide +kernel
theorem dX8_close_48 : decode cX8_close 48 = .ok (.bipush 100, 2) := by decide +kernel
theorem dX8_close_50 : decode cX8_close 50 = .ok (.if_icmp .ge 180, 3) := by decide +kernel
theorem dX8_close_53 : decode cX8_close 53 = .ok (.iconst (-1), 1) := by decide +kernel
theorem dX8_close_54 : decode cX8_close 54 = .ok (.istore 6, 2) := by decide +kernel
theorem dX8_close_56 : decode cX8_close 56 = .ok (.iconst (-1), 1) := by decide +kernel
theorem dX8_close_57 : decode cX8_close 57 = .ok (.istore 7, 2) := by decide +kernel
theorem dX8_close_59 : decode cX8_close 59 = .ok (.iconst 1, 1) := by decide +kernel
theorem dX8_close_60 : decode cX8_close 60 = .ok (.istore 8, 2) := by decide +kernel
theorem dX8_close_62 : decode cX8_close 62 = .ok (.iconst 0, 1) := by decide +kernel
theorem dX8_close_63 : decode cX8_close 63 = .ok (.istore 9, 2) := by decide +kernel
theorem dX8_close_65 : decode cX8_close 65 = .ok (.iload 9, 2) := by decide +kernel
theorem dX8_close_67 : decode cX8_close 67 = .ok (.aload_n 0, 1) := by decide +kernel
theorem dX8_close_68 : decode cX8_close 68 = .ok (.getfield 122, 3) := by decide +kernel
theorem dX8_close_71 : decode cX8_close 71 = .ok (.if_icmp .ge 97, 3) := by decide +kernel
theorem dX8_close_74 : decode cX8_close 74 = .ok (.iload 8, 2) := by decide +kernel
theorem dX8_close_76 : decode cX8_close 76 = .ok (.ifCond .eq 92, 3) := by decide +kernel
theorem dX8_close_79 : decode cX8_close 79 = .ok (.aload_n 0, 1) := by decide +kernel
theorem dX8_close_80 : decode cX8_close 80 = .ok (.iload 9, 2) := by decide +kernel
theorem dX8_close_82 : decode cX8_close 82 = .ok (.iload_n 1, 1) := by decide +kernel
theorem dX8_close_83 : decode cX8_close 83 = .ok (.aload_n 0, 1) := by decide +kernel
theorem dX8_close_84 : decode cX8_close 84 = .ok (.getfield 28, 3) := by decide +kernel
theorem dX8_close_87 : decode cX8_close 87 = .ok (.iload 9, 2) := by decide +kernel
theorem dX8_close_89 : decode cX8_close 89 = .ok (.iaload, 1) := by decide +kernel
theorem dX8_close_90 : decode cX8_close 90 = .ok (.iload 5, 2) := by decide +kernel
theorem dX8_close_92 : decode cX8_close 92 = .ok (.if_icmp .le 8, 3) := by decide +kernel
theorem dX8_close_95 : decode cX8_close 95 = .ok (.iload 5, 2) := by decide +kernel
theorem dX8_close_97 : decode cX8_close 97 = .ok (.goto 10, 3) := by decide +kernel
theorem dX8_close_100 : decode cX8_close 100 = .ok (.aload_n 0, 1) := by decide +kernel
theorem dX8_close_101 : decode cX8_close 101 = .ok (.getfield 28, 3) := by decide +kernel
theorem dX8_close_104 : decode cX8_close 104 = .ok (.iload 9, 2) := by decide +kernel
theorem dX8_close_106 : decode cX8_close 106 = .ok (.iaload, 1) := by decide +kernel
theorem dX8_close_107 : decode cX8_close 107 = .ok (.invokevirtual 208, 3) := by decide +kernel
theorem dX8_close_110 : decode cX8_close 110 = .ok (.istore 10, 2) := by decide +kernel
theorem dX8_close_112 : decode cX8_close 112 = .ok (.iload 10, 2) := by decide +kernel
theorem dX8_close_114 : decode cX8_close 114 = .ok (.iconst (-1), 1) := by decide +kernel
theorem dX8_close_115 : decode cX8_close 115 = .ok (.if_icmp .eq 7, 3) := by decide +kernel
theorem dX8_close_118 : decode cX8_close 118 = .ok (.iconst 1, 1) := by decide +kernel
theorem dX8_close_119 : decode cX8_close 119 = .ok (.goto 4, 3) := by decide +kernel
theorem dX8_close_122 : decode cX8_close 122 = .ok (.iconst 0, 1) := by decide +kernel
theorem dX8_close_123 : decode cX8_close 123 = .ok (.istore 8, 2) := by decide +kernel
theorem dX8_close_125 : decode cX8_close 125 = .ok (.iload 9, 2) := by decide +kernel
theorem dX8_close_127 : decode cX8_close 127 = .ok (.ifCond .eq 10, 3) := by decide +kernel
theorem dX8_close_130 : decode cX8_close 130 = .ok (.iload 10, 2) := by decide +kernel
theorem dX8_close_132 : decode cX8_close 132 = .ok (.iload 6, 2) := by decide +kernel
theorem dX8_close_134 : decode cX8_close 134 = .ok (.if_icmp .ge 8, 3) := by decide +kernel
theorem dX8_close_137 : decode cX8_close 137 = .ok (.iload 10, 2) := by decide +kernel
theorem dX8_close_139 : decode cX8_close 139 = .ok (.goto 5, 3) := by decide +kernel
theorem dX8_close_142 : decode cX8_close 142 = .ok (.iload 6, 2) := by decide +kernel
theorem dX8_close_144 : decode cX8_close 144 = .ok (.istore 6, 2) := by decide +kernel
theorem dX8_close_146 : decode cX8_close 146 = .ok (.iload 10, 2) := by decide +kernel
theorem dX8_close_148 : decode cX8_close 148 = .ok (.iload 7, 2) := by decide +kernel
theorem dX8_close_150 : decode cX8_close 150 = .ok (.if_icmp .le 8, 3) := by decide +kernel
theorem dX8_close_153 : decode cX8_close 153 = .ok (.iload 10, 2) := by decide +kernel
theorem dX8_close_155 : decode cX8_close 155 = .ok (.goto 5, 3) := by decide +kernel
theorem dX8_close_158 : decode cX8_close 158 = .ok (.iload 7, 2) := by decide +kernel
theorem dX8_close_160 : decode cX8_close 160 = .ok (.istore 7, 2) := by decide +kernel
theorem dX8_close_162 : decode cX8_close 162 = .ok (.iinc 9 1, 3) := by decide +kernel
theorem dX8_close_165 : decode cX8_close 165 = .ok (.goto (-100), 3) := by decide +kernel
theorem dX8_close_168 : decode cX8_close 168 = .ok (.iload 8, 2) := by decide +kernel
theorem dX8_close_170 : decode cX8_close 170 = .ok (.ifCond .eq 22, 3) := by decide +kernel
theorem dX8_close_173 : decode cX8_close 173 = .ok (.iload_n 3, 1) := by decide +kernel
theorem dX8_close_174 : decode cX8_close 174 = .ok (.iconst (-1), 1) := by decide +kernel
theorem dX8_close_175 : decode cX8_close 175 = .ok (.if_icmp .eq 13, 3) := by decide +kernel
theorem dX8_close_178 : decode cX8_close 178 = .ok (.iload 7, 2) := by decide +kernel
theorem dX8_close_180 : decode cX8_close 180 = .ok (.iload 6, 2) := by decide +kernel
theorem dX8_close_182 : decode cX8_close 182 = .ok (.isub, 1) := by decide +kernel
theorem dX8_close_183 : decode cX8_close 183 = .ok (.iload 4, 2) := by decide +kernel
theorem dX8_close_185 : decode cX8_close 185 = .ok (.if_icmp .gt 7, 3) := by decide +kernel
theorem dX8_close_188 : decode cX8_close 188 = .ok (.iconst 1, 1) := by decide +kernel
theorem dX8_close_189 : decode cX8_close 189 = .ok (.goto 4, 3) := by decide +kernel
theorem dX8_close_192 : decode cX8_close 192 = .ok (.iconst 0, 1) := by decide +kernel
theorem dX8_close_193 : decode cX8_close 193 = .ok (.istore 9, 2) := by decide +kernel
theorem dX8_close_195 : decode cX8_close 195 = .ok (.iload 9, 2) := by decide +kernel
theorem dX8_close_197 : decode cX8_close 197 = .ok (.ifCond .eq 8, 3) := by decide +kernel
theorem dX8_close_200 : decode cX8_close 200 = .ok (.iload 5, 2) := by decide +kernel
theorem dX8_close_202 : decode cX8_close 202 = .ok (.goto 4, 3) := by decide +kernel
theorem dX8_close_205 : decode cX8_close 205 = .ok (.iload_n 3, 1) := by decide +kernel
theorem dX8_close_206 : decode cX8_close 206 = .ok (.istore_n 3, 1) := by decide +kernel
theorem dX8_close_207 : decode cX8_close 207 = .ok (.iload 9, 2) := by decide +kernel
theorem dX8_close_209 : decode cX8_close 209 = .ok (.ifCond .eq 11, 3) := by decide +kernel
theorem dX8_close_212 : decode cX8_close 212 = .ok (.iload 7, 2) := by decide +kernel
theorem dX8_close_214 : decode cX8_close 214 = .ok (.iload 6, 2) := by decide +kernel
theorem dX8_close_216 : decode cX8_close 216 = .ok (.isub, 1) := by decide +kernel
theorem dX8_close_217 : decode cX8_close 217 = .ok (.goto 5, 3) := by decide +kernel
theorem dX8_close_220 : decode cX8_close 220 = .ok (.iload 4, 2) := by decide +kernel
theorem dX8_close_222 : decode cX8_close 222 = .ok (.istore 4, 2) := by decide +kernel
theorem dX8_close_224 : decode cX8_close 224 = .ok (.iinc 5 1, 3) := by decide +kernel
theorem dX8_close_227 : decode cX8_close 227 = .ok (.goto (-181), 3) := by decide +kernel
theorem dX8_close_230 : decode cX8_close 230 = .ok (.iload_n 3, 1) := by decide +kernel
theorem dX8_close_231 : decode cX8_close 231 = .ok (.iconst (-1), 1) := by decide +kernel
theorem dX8_close_232 : decode cX8_close 232 = .ok (.if_icmp .eq 7, 3) := by decide +kernel
theorem dX8_close_235 : decode cX8_close 235 = .ok (.iload_n 2, 1) := by decide +kernel
theorem dX8_close_236 : decode cX8_close 236 = .ok (.ifCond .ne 7, 3) := by decide +kernel
theorem dX8_close_239 : decode cX8_close 239 = .ok (.iload_n 3, 1) := by decide +kernel
theorem dX8_close_240 : decode cX8_close 240 = .ok (.goto 5, 3) := by decide +kernel
theorem dX8_close_243 : decode cX8_close 243 = .ok (.iload 4, 2) := by decide +kernel
theorem dX8_close_245 : decode cX8_close 245 = .ok (.ireturn, 1) := by decide +kernel
theorem dX8_farthestBy_0 : decode cX8_farthestBy 0 = .ok (.aload_n 0, 1) := by decide +kernel
theorem dX8_farthestBy_1 : decode cX8_farthestBy 1 = .ok (.iload_n 1, 1) := by decide +kernel
theorem dX8_farthestBy_2 : decode cX8_farthestBy 2 = .ok (.invokevirtual 191, 3) := by decide +kernel
theorem dX8_farthestBy_5 : decode cX8_farthestBy 5 = .ok (.aload_n 0, 1) := by decide +kernel
theorem dX8_farthestBy_6 : decode cX8_farthestBy 6 = .ok (.getfield 37, 3) := by decide +kernel
theorem dX8_farthestBy_9 : decode cX8_farthestBy 9 = .ok (.aload_n 0, 1) := by decide +kernel
theorem dX8_farthestBy_10 : decode cX8_farthestBy 10 = .ok (.getfield 149, 3) := by decide +kernel
theorem dX8_farthestBy_13 : decode cX8_farthestBy 13 = .ok (.iconst 1, 1) := by decide +kernel
theorem dX8_farthestBy_14 : decode cX8_farthestBy 14 = .ok (.iastore, 1) := by decide +kernel
theorem dX8_farthestBy_15 : decode cX8_farthestBy 15 = .ok (.aload_n 0, 1) := by decide +kernel
theorem dX8_farthestBy_16 : decode cX8_farthestBy 16 = .ok (.getfield 40, 3) := by decide +kernel
theorem dX8_farthestBy_19 : decode cX8_farthestBy 19 = .ok (.aload_n 0, 1) := by decide +kernel
theorem dX8_farthestBy_20 : decode cX8_farthestBy 20 = .ok (.getfield 149, 3) := by decide +kernel
theorem dX8_farthestBy_23 : decode cX8_farthestBy 23 = .ok (.iload_n 3, 1) := by decide +kernel
theorem dX8_farthestBy_24 : decode cX8_farthestBy 24 = .ok (.iastore, 1) := by decide +kernel
theorem dX8_farthestBy_25 : decode cX8_farthestBy 25 = .ok (.aload_n 0, 1) := by decide +kernel
theorem dX8_farthestBy_26 : decode cX8_farthestBy 26 = .ok (.dup, 1) := by decide +kernel
theorem dX8_farthestBy_27 : decode cX8_farthestBy 27 = .ok (.getfield 149, 3) := by decide +kernel
theorem dX8_farthestBy_30 : decode cX8_farthestBy 30 = .ok (.iconst 1, 1) := by decide +kernel
theorem dX8_farthestBy_31 : decode cX8_farthestBy 31 = .ok (.iadd, 1) := by decide +kernel
theorem dX8_farthestBy_32 : decode cX8_farthestBy 32 = .ok (.putfield 149, 3) := by decide +kernel
theorem dX8_farthestBy_35 : decode cX8_farthestBy 35 = .ok (.iload_n 2, 1) := by decide +kernel
theorem dX8_farthestBy_36 : decode cX8_farthestBy 36 = .ok (.istore 4, 2) := by decide +kernel
theorem dX8_farthestBy_38 : decode cX8_farthestBy 38 = .ok (.iconst 0, 1) := by decide +kernel
theorem dX8_farthestBy_39 : decode cX8_farthestBy 39 = .ok (.istore 5, 2) := by decide +kernel
theorem dX8_farthestBy_41 : decode cX8_farthestBy 41 = .ok (.iload 5, 2) := by decide +kernel
theorem dX8_farthestBy_43 : decode cX8_farthestBy 43 = .ok (.sipush 999, 3) := by decide +kernel
theorem dX8_farthestBy_46 : decode cX8_farthestBy 46 = .ok (.if_icmp .ge 55, 3) := by decide +kernel
theorem dX8_farthestBy_49 : decode cX8_farthestBy 49 = .ok (.iload 4, 2) := by decide +kernel
theorem dX8_farthestBy_51 : decode cX8_farthestBy 51 = .ok (.istore 6, 2) := by decide +kernel
theorem dX8_farthestBy_53 : decode cX8_farthestBy 53 = .ok (.iconst 0, 1) := by decide +kernel
theorem dX8_farthestBy_54 : decode cX8_farthestBy 54 = .ok (.istore 7, 2) := by decide +kernel
theorem dX8_farthestBy_56 : decode cX8_farthestBy 56 = .ok (.iload 7, 2) := by decide +kernel
theorem dX8_farthestBy_58 : decode cX8_farthestBy 58 = .ok (.aload_n 0, 1) := by decide +kernel
theorem dX8_farthestBy_59 : decode cX8_farthestBy 59 = .ok (.getfield 149, 3) := by decide +kernel
theorem dX8_farthestBy_62 : decode cX8_farthestBy 62 = .ok (.if_icmp .ge 25, 3) := by decide +kernel
theorem dX8_farthestBy_65 : decode cX8_farthestBy 65 = .ok (.iload 4, 2) := by decide +kernel
theorem dX8_farthestBy_67 : decode cX8_farthestBy 67 = .ok (.aload_n 0, 1) := by decide +kernel
theorem dX8_farthestBy_68 : decode cX8_farthestBy 68 = .ok (.iload 7, 2) := by decide +kernel
theorem dX8_farthestBy_70 : decode cX8_farthestBy 70 = .ok (.iload 6, 2) := by decide +kernel
theorem dX8_farthestBy_72 : decode cX8_farthestBy 72 = .ok (.iconst 0, 1) := by decide +kernel
theorem dX8_farthestBy_73 : decode cX8_farthestBy 73 = .ok (.iconst 0, 1) := by decide +kernel
theorem dX8_farthestBy_74 : decode cX8_farthestBy 74 = .ok (.iconst 0, 1) := by decide +kernel
theorem dX8_farthestBy_75 : decode cX8_farthestBy 75 = .ok (.invokevirtual 155, 3) := by decide +kernel
theorem dX8_farthestBy_78 : decode cX8_farthestBy 78 = .ok (.isub, 1) := by decide +kernel
theorem dX8_farthestBy_79 : decode cX8_farthestBy 79 = .ok (.istore 4, 2) := by decide +kernel
theorem dX8_farthestBy_81 : decode cX8_farthestBy 81 = .ok (.iinc 7 1, 3) := by decide +kernel
theorem dX8_farthestBy_84 : decode cX8_farthestBy 84 = .ok (.goto (-28), 3) := by decide +kernel
theorem dX8_farthestBy_87 : decode cX8_farthestBy 87 = .ok (.iload 4, 2) := by decide +kernel
theorem dX8_farthestBy_89 : decode cX8_farthestBy 89 = .ok (.ifCond .gt 6, 3) := by decide +kernel
theorem dX8_farthestBy_92 : decode cX8_farthestBy 92 = .ok (.iload 5, 2) := by decide +kernel
theorem dX8_farthestBy_94 : decode cX8_farthestBy 94 = .ok (.ireturn, 1) := by decide +kernel
theorem dX8_farthestBy_95 : decode cX8_farthestBy 95 = .ok (.iinc 5 1, 3) := by decide +kernel
theorem dX8_farthestBy_98 : decode cX8_farthestBy 98 = .ok (.goto (-57), 3) := by decide +kernel
theorem dX8_farthestBy_101 : decode cX8_farthestBy 101 = .ok (.sipush 999, 3) := by decide +kernel
theorem dX8_farthestBy_104 : decode cX8_farthestBy 104 = .ok (.ireturn, 1) := by decide +kernel
theorem dX8_farthest_0 : decode cX8_farthest 0 = .ok (.aload_n 0, 1) := by decide +kernel
theorem dX8_farthest_1 : decode cX8_farthest 1 = .ok (.iload_n 1, 1) := by decide +kernel
theorem dX8_farthest_2 : decode cX8_farthest 2 = .ok (.invokevirtual 132, 3) := by decide +kernel
theorem dX8_farthest_5 : decode cX8_farthest 5 = .ok (.ifCond .ne 6, 3) := by decide +kernel
theorem dX8_farthest_8 : decode cX8_farthest 8 = .ok (.bipush (-101), 2) := by decide +kernel
theorem dX8_farthest_10 : decode cX8_farthest 10 = .ok (.ireturn, 1) := by decide +kernel
theorem dX8_farthest_11 : decode cX8_farthest 11 = .ok (.iload_n 2, 1) := by decide +kernel
theorem dX8_farthest_12 : decode cX8_farthest 12 = .ok (.invokestatic 186, 3) := by decide +kernel
theorem dX8_farthest_15 : decode cX8_farthest 15 = .ok (.ifCond .eq 13, 3) := by decide +kernel
theorem dX8_farthest_18 : decode cX8_farthest 18 = .ok (.aload_n 0, 1) := by decide +kernel
theorem dX8_farthest_19 : decode cX8_farthest 19 = .ok (.iload_n 1, 1) := by decide +kernel
theorem dX8_farthest_20 : decode cX8_farthest 20 = .ok (.iload_n 2, 1) := by decide +kernel
theorem dX8_farthest_21 : decode cX8_farthest 21 = .ok (.iconst 0, 1) := by decide +kernel
theorem dX8_farthest_22 : decode cX8_farthest 22 = .ok (.invokevirtual 212, 3) := by decide +kernel
theorem dX8_farthest_25 : decode cX8_farthest 25 = .ok (.goto 5, 3) := by decide +kernel
theorem dX8_farthest_28 : decode cX8_farthest 28 = .ok (.bipush (-102), 2) := by decide +kernel
theorem dX8_farthest_30 : decode cX8_farthest 30 = .ok (.ireturn, 1) := by decide +kernel
theorem dX8_coast_0 : decode cX8_coast 0 = .ok (.aload_n 0, 1) := by decide +kernel
theorem dX8_coast_1 : decode cX8_coast 1 = .ok (.iload_n 1, 1) := by decide +kernel
theorem dX8_coast_2 : decode cX8_coast 2 = .ok (.invokevirtual 132, 3) := by decide +kernel
theorem dX8_coast_5 : decode cX8_coast 5 = .ok (.ifCond .ne 6, 3) := by decide +kernel
theorem dX8_coast_8 : decode cX8_coast 8 = .ok (.bipush (-101), 2) := by decide +kernel
theorem dX8_coast_10 : decode cX8_coast 10 = .ok (.ireturn, 1) := by decide +kernel
theorem dX8_coast_11 : decode cX8_coast 11 = .ok (.iload_n 2, 1) := by decide +kernel
theorem dX8_coast_12 : decode cX8_coast 12 = .ok (.invokestatic 186, 3) := by decide +kernel
theorem dX8_coast_15 : decode cX8_coast 15 = .ok (.ifCond .eq 15, 3) := by decide +kernel
theorem dX8_coast_18 : decode cX8_coast 18 = .ok (.iload_n 3, 1) := by decide +kernel
theorem dX8_coast_19 : decode cX8_coast 19 = .ok (.i2l, 1) := by decide +kernel
theorem dX8_coast_20 : decode cX8_coast 20 = .ok (.lconst 0, 1) := by decide +kernel
theorem dX8_coast_21 : decode cX8_coast 21 = .ok (.ldc2_w 142, 3) := by decide +kernel
theorem dX8_coast_24 : decode cX8_coast 24 = .ok (.invokestatic 89, 3) := by decide +kernel
theorem dX8_coast_27 : decode cX8_coast 27 = .ok (.ifCond .ne 6, 3) := by decide +kernel
theorem dX8_coast_30 : decode cX8_coast 30 = .ok (.bipush (-102), 2) := by decide +kernel
theorem dX8_coast_32 : decode cX8_coast 32 = .ok (.ireturn, 1) := by decide +kernel
theorem dX8_coast_33 : decode cX8_coast 33 = .ok (.aload_n 0, 1) := by decide +kernel
theorem dX8_coast_34 : decode cX8_coast 34 = .ok (.getfield 215, 3) := by decide +kernel
theorem dX8_coast_37 : decode cX8_coast 37 = .ok (.bipush 8, 2) := by decide +kernel
theorem dX8_coast_39 : decode cX8_coast 39 = .ok (.if_icmp .ne 6, 3) := by decide +kernel
theorem dX8_coast_42 : decode cX8_coast 42 = .ok (.bipush (-104), 2) := by decide +kernel
theorem dX8_coast_44 : decode cX8_coast 44 = .ok (.ireturn, 1) := by decide +kernel
theorem dX8_coast_45 : decode cX8_coast 45 = .ok (.aload_n 0, 1) := by decide +kernel
theorem dX8_coast_46 : decode cX8_coast 46 = .ok (.getfield 52, 3) := by decide +kernel
theorem dX8_coast_49 : decode cX8_coast 49 = .ok (.iconst 3, 1) := by decide +kernel
theorem dX8_coast_50 : decode cX8_coast 50 = .ok (.aload_n 0, 1) := by decide +kernel
theorem dX8_coast_51 : decode cX8_coast 51 = .ok (.getfield 215, 3) := by decide +kernel
theorem dX8_coast_54 : decode cX8_coast 54 = .ok (.imul, 1) := by decide +kernel
theorem dX8_coast_55 : decode cX8_coast 55 = .ok (.iload_n 1, 1) := by decide +kernel
theorem dX8_coast_56 : decode cX8_coast 56 = .ok (.iastore, 1) := by decide +kernel
theorem dX8_coast_57 : decode cX8_coast 57 = .ok (.aload_n 0, 1) := by decide +kernel
theorem dX8_coast_58 : decode cX8_coast 58 = .ok (.getfield 52, 3) := by decide +kernel
theorem dX8_coast_61 : decode cX8_coast 61 = .ok (.iconst 3, 1) := by decide +kernel
theorem dX8_coast_62 : decode cX8_coast 62 = .ok (.aload_n 0, 1) := by decide +kernel
theorem dX8_coast_63 : decode cX8_coast 63 = .ok (.getfield 215, 3) := by decide +kernel
theorem dX8_coast_66 : decode cX8_coast 66 = .ok (.imul, 1) := by decide +kernel
theorem dX8_coast_67 : decode cX8_coast 67 = .ok (.iconst 1, 1) := by decide +kernel
theorem dX8_coast_68 : decode cX8_coast 68 = .ok (.iadd, 1) := by decide +kernel
theorem dX8_coast_69 : decode cX8_coast 69 = .ok (.iload_n 2, 1) := by decide +kernel
theorem dX8_coast_70 : decode cX8_coast 70 = .ok (.iastore, 1) := by decide +kernel
theorem dX8_coast_71 : decode cX8_coast 71 = .ok (.aload_n 0, 1) := by decide +kernel
theorem dX8_coast_72 : decode cX8_coast 72 = .ok (.getfield 52, 3) := by decide +kernel
theorem dX8_coast_75 : decode cX8_coast 75 = .ok (.iconst 3, 1) := by decide +kernel
theorem dX8_coast_76 : decode cX8_coast 76 = .ok (.aload_n 0, 1) := by decide +kernel
theorem dX8_coast_77 : decode cX8_coast 77 = .ok (.getfield 215, 3) := by decide +kernel
theorem dX8_coast_80 : decode cX8_coast 80 = .ok (.imul, 1) := by decide +kernel
theorem dX8_coast_81 : decode cX8_coast 81 = .ok (.iconst 2, 1) := by decide +kernel
theorem dX8_coast_82 : decode cX8_coast 82 = .ok (.iadd, 1) := by decide +kernel
theorem dX8_coast_83 : decode cX8_coast 83 = .ok (.iload_n 3, 1) := by decide +kernel
theorem dX8_coast_84 : decode cX8_coast 84 = .ok (.iastore, 1) := by decide +kernel
theorem dX8_coast_85 : decode cX8_coast 85 = .ok (.aload_n 0, 1) := by decide +kernel
theorem dX8_coast_86 : decode cX8_coast 86 = .ok (.dup, 1) := by decide +kernel
theorem dX8_coast_87 : decode cX8_coast 87 = .ok (.getfield 215, 3) := by decide +kernel
theorem dX8_coast_90 : decode cX8_coast 90 = .ok (.iconst 1, 1) := by decide +kernel
theorem dX8_coast_91 : decode cX8_coast 91 = .ok (.iadd, 1) := by decide +kernel
theorem dX8_coast_92 : decode cX8_coast 92 = .ok (.putfield 215, 3) := by decide +kernel
theorem dX8_coast_95 : decode cX8_coast 95 = .ok (.aload_n 0, 1) := by decide +kernel
theorem dX8_coast_96 : decode cX8_coast 96 = .ok (.getfield 215, 3) := by decide +kernel
theorem dX8_coast_99 : decode cX8_coast 99 = .ok (.ireturn, 1) := by decide +kernel
theorem dX8_rubsNow_0 : decode cX8_rubsNow 0 = .ok (.iconst 0, 1) := by decide +kernel
theorem dX8_rubsNow_1 : decode cX8_rubsNow 1 = .ok (.istore_n 1, 1) := by decide +kernel
theorem dX8_rubsNow_2 : decode cX8_rubsNow 2 = .ok (.iconst 0, 1) := by decide +kernel
theorem dX8_rubsNow_3 : decode cX8_rubsNow 3 = .ok (.istore_n 2, 1) := by decide +kernel
theorem dX8_rubsNow_4 : decode cX8_rubsNow 4 = .ok (.iload_n 2, 1) := by decide +kernel
theorem dX8_rubsNow_5 : decode cX8_rubsNow 5 = .ok (.bipush 10, 2) := by decide +kernel
theorem dX8_rubsNow_7 : decode cX8_rubsNow 7 = .ok (.if_icmp .ge 92, 3) := by decide +kernel
theorem dX8_rubsNow_10 : decode cX8_rubsNow 10 = .ok (.iconst 1, 1) := by decide +kernel
theorem dX8_rubsNow_11 : decode cX8_rubsNow 11 = .ok (.istore_n 3, 1) := by decide +kernel
theorem dX8_rubsNow_12 : decode cX8_rubsNow 12 = .ok (.iconst 0, 1) := by decide +kernel
theorem dX8_rubsNow_13 : decode cX8_rubsNow 13 = .ok (.istore 4, 2) := by decide +kernel
theorem dX8_rubsNow_15 : decode cX8_rubsNow 15 = .ok (.iload 4, 2) := by decide +kernel
theorem dX8_rubsNow_17 : decode cX8_rubsNow 17 = .ok (.aload_n 0, 1) := by decide +kernel
theorem dX8_rubsNow_18 : decode cX8_rubsNow 18 = .ok (.getfield 215, 3) := by decide +kernel
theorem dX8_rubsNow_21 : decode cX8_rubsNow 21 = .ok (.if_icmp .ge 58, 3) := by decide +kernel
theorem dX8_rubsNow_24 : decode cX8_rubsNow 24 = .ok (.iload_n 3, 1) := by decide +kernel
theorem dX8_rubsNow_25 : decode cX8_rubsNow 25 = .ok (.ifCond .eq 46, 3) := by decide +kernel
theorem dX8_rubsNow_28 : decode cX8_rubsNow 28 = .ok (.aload_n 0, 1) := by decide +kernel
theorem dX8_rubsNow_29 : decode cX8_rubsNow 29 = .ok (.aload_n 0, 1) := by decide +kernel
theorem dX8_rubsNow_30 : decode cX8_rubsNow 30 = .ok (.getfield 52, 3) := by decide +kernel
theorem dX8_rubsNow_33 : decode cX8_rubsNow 33 = .ok (.iconst 3, 1) := by decide +kernel
theorem dX8_rubsNow_34 : decode cX8_rubsNow 34 = .ok (.iload 4, 2) := by decide +kernel
theorem dX8_rubsNow_36 : decode cX8_rubsNow 36 = .ok (.imul, 1) := by decide +kernel
theorem dX8_rubsNow_37 : decode cX8_rubsNow 37 = .ok (.iaload, 1) := by decide +kernel
theorem dX8_rubsNow_38 : decode cX8_rubsNow 38 = .ok (.aload_n 0, 1) := by decide +kernel
theorem dX8_rubsNow_39 : decode cX8_rubsNow 39 = .ok (.getfield 52, 3) := by decide +kernel
theorem dX8_rubsNow_42 : decode cX8_rubsNow 42 = .ok (.iconst 3, 1) := by decide +kernel
theorem dX8_rubsNow_43 : decode cX8_rubsNow 43 = .ok (.iload 4, 2) := by decide +kernel
theorem dX8_rubsNow_45 : decode cX8_rubsNow 45 = .ok (.imul, 1) := by decide +kernel
theorem dX8_rubsNow_46 : decode cX8_rubsNow 46 = .ok (.iconst 1, 1) := by decide +kernel
theorem dX8_rubsNow_47 : decode cX8_rubsNow 47 = .ok (.iadd, 1) := by decide +kernel
theorem dX8_rubsNow_48 : decode cX8_rubsNow 48 = .ok (.iaload, 1) := by decide +kernel
theorem dX8_rubsNow_49 : decode cX8_rubsNow 49 = .ok (.iload_n 2, 1) := by decide +kernel
theorem dX8_rubsNow_50 : decode cX8_rubsNow 50 = .ok (.invokevirtual 212, 3) := by decide +kernel
theorem dX8_rubsNow_53 : decode cX8_rubsNow 53 = .ok (.aload_n 0, 1) := by decide +kernel
theorem dX8_rubsNow_54 : decode cX8_rubsNow 54 = .ok (.getfield 52, 3) := by decide +kernel
theorem dX8_rubsNow_57 : decode cX8_rubsNow 57 = .ok (.iconst 3, 1) := by decide +kernel
theorem dX8_rubsNow_58 : decode cX8_rubsNow 58 = .ok (.iload 4, 2) := by decide +kernel
theorem dX8_rubsNow_60 : decode cX8_rubsNow 60 = .ok (.imul, 1) := by decide +kernel
theorem dX8_rubsNow_61 : decode cX8_rubsNow 61 = .ok (.iconst 2, 1) := by decide +kernel
theorem dX8_rubsNow_62 : decode cX8_rubsNow 62 = .ok (.iadd, 1) := by decide +kernel
theorem dX8_rubsNow_63 : decode cX8_rubsNow 63 = .ok (.iaload, 1) := by decide +kernel
theorem dX8_rubsNow_64 : decode cX8_rubsNow 64 = .ok (.if_icmp .ne 7, 3) := by decide +kernel
theorem dX8_rubsNow_67 : decode cX8_rubsNow 67 = .ok (.iconst 1, 1) := by decide +kernel
theorem dX8_rubsNow_68 : decode cX8_rubsNow 68 = .ok (.goto 4, 3) := by decide +kernel
theorem dX8_rubsNow_71 : decode cX8_rubsNow 71 = .ok (.iconst 0, 1) := by decide +kernel
theorem dX8_rubsNow_72 : decode cX8_rubsNow 72 = .ok (.istore_n 3, 1) := by decide +kernel
theorem dX8_rubsNow_73 : decode cX8_rubsNow 73 = .ok (.iinc 4 1, 3) := by decide +kernel
theorem dX8_rubsNow_76 : decode cX8_rubsNow 76 = .ok (.goto (-61), 3) := by decide +kernel
theorem dX8_rubsNow_79 : decode cX8_rubsNow 79 = .ok (.iload_n 1, 1) := by decide +kernel
theorem dX8_rubsNow_80 : decode cX8_rubsNow 80 = .ok (.iload_n 3, 1) := by decide +kernel
theorem dX8_rubsNow_81 : decode cX8_rubsNow 81 = .ok (.ifCond .eq 9, 3) := by decide +kernel
theorem dX8_rubsNow_84 : decode cX8_rubsNow 84 = .ok (.iconst 1, 1) := by decide +kernel
theorem dX8_rubsNow_85 : decode cX8_rubsNow 85 = .ok (.iload_n 2, 1) := by decide +kernel
theorem dX8_rubsNow_86 : decode cX8_rubsNow 86 = .ok (.ishl, 1) := by decide +kernel
theorem dX8_rubsNow_87 : decode cX8_rubsNow 87 = .ok (.goto 4, 3) := by decide +kernel
theorem dX8_rubsNow_90 : decode cX8_rubsNow 90 = .ok (.iconst 0, 1) := by decide +kernel
theorem dX8_rubsNow_91 : decode cX8_rubsNow 91 = .ok (.ior, 1) := by decide +kernel
theorem dX8_rubsNow_92 : decode cX8_rubsNow 92 = .ok (.istore_n 1, 1) := by decide +kernel
theorem dX8_rubsNow_93 : decode cX8_rubsNow 93 = .ok (.iinc 2 1, 3) := by decide +kernel
theorem dX8_rubsNow_96 : decode cX8_rubsNow 96 = .ok (.goto (-92), 3) := by decide +kernel
theorem dX8_rubsNow_99 : decode cX8_rubsNow 99 = .ok (.iload_n 1, 1) := by decide +kernel
theorem dX8_rubsNow_100 : decode cX8_rubsNow 100 = .ok (.ireturn, 1) := by decide +kernel
theorem dX8_rubs_0 : decode cX8_rubs 0 = .ok (.aload_n 0, 1) := by decide +kernel
theorem dX8_rubs_1 : decode cX8_rubs 1 = .ok (.invokevirtual 218, 3) := by decide +kernel
theorem dX8_rubs_4 : decode cX8_rubs 4 = .ok (.ireturn, 1) := by decide +kernel
theorem dX8_downTime_0 : decode cX8_downTime 0 = .ok (.aload_n 0, 1) := by decide +kernel
theorem dX8_downTime_1 : decode cX8_downTime 1 = .ok (.iload_n 1, 1) := by decide +kernel
theorem dX8_downTime_2 : decode cX8_downTime 2 = .ok (.iload_n 2, 1) := by decide +kernel
theorem dX8_downTime_3 : decode cX8_downTime 3 = .ok (.aload_n 0, 1) := by decide +kernel
theorem dX8_downTime_4 : decode cX8_downTime 4 = .ok (.getfield 28, 3) := by decide +kernel
theorem dX8_downTime_7 : decode cX8_downTime 7 = .ok (.iload_n 1, 1) := by decide +kernel
theorem dX8_downTime_8 : decode cX8_downTime 8 = .ok (.iaload, 1) := by decide +kernel
theorem dX8_downTime_9 : decode cX8_downTime 9 = .ok (.invokevirtual 208, 3) := by decide +kernel
theorem dX8_downTime_12 : decode cX8_downTime 12 = .ok (.ireturn, 1) := by decide +kernel
theorem dX8_chanceOf_0 : decode cX8_chanceOf 0 = .ok (.aload_n 0, 1) := by decide +kernel
theorem dX8_chanceOf_1 : decode cX8_chanceOf 1 = .ok (.iload_n 1, 1) := by decide +kernel
theorem dX8_chanceOf_2 : decode cX8_chanceOf 2 = .ok (.iload_n 3, 1) := by decide +kernel
theorem dX8_chanceOf_3 : decode cX8_chanceOf 3 = .ok (.invokevirtual 222, 3) := by decide +kernel
theorem dX8_chanceOf_6 : decode cX8_chanceOf 6 = .ok (.istore 5, 2) := by decide +kernel
theorem dX8_chanceOf_8 : decode cX8_chanceOf 8 = .ok (.aload_n 0, 1) := by decide +kernel
theorem dX8_chanceOf_9 : decode cX8_chanceOf 9 = .ok (.iload_n 2, 1) := by decide +kernel
theorem dX8_chanceOf_10 : decode cX8_chanceOf 10 = .ok (.iload_n 3, 1) := by decide +kernel
theorem dX8_chanceOf_11 : decode cX8_chanceOf 11 = .ok (.invokevirtual 222, 3) := by decide +kernel
theorem dX8_chanceOf_14 : decode cX8_chanceOf 14 = .ok (.istore 6, 2) := by decide +kernel
theorem dX8_chanceOf_16 : decode cX8_chanceOf 16 = .ok (.iload 5, 2) := by decide +kernel
theorem dX8_chanceOf_18 : decode cX8_chanceOf 18 = .ok (.iconst (-1), 1) := by decide +kernel
theorem dX8_chanceOf_19 : decode cX8_chanceOf 19 = .ok (.if_icmp .eq 9, 3) := by decide +kernel
theorem dX8_chanceOf_22 : decode cX8_chanceOf 22 = .ok (.iload 6, 2) := by decide +kernel
theorem dX8_chanceOf_24 : decode cX8_chanceOf 24 = .ok (.iconst (-1), 1) := by decide +kernel
theorem dX8_chanceOf_25 : decode cX8_chanceOf 25 = .ok (.if_icmp .ne 27, 3) := by decide +kernel
theorem dX8_chanceOf_28 : decode cX8_chanceOf 28 = .ok (.iload 5, 2) := by decide +kernel
theorem dX8_chanceOf_30 : decode cX8_chanceOf 30 = .ok (.iload 6, 2) := by decide +kernel
theorem dX8_chanceOf_32 : decode cX8_chanceOf 32 = .ok (.if_icmp .ne 7, 3) := by decide +kernel
theorem dX8_chanceOf_35 : decode cX8_chanceOf 35 = .ok (.iconst 5, 1) := by decide +kernel
theorem dX8_chanceOf_36 : decode cX8_chanceOf 36 = .ok (.goto 15, 3) := by decide +kernel
theorem dX8_chanceOf_39 : decode cX8_chanceOf 39 = .ok (.iload 5, 2) := by decide +kernel
theorem dX8_chanceOf_41 : decode cX8_chanceOf 41 = .ok (.iconst (-1), 1) := by decide +kernel
theorem dX8_chanceOf_42 : decode cX8_chanceOf 42 = .ok (.if_icmp .ne 7, 3) := by decide +kernel
theorem dX8_chanceOf_45 : decode cX8_chanceOf 45 = .ok (.iconst 0, 1) := by decide +kernel
theorem dX8_chanceOf_46 : decode cX8_chanceOf 46 = .ok (.goto 5, 3) := by decide +kernel
theorem dX8_chanceOf_49 : decode cX8_chanceOf 49 = .ok (.bipush 10, 2) := by decide +kernel
theorem dX8_chanceOf_51 : decode cX8_chanceOf 51 = .ok (.ireturn, 1) := by decide +kernel
theorem dX8_chanceOf_52 : decode cX8_chanceOf 52 = .ok (.iload 5, 2) := by decide +kernel
theorem dX8_chanceOf_54 : decode cX8_chanceOf 54 = .ok (.iload 6, 2) := by decide +kernel
theorem dX8_chanceOf_56 : decode cX8_chanceOf 56 = .ok (.if_icmp .ge 11, 3) := by decide +kernel
theorem dX8_chanceOf_59 : decode cX8_chanceOf 59 = .ok (.iload 6, 2) := by decide +kernel
theorem dX8_chanceOf_61 : decode cX8_chanceOf 61 = .ok (.iload 5, 2) := by decide +kernel
theorem dX8_chanceOf_63 : decode cX8_chanceOf 63 = .ok (.isub, 1) := by decide +kernel
theorem dX8_chanceOf_64 : decode cX8_chanceOf 64 = .ok (.goto 8, 3) := by decide +kernel
theorem dX8_chanceOf_67 : decode cX8_chanceOf 67 = .ok (.iload 5, 2) := by decide +kernel
theorem dX8_chanceOf_69 : decode cX8_chanceOf 69 = .ok (.iload 6, 2) := by decide +kernel
theorem dX8_chanceOf_71 : decode cX8_chanceOf 71 = .ok (.isub, 1) := by decide +kernel
theorem dX8_chanceOf_72 : decode cX8_chanceOf 72 = .ok (.bipush 100, 2) := by decide +kernel
theorem dX8_chanceOf_74 : decode cX8_chanceOf 74 = .ok (.iload 4, 2) := by decide +kernel
theorem dX8_chanceOf_76 : decode cX8_chanceOf 76 = .ok (.imul, 1) := by decide +kernel
theorem dX8_chanceOf_77 : decode cX8_chanceOf 77 = .ok (.idiv, 1) := by decide +kernel
theorem dX8_chanceOf_78 : decode cX8_chanceOf 78 = .ok (.istore 7, 2) := by decide +kernel
theorem dX8_chanceOf_80 : decode cX8_chanceOf 80 = .ok (.iload 7, 2) := by decide +kernel
theorem dX8_chanceOf_82 : decode cX8_chanceOf 82 = .ok (.iconst 5, 1) := by decide +kernel
theorem dX8_chanceOf_83 : decode cX8_chanceOf 83 = .ok (.if_icmp .le 7, 3) := by decide +kernel
theorem dX8_chanceOf_86 : decode cX8_chanceOf 86 = .ok (.iconst 5, 1) := by decide +kernel
theorem dX8_chanceOf_87 : decode cX8_chanceOf 87 = .ok (.goto 5, 3) := by decide +kernel
theorem dX8_chanceOf_90 : decode cX8_chanceOf 90 = .ok (.iload 7, 2) := by decide +kernel
theorem dX8_chanceOf_92 : decode cX8_chanceOf 92 = .ok (.istore 7, 2) := by decide +kernel
theorem dX8_chanceOf_94 : decode cX8_chanceOf 94 = .ok (.iload 5, 2) := by decide +kernel
theorem dX8_chanceOf_96 : decode cX8_chanceOf 96 = .ok (.iload 6, 2) := by decide +kernel
theorem dX8_chanceOf_98 : decode cX8_chanceOf 98 = .ok (.if_icmp .ge 10, 3) := by decide +kernel
theorem dX8_chanceOf_101 : decode cX8_chanceOf 101 = .ok (.iconst 5, 1) := by decide +kernel
theorem dX8_chanceOf_102 : decode cX8_chanceOf 102 = .ok (.iload 7, 2) := by decide +kernel
theorem dX8_chanceOf_104 : decode cX8_chanceOf 104 = .ok (.iadd, 1) := by decide +kernel
theorem dX8_chanceOf_105 : decode cX8_chanceOf 105 = .ok (.goto 7, 3) := by decide +kernel
theorem dX8_chanceOf_108 : decode cX8_chanceOf 108 = .ok (.iconst 5, 1) := by decide +kernel
theorem dX8_chanceOf_109 : decode cX8_chanceOf 109 = .ok (.iload 7, 2) := by decide +kernel
theorem dX8_chanceOf_111 : decode cX8_chanceOf 111 = .ok (.isub, 1) := by decide +kernel
theorem dX8_chanceOf_112 : decode cX8_chanceOf 112 = .ok (.ireturn, 1) := by decide +kernel
theorem dX8_isSlip_0 : decode cX8_isSlip 0 = .ok (.iload_n 0, 1) := by decide +kernel
theorem dX8_isSlip_1 : decode cX8_isSlip 1 = .ok (.i2l, 1) := by decide +kernel
theorem dX8_isSlip_2 : decode cX8_isSlip 2 = .ok (.lconst 1, 1) := by decide +kernel
theorem dX8_isSlip_3 : decode cX8_isSlip 3 = .ok (.ldc2_w 142, 3) := by decide +kernel
theorem dX8_isSlip_6 : decode cX8_isSlip 6 = .ok (.invokestatic 89, 3) := by decide +kernel
theorem dX8_isSlip_9 : decode cX8_isSlip 9 = .ok (.ireturn, 1) := by decide +kernel
theorem dX8_chance_0 : decode cX8_chance 0 = .ok (.aload_n 0, 1) := by decide +kernel
theorem dX8_chance_1 : decode cX8_chance 1 = .ok (.iload_n 1, 1) := by decide +kernel
theorem dX8_chance_2 : decode cX8_chance 2 = .ok (.invokevirtual 132, 3) := by decide +kernel
theorem dX8_chance_5 : decode cX8_chance 5 = .ok (.ifCond .eq 11, 3) := by decide +kernel
theorem dX8_chance_8 : decode cX8_chance 8 = .ok (.aload_n 0, 1) := by decide +kernel
theorem dX8_chance_9 : decode cX8_chance 9 = .ok (.iload_n 2, 1) := by decide +kernel
theorem dX8_chance_10 : decode cX8_chance 10 = .ok (.invokevirtual 132, 3) := by decide +kernel
theorem dX8_chance_13 : decode cX8_chance 13 = .ok (.ifCond .ne 6, 3) := by decide +kernel
theorem dX8_chance_16 : decode cX8_chance 16 = .ok (.bipush (-101), 2) := by decide +kernel
theorem dX8_chance_18 : decode cX8_chance 18 = .ok (.ireturn, 1) := by decide +kernel
theorem dX8_chance_19 : decode cX8_chance 19 = .ok (.aload_n 0, 1) := by decide +kernel
theorem dX8_chance_20 : decode cX8_chance 20 = .ok (.invokevirtual 182, 3) := by decide +kernel
theorem dX8_chance_23 : decode cX8_chance 23 = .ok (.ifCond .eq 6, 3) := by decide +kernel
theorem dX8_chance_26 : decode cX8_chance 26 = .ok (.bipush (-103), 2) := by decide +kernel
theorem dX8_chance_28 : decode cX8_chance 28 = .ok (.ireturn, 1) := by decide +kernel
theorem dX8_chance_29 : decode cX8_chance 29 = .ok (.iload_n 3, 1) := by decide +kernel
theorem dX8_chance_30 : decode cX8_chance 30 = .ok (.invokestatic 186, 3) := by decide +kernel
theorem dX8_chance_33 : decode cX8_chance 33 = .ok (.ifCond .eq 23, 3) := by decide +kernel
theorem dX8_chance_36 : decode cX8_chance 36 = .ok (.iload 4, 2) := by decide +kernel
theorem dX8_chance_38 : decode cX8_chance 38 = .ok (.invokestatic 225, 3) := by decide +kernel
theorem dX8_chance_41 : decode cX8_chance 41 = .ok (.ifCond .eq 15, 3) := by decide +kernel
theorem dX8_chance_44 : decode cX8_chance 44 = .ok (.aload_n 0, 1) := by decide +kernel
theorem dX8_chance_45 : decode cX8_chance 45 = .ok (.iload_n 1, 1) := by decide +kernel
theorem dX8_chance_46 : decode cX8_chance 46 = .ok (.iload_n 2, 1) := by decide +kernel
theorem dX8_chance_47 : decode cX8_chance 47 = .ok (.iload_n 3, 1) := by decide +kernel
theorem dX8_chance_48 : decode cX8_chance 48 = .ok (.iload 4, 2) := by decide +kernel
theorem dX8_chance_50 : decode cX8_chance 50 = .ok (.invokevirtual 228, 3) := by decide +kernel
theorem dX8_chance_53 : decode cX8_chance 53 = .ok (.goto 5, 3) := by decide +kernel
theorem dX8_chance_56 : decode cX8_chance 56 = .ok (.bipush (-102), 2) := by decide +kernel
theorem dX8_chance_58 : decode cX8_chance 58 = .ok (.ireturn, 1) := by decide +kernel
theorem dX8_winsOf_0 : decode cX8_winsOf 0 = .ok (.aload_n 0, 1) := by decide +kernel
theorem dX8_winsOf_1 : decode cX8_winsOf 1 = .ok (.iload_n 3, 1) := by decide +kernel
theorem dX8_winsOf_2 : decode cX8_winsOf 2 = .ok (.iload 4, 2) := by decide +kernel
theorem dX8_winsOf_4 : decode cX8_winsOf 4 = .ok (.iload 5, 2) := by decide +kernel
theorem dX8_winsOf_6 : decode cX8_winsOf 6 = .ok (.iload 6, 2) := by decide +kernel
theorem dX8_winsOf_8 : decode cX8_winsOf 8 = .ok (.invokevirtual 228, 3) := by decide +kernel
theorem dX8_winsOf_11 : decode cX8_winsOf 11 = .ok (.istore 7, 2) := by decide +kernel
theorem dX8_winsOf_13 : decode cX8_winsOf 13 = .ok (.aload_n 0, 1) := by decide +kernel
theorem dX8_winsOf_14 : decode cX8_winsOf 14 = .ok (.iload_n 1, 1) := by decide +kernel
theorem dX8_winsOf_15 : decode cX8_winsOf 15 = .ok (.iload_n 2, 1) := by decide +kernel
theorem dX8_winsOf_16 : decode cX8_winsOf 16 = .ok (.iload 5, 2) := by decide +kernel
theorem dX8_winsOf_18 : decode cX8_winsOf 18 = .ok (.iload 6, 2) := by decide +kernel
theorem dX8_winsOf_20 : decode cX8_winsOf 20 = .ok (.invokevirtual 228, 3) := by decide +kernel
theorem dX8_winsOf_23 : decode cX8_winsOf 23 = .ok (.iload 7, 2) := by decide +kernel
theorem dX8_winsOf_25 : decode cX8_winsOf 25 = .ok (.aload_n 0, 1) := by decide +kernel
theorem dX8_winsOf_26 : decode cX8_winsOf 26 = .ok (.iload_n 1, 1) := by decide +kernel
theorem dX8_winsOf_27 : decode cX8_winsOf 27 = .ok (.iload_n 3, 1) := by decide +kernel
theorem dX8_winsOf_28 : decode cX8_winsOf 28 = .ok (.iload 5, 2) := by decide +kernel
theorem dX8_winsOf_30 : decode cX8_winsOf 30 = .ok (.iload 6, 2) := by decide +kernel
theorem dX8_winsOf_32 : decode cX8_winsOf 32 = .ok (.invokevirtual 228, 3) := by decide +kernel
theorem dX8_winsOf_35 : decode cX8_winsOf 35 = .ok (.imul, 1) := by decide +kernel
theorem dX8_winsOf_36 : decode cX8_winsOf 36 = .ok (.bipush 10, 2) := by decide +kernel
theorem dX8_winsOf_38 : decode cX8_winsOf 38 = .ok (.iload 7, 2) := by decide +kernel
theorem dX8_winsOf_40 : decode cX8_winsOf 40 = .ok (.isub, 1) := by decide +kernel
theorem dX8_winsOf_41 : decode cX8_winsOf 41 = .ok (.aload_n 0, 1) := by decide +kernel
theorem dX8_winsOf_42 : decode cX8_winsOf 42 = .ok (.iload_n 1, 1) := by decide +kernel
theorem dX8_winsOf_43 : decode cX8_winsOf 43 = .ok (.iload 4, 2) := by decide +kernel
theorem dX8_winsOf_45 : decode cX8_winsOf 45 = .ok (.iload 5, 2) := by decide +kernel
theorem dX8_winsOf_47 : decode cX8_winsOf 47 = .ok (.iload 6, 2) := by decide +kernel
theorem dX8_winsOf_49 : decode cX8_winsOf 49 = .ok (.invokevirtual 228, 3) := by decide +kernel
theorem dX8_winsOf_52 : decode cX8_winsOf 52 = .ok (.imul, 1) := by decide +kernel
theorem dX8_winsOf_53 : decode cX8_winsOf 53 = .ok (.iadd, 1) := by decide +kernel
theorem dX8_winsOf_54 : decode cX8_winsOf 54 = .ok (.imul, 1) := by decide +kernel
theorem dX8_winsOf_55 : decode cX8_winsOf 55 = .ok (.ireturn, 1) := by decide +kernel
theorem dX8_common_0 : decode cX8_common 0 = .ok (.iload_n 0, 1) := by decide +kernel
theorem dX8_common_1 : decode cX8_common 1 = .ok (.istore_n 2, 1) := by decide +kernel
theorem dX8_common_2 : decode cX8_common 2 = .ok (.iload_n 1, 1) := by decide +kernel
theorem dX8_common_3 : decode cX8_common 3 = .ok (.istore_n 3, 1) := by decide +kernel
theorem dX8_common_4 : decode cX8_common 4 = .ok (.iload_n 2, 1) := by decide +kernel
theorem dX8_common_5 : decode cX8_common 5 = .ok (.ifCond .eq 16, 3) := by decide +kernel
theorem dX8_common_8 : decode cX8_common 8 = .ok (.iload_n 3, 1) := by decide +kernel
theorem dX8_common_9 : decode cX8_common 9 = .ok (.iload_n 2, 1) := by decide +kernel
theorem dX8_common_10 : decode cX8_common 10 = .ok (.irem, 1) := by decide +kernel
theorem dX8_common_11 : decode cX8_common 11 = .ok (.istore 4, 2) := by decide +kernel
theorem dX8_common_13 : decode cX8_common 13 = .ok (.iload_n 2, 1) := by decide +kernel
theorem dX8_common_14 : decode cX8_common 14 = .ok (.istore_n 3, 1) := by decide +kernel
theorem dX8_common_15 : decode cX8_common 15 = .ok (.iload 4, 2) := by decide +kernel
theorem dX8_common_17 : decode cX8_common 17 = .ok (.istore_n 2, 1) := by decide +kernel
theorem dX8_common_18 : decode cX8_common 18 = .ok (.goto (-14), 3) := by decide +kernel
theorem dX8_common_21 : decode cX8_common 21 = .ok (.iload_n 3, 1) := by decide +kernel
theorem dX8_common_22 : decode cX8_common 22 = .ok (.ireturn, 1) := by decide +kernel
theorem dX8_areFour_0 : decode cX8_areFour 0 = .ok (.aload_n 0, 1) := by decide +kernel
theorem dX8_areFour_1 : decode cX8_areFour 1 = .ok (.iload_n 1, 1) := by decide +kernel
theorem dX8_areFour_2 : decode cX8_areFour 2 = .ok (.invokevirtual 132, 3) := by decide +kernel
theorem dX8_areFour_5 : decode cX8_areFour 5 = .ok (.ifCond .eq 32, 3) := by decide +kernel
theorem dX8_areFour_8 : decode cX8_areFour 8 = .ok (.aload_n 0, 1) := by decide +kernel
theorem dX8_areFour_9 : decode cX8_areFour 9 = .ok (.iload_n 2, 1) := by decide +kernel
theorem dX8_areFour_10 : decode cX8_areFour 10 = .ok (.invokevirtual 132, 3) := by decide +kernel
theorem dX8_areFour_13 : decode cX8_areFour 13 = .ok (.ifCond .eq 24, 3) := by decide +kernel
theorem dX8_areFour_16 : decode cX8_areFour 16 = .ok (.aload_n 0, 1) := by decide +kernel
theorem dX8_areFour_17 : decode cX8_areFour 17 = .ok (.iload_n 3, 1) := by decide +kernel
theorem dX8_areFour_18 : decode cX8_areFour 18 = .ok (.invokevirtual 132, 3) := by decide +kernel
theorem dX8_areFour_21 : decode cX8_areFour 21 = .ok (.ifCond .eq 16, 3) := by decide +kernel
theorem dX8_areFour_24 : decode cX8_areFour 24 = .ok (.aload_n 0, 1) := by decide +kernel
theorem dX8_areFour_25 : decode cX8_areFour 25 = .ok (.iload 4, 2) := by decide +kernel
theorem dX8_areFour_27 : decode cX8_areFour 27 = .ok (.invokevirtual 132, 3) := by decide +kernel
theorem dX8_areFour_30 : decode cX8_areFour 30 = .ok (.ifCond .eq 7, 3) := by decide +kernel
theorem dX8_areFour_33 : decode cX8_areFour 33 = .ok (.iconst 1, 1) := by decide +kernel
theorem dX8_areFour_34 : decode cX8_areFour 34 = .ok (.goto 4, 3) := by decide +kernel
theorem dX8_areFour_37 : decode cX8_areFour 37 = .ok (.iconst 0, 1) := by decide +kernel
theorem dX8_areFour_38 : decode cX8_areFour 38 = .ok (.ireturn, 1) := by decide +kernel
theorem dX8_areUnlike_0 : decode cX8_areUnlike 0 = .ok (.iload_n 0, 1) := by decide +kernel
theorem dX8_areUnlike_1 : decode cX8_areUnlike 1 = .ok (.iload_n 1, 1) := by decide +kernel
theorem dX8_areUnlike_2 : decode cX8_areUnlike 2 = .ok (.if_icmp .eq 32, 3) := by decide +kernel
theorem dX8_areUnlike_5 : decode cX8_areUnlike 5 = .ok (.iload_n 0, 1) := by decide +kernel
theorem dX8_areUnlike_6 : decode cX8_areUnlike 6 = .ok (.iload_n 2, 1) := by decide +kernel
theorem dX8_areUnlike_7 : decode cX8_areUnlike 7 = .ok (.if_icmp .eq 27, 3) := by decide +kernel
theorem dX8_areUnlike_10 : decode cX8_areUnlike 10 = .ok (.iload_n 0, 1) := by decide +kernel
theorem dX8_areUnlike_11 : decode cX8_areUnlike 11 = .ok (.iload_n 3, 1) := by decide +kernel
theorem dX8_areUnlike_12 : decode cX8_areUnlike 12 = .ok (.if_icmp .eq 22, 3) := by decide +kernel
theorem dX8_areUnlike_15 : decode cX8_areUnlike 15 = .ok (.iload_n 1, 1) := by decide +kernel
theorem dX8_areUnlike_16 : decode cX8_areUnlike 16 = .ok (.iload_n 2, 1) := by decide +kernel
theorem dX8_areUnlike_17 : decode cX8_areUnlike 17 = .ok (.if_icmp .eq 17, 3) := by decide +kernel
theorem dX8_areUnlike_20 : decode cX8_areUnlike 20 = .ok (.iload_n 1, 1) := by decide +kernel
theorem dX8_areUnlike_21 : decode cX8_areUnlike 21 = .ok (.iload_n 3, 1) := by decide +kernel
theorem dX8_areUnlike_22 : decode cX8_areUnlike 22 = .ok (.if_icmp .eq 12, 3) := by decide +kernel
theorem dX8_areUnlike_25 : decode cX8_areUnlike 25 = .ok (.iload_n 2, 1) := by decide +kernel
theorem dX8_areUnlike_26 : decode cX8_areUnlike 26 = .ok (.iload_n 3, 1) := by decide +kernel
theorem dX8_areUnlike_27 : decode cX8_areUnlike 27 = .ok (.if_icmp .eq 7, 3) := by decide +kernel
theorem dX8_areUnlike_30 : decode cX8_areUnlike 30 = .ok (.iconst 1, 1) := by decide +kernel
theorem dX8_areUnlike_31 : decode cX8_areUnlike 31 = .ok (.goto 4, 3) := by decide +kernel
theorem dX8_areUnlike_34 : decode cX8_areUnlike 34 = .ok (.iconst 0, 1) := by decide +kernel
theorem dX8_areUnlike_35 : decode cX8_areUnlike 35 = .ok (.ireturn, 1) := by decide +kernel
theorem dX8_wins_0 : decode cX8_wins 0 = .ok (.aload_n 0, 1) := by decide +kernel
theorem dX8_wins_1 : decode cX8_wins 1 = .ok (.iload_n 1, 1) := by decide +kernel
theorem dX8_wins_2 : decode cX8_wins 2 = .ok (.iload_n 2, 1) := by decide +kernel
theorem dX8_wins_3 : decode cX8_wins 3 = .ok (.iload_n 3, 1) := by decide +kernel
theorem dX8_wins_4 : decode cX8_wins 4 = .ok (.iload 4, 2) := by decide +kernel
theorem dX8_wins_6 : decode cX8_wins 6 = .ok (.invokevirtual 232, 3) := by decide +kernel
theorem dX8_wins_9 : decode cX8_wins 9 = .ok (.ifCond .ne 6, 3) := by decide +kernel
theorem dX8_wins_12 : decode cX8_wins 12 = .ok (.bipush (-101), 2) := by decide +kernel
theorem dX8_wins_14 : decode cX8_wins 14 = .ok (.ireturn, 1) := by decide +kernel
theorem dX8_wins_15 : decode cX8_wins 15 = .ok (.aload_n 0, 1) := by decide +kernel
theorem dX8_wins_16 : decode cX8_wins 16 = .ok (.invokevirtual 182, 3) := by decide +kernel
theorem dX8_wins_19 : decode cX8_wins 19 = .ok (.ifCond .ne 14, 3) := by decide +kernel
theorem dX8_wins_22 : decode cX8_wins 22 = .ok (.iload_n 1, 1) := by decide +kernel
theorem dX8_wins_23 : decode cX8_wins 23 = .ok (.iload_n 2, 1) := by decide +kernel
theorem dX8_wins_24 : decode cX8_wins 24 = .ok (.iload_n 3, 1) := by decide +kernel
theorem dX8_wins_25 : decode cX8_wins 25 = .ok (.iload 4, 2) := by decide +kernel
theorem dX8_wins_27 : decode cX8_wins 27 = .ok (.invokestatic 236, 3) := by decide +kernel
theorem dX8_wins_30 : decode cX8_wins 30 = .ok (.ifCond .ne 6, 3) := by decide +kernel
theorem dX8_wins_33 : decode cX8_wins 33 = .ok (.bipush (-103), 2) := by decide +kernel
theorem dX8_wins_35 : decode cX8_wins 35 = .ok (.ireturn, 1) := by decide +kernel
theorem dX8_wins_36 : decode cX8_wins 36 = .ok (.iload 5, 2) := by decide +kernel
theorem dX8_wins_38 : decode cX8_wins 38 = .ok (.invokestatic 186, 3) := by decide +kernel
theorem dX8_wins_41 : decode cX8_wins 41 = .ok (.ifCond .eq 35, 3) := by decide +kernel
theorem dX8_wins_44 : decode cX8_wins 44 = .ok (.iload 6, 2) := by decide +kernel
theorem dX8_wins_46 : decode cX8_wins 46 = .ok (.invokestatic 225, 3) := by decide +kernel
theorem dX8_wins_49 : decode cX8_wins 49 = .ok (.ifCond .eq 27, 3) := by decide +kernel
theorem dX8_wins_52 : decode cX8_wins 52 = .ok (.iload 7, 2) := by decide +kernel
theorem dX8_wins_54 : decode cX8_wins 54 = .ok (.i2l, 1) := by decide +kernel
theorem dX8_wins_55 : decode cX8_wins 55 = .ok (.lconst 0, 1) := by decide +kernel
theorem dX8_wins_56 : decode cX8_wins 56 = .ok (.ldc2_w 189, 3) := by decide +kernel
theorem dX8_wins_59 : decode cX8_wins 59 = .ok (.invokestatic 89, 3) := by decide +kernel
theorem dX8_wins_62 : decode cX8_wins 62 = .ok (.ifCond .eq 14, 3) := by decide +kernel
theorem dX8_wins_65 : decode cX8_wins 65 = .ok (.iload 8, 2) := by decide +kernel
theorem dX8_wins_67 : decode cX8_wins 67 = .ok (.i2l, 1) := by decide +kernel
theorem dX8_wins_68 : decode cX8_wins 68 = .ok (.lconst 0, 1) := by decide +kernel
theorem dX8_wins_69 : decode cX8_wins 69 = .ok (.lconst 1, 1) := by decide +kernel
theorem dX8_wins_70 : decode cX8_wins 70 = .ok (.invokestatic 89, 3) := by decide +kernel
theorem dX8_wins_73 : decode cX8_wins 73 = .ok (.ifCond .ne 6, 3) := by decide +kernel
theorem dX8_wins_76 : decode cX8_wins 76 = .ok (.bipush (-102), 2) := by decide +kernel
theorem dX8_wins_78 : decode cX8_wins 78 = .ok (.ireturn, 1) := by decide +kernel
theorem dX8_wins_79 : decode cX8_wins 79 = .ok (.iload 7, 2) := by decide +kernel
theorem dX8_wins_81 : decode cX8_wins 81 = .ok (.ifCond .ne 19, 3) := by decide +kernel
theorem dX8_wins_84 : decode cX8_wins 84 = .ok (.aload_n 0, 1) := by decide +kernel
theorem dX8_wins_85 : decode cX8_wins 85 = .ok (.iload_n 1, 1) := by decide +kernel
theorem dX8_wins_86 : decode cX8_wins 86 = .ok (.iload_n 2, 1) := by decide +kernel
theorem dX8_wins_87 : decode cX8_wins 87 = .ok (.iload_n 3, 1) := by decide +kernel
theorem dX8_wins_88 : decode cX8_wins 88 = .ok (.iload 4, 2) := by decide +kernel
theorem dX8_wins_90 : decode cX8_wins 90 = .ok (.iload 5, 2) := by decide +kernel
theorem dX8_wins_92 : decode cX8_wins 92 = .ok (.iload 6, 2) := by decide +kernel
theorem dX8_wins_94 : decode cX8_wins 94 = .ok (.invokevirtual 239, 3) := by decide +kernel
theorem dX8_wins_97 : decode cX8_wins 97 = .ok (.goto 60, 3) := by decide +kernel
theorem dX8_wins_100 : decode cX8_wins 100 = .ok (.iload 7, 2) := by decide +kernel
theorem dX8_wins_102 : decode cX8_wins 102 = .ok (.iconst 1, 1) := by decide +kernel
theorem dX8_wins_103 : decode cX8_wins 103 = .ok (.if_icmp .ne 19, 3) := by decide +kernel
theorem dX8_wins_106 : decode cX8_wins 106 = .ok (.aload_n 0, 1) := by decide +kernel
theorem dX8_wins_107 : decode cX8_wins 107 = .ok (.iload_n 2, 1) := by decide +kernel
theorem dX8_wins_108 : decode cX8_wins 108 = .ok (.iload_n 1, 1) := by decide +kernel
theorem dX8_wins_109 : decode cX8_wins 109 = .ok (.iload_n 3, 1) := by decide +kernel
theorem dX8_wins_110 : decode cX8_wins 110 = .ok (.iload 4, 2) := by decide +kernel
theorem dX8_wins_112 : decode cX8_wins 112 = .ok (.iload 5, 2) := by decide +kernel
theorem dX8_wins_114 : decode cX8_wins 114 = .ok (.iload 6, 2) := by decide +kernel
theorem dX8_wins_116 : decode cX8_wins 116 = .ok (.invokevirtual 239, 3) := by decide +kernel
theorem dX8_wins_119 : decode cX8_wins 119 = .ok (.goto 38, 3) := by decide +kernel
theorem dX8_wins_122 : decode cX8_wins 122 = .ok (.iload 7, 2) := by decide +kernel
theorem dX8_wins_124 : decode cX8_wins 124 = .ok (.iconst 2, 1) := by decide +kernel
theorem dX8_wins_125 : decode cX8_wins 125 = .ok (.if_icmp .ne 19, 3) := by decide +kernel
theorem dX8_wins_128 : decode cX8_wins 128 = .ok (.aload_n 0, 1) := by decide +kernel
theorem dX8_wins_129 : decode cX8_wins 129 = .ok (.iload_n 3, 1) := by decide +kernel
theorem dX8_wins_130 : decode cX8_wins 130 = .ok (.iload 4, 2) := by decide +kernel
theorem dX8_wins_132 : decode cX8_wins 132 = .ok (.iload_n 1, 1) := by decide +kernel
theorem dX8_wins_133 : decode cX8_wins 133 = .ok (.iload_n 2, 1) := by decide +kernel
theorem dX8_wins_134 : decode cX8_wins 134 = .ok (.iload 5, 2) := by decide +kernel
theorem dX8_wins_136 : decode cX8_wins 136 = .ok (.iload 6, 2) := by decide +kernel
theorem dX8_wins_138 : decode cX8_wins 138 = .ok (.invokevirtual 239, 3) := by decide +kernel
theorem dX8_wins_141 : decode cX8_wins 141 = .ok (.goto 16, 3) := by decide +kernel
theorem dX8_wins_144 : decode cX8_wins 144 = .ok (.aload_n 0, 1) := by decide +kernel
theorem dX8_wins_145 : decode cX8_wins 145 = .ok (.iload 4, 2) := by decide +kernel
theorem dX8_wins_147 : decode cX8_wins 147 = .ok (.iload_n 3, 1) := by decide +kernel
theorem dX8_wins_148 : decode cX8_wins 148 = .ok (.iload_n 1, 1) := by decide +kernel
theorem dX8_wins_149 : decode cX8_wins 149 = .ok (.iload_n 2, 1) := by decide +kernel
theorem dX8_wins_150 : decode cX8_wins 150 = .ok (.iload 5, 2) := by decide +kernel
theorem dX8_wins_152 : decode cX8_wins 152 = .ok (.iload 6, 2) := by decide +kernel
theorem dX8_wins_154 : decode cX8_wins 154 = .ok (.invokevirtual 239, 3) := by decide +kernel
theorem dX8_wins_157 : decode cX8_wins 157 = .ok (.istore 9, 2) := by decide +kernel
theorem dX8_wins_159 : decode cX8_wins 159 = .ok (.iload 9, 2) := by decide +kernel
theorem dX8_wins_161 : decode cX8_wins 161 = .ok (.sipush 1000, 3) := by decide +kernel
theorem dX8_wins_164 : decode cX8_wins 164 = .ok (.invokestatic 243, 3) := by decide +kernel
theorem dX8_wins_167 : decode cX8_wins 167 = .ok (.istore 10, 2) := by decide +kernel
theorem dX8_wins_169 : decode cX8_wins 169 = .ok (.iload 8, 2) := by decide +kernel
theorem dX8_wins_171 : decode cX8_wins 171 = .ok (.ifCond .ne 11, 3) := by decide +kernel
theorem dX8_wins_174 : decode cX8_wins 174 = .ok (.iload 9, 2) := by decide +kernel
theorem dX8_wins_176 : decode cX8_wins 176 = .ok (.iload 10, 2) := by decide +kernel
theorem dX8_wins_178 : decode cX8_wins 178 = .ok (.idiv, 1) := by decide +kernel
theorem dX8_wins_179 : decode cX8_wins 179 = .ok (.goto 9, 3) := by decide +kernel
theorem dX8_wins_182 : decode cX8_wins 182 = .ok (.sipush 1000, 3) := by decide +kernel
theorem dX8_wins_185 : decode cX8_wins 185 = .ok (.iload 10, 2) := by decide +kernel
theorem dX8_wins_187 : decode cX8_wins 187 = .ok (.idiv, 1) := by decide +kernel
theorem dX8_wins_188 : decode cX8_wins 188 = .ok (.ireturn, 1) := by decide +kernel
theorem dX8_quickest_0 : decode cX8_quickest 0 = .ok (.iconst 0, 1) := by decide +kernel
theorem dX8_quickest_1 : decode cX8_quickest 1 = .ok (.istore_n 2, 1) := by decide +kernel
theorem dX8_quickest_2 : decode cX8_quickest 2 = .ok (.iconst 1, 1) := by decide +kernel
theorem dX8_quickest_3 : decode cX8_quickest 3 = .ok (.istore_n 3, 1) := by decide +kernel
theorem dX8_quickest_4 : decode cX8_quickest 4 = .ok (.iload_n 3, 1) := by decide +kernel
theorem dX8_quickest_5 : decode cX8_quickest 5 = .ok (.iconst 4, 1) := by decide +kernel
theorem dX8_quickest_6 : decode cX8_quickest 6 = .ok (.if_icmp .ge 60, 3) := by decide +kernel
theorem dX8_quickest_9 : decode cX8_quickest 9 = .ok (.aload_n 0, 1) := by decide +kernel
theorem dX8_quickest_10 : decode cX8_quickest 10 = .ok (.aload_n 0, 1) := by decide +kernel
theorem dX8_quickest_11 : decode cX8_quickest 11 = .ok (.getfield 55, 3) := by decide +kernel
theorem dX8_quickest_14 : decode cX8_quickest 14 = .ok (.iload_n 3, 1) := by decide +kernel
theorem dX8_quickest_15 : decode cX8_quickest 15 = .ok (.iaload, 1) := by decide +kernel
theorem dX8_quickest_16 : decode cX8_quickest 16 = .ok (.iload_n 1, 1) := by decide +kernel
theorem dX8_quickest_17 : decode cX8_quickest 17 = .ok (.invokevirtual 222, 3) := by decide +kernel
theorem dX8_quickest_20 : decode cX8_quickest 20 = .ok (.istore 4, 2) := by decide +kernel
theorem dX8_quickest_22 : decode cX8_quickest 22 = .ok (.aload_n 0, 1) := by decide +kernel
theorem dX8_quickest_23 : decode cX8_quickest 23 = .ok (.aload_n 0, 1) := by decide +kernel
theorem dX8_quickest_24 : decode cX8_quickest 24 = .ok (.getfield 55, 3) := by decide +kernel
theorem dX8_quickest_27 : decode cX8_quickest 27 = .ok (.iload_n 2, 1) := by decide +kernel
theorem dX8_quickest_28 : decode cX8_quickest 28 = .ok (.iaload, 1) := by decide +kernel
theorem dX8_quickest_29 : decode cX8_quickest 29 = .ok (.iload_n 1, 1) := by decide +kernel
theorem dX8_quickest_30 : decode cX8_quickest 30 = .ok (.invokevirtual 222, 3) := by decide +kernel
theorem dX8_quickest_33 : decode cX8_quickest 33 = .ok (.istore 5, 2) := by decide +kernel
theorem dX8_quickest_35 : decode cX8_quickest 35 = .ok (.iload 4, 2) := by decide +kernel
theorem dX8_quickest_37 : decode cX8_quickest 37 = .ok (.iconst (-1), 1) := by decide +kernel
theorem dX8_quickest_38 : decode cX8_quickest 38 = .ok (.if_icmp .eq 20, 3) := by decide +kernel
theorem dX8_quickest_41 : decode cX8_quickest 41 = .ok (.iload 5, 2) := by decide +kernel
theorem dX8_quickest_43 : decode cX8_quickest 43 = .ok (.iconst (-1), 1) := by decide +kernel
theorem dX8_quickest_44 : decode cX8_quickest 44 = .ok (.if_icmp .eq 10, 3) := by decide +kernel
theorem dX8_quickest_47 : decode cX8_quickest 47 = .ok (.iload 4, 2) := by decide +kernel
theorem dX8_quickest_49 : decode cX8_quickest 49 = .ok (.iload 5, 2) := by decide +kernel
theorem dX8_quickest_51 : decode cX8_quickest 51 = .ok (.if_icmp .ge 7, 3) := by decide +kernel
theorem dX8_quickest_54 : decode cX8_quickest 54 = .ok (.iload_n 3, 1) := by decide +kernel
theorem dX8_quickest_55 : decode cX8_quickest 55 = .ok (.goto 4, 3) := by decide +kernel
theorem dX8_quickest_58 : decode cX8_quickest 58 = .ok (.iload_n 2, 1) := by decide +kernel
theorem dX8_quickest_59 : decode cX8_quickest 59 = .ok (.istore_n 2, 1) := by decide +kernel
theorem dX8_quickest_60 : decode cX8_quickest 60 = .ok (.iinc 3 1, 3) := by decide +kernel
theorem dX8_quickest_63 : decode cX8_quickest 63 = .ok (.goto (-59), 3) := by decide +kernel
theorem dX8_quickest_66 : decode cX8_quickest 66 = .ok (.iload_n 2, 1) := by decide +kernel
theorem dX8_quickest_67 : decode cX8_quickest 67 = .ok (.ireturn, 1) := by decide +kernel
theorem dX8_plan_0 : decode cX8_plan 0 = .ok (.aload_n 0, 1) := by decide +kernel
theorem dX8_plan_1 : decode cX8_plan 1 = .ok (.iload_n 1, 1) := by decide +kernel
theorem dX8_plan_2 : decode cX8_plan 2 = .ok (.iload_n 2, 1) := by decide +kernel
theorem dX8_plan_3 : decode cX8_plan 3 = .ok (.iload_n 3, 1) := by decide +kernel
theorem dX8_plan_4 : decode cX8_plan 4 = .ok (.iload 4, 2) := by decide +kernel
theorem dX8_plan_6 : decode cX8_plan 6 = .ok (.invokevirtual 232, 3) := by decide +kernel
theorem dX8_plan_9 : decode cX8_plan 9 = .ok (.ifCond .ne 6, 3) := by decide +kernel
theorem dX8_plan_12 : decode cX8_plan 12 = .ok (.bipush (-101), 2) := by decide +kernel
theorem dX8_plan_14 : decode cX8_plan 14 = .ok (.ireturn, 1) := by decide +kernel
theorem dX8_plan_15 : decode cX8_plan 15 = .ok (.aload_n 0, 1) := by decide +kernel
theorem dX8_plan_16 : decode cX8_plan 16 = .ok (.invokevirtual 182, 3) := by decide +kernel
theorem dX8_plan_19 : decode cX8_plan 19 = .ok (.ifCond .ne 14, 3) := by decide +kernel
theorem dX8_plan_22 : decode cX8_plan 22 = .ok (.iload_n 1, 1) := by decide +kernel
theorem dX8_plan_23 : decode cX8_plan 23 = .ok (.iload_n 2, 1) := by decide +kernel
theorem dX8_plan_24 : decode cX8_plan 24 = .ok (.iload_n 3, 1) := by decide +kernel
theorem dX8_plan_25 : decode cX8_plan 25 = .ok (.iload 4, 2) := by decide +kernel
theorem dX8_plan_27 : decode cX8_plan 27 = .ok (.invokestatic 236, 3) := by decide +kernel
theorem dX8_plan_30 : decode cX8_plan 30 = .ok (.ifCond .ne 6, 3) := by decide +kernel
theorem dX8_plan_33 : decode cX8_plan 33 = .ok (.bipush (-103), 2) := by decide +kernel
theorem dX8_plan_35 : decode cX8_plan 35 = .ok (.ireturn, 1) := by decide +kernel
theorem dX8_plan_36 : decode cX8_plan 36 = .ok (.iload 5, 2) := by decide +kernel
theorem dX8_plan_38 : decode cX8_plan 38 = .ok (.invokestatic 186, 3) := by decide +kernel
theorem dX8_plan_41 : decode cX8_plan 41 = .ok (.ifCond .eq 11, 3) := by decide +kernel
theorem dX8_plan_44 : decode cX8_plan 44 = .ok (.iload 6, 2) := by decide +kernel
theorem dX8_plan_46 : decode cX8_plan 46 = .ok (.invokestatic 225, 3) := by decide +kernel
theorem dX8_plan_49 : decode cX8_plan 49 = .ok (.ifCond .ne 6, 3) := by decide +kernel
theorem dX8_plan_52 : decode cX8_plan 52 = .ok (.bipush (-102), 2) := by decide +kernel
theorem dX8_plan_54 : decode cX8_plan 54 = .ok (.ireturn, 1) := by decide +kernel
theorem dX8_plan_55 : decode cX8_plan 55 = .ok (.aload_n 0, 1) := by decide +kernel
theorem dX8_plan_56 : decode cX8_plan 56 = .ok (.getfield 55, 3) := by decide +kernel
theorem dX8_plan_59 : decode cX8_plan 59 = .ok (.iconst 0, 1) := by decide +kernel
theorem dX8_plan_60 : decode cX8_plan 60 = .ok (.iload_n 1, 1) := by decide +kernel
theorem dX8_plan_61 : decode cX8_plan 61 = .ok (.iastore, 1) := by decide +kernel
theorem dX8_plan_62 : decode cX8_plan 62 = .ok (.aload_n 0, 1) := by decide +kernel
theorem dX8_plan_63 : decode cX8_plan 63 = .ok (.getfield 55, 3) := by decide +kernel
theorem dX8_plan_66 : decode cX8_plan 66 = .ok (.iconst 1, 1) := by decide +kernel
theorem dX8_plan_67 : decode cX8_plan 67 = .ok (.iload_n 2, 1) := by decide +kernel
theorem dX8_plan_68 : decode cX8_plan 68 = .ok (.iastore, 1) := by decide +kernel
theorem dX8_plan_69 : decode cX8_plan 69 = .ok (.aload_n 0, 1) := by decide +kernel
theorem dX8_plan_70 : decode cX8_plan 70 = .ok (.getfield 55, 3) := by decide +kernel
theorem dX8_plan_73 : decode cX8_plan 73 = .ok (.iconst 2, 1) := by decide +kernel
theorem dX8_plan_74 : decode cX8_plan 74 = .ok (.iload_n 3, 1) := by decide +kernel
theorem dX8_plan_75 : decode cX8_plan 75 = .ok (.iastore, 1) := by decide +kernel
theorem dX8_plan_76 : decode cX8_plan 76 = .ok (.aload_n 0, 1) := by decide +kernel
theorem dX8_plan_77 : decode cX8_plan 77 = .ok (.getfield 55, 3) := by decide +kernel
theorem dX8_plan_80 : decode cX8_plan 80 = .ok (.iconst 3, 1) := by decide +kernel
theorem dX8_plan_81 : decode cX8_plan 81 = .ok (.iload 4, 2) := by decide +kernel
theorem dX8_plan_83 : decode cX8_plan 83 = .ok (.iastore, 1) := by decide +kernel
theorem dX8_plan_84 : decode cX8_plan 84 = .ok (.aload_n 0, 1) := by decide +kernel
theorem dX8_plan_85 : decode cX8_plan 85 = .ok (.iload 5, 2) := by decide +kernel
theorem dX8_plan_87 : decode cX8_plan 87 = .ok (.invokevirtual 246, 3) := by decide +kernel
theorem dX8_plan_90 : decode cX8_plan 90 = .ok (.istore 7, 2) := by decide +kernel
theorem dX8_plan_92 : decode cX8_plan 92 = .ok (.iconst (-1), 1) := by decide +kernel
end
section
theorem dX8_plan_93 : decode cX8_plan 93 = .ok (.istore 8, 2) := by decide +kernel
theorem dX8_plan_95 : decode cX8_plan 95 = .ok (.iconst (-1), 1) := by decide +kernel
theorem dX8_plan_96 : decode cX8_plan 96 = .ok (.istore 9, 2) := by decide +kernel
theorem dX8_plan_98 : decode cX8_plan 98 = .ok (.iconst 0, 1) := by decide +kernel
theorem dX8_plan_99 : decode cX8_plan 99 = .ok (.istore 10, 2) := by decide +kernel
theorem dX8_plan_101 : decode cX8_plan 101 = .ok (.iload 10, 2) := by decide +kernel
theorem dX8_plan_103 : decode cX8_plan 103 = .ok (.iconst 3, 1) := by decide +kernel
theorem dX8_plan_104 : decode cX8_plan 104 = .ok (.if_icmp .ge 146, 3) := by decide +kernel
theorem dX8_plan_107 : decode cX8_plan 107 = .ok (.iload 10, 2) := by decide +kernel
theorem dX8_plan_109 : decode cX8_plan 109 = .ok (.ifCond .ne 10, 3) := by decide +kernel
theorem dX8_plan_112 : decode cX8_plan 112 = .ok (.iload 7, 2) := by decide +kernel
theorem dX8_plan_114 : decode cX8_plan 114 = .ok (.iconst 1, 1) := by decide +kernel
theorem dX8_plan_115 : decode cX8_plan 115 = .ok (.ixor, 1) := by decide +kernel
theorem dX8_plan_116 : decode cX8_plan 116 = .ok (.goto 20, 3) := by decide +kernel
theorem dX8_plan_119 : decode cX8_plan 119 = .ok (.iload 10, 2) := by decide +kernel
theorem dX8_plan_121 : decode cX8_plan 121 = .ok (.iconst 1, 1) := by decide +kernel
theorem dX8_plan_122 : decode cX8_plan 122 = .ok (.if_icmp .ne 10, 3) := by decide +kernel
theorem dX8_plan_125 : decode cX8_plan 125 = .ok (.iload 7, 2) := by decide +kernel
theorem dX8_plan_127 : decode cX8_plan 127 = .ok (.iconst 2, 1) := by decide +kernel
theorem dX8_plan_128 : decode cX8_plan 128 = .ok (.ixor, 1) := by decide +kernel
theorem dX8_plan_129 : decode cX8_plan 129 = .ok (.goto 7, 3) := by decide +kernel
theorem dX8_plan_132 : decode cX8_plan 132 = .ok (.iconst 3, 1) := by decide +kernel
theorem dX8_plan_133 : decode cX8_plan 133 = .ok (.iload 7, 2) := by decide +kernel
theorem dX8_plan_135 : decode cX8_plan 135 = .ok (.isub, 1) := by decide +kernel
theorem dX8_plan_136 : decode cX8_plan 136 = .ok (.istore 11, 2) := by decide +kernel
theorem dX8_plan_138 : decode cX8_plan 138 = .ok (.iconst 0, 1) := by decide +kernel
theorem dX8_plan_139 : decode cX8_plan 139 = .ok (.istore 12, 2) := by decide +kernel
theorem dX8_plan_141 : decode cX8_plan 141 = .ok (.iload 12, 2) := by decide +kernel
theorem dX8_plan_143 : decode cX8_plan 143 = .ok (.iload 7, 2) := by decide +kernel
theorem dX8_plan_145 : decode cX8_plan 145 = .ok (.if_icmp .eq 10, 3) := by decide +kernel
theorem dX8_plan_148 : decode cX8_plan 148 = .ok (.iload 12, 2) := by decide +kernel
theorem dX8_plan_150 : decode cX8_plan 150 = .ok (.iload 11, 2) := by decide +kernel
theorem dX8_plan_152 : decode cX8_plan 152 = .ok (.if_icmp .ne 9, 3) := by decide +kernel
theorem dX8_plan_155 : decode cX8_plan 155 = .ok (.iinc 12 1, 3) := by decide +kernel
theorem dX8_plan_158 : decode cX8_plan 158 = .ok (.goto (-17), 3) := by decide +kernel
theorem dX8_plan_161 : decode cX8_plan 161 = .ok (.bipush 6, 2) := by decide +kernel
theorem dX8_plan_163 : decode cX8_plan 163 = .ok (.iload 7, 2) := by decide +kernel
theorem dX8_plan_165 : decode cX8_plan 165 = .ok (.isub, 1) := by decide +kernel
theorem dX8_plan_166 : decode cX8_plan 166 = .ok (.iload 11, 2) := by decide +kernel
theorem dX8_plan_168 : decode cX8_plan 168 = .ok (.isub, 1) := by decide +kernel
theorem dX8_plan_169 : decode cX8_plan 169 = .ok (.iload 12, 2) := by decide +kernel
theorem dX8_plan_171 : decode cX8_plan 171 = .ok (.isub, 1) := by decide +kernel
theorem dX8_plan_172 : decode cX8_plan 172 = .ok (.istore 13, 2) := by decide +kernel
theorem dX8_plan_174 : decode cX8_plan 174 = .ok (.aload_n 0, 1) := by decide +kernel
theorem dX8_plan_175 : decode cX8_plan 175 = .ok (.aload_n 0, 1) := by decide +kernel
theorem dX8_plan_176 : decode cX8_plan 176 = .ok (.getfield 55, 3) := by decide +kernel
theorem dX8_plan_179 : decode cX8_plan 179 = .ok (.iload 7, 2) := by decide +kernel
theorem dX8_plan_181 : decode cX8_plan 181 = .ok (.iaload, 1) := by decide +kernel
theorem dX8_plan_182 : decode cX8_plan 182 = .ok (.aload_n 0, 1) := by decide +kernel
theorem dX8_plan_183 : decode cX8_plan 183 = .ok (.getfield 55, 3) := by decide +kernel
theorem dX8_plan_186 : decode cX8_plan 186 = .ok (.iload 11, 2) := by decide +kernel
theorem dX8_plan_188 : decode cX8_plan 188 = .ok (.iaload, 1) := by decide +kernel
theorem dX8_plan_189 : decode cX8_plan 189 = .ok (.aload_n 0, 1) := by decide +kernel
theorem dX8_plan_190 : decode cX8_plan 190 = .ok (.getfield 55, 3) := by decide +kernel
theorem dX8_plan_193 : decode cX8_plan 193 = .ok (.iload 12, 2) := by decide +kernel
theorem dX8_plan_195 : decode cX8_plan 195 = .ok (.iaload, 1) := by decide +kernel
theorem dX8_plan_196 : decode cX8_plan 196 = .ok (.aload_n 0, 1) := by decide +kernel
theorem dX8_plan_197 : decode cX8_plan 197 = .ok (.getfield 55, 3) := by decide +kernel
theorem dX8_plan_200 : decode cX8_plan 200 = .ok (.iload 13, 2) := by decide +kernel
theorem dX8_plan_202 : decode cX8_plan 202 = .ok (.iaload, 1) := by decide +kernel
theorem dX8_plan_203 : decode cX8_plan 203 = .ok (.iload 5, 2) := by decide +kernel
theorem dX8_plan_205 : decode cX8_plan 205 = .ok (.iload 6, 2) := by decide +kernel
theorem dX8_plan_207 : decode cX8_plan 207 = .ok (.invokevirtual 239, 3) := by decide +kernel
theorem dX8_plan_210 : decode cX8_plan 210 = .ok (.istore 14, 2) := by decide +kernel
theorem dX8_plan_212 : decode cX8_plan 212 = .ok (.iload 14, 2) := by decide +kernel
theorem dX8_plan_214 : decode cX8_plan 214 = .ok (.iload 9, 2) := by decide +kernel
theorem dX8_plan_216 : decode cX8_plan 216 = .ok (.if_icmp .le 8, 3) := by decide +kernel
theorem dX8_plan_219 : decode cX8_plan 219 = .ok (.iload 10, 2) := by decide +kernel
theorem dX8_plan_221 : decode cX8_plan 221 = .ok (.goto 5, 3) := by decide +kernel
theorem dX8_plan_224 : decode cX8_plan 224 = .ok (.iload 8, 2) := by decide +kernel
theorem dX8_plan_226 : decode cX8_plan 226 = .ok (.istore 8, 2) := by decide +kernel
theorem dX8_plan_228 : decode cX8_plan 228 = .ok (.iload 14, 2) := by decide +kernel
theorem dX8_plan_230 : decode cX8_plan 230 = .ok (.iload 9, 2) := by decide +kernel
theorem dX8_plan_232 : decode cX8_plan 232 = .ok (.if_icmp .le 8, 3) := by decide +kernel
theorem dX8_plan_235 : decode cX8_plan 235 = .ok (.iload 14, 2) := by decide +kernel
theorem dX8_plan_237 : decode cX8_plan 237 = .ok (.goto 5, 3) := by decide +kernel
theorem dX8_plan_240 : decode cX8_plan 240 = .ok (.iload 9, 2) := by decide +kernel
theorem dX8_plan_242 : decode cX8_plan 242 = .ok (.istore 9, 2) := by decide +kernel
theorem dX8_plan_244 : decode cX8_plan 244 = .ok (.iinc 10 1, 3) := by decide +kernel
theorem dX8_plan_247 : decode cX8_plan 247 = .ok (.goto (-146), 3) := by decide +kernel
theorem dX8_plan_250 : decode cX8_plan 250 = .ok (.iload 8, 2) := by decide +kernel
theorem dX8_plan_252 : decode cX8_plan 252 = .ok (.ireturn, 1) := by decide +kernel
theorem dX8_staysBy_0 : decode cX8_staysBy 0 = .ok (.aload_n 0, 1) := by decide +kernel
theorem dX8_staysBy_1 : decode cX8_staysBy 1 = .ok (.iload_n 1, 1) := by decide +kernel
theorem dX8_staysBy_2 : decode cX8_staysBy 2 = .ok (.invokevirtual 191, 3) := by decide +kernel
theorem dX8_staysBy_5 : decode cX8_staysBy 5 = .ok (.aload_n 0, 1) := by decide +kernel
theorem dX8_staysBy_6 : decode cX8_staysBy 6 = .ok (.iload_n 2, 1) := by decide +kernel
theorem dX8_staysBy_7 : decode cX8_staysBy 7 = .ok (.invokevirtual 195, 3) := by decide +kernel
theorem dX8_staysBy_10 : decode cX8_staysBy 10 = .ok (.lconst 1, 1) := by decide +kernel
theorem dX8_staysBy_11 : decode cX8_staysBy 11 = .ok (.lstore 5, 2) := by decide +kernel
theorem dX8_staysBy_13 : decode cX8_staysBy 13 = .ok (.iconst 0, 1) := by decide +kernel
theorem dX8_staysBy_14 : decode cX8_staysBy 14 = .ok (.istore 7, 2) := by decide +kernel
theorem dX8_staysBy_16 : decode cX8_staysBy 16 = .ok (.iload 7, 2) := by decide +kernel
theorem dX8_staysBy_18 : decode cX8_staysBy 18 = .ok (.iconst 4, 1) := by decide +kernel
theorem dX8_staysBy_19 : decode cX8_staysBy 19 = .ok (.if_icmp .ge 67, 3) := by decide +kernel
theorem dX8_staysBy_22 : decode cX8_staysBy 22 = .ok (.aload_n 0, 1) := by decide +kernel
theorem dX8_staysBy_23 : decode cX8_staysBy 23 = .ok (.iload 7, 2) := by decide +kernel
theorem dX8_staysBy_25 : decode cX8_staysBy 25 = .ok (.invokevirtual 198, 3) := by decide +kernel
theorem dX8_staysBy_28 : decode cX8_staysBy 28 = .ok (.istore 8, 2) := by decide +kernel
theorem dX8_staysBy_30 : decode cX8_staysBy 30 = .ok (.iload 8, 2) := by decide +kernel
theorem dX8_staysBy_32 : decode cX8_staysBy 32 = .ok (.iconst (-1), 1) := by decide +kernel
theorem dX8_staysBy_33 : decode cX8_staysBy 33 = .ok (.if_icmp .eq 17, 3) := by decide +kernel
theorem dX8_staysBy_36 : decode cX8_staysBy 36 = .ok (.iload 4, 2) := by decide +kernel
theorem dX8_staysBy_38 : decode cX8_staysBy 38 = .ok (.iload 7, 2) := by decide +kernel
theorem dX8_staysBy_40 : decode cX8_staysBy 40 = .ok (.ishr, 1) := by decide +kernel
theorem dX8_staysBy_41 : decode cX8_staysBy 41 = .ok (.iconst 1, 1) := by decide +kernel
theorem dX8_staysBy_42 : decode cX8_staysBy 42 = .ok (.iand, 1) := by decide +kernel
theorem dX8_staysBy_43 : decode cX8_staysBy 43 = .ok (.ifCond .ne 7, 3) := by decide +kernel
theorem dX8_staysBy_46 : decode cX8_staysBy 46 = .ok (.iconst 1, 1) := by decide +kernel
theorem dX8_staysBy_47 : decode cX8_staysBy 47 = .ok (.goto 4, 3) := by decide +kernel
theorem dX8_staysBy_50 : decode cX8_staysBy 50 = .ok (.iconst 0, 1) := by decide +kernel
theorem dX8_staysBy_51 : decode cX8_staysBy 51 = .ok (.istore 9, 2) := by decide +kernel
theorem dX8_staysBy_53 : decode cX8_staysBy 53 = .ok (.lload 5, 2) := by decide +kernel
theorem dX8_staysBy_55 : decode cX8_staysBy 55 = .ok (.iload 9, 2) := by decide +kernel
theorem dX8_staysBy_57 : decode cX8_staysBy 57 = .ok (.ifCond .eq 17, 3) := by decide +kernel
theorem dX8_staysBy_60 : decode cX8_staysBy 60 = .ok (.bipush 100, 2) := by decide +kernel
theorem dX8_staysBy_62 : decode cX8_staysBy 62 = .ok (.aload_n 0, 1) := by decide +kernel
theorem dX8_staysBy_63 : decode cX8_staysBy 63 = .ok (.iload 8, 2) := by decide +kernel
theorem dX8_staysBy_65 : decode cX8_staysBy 65 = .ok (.iload_n 3, 1) := by decide +kernel
theorem dX8_staysBy_66 : decode cX8_staysBy 66 = .ok (.invokevirtual 249, 3) := by decide +kernel
theorem dX8_staysBy_69 : decode cX8_staysBy 69 = .ok (.isub, 1) := by decide +kernel
theorem dX8_staysBy_70 : decode cX8_staysBy 70 = .ok (.i2l, 1) := by decide +kernel
theorem dX8_staysBy_71 : decode cX8_staysBy 71 = .ok (.goto 6, 3) := by decide +kernel
theorem dX8_staysBy_74 : decode cX8_staysBy 74 = .ok (.ldc2_w 252, 3) := by decide +kernel
theorem dX8_staysBy_77 : decode cX8_staysBy 77 = .ok (.lmul, 1) := by decide +kernel
theorem dX8_staysBy_78 : decode cX8_staysBy 78 = .ok (.lstore 5, 2) := by decide +kernel
theorem dX8_staysBy_80 : decode cX8_staysBy 80 = .ok (.iinc 7 1, 3) := by decide +kernel
theorem dX8_staysBy_83 : decode cX8_staysBy 83 = .ok (.goto (-67), 3) := by decide +kernel
theorem dX8_staysBy_86 : decode cX8_staysBy 86 = .ok (.lload 5, 2) := by decide +kernel
theorem dX8_staysBy_88 : decode cX8_staysBy 88 = .ok (.lreturn, 1) := by decide +kernel
theorem dX8_leaving_0 : decode cX8_leaving 0 = .ok (.aload_n 0, 1) := by decide +kernel
theorem dX8_leaving_1 : decode cX8_leaving 1 = .ok (.getfield 46, 3) := by decide +kernel
theorem dX8_leaving_4 : decode cX8_leaving 4 = .ok (.iload_n 1, 1) := by decide +kernel
theorem dX8_leaving_5 : decode cX8_leaving 5 = .ok (.iaload, 1) := by decide +kernel
theorem dX8_leaving_6 : decode cX8_leaving 6 = .ok (.iconst (-1), 1) := by decide +kernel
theorem dX8_leaving_7 : decode cX8_leaving 7 = .ok (.if_icmp .ne 5, 3) := by decide +kernel
theorem dX8_leaving_10 : decode cX8_leaving 10 = .ok (.iconst 0, 1) := by decide +kernel
theorem dX8_leaving_11 : decode cX8_leaving 11 = .ok (.ireturn, 1) := by decide +kernel
theorem dX8_leaving_12 : decode cX8_leaving 12 = .ok (.aload_n 0, 1) := by decide +kernel
theorem dX8_leaving_13 : decode cX8_leaving 13 = .ok (.getfield 46, 3) := by decide +kernel
theorem dX8_leaving_16 : decode cX8_leaving 16 = .ok (.iload_n 1, 1) := by decide +kernel
theorem dX8_leaving_17 : decode cX8_leaving 17 = .ok (.iaload, 1) := by decide +kernel
theorem dX8_leaving_18 : decode cX8_leaving 18 = .ok (.aload_n 0, 1) := by decide +kernel
theorem dX8_leaving_19 : decode cX8_leaving 19 = .ok (.iload_n 1, 1) := by decide +kernel
theorem dX8_leaving_20 : decode cX8_leaving 20 = .ok (.invokevirtual 177, 3) := by decide +kernel
theorem dX8_leaving_23 : decode cX8_leaving 23 = .ok (.if_icmp .le 8, 3) := by decide +kernel
theorem dX8_leaving_26 : decode cX8_leaving 26 = .ok (.bipush 100, 2) := by decide +kernel
theorem dX8_leaving_28 : decode cX8_leaving 28 = .ok (.goto 20, 3) := by decide +kernel
theorem dX8_leaving_31 : decode cX8_leaving 31 = .ok (.bipush 10, 2) := by decide +kernel
theorem dX8_leaving_33 : decode cX8_leaving 33 = .ok (.aload_n 0, 1) := by decide +kernel
theorem dX8_leaving_34 : decode cX8_leaving 34 = .ok (.getfield 46, 3) := by decide +kernel
theorem dX8_leaving_37 : decode cX8_leaving 37 = .ok (.iload_n 1, 1) := by decide +kernel
theorem dX8_leaving_38 : decode cX8_leaving 38 = .ok (.iaload, 1) := by decide +kernel
theorem dX8_leaving_39 : decode cX8_leaving 39 = .ok (.imul, 1) := by decide +kernel
theorem dX8_leaving_40 : decode cX8_leaving 40 = .ok (.aload_n 0, 1) := by decide +kernel
theorem dX8_leaving_41 : decode cX8_leaving 41 = .ok (.iload_n 1, 1) := by decide +kernel
theorem dX8_leaving_42 : decode cX8_leaving 42 = .ok (.invokevirtual 177, 3) := by decide +kernel
theorem dX8_leaving_45 : decode cX8_leaving 45 = .ok (.idiv, 1) := by decide +kernel
theorem dX8_leaving_46 : decode cX8_leaving 46 = .ok (.iload_n 2, 1) := by decide +kernel
theorem dX8_leaving_47 : decode cX8_leaving 47 = .ok (.imul, 1) := by decide +kernel
theorem dX8_leaving_48 : decode cX8_leaving 48 = .ok (.ireturn, 1) := by decide +kernel
theorem dX8_bends_0 : decode cX8_bends 0 = .ok (.iconst 0, 1) := by decide +kernel
theorem dX8_bends_1 : decode cX8_bends 1 = .ok (.istore_n 1, 1) := by decide +kernel
theorem dX8_bends_2 : decode cX8_bends 2 = .ok (.iconst 0, 1) := by decide +kernel
theorem dX8_bends_3 : decode cX8_bends 3 = .ok (.istore_n 2, 1) := by decide +kernel
theorem dX8_bends_4 : decode cX8_bends 4 = .ok (.iload_n 2, 1) := by decide +kernel
theorem dX8_bends_5 : decode cX8_bends 5 = .ok (.aload_n 0, 1) := by decide +kernel
theorem dX8_bends_6 : decode cX8_bends 6 = .ok (.getfield 116, 3) := by decide +kernel
theorem dX8_bends_9 : decode cX8_bends 9 = .ok (.if_icmp .ge 26, 3) := by decide +kernel
theorem dX8_bends_12 : decode cX8_bends 12 = .ok (.iload_n 1, 1) := by decide +kernel
theorem dX8_bends_13 : decode cX8_bends 13 = .ok (.aload_n 0, 1) := by decide +kernel
theorem dX8_bends_14 : decode cX8_bends 14 = .ok (.getfield 19, 3) := by decide +kernel
theorem dX8_bends_17 : decode cX8_bends 17 = .ok (.iload_n 2, 1) := by decide +kernel
theorem dX8_bends_18 : decode cX8_bends 18 = .ok (.iaload, 1) := by decide +kernel
theorem dX8_bends_19 : decode cX8_bends 19 = .ok (.ifCond .le 7, 3) := by decide +kernel
theorem dX8_bends_22 : decode cX8_bends 22 = .ok (.iconst 1, 1) := by decide +kernel
theorem dX8_bends_23 : decode cX8_bends 23 = .ok (.goto 4, 3) := by decide +kernel
theorem dX8_bends_26 : decode cX8_bends 26 = .ok (.iconst 0, 1) := by decide +kernel
theorem dX8_bends_27 : decode cX8_bends 27 = .ok (.iadd, 1) := by decide +kernel
theorem dX8_bends_28 : decode cX8_bends 28 = .ok (.istore_n 1, 1) := by decide +kernel
theorem dX8_bends_29 : decode cX8_bends 29 = .ok (.iinc 2 1, 3) := by decide +kernel
theorem dX8_bends_32 : decode cX8_bends 32 = .ok (.goto (-28), 3) := by decide +kernel
theorem dX8_bends_35 : decode cX8_bends 35 = .ok (.iload_n 1, 1) := by decide +kernel
theorem dX8_bends_36 : decode cX8_bends 36 = .ok (.ireturn, 1) := by decide +kernel
theorem dX8_isShake_0 : decode cX8_isShake 0 = .ok (.iload_n 0, 1) := by decide +kernel
theorem dX8_isShake_1 : decode cX8_isShake 1 = .ok (.i2l, 1) := by decide +kernel
theorem dX8_isShake_2 : decode cX8_isShake 2 = .ok (.lconst 0, 1) := by decide +kernel
theorem dX8_isShake_3 : decode cX8_isShake 3 = .ok (.ldc2_w 144, 3) := by decide +kernel
theorem dX8_isShake_6 : decode cX8_isShake 6 = .ok (.invokestatic 89, 3) := by decide +kernel
theorem dX8_isShake_9 : decode cX8_isShake 9 = .ok (.ireturn, 1) := by decide +kernel
theorem dX8_stays_0 : decode cX8_stays 0 = .ok (.aload_n 0, 1) := by decide +kernel
theorem dX8_stays_1 : decode cX8_stays 1 = .ok (.iload_n 1, 1) := by decide +kernel
theorem dX8_stays_2 : decode cX8_stays 2 = .ok (.invokevirtual 132, 3) := by decide +kernel
theorem dX8_stays_5 : decode cX8_stays 5 = .ok (.ifCond .ne 7, 3) := by decide +kernel
theorem dX8_stays_8 : decode cX8_stays 8 = .ok (.ldc2_w 254, 3) := by decide +kernel
theorem dX8_stays_11 : decode cX8_stays 11 = .ok (.lreturn, 1) := by decide +kernel
theorem dX8_stays_12 : decode cX8_stays 12 = .ok (.aload_n 0, 1) := by decide +kernel
theorem dX8_stays_13 : decode cX8_stays 13 = .ok (.invokevirtual 182, 3) := by decide +kernel
theorem dX8_stays_16 : decode cX8_stays 16 = .ok (.ifCond .eq 7, 3) := by decide +kernel
theorem dX8_stays_19 : decode cX8_stays 19 = .ok (.ldc2_w 256, 3) := by decide +kernel
theorem dX8_stays_22 : decode cX8_stays 22 = .ok (.lreturn, 1) := by decide +kernel
theorem dX8_stays_23 : decode cX8_stays 23 = .ok (.iload_n 2, 1) := by decide +kernel
theorem dX8_stays_24 : decode cX8_stays 24 = .ok (.invokestatic 186, 3) := by decide +kernel
theorem dX8_stays_27 : decode cX8_stays 27 = .ok (.ifCond .eq 34, 3) := by decide +kernel
theorem dX8_stays_30 : decode cX8_stays 30 = .ok (.iload_n 3, 1) := by decide +kernel
theorem dX8_stays_31 : decode cX8_stays 31 = .ok (.invokestatic 258, 3) := by decide +kernel
theorem dX8_stays_34 : decode cX8_stays 34 = .ok (.ifCond .eq 27, 3) := by decide +kernel
theorem dX8_stays_37 : decode cX8_stays 37 = .ok (.iload 4, 2) := by decide +kernel
theorem dX8_stays_39 : decode cX8_stays 39 = .ok (.i2l, 1) := by decide +kernel
theorem dX8_stays_40 : decode cX8_stays 40 = .ok (.lconst 0, 1) := by decide +kernel
theorem dX8_stays_41 : decode cX8_stays 41 = .ok (.ldc2_w 261, 3) := by decide +kernel
theorem dX8_stays_44 : decode cX8_stays 44 = .ok (.invokestatic 89, 3) := by decide +kernel
theorem dX8_stays_47 : decode cX8_stays 47 = .ok (.ifCond .eq 14, 3) := by decide +kernel
theorem dX8_stays_50 : decode cX8_stays 50 = .ok (.iload 5, 2) := by decide +kernel
theorem dX8_stays_52 : decode cX8_stays 52 = .ok (.i2l, 1) := by decide +kernel
theorem dX8_stays_53 : decode cX8_stays 53 = .ok (.lconst 0, 1) := by decide +kernel
theorem dX8_stays_54 : decode cX8_stays 54 = .ok (.lconst 1, 1) := by decide +kernel
theorem dX8_stays_55 : decode cX8_stays 55 = .ok (.invokestatic 89, 3) := by decide +kernel
theorem dX8_stays_58 : decode cX8_stays 58 = .ok (.ifCond .ne 7, 3) := by decide +kernel
theorem dX8_stays_61 : decode cX8_stays 61 = .ok (.ldc2_w 263, 3) := by decide +kernel
theorem dX8_stays_64 : decode cX8_stays 64 = .ok (.lreturn, 1) := by decide +kernel
theorem dX8_stays_65 : decode cX8_stays 65 = .ok (.ldc2_w 265, 3) := by decide +kernel
theorem dX8_stays_68 : decode cX8_stays 68 = .ok (.lstore 6, 2) := by decide +kernel
theorem dX8_stays_70 : decode cX8_stays 70 = .ok (.aload_n 0, 1) := by decide +kernel
theorem dX8_stays_71 : decode cX8_stays 71 = .ok (.iload_n 1, 1) := by decide +kernel
theorem dX8_stays_72 : decode cX8_stays 72 = .ok (.iload_n 2, 1) := by decide +kernel
theorem dX8_stays_73 : decode cX8_stays 73 = .ok (.iload_n 3, 1) := by decide +kernel
theorem dX8_stays_74 : decode cX8_stays 74 = .ok (.iload 4, 2) := by decide +kernel
theorem dX8_stays_76 : decode cX8_stays 76 = .ok (.invokevirtual 267, 3) := by decide +kernel
theorem dX8_stays_79 : decode cX8_stays 79 = .ok (.lstore 8, 2) := by decide +kernel
theorem dX8_stays_81 : decode cX8_stays 81 = .ok (.lload 8, 2) := by decide +kernel
theorem dX8_stays_83 : decode cX8_stays 83 = .ok (.lstore 10, 2) := by decide +kernel
theorem dX8_stays_85 : decode cX8_stays 85 = .ok (.lload 6, 2) := by decide +kernel
theorem dX8_stays_87 : decode cX8_stays 87 = .ok (.lstore 12, 2) := by decide +kernel
theorem dX8_stays_89 : decode cX8_stays 89 = .ok (.lload 10, 2) := by decide +kernel
theorem dX8_stays_91 : decode cX8_stays 91 = .ok (.lconst 0, 1) := by decide +kernel
theorem dX8_stays_92 : decode cX8_stays 92 = .ok (.lcmp, 1) := by decide +kernel
theorem dX8_stays_93 : decode cX8_stays 93 = .ok (.ifCond .eq 21, 3) := by decide +kernel
theorem dX8_stays_96 : decode cX8_stays 96 = .ok (.lload 12, 2) := by decide +kernel
theorem dX8_stays_98 : decode cX8_stays 98 = .ok (.lload 10, 2) := by decide +kernel
theorem dX8_stays_100 : decode cX8_stays 100 = .ok (.lrem, 1) := by decide +kernel
theorem dX8_stays_101 : decode cX8_stays 101 = .ok (.lstore 14, 2) := by decide +kernel
theorem dX8_stays_103 : decode cX8_stays 103 = .ok (.lload 10, 2) := by decide +kernel
theorem dX8_stays_105 : decode cX8_stays 105 = .ok (.lstore 12, 2) := by decide +kernel
theorem dX8_stays_107 : decode cX8_stays 107 = .ok (.lload 14, 2) := by decide +kernel
theorem dX8_stays_109 : decode cX8_stays 109 = .ok (.lstore 10, 2) := by decide +kernel
theorem dX8_stays_111 : decode cX8_stays 111 = .ok (.goto (-22), 3) := by decide +kernel
theorem dX8_stays_114 : decode cX8_stays 114 = .ok (.iload 5, 2) := by decide +kernel
theorem dX8_stays_116 : decode cX8_stays 116 = .ok (.ifCond .ne 11, 3) := by decide +kernel
theorem dX8_stays_119 : decode cX8_stays 119 = .ok (.lload 8, 2) := by decide +kernel
theorem dX8_stays_121 : decode cX8_stays 121 = .ok (.lload 12, 2) := by decide +kernel
theorem dX8_stays_123 : decode cX8_stays 123 = .ok (.ldiv, 1) := by decide +kernel
theorem dX8_stays_124 : decode cX8_stays 124 = .ok (.goto 8, 3) := by decide +kernel
theorem dX8_stays_127 : decode cX8_stays 127 = .ok (.lload 6, 2) := by decide +kernel
theorem dX8_stays_129 : decode cX8_stays 129 = .ok (.lload 12, 2) := by decide +kernel
theorem dX8_stays_131 : decode cX8_stays 131 = .ok (.ldiv, 1) := by decide +kernel
theorem dX8_stays_132 : decode cX8_stays 132 = .ok (.lreturn, 1) := by decide +kernel
theorem dX8_straw_0 : decode cX8_straw 0 = .ok (.aload_n 0, 1) := by decide +kernel
theorem dX8_straw_1 : decode cX8_straw 1 = .ok (.iload_n 1, 1) := by decide +kernel
theorem dX8_straw_2 : decode cX8_straw 2 = .ok (.invokevirtual 132, 3) := by decide +kernel
theorem dX8_straw_5 : decode cX8_straw 5 = .ok (.ifCond .ne 6, 3) := by decide +kernel
theorem dX8_straw_8 : decode cX8_straw 8 = .ok (.bipush (-101), 2) := by decide +kernel
theorem dX8_straw_10 : decode cX8_straw 10 = .ok (.ireturn, 1) := by decide +kernel
theorem dX8_straw_11 : decode cX8_straw 11 = .ok (.aload_n 0, 1) := by decide +kernel
theorem dX8_straw_12 : decode cX8_straw 12 = .ok (.invokevirtual 182, 3) := by decide +kernel
theorem dX8_straw_15 : decode cX8_straw 15 = .ok (.ifCond .eq 6, 3) := by decide +kernel
theorem dX8_straw_18 : decode cX8_straw 18 = .ok (.bipush (-103), 2) := by decide +kernel
theorem dX8_straw_20 : decode cX8_straw 20 = .ok (.ireturn, 1) := by decide +kernel
theorem dX8_straw_21 : decode cX8_straw 21 = .ok (.iload_n 2, 1) := by decide +kernel
theorem dX8_straw_22 : decode cX8_straw 22 = .ok (.invokestatic 186, 3) := by decide +kernel
theorem dX8_straw_25 : decode cX8_straw 25 = .ok (.ifCond .eq 23, 3) := by decide +kernel
theorem dX8_straw_28 : decode cX8_straw 28 = .ok (.iload_n 3, 1) := by decide +kernel
theorem dX8_straw_29 : decode cX8_straw 29 = .ok (.invokestatic 258, 3) := by decide +kernel
theorem dX8_straw_32 : decode cX8_straw 32 = .ok (.ifCond .eq 16, 3) := by decide +kernel
theorem dX8_straw_35 : decode cX8_straw 35 = .ok (.iload 4, 2) := by decide +kernel
theorem dX8_straw_37 : decode cX8_straw 37 = .ok (.i2l, 1) := by decide +kernel
theorem dX8_straw_38 : decode cX8_straw 38 = .ok (.lconst 1, 1) := by decide +kernel
theorem dX8_straw_39 : decode cX8_straw 39 = .ok (.ldc2_w 201, 3) := by decide +kernel
theorem dX8_straw_42 : decode cX8_straw 42 = .ok (.invokestatic 89, 3) := by decide +kernel
theorem dX8_straw_45 : decode cX8_straw 45 = .ok (.ifCond .ne 6, 3) := by decide +kernel
theorem dX8_straw_48 : decode cX8_straw 48 = .ok (.bipush (-102), 2) := by decide +kernel
theorem dX8_straw_50 : decode cX8_straw 50 = .ok (.ireturn, 1) := by decide +kernel
theorem dX8_straw_51 : decode cX8_straw 51 = .ok (.aload_n 0, 1) := by decide +kernel
theorem dX8_straw_52 : decode cX8_straw 52 = .ok (.invokevirtual 271, 3) := by decide +kernel
theorem dX8_straw_55 : decode cX8_straw 55 = .ok (.iload 4, 2) := by decide +kernel
theorem dX8_straw_57 : decode cX8_straw 57 = .ok (.if_icmp .ge 6, 3) := by decide +kernel
theorem dX8_straw_60 : decode cX8_straw 60 = .ok (.bipush (-103), 2) := by decide +kernel
theorem dX8_straw_62 : decode cX8_straw 62 = .ok (.ireturn, 1) := by decide +kernel
theorem dX8_straw_63 : decode cX8_straw 63 = .ok (.iconst (-1), 1) := by decide +kernel
theorem dX8_straw_64 : decode cX8_straw 64 = .ok (.istore 5, 2) := by decide +kernel
theorem dX8_straw_66 : decode cX8_straw 66 = .ok (.ldc2_w 274, 3) := by decide +kernel
theorem dX8_straw_69 : decode cX8_straw 69 = .ok (.lstore 6, 2) := by decide +kernel
theorem dX8_straw_71 : decode cX8_straw 71 = .ok (.iconst 0, 1) := by decide +kernel
theorem dX8_straw_72 : decode cX8_straw 72 = .ok (.istore 8, 2) := by decide +kernel
theorem dX8_straw_74 : decode cX8_straw 74 = .ok (.iload 8, 2) := by decide +kernel
theorem dX8_straw_76 : decode cX8_straw 76 = .ok (.bipush 16, 2) := by decide +kernel
theorem dX8_straw_78 : decode cX8_straw 78 = .ok (.if_icmp .ge 109, 3) := by decide +kernel
theorem dX8_straw_81 : decode cX8_straw 81 = .ok (.iconst 0, 1) := by decide +kernel
theorem dX8_straw_82 : decode cX8_straw 82 = .ok (.istore 9, 2) := by decide +kernel
theorem dX8_straw_84 : decode cX8_straw 84 = .ok (.iconst 0, 1) := by decide +kernel
theorem dX8_straw_85 : decode cX8_straw 85 = .ok (.istore 10, 2) := by decide +kernel
theorem dX8_straw_87 : decode cX8_straw 87 = .ok (.iload 10, 2) := by decide +kernel
theorem dX8_straw_89 : decode cX8_straw 89 = .ok (.iconst 4, 1) := by decide +kernel
theorem dX8_straw_90 : decode cX8_straw 90 = .ok (.if_icmp .ge 21, 3) := by decide +kernel
theorem dX8_straw_93 : decode cX8_straw 93 = .ok (.iload 9, 2) := by decide +kernel
theorem dX8_straw_95 : decode cX8_straw 95 = .ok (.iload 8, 2) := by decide +kernel
theorem dX8_straw_97 : decode cX8_straw 97 = .ok (.iload 10, 2) := by decide +kernel
theorem dX8_straw_99 : decode cX8_straw 99 = .ok (.ishr, 1) := by decide +kernel
theorem dX8_straw_100 : decode cX8_straw 100 = .ok (.iconst 1, 1) := by decide +kernel
theorem dX8_straw_101 : decode cX8_straw 101 = .ok (.iand, 1) := by decide +kernel
theorem dX8_straw_102 : decode cX8_straw 102 = .ok (.iadd, 1) := by decide +kernel
theorem dX8_straw_103 : decode cX8_straw 103 = .ok (.istore 9, 2) := by decide +kernel
theorem dX8_straw_105 : decode cX8_straw 105 = .ok (.iinc 10 1, 3) := by decide +kernel
theorem dX8_straw_108 : decode cX8_straw 108 = .ok (.goto (-21), 3) := by decide +kernel
theorem dX8_straw_111 : decode cX8_straw 111 = .ok (.iload 9, 2) := by decide +kernel
theorem dX8_straw_113 : decode cX8_straw 113 = .ok (.iload 4, 2) := by decide +kernel
theorem dX8_straw_115 : decode cX8_straw 115 = .ok (.if_icmp .ne 66, 3) := by decide +kernel
theorem dX8_straw_118 : decode cX8_straw 118 = .ok (.aload_n 0, 1) := by decide +kernel
theorem dX8_straw_119 : decode cX8_straw 119 = .ok (.invokevirtual 271, 3) := by decide +kernel
theorem dX8_straw_122 : decode cX8_straw 122 = .ok (.iconst 3, 1) := by decide +kernel
theorem dX8_straw_123 : decode cX8_straw 123 = .ok (.if_icmp .gt 13, 3) := by decide +kernel
theorem dX8_straw_126 : decode cX8_straw 126 = .ok (.iload 8, 2) := by decide +kernel
theorem dX8_straw_128 : decode cX8_straw 128 = .ok (.aload_n 0, 1) := by decide +kernel
theorem dX8_straw_129 : decode cX8_straw 129 = .ok (.invokevirtual 271, 3) := by decide +kernel
theorem dX8_straw_132 : decode cX8_straw 132 = .ok (.ishr, 1) := by decide +kernel
theorem dX8_straw_133 : decode cX8_straw 133 = .ok (.ifCond .ne 48, 3) := by decide +kernel
theorem dX8_straw_136 : decode cX8_straw 136 = .ok (.aload_n 0, 1) := by decide +kernel
theorem dX8_straw_137 : decode cX8_straw 137 = .ok (.iload_n 1, 1) := by decide +kernel
theorem dX8_straw_138 : decode cX8_straw 138 = .ok (.iload_n 2, 1) := by decide +kernel
theorem dX8_straw_139 : decode cX8_straw 139 = .ok (.iload_n 3, 1) := by decide +kernel
theorem dX8_straw_140 : decode cX8_straw 140 = .ok (.iload 8, 2) := by decide +kernel
theorem dX8_straw_142 : decode cX8_straw 142 = .ok (.invokevirtual 267, 3) := by decide +kernel
theorem dX8_straw_145 : decode cX8_straw 145 = .ok (.lstore 10, 2) := by decide +kernel
theorem dX8_straw_147 : decode cX8_straw 147 = .ok (.lload 10, 2) := by decide +kernel
theorem dX8_straw_149 : decode cX8_straw 149 = .ok (.lload 6, 2) := by decide +kernel
theorem dX8_straw_151 : decode cX8_straw 151 = .ok (.lcmp, 1) := by decide +kernel
theorem dX8_straw_152 : decode cX8_straw 152 = .ok (.ifCond .le 8, 3) := by decide +kernel
theorem dX8_straw_155 : decode cX8_straw 155 = .ok (.iload 8, 2) := by decide +kernel
theorem dX8_straw_157 : decode cX8_straw 157 = .ok (.goto 5, 3) := by decide +kernel
theorem dX8_straw_160 : decode cX8_straw 160 = .ok (.iload 5, 2) := by decide +kernel
theorem dX8_straw_162 : decode cX8_straw 162 = .ok (.istore 5, 2) := by decide +kernel
theorem dX8_straw_164 : decode cX8_straw 164 = .ok (.lload 10, 2) := by decide +kernel
theorem dX8_straw_166 : decode cX8_straw 166 = .ok (.lload 6, 2) := by decide +kernel
theorem dX8_straw_168 : decode cX8_straw 168 = .ok (.lcmp, 1) := by decide +kernel
theorem dX8_straw_169 : decode cX8_straw 169 = .ok (.ifCond .le 8, 3) := by decide +kernel
theorem dX8_straw_172 : decode cX8_straw 172 = .ok (.lload 10, 2) := by decide +kernel
theorem dX8_straw_174 : decode cX8_straw 174 = .ok (.goto 5, 3) := by decide +kernel
theorem dX8_straw_177 : decode cX8_straw 177 = .ok (.lload 6, 2) := by decide +kernel
theorem dX8_straw_179 : decode cX8_straw 179 = .ok (.lstore 6, 2) := by decide +kernel
theorem dX8_straw_181 : decode cX8_straw 181 = .ok (.iinc 8 1, 3) := by decide +kernel
theorem dX8_straw_184 : decode cX8_straw 184 = .ok (.goto (-110), 3) := by decide +kernel
theorem dX8_straw_187 : decode cX8_straw 187 = .ok (.iload 5, 2) := by decide +kernel
theorem dX8_straw_189 : decode cX8_straw 189 = .ok (.ireturn, 1) := by decide +kernel
theorem dX8_image_0 : decode cX8_image 0 = .ok (.aload_n 0, 1) := by decide +kernel
theorem dX8_image_1 : decode cX8_image 1 = .ok (.invokevirtual 182, 3) := by decide +kernel
theorem dX8_image_4 : decode cX8_image 4 = .ok (.ifCond .eq 6, 3) := by decide +kernel
theorem dX8_image_7 : decode cX8_image 7 = .ok (.bipush (-103), 2) := by decide +kernel
theorem dX8_image_9 : decode cX8_image 9 = .ok (.ireturn, 1) := by decide +kernel
theorem dX8_image_10 : decode cX8_image 10 = .ok (.iconst 0, 1) := by decide +kernel
theorem dX8_image_11 : decode cX8_image 11 = .ok (.istore_n 1, 1) := by decide +kernel
theorem dX8_image_12 : decode cX8_image 12 = .ok (.iload_n 1, 1) := by decide +kernel
theorem dX8_image_13 : decode cX8_image 13 = .ok (.bipush 12, 2) := by decide +kernel
theorem dX8_image_15 : decode cX8_image 15 = .ok (.if_icmp .ge 21, 3) := by decide +kernel
theorem dX8_image_18 : decode cX8_image 18 = .ok (.aload_n 0, 1) := by decide +kernel
theorem dX8_image_19 : decode cX8_image 19 = .ok (.getfield 58, 3) := by decide +kernel
theorem dX8_image_22 : decode cX8_image 22 = .ok (.iload_n 1, 1) := by decide +kernel
theorem dX8_image_23 : decode cX8_image 23 = .ok (.aload_n 0, 1) := by decide +kernel
theorem dX8_image_24 : decode cX8_image 24 = .ok (.getfield 25, 3) := by decide +kernel
theorem dX8_image_27 : decode cX8_image 27 = .ok (.iload_n 1, 1) := by decide +kernel
theorem dX8_image_28 : decode cX8_image 28 = .ok (.iaload, 1) := by decide +kernel
theorem dX8_image_29 : decode cX8_image 29 = .ok (.iastore, 1) := by decide +kernel
theorem dX8_image_30 : decode cX8_image 30 = .ok (.iinc 1 1, 3) := by decide +kernel
theorem dX8_image_33 : decode cX8_image 33 = .ok (.goto (-21), 3) := by decide +kernel
theorem dX8_image_36 : decode cX8_image 36 = .ok (.iconst 0, 1) := by decide +kernel
theorem dX8_image_37 : decode cX8_image 37 = .ok (.istore_n 1, 1) := by decide +kernel
theorem dX8_image_38 : decode cX8_image 38 = .ok (.iload_n 1, 1) := by decide +kernel
theorem dX8_image_39 : decode cX8_image 39 = .ok (.bipush 8, 2) := by decide +kernel
theorem dX8_image_41 : decode cX8_image 41 = .ok (.if_icmp .ge 21, 3) := by decide +kernel
theorem dX8_image_44 : decode cX8_image 44 = .ok (.aload_n 0, 1) := by decide +kernel
theorem dX8_image_45 : decode cX8_image 45 = .ok (.getfield 61, 3) := by decide +kernel
theorem dX8_image_48 : decode cX8_image 48 = .ok (.iload_n 1, 1) := by decide +kernel
theorem dX8_image_49 : decode cX8_image 49 = .ok (.aload_n 0, 1) := by decide +kernel
theorem dX8_image_50 : decode cX8_image 50 = .ok (.getfield 28, 3) := by decide +kernel
theorem dX8_image_53 : decode cX8_image 53 = .ok (.iload_n 1, 1) := by decide +kernel
theorem dX8_image_54 : decode cX8_image 54 = .ok (.iaload, 1) := by decide +kernel
theorem dX8_image_55 : decode cX8_image 55 = .ok (.iastore, 1) := by decide +kernel
theorem dX8_image_56 : decode cX8_image 56 = .ok (.iinc 1 1, 3) := by decide +kernel
theorem dX8_image_59 : decode cX8_image 59 = .ok (.goto (-21), 3) := by decide +kernel
theorem dX8_image_62 : decode cX8_image 62 = .ok (.iconst 0, 1) := by decide +kernel
theorem dX8_image_63 : decode cX8_image 63 = .ok (.istore_n 1, 1) := by decide +kernel
theorem dX8_image_64 : decode cX8_image 64 = .ok (.iload_n 1, 1) := by decide +kernel
theorem dX8_image_65 : decode cX8_image 65 = .ok (.bipush 24, 2) := by decide +kernel
theorem dX8_image_67 : decode cX8_image 67 = .ok (.if_icmp .ge 21, 3) := by decide +kernel
theorem dX8_image_70 : decode cX8_image 70 = .ok (.aload_n 0, 1) := by decide +kernel
theorem dX8_image_71 : decode cX8_image 71 = .ok (.getfield 64, 3) := by decide +kernel
theorem dX8_image_74 : decode cX8_image 74 = .ok (.iload_n 1, 1) := by decide +kernel
theorem dX8_image_75 : decode cX8_image 75 = .ok (.aload_n 0, 1) := by decide +kernel
theorem dX8_image_76 : decode cX8_image 76 = .ok (.getfield 52, 3) := by decide +kernel
theorem dX8_image_79 : decode cX8_image 79 = .ok (.iload_n 1, 1) := by decide +kernel
theorem dX8_image_80 : decode cX8_image 80 = .ok (.iaload, 1) := by decide +kernel
theorem dX8_image_81 : decode cX8_image 81 = .ok (.iastore, 1) := by decide +kernel
theorem dX8_image_82 : decode cX8_image 82 = .ok (.iinc 1 1, 3) := by decide +kernel
theorem dX8_image_85 : decode cX8_image 85 = .ok (.goto (-21), 3) := by decide +kernel
theorem dX8_image_88 : decode cX8_image 88 = .ok (.aload_n 0, 1) := by decide +kernel
theorem dX8_image_89 : decode cX8_image 89 = .ok (.aload_n 0, 1) := by decide +kernel
theorem dX8_image_90 : decode cX8_image 90 = .ok (.getfield 67, 3) := by decide +kernel
theorem dX8_image_93 : decode cX8_image 93 = .ok (.putfield 276, 3) := by decide +kernel
theorem dX8_image_96 : decode cX8_image 96 = .ok (.aload_n 0, 1) := by decide +kernel
theorem dX8_image_97 : decode cX8_image 97 = .ok (.aload_n 0, 1) := by decide +kernel
theorem dX8_image_98 : decode cX8_image 98 = .ok (.getfield 122, 3) := by decide +kernel
theorem dX8_image_101 : decode cX8_image 101 = .ok (.putfield 279, 3) := by decide +kernel
theorem dX8_image_104 : decode cX8_image 104 = .ok (.aload_n 0, 1) := by decide +kernel
theorem dX8_image_105 : decode cX8_image 105 = .ok (.aload_n 0, 1) := by decide +kernel
theorem dX8_image_106 : decode cX8_image 106 = .ok (.getfield 215, 3) := by decide +kernel
theorem dX8_image_109 : decode cX8_image 109 = .ok (.putfield 282, 3) := by decide +kernel
theorem dX8_image_112 : decode cX8_image 112 = .ok (.aload_n 0, 1) := by decide +kernel
theorem dX8_image_113 : decode cX8_image 113 = .ok (.aload_n 0, 1) := by decide +kernel
theorem dX8_image_114 : decode cX8_image 114 = .ok (.getfield 119, 3) := by decide +kernel
theorem dX8_image_117 : decode cX8_image 117 = .ok (.putfield 71, 3) := by decide +kernel
theorem dX8_image_120 : decode cX8_image 120 = .ok (.aload_n 0, 1) := by decide +kernel
theorem dX8_image_121 : decode cX8_image 121 = .ok (.getfield 122, 3) := by decide +kernel
theorem dX8_image_124 : decode cX8_image 124 = .ok (.ireturn, 1) := by decide +kernel
theorem dX8_restore_0 : decode cX8_restore 0 = .ok (.aload_n 0, 1) := by decide +kernel
theorem dX8_restore_1 : decode cX8_restore 1 = .ok (.getfield 71, 3) := by decide +kernel
theorem dX8_restore_4 : decode cX8_restore 4 = .ok (.aload_n 0, 1) := by decide +kernel
theorem dX8_restore_5 : decode cX8_restore 5 = .ok (.getfield 119, 3) := by decide +kernel
theorem dX8_restore_8 : decode cX8_restore 8 = .ok (.if_icmp .eq 6, 3) := by decide +kernel
theorem dX8_restore_11 : decode cX8_restore 11 = .ok (.bipush (-103), 2) := by decide +kernel
theorem dX8_restore_13 : decode cX8_restore 13 = .ok (.ireturn, 1) := by decide +kernel
theorem dX8_restore_14 : decode cX8_restore 14 = .ok (.iconst 0, 1) := by decide +kernel
theorem dX8_restore_15 : decode cX8_restore 15 = .ok (.istore_n 1, 1) := by decide +kernel
theorem dX8_restore_16 : decode cX8_restore 16 = .ok (.iload_n 1, 1) := by decide +kernel
theorem dX8_restore_17 : decode cX8_restore 17 = .ok (.bipush 12, 2) := by decide +kernel
theorem dX8_restore_19 : decode cX8_restore 19 = .ok (.if_icmp .ge 21, 3) := by decide +kernel
theorem dX8_restore_22 : decode cX8_restore 22 = .ok (.aload_n 0, 1) := by decide +kernel
theorem dX8_restore_23 : decode cX8_restore 23 = .ok (.getfield 25, 3) := by decide +kernel
theorem dX8_restore_26 : decode cX8_restore 26 = .ok (.iload_n 1, 1) := by decide +kernel
theorem dX8_restore_27 : decode cX8_restore 27 = .ok (.aload_n 0, 1) := by decide +kernel
theorem dX8_restore_28 : decode cX8_restore 28 = .ok (.getfield 58, 3) := by decide +kernel
theorem dX8_restore_31 : decode cX8_restore 31 = .ok (.iload_n 1, 1) := by decide +kernel
theorem dX8_restore_32 : decode cX8_restore 32 = .ok (.iaload, 1) := by decide +kernel
theorem dX8_restore_33 : decode cX8_restore 33 = .ok (.iastore, 1) := by decide +kernel
theorem dX8_restore_34 : decode cX8_restore 34 = .ok (.iinc 1 1, 3) := by decide +kernel
theorem dX8_restore_37 : decode cX8_restore 37 = .ok (.goto (-21), 3) := by decide +kernel
theorem dX8_restore_40 : decode cX8_restore 40 = .ok (.iconst 0, 1) := by decide +kernel
theorem dX8_restore_41 : decode cX8_restore 41 = .ok (.istore_n 1, 1) := by decide +kernel
theorem dX8_restore_42 : decode cX8_restore 42 = .ok (.iload_n 1, 1) := by decide +kernel
theorem dX8_restore_43 : decode cX8_restore 43 = .ok (.aload_n 0, 1) := by decide +kernel
theorem dX8_restore_44 : decode cX8_restore 44 = .ok (.getfield 279, 3) := by decide +kernel
theorem dX8_restore_47 : decode cX8_restore 47 = .ok (.if_icmp .ge 21, 3) := by decide +kernel
theorem dX8_restore_50 : decode cX8_restore 50 = .ok (.aload_n 0, 1) := by decide +kernel
theorem dX8_restore_51 : decode cX8_restore 51 = .ok (.getfield 28, 3) := by decide +kernel
theorem dX8_restore_54 : decode cX8_restore 54 = .ok (.iload_n 1, 1) := by decide +kernel
theorem dX8_restore_55 : decode cX8_restore 55 = .ok (.aload_n 0, 1) := by decide +kernel
theorem dX8_restore_56 : decode cX8_restore 56 = .ok (.getfield 61, 3) := by decide +kernel
theorem dX8_restore_59 : decode cX8_restore 59 = .ok (.iload_n 1, 1) := by decide +kernel
theorem dX8_restore_60 : decode cX8_restore 60 = .ok (.iaload, 1) := by decide +kernel
theorem dX8_restore_61 : decode cX8_restore 61 = .ok (.iastore, 1) := by decide +kernel
theorem dX8_restore_62 : decode cX8_restore 62 = .ok (.iinc 1 1, 3) := by decide +kernel
theorem dX8_restore_65 : decode cX8_restore 65 = .ok (.goto (-23), 3) := by decide +kernel
theorem dX8_restore_68 : decode cX8_restore 68 = .ok (.iconst 0, 1) := by decide +kernel
theorem dX8_restore_69 : decode cX8_restore 69 = .ok (.istore_n 1, 1) := by decide +kernel
theorem dX8_restore_70 : decode cX8_restore 70 = .ok (.iload_n 1, 1) := by decide +kernel
theorem dX8_restore_71 : decode cX8_restore 71 = .ok (.bipush 24, 2) := by decide +kernel
theorem dX8_restore_73 : decode cX8_restore 73 = .ok (.if_icmp .ge 21, 3) := by decide +kernel
theorem dX8_restore_76 : decode cX8_restore 76 = .ok (.aload_n 0, 1) := by decide +kernel
theorem dX8_restore_77 : decode cX8_restore 77 = .ok (.getfield 52, 3) := by decide +kernel
theorem dX8_restore_80 : decode cX8_restore 80 = .ok (.iload_n 1, 1) := by decide +kernel
theorem dX8_restore_81 : decode cX8_restore 81 = .ok (.aload_n 0, 1) := by decide +kernel
theorem dX8_restore_82 : decode cX8_restore 82 = .ok (.getfield 64, 3) := by decide +kernel
theorem dX8_restore_85 : decode cX8_restore 85 = .ok (.iload_n 1, 1) := by decide +kernel
theorem dX8_restore_86 : decode cX8_restore 86 = .ok (.iaload, 1) := by decide +kernel
theorem dX8_restore_87 : decode cX8_restore 87 = .ok (.iastore, 1) := by decide +kernel
theorem dX8_restore_88 : decode cX8_restore 88 = .ok (.iinc 1 1, 3) := by decide +kernel
theorem dX8_restore_91 : decode cX8_restore 91 = .ok (.goto (-21), 3) := by decide +kernel
theorem dX8_restore_94 : decode cX8_restore 94 = .ok (.aload_n 0, 1) := by decide +kernel
theorem dX8_restore_95 : decode cX8_restore 95 = .ok (.aload_n 0, 1) := by decide +kernel
theorem dX8_restore_96 : decode cX8_restore 96 = .ok (.getfield 276, 3) := by decide +kernel
theorem dX8_restore_99 : decode cX8_restore 99 = .ok (.putfield 67, 3) := by decide +kernel
theorem dX8_restore_102 : decode cX8_restore 102 = .ok (.aload_n 0, 1) := by decide +kernel
theorem dX8_restore_103 : decode cX8_restore 103 = .ok (.aload_n 0, 1) := by decide +kernel
theorem dX8_restore_104 : decode cX8_restore 104 = .ok (.getfield 282, 3) := by decide +kernel
theorem dX8_restore_107 : decode cX8_restore 107 = .ok (.putfield 215, 3) := by decide +kernel
theorem dX8_restore_110 : decode cX8_restore 110 = .ok (.aload_n 0, 1) := by decide +kernel
theorem dX8_restore_111 : decode cX8_restore 111 = .ok (.getfield 122, 3) := by decide +kernel
theorem dX8_restore_114 : decode cX8_restore 114 = .ok (.ireturn, 1) := by decide +kernel
theorem dX8_countOf_0 : decode cX8_countOf 0 = .ok (.iload_n 1, 1) := by decide +kernel
theorem dX8_countOf_1 : decode cX8_countOf 1 = .ok (.tableswitch 78 0 6 #[43, 48, 53, 58, 63, 68, 73], 43) := by decide +kernel
theorem dX8_countOf_44 : decode cX8_countOf 44 = .ok (.aload_n 0, 1) := by decide +kernel
theorem dX8_countOf_45 : decode cX8_countOf 45 = .ok (.getfield 116, 3) := by decide +kernel
theorem dX8_countOf_48 : decode cX8_countOf 48 = .ok (.ireturn, 1) := by decide +kernel
theorem dX8_countOf_49 : decode cX8_countOf 49 = .ok (.aload_n 0, 1) := by decide +kernel
theorem dX8_countOf_50 : decode cX8_countOf 50 = .ok (.invokevirtual 271, 3) := by decide +kernel
theorem dX8_countOf_53 : decode cX8_countOf 53 = .ok (.ireturn, 1) := by decide +kernel
theorem dX8_countOf_54 : decode cX8_countOf 54 = .ok (.aload_n 0, 1) := by decide +kernel
theorem dX8_countOf_55 : decode cX8_countOf 55 = .ok (.getfield 122, 3) := by decide +kernel
theorem dX8_countOf_58 : decode cX8_countOf 58 = .ok (.ireturn, 1) := by decide +kernel
theorem dX8_countOf_59 : decode cX8_countOf 59 = .ok (.aload_n 0, 1) := by decide +kernel
theorem dX8_countOf_60 : decode cX8_countOf 60 = .ok (.getfield 215, 3) := by decide +kernel
theorem dX8_countOf_63 : decode cX8_countOf 63 = .ok (.ireturn, 1) := by decide +kernel
theorem dX8_countOf_64 : decode cX8_countOf 64 = .ok (.aload_n 0, 1) := by decide +kernel
theorem dX8_countOf_65 : decode cX8_countOf 65 = .ok (.getfield 76, 3) := by decide +kernel
theorem dX8_countOf_68 : decode cX8_countOf 68 = .ok (.ireturn, 1) := by decide +kernel
theorem dX8_countOf_69 : decode cX8_countOf 69 = .ok (.aload_n 0, 1) := by decide +kernel
theorem dX8_countOf_70 : decode cX8_countOf 70 = .ok (.getfield 119, 3) := by decide +kernel
theorem dX8_countOf_73 : decode cX8_countOf 73 = .ok (.ireturn, 1) := by decide +kernel
theorem dX8_countOf_74 : decode cX8_countOf 74 = .ok (.aload_n 0, 1) := by decide +kernel
theorem dX8_countOf_75 : decode cX8_countOf 75 = .ok (.getfield 67, 3) := by decide +kernel
theorem dX8_countOf_78 : decode cX8_countOf 78 = .ok (.ireturn, 1) := by decide +kernel
theorem dX8_countOf_79 : decode cX8_countOf 79 = .ok (.bipush (-102), 2) := by decide +kernel
theorem dX8_countOf_81 : decode cX8_countOf 81 = .ok (.ireturn, 1) := by decide +kernel
theorem dX8_count_0 : decode cX8_count 0 = .ok (.aload_n 0, 1) := by decide +kernel
theorem dX8_count_1 : decode cX8_count 1 = .ok (.iload_n 1, 1) := by decide +kernel
theorem dX8_count_2 : decode cX8_count 2 = .ok (.invokevirtual 285, 3) := by decide +kernel
theorem dX8_count_5 : decode cX8_count 5 = .ok (.ireturn, 1) := by decide +kernel
theorem dX8_say_0 : decode cX8_say 0 = .ok (.aload_n 0, 1) := by decide +kernel
theorem dX8_say_1 : decode cX8_say 1 = .ok (.ldc2_w 288, 3) := by decide +kernel
theorem dX8_say_4 : decode cX8_say 4 = .ok (.aload_n 0, 1) := by decide +kernel
theorem dX8_say_5 : decode cX8_say 5 = .ok (.getfield 290, 3) := by decide +kernel
theorem dX8_say_8 : decode cX8_say 8 = .ok (.lmul, 1) := by decide +kernel
theorem dX8_say_9 : decode cX8_say 9 = .ok (.lload_n 1, 1) := by decide +kernel
theorem dX8_say_10 : decode cX8_say 10 = .ok (.ladd, 1) := by decide +kernel
theorem dX8_say_11 : decode cX8_say 11 = .ok (.putfield 290, 3) := by decide +kernel
theorem dX8_say_14 : decode cX8_say 14 = .ok (.return_, 1) := by decide +kernel
theorem dX8_sayCart_0 : decode cX8_sayCart 0 = .ok (.aload_n 0, 1) := by decide +kernel
theorem dX8_sayCart_1 : decode cX8_sayCart 1 = .ok (.aload_n 0, 1) := by decide +kernel
theorem dX8_sayCart_2 : decode cX8_sayCart 2 = .ok (.getfield 28, 3) := by decide +kernel
theorem dX8_sayCart_5 : decode cX8_sayCart 5 = .ok (.iload_n 1, 1) := by decide +kernel
theorem dX8_sayCart_6 : decode cX8_sayCart 6 = .ok (.iaload, 1) := by decide +kernel
theorem dX8_sayCart_7 : decode cX8_sayCart 7 = .ok (.i2l, 1) := by decide +kernel
theorem dX8_sayCart_8 : decode cX8_sayCart 8 = .ok (.invokevirtual 294, 3) := by decide +kernel
theorem dX8_sayCart_11 : decode cX8_sayCart 11 = .ok (.aload_n 0, 1) := by decide +kernel
theorem dX8_sayCart_12 : decode cX8_sayCart 12 = .ok (.aload_n 0, 1) := by decide +kernel
theorem dX8_sayCart_13 : decode cX8_sayCart 13 = .ok (.getfield 31, 3) := by decide +kernel
theorem dX8_sayCart_16 : decode cX8_sayCart 16 = .ok (.iload_n 1, 1) := by decide +kernel
theorem dX8_sayCart_17 : decode cX8_sayCart 17 = .ok (.iaload, 1) := by decide +kernel
theorem dX8_sayCart_18 : decode cX8_sayCart 18 = .ok (.i2l, 1) := by decide +kernel
theorem dX8_sayCart_19 : decode cX8_sayCart 19 = .ok (.invokevirtual 294, 3) := by decide +kernel
theorem dX8_sayCart_22 : decode cX8_sayCart 22 = .ok (.iconst 0, 1) := by decide +kernel
theorem dX8_sayCart_23 : decode cX8_sayCart 23 = .ok (.istore_n 2, 1) := by decide +kernel
theorem dX8_sayCart_24 : decode cX8_sayCart 24 = .ok (.iload_n 2, 1) := by decide +kernel
theorem dX8_sayCart_25 : decode cX8_sayCart 25 = .ok (.iconst 2, 1) := by decide +kernel
theorem dX8_sayCart_26 : decode cX8_sayCart 26 = .ok (.aload_n 0, 1) := by decide +kernel
theorem dX8_sayCart_27 : decode cX8_sayCart 27 = .ok (.getfield 31, 3) := by decide +kernel
theorem dX8_sayCart_30 : decode cX8_sayCart 30 = .ok (.iload_n 1, 1) := by decide +kernel
theorem dX8_sayCart_31 : decode cX8_sayCart 31 = .ok (.iaload, 1) := by decide +kernel
theorem dX8_sayCart_32 : decode cX8_sayCart 32 = .ok (.imul, 1) := by decide +kernel
theorem dX8_sayCart_33 : decode cX8_sayCart 33 = .ok (.if_icmp .ge 25, 3) := by decide +kernel
theorem dX8_sayCart_36 : decode cX8_sayCart 36 = .ok (.aload_n 0, 1) := by decide +kernel
theorem dX8_sayCart_37 : decode cX8_sayCart 37 = .ok (.aload_n 0, 1) := by decide +kernel
theorem dX8_sayCart_38 : decode cX8_sayCart 38 = .ok (.getfield 34, 3) := by decide +kernel
theorem dX8_sayCart_41 : decode cX8_sayCart 41 = .ok (.bipush 10, 2) := by decide +kernel
theorem dX8_sayCart_43 : decode cX8_sayCart 43 = .ok (.iload_n 1, 1) := by decide +kernel
theorem dX8_sayCart_44 : decode cX8_sayCart 44 = .ok (.imul, 1) := by decide +kernel
theorem dX8_sayCart_45 : decode cX8_sayCart 45 = .ok (.iload_n 2, 1) := by decide +kernel
theorem dX8_sayCart_46 : decode cX8_sayCart 46 = .ok (.iadd, 1) := by decide +kernel
theorem dX8_sayCart_47 : decode cX8_sayCart 47 = .ok (.iaload, 1) := by decide +kernel
theorem dX8_sayCart_48 : decode cX8_sayCart 48 = .ok (.i2l, 1) := by decide +kernel
theorem dX8_sayCart_49 : decode cX8_sayCart 49 = .ok (.invokevirtual 294, 3) := by decide +kernel
theorem dX8_sayCart_52 : decode cX8_sayCart 52 = .ok (.iinc 2 1, 3) := by decide +kernel
theorem dX8_sayCart_55 : decode cX8_sayCart 55 = .ok (.goto (-31), 3) := by decide +kernel
theorem dX8_sayCart_58 : decode cX8_sayCart 58 = .ok (.aload_n 0, 1) := by decide +kernel
theorem dX8_sayCart_59 : decode cX8_sayCart 59 = .ok (.aload_n 0, 1) := by decide +kernel
theorem dX8_sayCart_60 : decode cX8_sayCart 60 = .ok (.iload_n 1, 1) := by decide +kernel
theorem dX8_sayCart_61 : decode cX8_sayCart 61 = .ok (.sipush 400, 3) := by decide +kernel
theorem dX8_sayCart_64 : decode cX8_sayCart 64 = .ok (.iconst 0, 1) := by decide +kernel
theorem dX8_sayCart_65 : decode cX8_sayCart 65 = .ok (.invokevirtual 212, 3) := by decide +kernel
theorem dX8_sayCart_68 : decode cX8_sayCart 68 = .ok (.i2l, 1) := by decide +kernel
theorem dX8_sayCart_69 : decode cX8_sayCart 69 = .ok (.invokevirtual 294, 3) := by decide +kernel
theorem dX8_sayCart_72 : decode cX8_sayCart 72 = .ok (.aload_n 0, 1) := by decide +kernel
theorem dX8_sayCart_73 : decode cX8_sayCart 73 = .ok (.invokevirtual 182, 3) := by decide +kernel
theorem dX8_sayCart_76 : decode cX8_sayCart 76 = .ok (.ifCond .ne 50, 3) := by decide +kernel
theorem dX8_sayCart_79 : decode cX8_sayCart 79 = .ok (.aload_n 0, 1) := by decide +kernel
theorem dX8_sayCart_80 : decode cX8_sayCart 80 = .ok (.iload_n 1, 1) := by decide +kernel
theorem dX8_sayCart_81 : decode cX8_sayCart 81 = .ok (.invokevirtual 191, 3) := by decide +kernel
theorem dX8_sayCart_84 : decode cX8_sayCart 84 = .ok (.aload_n 0, 1) := by decide +kernel
theorem dX8_sayCart_85 : decode cX8_sayCart 85 = .ok (.bipush 100, 2) := by decide +kernel
theorem dX8_sayCart_87 : decode cX8_sayCart 87 = .ok (.invokevirtual 195, 3) := by decide +kernel
theorem dX8_sayCart_90 : decode cX8_sayCart 90 = .ok (.aload_n 0, 1) := by decide +kernel
theorem dX8_sayCart_91 : decode cX8_sayCart 91 = .ok (.aload_n 0, 1) := by decide +kernel
theorem dX8_sayCart_92 : decode cX8_sayCart 92 = .ok (.getfield 165, 3) := by decide +kernel
theorem dX8_sayCart_95 : decode cX8_sayCart 95 = .ok (.i2l, 1) := by decide +kernel
theorem dX8_sayCart_96 : decode cX8_sayCart 96 = .ok (.invokevirtual 294, 3) := by decide +kernel
theorem dX8_sayCart_99 : decode cX8_sayCart 99 = .ok (.aload_n 0, 1) := by decide +kernel
theorem dX8_sayCart_100 : decode cX8_sayCart 100 = .ok (.aload_n 0, 1) := by decide +kernel
theorem dX8_sayCart_101 : decode cX8_sayCart 101 = .ok (.getfield 168, 3) := by decide +kernel
theorem dX8_sayCart_104 : decode cX8_sayCart 104 = .ok (.i2l, 1) := by decide +kernel
theorem dX8_sayCart_105 : decode cX8_sayCart 105 = .ok (.invokevirtual 294, 3) := by decide +kernel
theorem dX8_sayCart_108 : decode cX8_sayCart 108 = .ok (.aload_n 0, 1) := by decide +kernel
theorem dX8_sayCart_109 : decode cX8_sayCart 109 = .ok (.aload_n 0, 1) := by decide +kernel
theorem dX8_sayCart_110 : decode cX8_sayCart 110 = .ok (.getfield 162, 3) := by decide +kernel
theorem dX8_sayCart_113 : decode cX8_sayCart 113 = .ok (.i2l, 1) := by decide +kernel
theorem dX8_sayCart_114 : decode cX8_sayCart 114 = .ok (.invokevirtual 294, 3) := by decide +kernel
theorem dX8_sayCart_117 : decode cX8_sayCart 117 = .ok (.aload_n 0, 1) := by decide +kernel
theorem dX8_sayCart_118 : decode cX8_sayCart 118 = .ok (.aload_n 0, 1) := by decide +kernel
theorem dX8_sayCart_119 : decode cX8_sayCart 119 = .ok (.getfield 152, 3) := by decide +kernel
theorem dX8_sayCart_122 : decode cX8_sayCart 122 = .ok (.i2l, 1) := by decide +kernel
theorem dX8_sayCart_123 : decode cX8_sayCart 123 = .ok (.invokevirtual 294, 3) := by decide +kernel
theorem dX8_sayCart_126 : decode cX8_sayCart 126 = .ok (.return_, 1) := by decide +kernel
theorem dX8_digest_0 : decode cX8_digest 0 = .ok (.aload_n 0, 1) := by decide +kernel
theorem dX8_digest_1 : decode cX8_digest 1 = .ok (.ldc2_w 298, 3) := by decide +kernel
theorem dX8_digest_4 : decode cX8_digest 4 = .ok (.putfield 290, 3) := by decide +kernel
theorem dX8_digest_7 : decode cX8_digest 7 = .ok (.iconst 0, 1) := by decide +kernel
theorem dX8_digest_8 : decode cX8_digest 8 = .ok (.istore_n 1, 1) := by decide +kernel
theorem dX8_digest_9 : decode cX8_digest 9 = .ok (.iload_n 1, 1) := by decide +kernel
theorem dX8_digest_10 : decode cX8_digest 10 = .ok (.aload_n 0, 1) := by decide +kernel
theorem dX8_digest_11 : decode cX8_digest 11 = .ok (.getfield 116, 3) := by decide +kernel
theorem dX8_digest_14 : decode cX8_digest 14 = .ok (.if_icmp .ge 33, 3) := by decide +kernel
theorem dX8_digest_17 : decode cX8_digest 17 = .ok (.iconst 0, 1) := by decide +kernel
theorem dX8_digest_18 : decode cX8_digest 18 = .ok (.istore_n 2, 1) := by decide +kernel
theorem dX8_digest_19 : decode cX8_digest 19 = .ok (.iload_n 2, 1) := by decide +kernel
theorem dX8_digest_20 : decode cX8_digest 20 = .ok (.iconst 4, 1) := by decide +kernel
theorem dX8_digest_21 : decode cX8_digest 21 = .ok (.if_icmp .ge 20, 3) := by decide +kernel
theorem dX8_digest_24 : decode cX8_digest 24 = .ok (.aload_n 0, 1) := by decide +kernel
theorem dX8_digest_25 : decode cX8_digest 25 = .ok (.aload_n 0, 1) := by decide +kernel
theorem dX8_digest_26 : decode cX8_digest 26 = .ok (.iload_n 1, 1) := by decide +kernel
theorem dX8_digest_27 : decode cX8_digest 27 = .ok (.iload_n 2, 1) := by decide +kernel
theorem dX8_digest_28 : decode cX8_digest 28 = .ok (.invokevirtual 128, 3) := by decide +kernel
theorem dX8_digest_31 : decode cX8_digest 31 = .ok (.i2l, 1) := by decide +kernel
theorem dX8_digest_32 : decode cX8_digest 32 = .ok (.invokevirtual 294, 3) := by decide +kernel
theorem dX8_digest_35 : decode cX8_digest 35 = .ok (.iinc 2 1, 3) := by decide +kernel
theorem dX8_digest_38 : decode cX8_digest 38 = .ok (.goto (-19), 3) := by decide +kernel
theorem dX8_digest_41 : decode cX8_digest 41 = .ok (.iinc 1 1, 3) := by decide +kernel
theorem dX8_digest_44 : decode cX8_digest 44 = .ok (.goto (-35), 3) := by decide +kernel
theorem dX8_digest_47 : decode cX8_digest 47 = .ok (.iconst 0, 1) := by decide +kernel
theorem dX8_digest_48 : decode cX8_digest 48 = .ok (.istore_n 1, 1) := by decide +kernel
theorem dX8_digest_49 : decode cX8_digest 49 = .ok (.iload_n 1, 1) := by decide +kernel
theorem dX8_digest_50 : decode cX8_digest 50 = .ok (.aload_n 0, 1) := by decide +kernel
theorem dX8_digest_51 : decode cX8_digest 51 = .ok (.getfield 122, 3) := by decide +kernel
theorem dX8_digest_54 : decode cX8_digest 54 = .ok (.if_icmp .ge 14, 3) := by decide +kernel
theorem dX8_digest_57 : decode cX8_digest 57 = .ok (.aload_n 0, 1) := by decide +kernel
theorem dX8_digest_58 : decode cX8_digest 58 = .ok (.iload_n 1, 1) := by decide +kernel
theorem dX8_digest_59 : decode cX8_digest 59 = .ok (.invokevirtual 300, 3) := by decide +kernel
theorem dX8_digest_62 : decode cX8_digest 62 = .ok (.iinc 1 1, 3) := by decide +kernel
theorem dX8_digest_65 : decode cX8_digest 65 = .ok (.goto (-16), 3) := by decide +kernel
theorem dX8_digest_68 : decode cX8_digest 68 = .ok (.iconst 0, 1) := by decide +kernel
theorem dX8_digest_69 : decode cX8_digest 69 = .ok (.istore_n 1, 1) := by decide +kernel
theorem dX8_digest_70 : decode cX8_digest 70 = .ok (.iload_n 1, 1) := by decide +kernel
theorem dX8_digest_71 : decode cX8_digest 71 = .ok (.iconst 3, 1) := by decide +kernel
theorem dX8_digest_72 : decode cX8_digest 72 = .ok (.aload_n 0, 1) := by decide +kernel
theorem dX8_digest_73 : decode cX8_digest 73 = .ok (.getfield 215, 3) := by decide +kernel
theorem dX8_digest_76 : decode cX8_digest 76 = .ok (.imul, 1) := by decide +kernel
theorem dX8_digest_77 : decode cX8_digest 77 = .ok (.if_icmp .ge 20, 3) := by decide +kernel
theorem dX8_digest_80 : decode cX8_digest 80 = .ok (.aload_n 0, 1) := by decide +kernel
theorem dX8_digest_81 : decode cX8_digest 81 = .ok (.aload_n 0, 1) := by decide +kernel
theorem dX8_digest_82 : decode cX8_digest 82 = .ok (.getfield 52, 3) := by decide +kernel
theorem dX8_digest_85 : decode cX8_digest 85 = .ok (.iload_n 1, 1) := by decide +kernel
theorem dX8_digest_86 : decode cX8_digest 86 = .ok (.iaload, 1) := by decide +kernel
theorem dX8_digest_87 : decode cX8_digest 87 = .ok (.i2l, 1) := by decide +kernel
theorem dX8_digest_88 : decode cX8_digest 88 = .ok (.invokevirtual 294, 3) := by decide +kernel
theorem dX8_digest_91 : decode cX8_digest 91 = .ok (.iinc 1 1, 3) := by decide +kernel
theorem dX8_digest_94 : decode cX8_digest 94 = .ok (.goto (-24), 3) := by decide +kernel
theorem dX8_digest_97 : decode cX8_digest 97 = .ok (.aload_n 0, 1) := by decide +kernel
theorem dX8_digest_98 : decode cX8_digest 98 = .ok (.aload_n 0, 1) := by decide +kernel
theorem dX8_digest_99 : decode cX8_digest 99 = .ok (.invokevirtual 218, 3) := by decide +kernel
theorem dX8_digest_102 : decode cX8_digest 102 = .ok (.i2l, 1) := by decide +kernel
theorem dX8_digest_103 : decode cX8_digest 103 = .ok (.invokevirtual 294, 3) := by decide +kernel
theorem dX8_digest_106 : decode cX8_digest 106 = .ok (.iconst 0, 1) := by decide +kernel
theorem dX8_digest_107 : decode cX8_digest 107 = .ok (.istore_n 1, 1) := by decide +kernel
theorem dX8_digest_108 : decode cX8_digest 108 = .ok (.iload_n 1, 1) := by decide +kernel
theorem dX8_digest_109 : decode cX8_digest 109 = .ok (.aload_n 0, 1) := by decide +kernel
theorem dX8_digest_110 : decode cX8_digest 110 = .ok (.getfield 76, 3) := by decide +kernel
theorem dX8_digest_113 : decode cX8_digest 113 = .ok (.if_icmp .ge 20, 3) := by decide +kernel
theorem dX8_digest_116 : decode cX8_digest 116 = .ok (.aload_n 0, 1) := by decide +kernel
theorem dX8_digest_117 : decode cX8_digest 117 = .ok (.aload_n 0, 1) := by decide +kernel
theorem dX8_digest_118 : decode cX8_digest 118 = .ok (.getfield 7, 3) := by decide +kernel
theorem dX8_digest_121 : decode cX8_digest 121 = .ok (.iload_n 1, 1) := by decide +kernel
theorem dX8_digest_122 : decode cX8_digest 122 = .ok (.iaload, 1) := by decide +kernel
theorem dX8_digest_123 : decode cX8_digest 123 = .ok (.i2l, 1) := by decide +kernel
theorem dX8_digest_124 : decode cX8_digest 124 = .ok (.invokevirtual 294, 3) := by decide +kernel
theorem dX8_digest_127 : decode cX8_digest 127 = .ok (.iinc 1 1, 3) := by decide +kernel
theorem dX8_digest_130 : decode cX8_digest 130 = .ok (.goto (-22), 3) := by decide +kernel
theorem dX8_digest_133 : decode cX8_digest 133 = .ok (.iconst 0, 1) := by decide +kernel
theorem dX8_digest_134 : decode cX8_digest 134 = .ok (.istore_n 1, 1) := by decide +kernel
theorem dX8_digest_135 : decode cX8_digest 135 = .ok (.iload_n 1, 1) := by decide +kernel
theorem dX8_digest_136 : decode cX8_digest 136 = .ok (.bipush 7, 2) := by decide +kernel
theorem dX8_digest_138 : decode cX8_digest 138 = .ok (.if_icmp .ge 19, 3) := by decide +kernel
theorem dX8_digest_141 : decode cX8_digest 141 = .ok (.aload_n 0, 1) := by decide +kernel
theorem dX8_digest_142 : decode cX8_digest 142 = .ok (.aload_n 0, 1) := by decide +kernel
theorem dX8_digest_143 : decode cX8_digest 143 = .ok (.iload_n 1, 1) := by decide +kernel
theorem dX8_digest_144 : decode cX8_digest 144 = .ok (.invokevirtual 285, 3) := by decide +kernel
theorem dX8_digest_147 : decode cX8_digest 147 = .ok (.i2l, 1) := by decide +kernel
theorem dX8_digest_148 : decode cX8_digest 148 = .ok (.invokevirtual 294, 3) := by decide +kernel
theorem dX8_digest_151 : decode cX8_digest 151 = .ok (.iinc 1 1, 3) := by decide +kernel
theorem dX8_digest_154 : decode cX8_digest 154 = .ok (.goto (-19), 3) := by decide +kernel
theorem dX8_digest_157 : decode cX8_digest 157 = .ok (.aload_n 0, 1) := by decide +kernel
theorem dX8_digest_158 : decode cX8_digest 158 = .ok (.getfield 290, 3) := by decide +kernel
theorem dX8_digest_161 : decode cX8_digest 161 = .ok (.lreturn, 1) := by decide +kernel
theorem dJ6_bitCount_0f7a4_0 : decode cJ6_bitCount_0f7a4 0 = .ok (.iload_n 0, 1) := by decide +kernel
theorem dJ6_bitCount_0f7a4_1 : decode cJ6_bitCount_0f7a4 1 = .ok (.iload_n 0, 1) := by decide +kernel
theorem dJ6_bitCount_0f7a4_2 : decode cJ6_bitCount_0f7a4 2 = .ok (.iconst 1, 1) := by decide +kernel
theorem dJ6_bitCount_0f7a4_3 : decode cJ6_bitCount_0f7a4 3 = .ok (.iushr, 1) := by decide +kernel
theorem dJ6_bitCount_0f7a4_4 : decode cJ6_bitCount_0f7a4 4 = .ok (.ldc_w 265, 3) := by decide +kernel
theorem dJ6_bitCount_0f7a4_7 : decode cJ6_bitCount_0f7a4 7 = .ok (.iand, 1) := by decide +kernel
theorem dJ6_bitCount_0f7a4_8 : decode cJ6_bitCount_0f7a4 8 = .ok (.isub, 1) := by decide +kernel
theorem dJ6_bitCount_0f7a4_9 : decode cJ6_bitCount_0f7a4 9 = .ok (.istore_n 0, 1) := by decide +kernel
theorem dJ6_bitCount_0f7a4_10 : decode cJ6_bitCount_0f7a4 10 = .ok (.iload_n 0, 1) := by decide +kernel
theorem dJ6_bitCount_0f7a4_11 : decode cJ6_bitCount_0f7a4 11 = .ok (.ldc_w 266, 3) := by decide +kernel
theorem dJ6_bitCount_0f7a4_14 : decode cJ6_bitCount_0f7a4 14 = .ok (.iand, 1) := by decide +kernel
theorem dJ6_bitCount_0f7a4_15 : decode cJ6_bitCount_0f7a4 15 = .ok (.iload_n 0, 1) := by decide +kernel
theorem dJ6_bitCount_0f7a4_16 : decode cJ6_bitCount_0f7a4 16 = .ok (.iconst 2, 1) := by decide +kernel
theorem dJ6_bitCount_0f7a4_17 : decode cJ6_bitCount_0f7a4 17 = .ok (.iushr, 1) := by decide +kernel
theorem dJ6_bitCount_0f7a4_18 : decode cJ6_bitCount_0f7a4 18 = .ok (.ldc_w 266, 3) := by decide +kernel
theorem dJ6_bitCount_0f7a4_21 : decode cJ6_bitCount_0f7a4 21 = .ok (.iand, 1) := by decide +kernel
theorem dJ6_bitCount_0f7a4_22 : decode cJ6_bitCount_0f7a4 22 = .ok (.iadd, 1) := by decide +kernel
theorem dJ6_bitCount_0f7a4_23 : decode cJ6_bitCount_0f7a4 23 = .ok (.istore_n 0, 1) := by decide +kernel
theorem dJ6_bitCount_0f7a4_24 : decode cJ6_bitCount_0f7a4 24 = .ok (.iload_n 0, 1) := by decide +kernel
theorem dJ6_bitCount_0f7a4_25 : decode cJ6_bitCount_0f7a4 25 = .ok (.iload_n 0, 1) := by decide +kernel
theorem dJ6_bitCount_0f7a4_26 : decode cJ6_bitCount_0f7a4 26 = .ok (.iconst 4, 1) := by decide +kernel
theorem dJ6_bitCount_0f7a4_27 : decode cJ6_bitCount_0f7a4 27 = .ok (.iushr, 1) := by decide +kernel
theorem dJ6_bitCount_0f7a4_28 : decode cJ6_bitCount_0f7a4 28 = .ok (.iadd, 1) := by decide +kernel
theorem dJ6_bitCount_0f7a4_29 : decode cJ6_bitCount_0f7a4 29 = .ok (.ldc_w 267, 3) := by decide +kernel
theorem dJ6_bitCount_0f7a4_32 : decode cJ6_bitCount_0f7a4 32 = .ok (.iand, 1) := by decide +kernel
theorem dJ6_bitCount_0f7a4_33 : decode cJ6_bitCount_0f7a4 33 = .ok (.istore_n 0, 1) := by decide +kernel
theorem dJ6_bitCount_0f7a4_34 : decode cJ6_bitCount_0f7a4 34 = .ok (.iload_n 0, 1) := by decide +kernel
theorem dJ6_bitCount_0f7a4_35 : decode cJ6_bitCount_0f7a4 35 = .ok (.iload_n 0, 1) := by decide +kernel
theorem dJ6_bitCount_0f7a4_36 : decode cJ6_bitCount_0f7a4 36 = .ok (.bipush 8, 2) := by decide +kernel
theorem dJ6_bitCount_0f7a4_38 : decode cJ6_bitCount_0f7a4 38 = .ok (.iushr, 1) := by decide +kernel
theorem dJ6_bitCount_0f7a4_39 : decode cJ6_bitCount_0f7a4 39 = .ok (.iadd, 1) := by decide +kernel
theorem dJ6_bitCount_0f7a4_40 : decode cJ6_bitCount_0f7a4 40 = .ok (.istore_n 0, 1) := by decide +kernel
theorem dJ6_bitCount_0f7a4_41 : decode cJ6_bitCount_0f7a4 41 = .ok (.iload_n 0, 1) := by decide +kernel
theorem dJ6_bitCount_0f7a4_42 : decode cJ6_bitCount_0f7a4 42 = .ok (.iload_n 0, 1) := by decide +kernel
theorem dJ6_bitCount_0f7a4_43 : decode cJ6_bitCount_0f7a4 43 = .ok (.bipush 16, 2) := by decide +kernel
theorem dJ6_bitCount_0f7a4_45 : decode cJ6_bitCount_0f7a4 45 = .ok (.iushr, 1) := by decide +kernel
theorem dJ6_bitCount_0f7a4_46 : decode cJ6_bitCount_0f7a4 46 = .ok (.iadd, 1) := by decide +kernel
theorem dJ6_bitCount_0f7a4_47 : decode cJ6_bitCount_0f7a4 47 = .ok (.istore_n 0, 1) := by decide +kernel
theorem dJ6_bitCount_0f7a4_48 : decode cJ6_bitCount_0f7a4 48 = .ok (.iload_n 0, 1) := by decide +kernel
theorem dJ6_bitCount_0f7a4_49 : decode cJ6_bitCount_0f7a4 49 = .ok (.bipush 63, 2) := by decide +kernel
theorem dJ6_bitCount_0f7a4_51 : decode cJ6_bitCount_0f7a4 51 = .ok (.iand, 1) := by decide +kernel
theorem dJ6_bitCount_0f7a4_52 : decode cJ6_bitCount_0f7a4 52 = .ok (.ireturn, 1) := by decide +kernel
theorem dJ9_abs_0f7a4_0 : decode cJ9_abs_0f7a4 0 = .ok (.iload_n 0, 1) := by decide +kernel
theorem dJ9_abs_0f7a4_1 : decode cJ9_abs_0f7a4 1 = .ok (.ifCond .ge 8, 3) := by decide +kernel
theorem dJ9_abs_0f7a4_4 : decode cJ9_abs_0f7a4 4 = .ok (.iload_n 0, 1) := by decide +kernel
theorem dJ9_abs_0f7a4_5 : decode cJ9_abs_0f7a4 5 = .ok (.ineg, 1) := by decide +kernel
theorem dJ9_abs_0f7a4_6 : decode cJ9_abs_0f7a4 6 = .ok (.goto 4, 3) := by decide +kernel
theorem dJ9_abs_0f7a4_9 : decode cJ9_abs_0f7a4 9 = .ok (.iload_n 0, 1) := by decide +kernel
theorem dJ9_abs_0f7a4_10 : decode cJ9_abs_0f7a4 10 = .ok (.ireturn, 1) := by decide +kernel
theorem dJ9_max_7cf53_0 : decode cJ9_max_7cf53 0 = .ok (.iload_n 0, 1) := by decide +kernel
theorem dJ9_max_7cf53_1 : decode cJ9_max_7cf53 1 = .ok (.iload_n 1, 1) := by decide +kernel
theorem dJ9_max_7cf53_2 : decode cJ9_max_7cf53 2 = .ok (.if_icmp .lt 7, 3) := by decide +kernel
theorem dJ9_max_7cf53_5 : decode cJ9_max_7cf53 5 = .ok (.iload_n 0, 1) := by decide +kernel
theorem dJ9_max_7cf53_6 : decode cJ9_max_7cf53 6 = .ok (.goto 4, 3) := by decide +kernel
theorem dJ9_max_7cf53_9 : decode cJ9_max_7cf53 9 = .ok (.iload_n 1, 1) := by decide +kernel
theorem dJ9_max_7cf53_10 : decode cJ9_max_7cf53 10 = .ok (.ireturn, 1) := by decide +kernel
theorem dJ9_min_7cf53_0 : decode cJ9_min_7cf53 0 = .ok (.iload_n 0, 1) := by decide +kernel
theorem dJ9_min_7cf53_1 : decode cJ9_min_7cf53 1 = .ok (.iload_n 1, 1) := by decide +kernel
theorem dJ9_min_7cf53_2 : decode cJ9_min_7cf53 2 = .ok (.if_icmp .gt 7, 3) := by decide +kernel
theorem dJ9_min_7cf53_5 : decode cJ9_min_7cf53 5 = .ok (.iload_n 0, 1) := by decide +kernel
theorem dJ9_min_7cf53_6 : decode cJ9_min_7cf53 6 = .ok (.goto 4, 3) := by decide +kernel
theorem dJ9_min_7cf53_9 : decode cJ9_min_7cf53 9 = .ok (.iload_n 1, 1) := by decide +kernel
theorem dJ9_min_7cf53_10 : decode cJ9_min_7cf53 10 = .ok (.ireturn, 1) := by decide +kernel
theorem dJ0_length_8abf5_0 : decode cJ0_length_8abf5 0 = .ok (.aload_n 0, 1) := by decide +kernel
theorem dJ0_length_8abf5_1 : decode cJ0_length_8abf5 1 = .ok (.getfield 9, 3) := by decide +kernel
theorem dJ0_length_8abf5_4 : decode cJ0_length_8abf5 4 = .ok (.arraylength, 1) := by decide +kernel
theorem dJ0_length_8abf5_5 : decode cJ0_length_8abf5 5 = .ok (.aload_n 0, 1) := by decide +kernel
theorem dJ0_length_8abf5_6 : decode cJ0_length_8abf5 6 = .ok (.invokevirtual 335, 3) := by decide +kernel
theorem dJ0_length_8abf5_9 : decode cJ0_length_8abf5 9 = .ok (.ishr, 1) := by decide +kernel
theorem dJ0_length_8abf5_10 : decode cJ0_length_8abf5 10 = .ok (.ireturn, 1) := by decide +kernel
theorem dJ0_indexOf_0f7a4_0 : decode cJ0_indexOf_0f7a4 0 = .ok (.aload_n 0, 1) := by decide +kernel
theorem dJ0_indexOf_0f7a4_1 : decode cJ0_indexOf_0f7a4 1 = .ok (.iload_n 1, 1) := by decide +kernel
theorem dJ0_indexOf_0f7a4_2 : decode cJ0_indexOf_0f7a4 2 = .ok (.iconst 0, 1) := by decide +kernel
theorem dJ0_indexOf_0f7a4_3 : decode cJ0_indexOf_0f7a4 3 = .ok (.invokevirtual 633, 3) := by decide +kernel
theorem dJ0_indexOf_0f7a4_6 : decode cJ0_indexOf_0f7a4 6 = .ok (.ireturn, 1) := by decide +kernel
theorem dJ0_indexOf_7cf53_0 : decode cJ0_indexOf_7cf53 0 = .ok (.aload_n 0, 1) := by decide +kernel
theorem dJ0_indexOf_7cf53_1 : decode cJ0_indexOf_7cf53 1 = .ok (.invokevirtual 492, 3) := by decide +kernel
theorem dJ0_indexOf_7cf53_4 : decode cJ0_indexOf_7cf53 4 = .ok (.ifCond .eq 19, 3) := by decide +kernel
theorem dJ0_indexOf_7cf53_7 : decode cJ0_indexOf_7cf53 7 = .ok (.aload_n 0, 1) := by decide +kernel
theorem dJ0_indexOf_7cf53_8 : decode cJ0_indexOf_7cf53 8 = .ok (.getfield 9, 3) := by decide +kernel
theorem dJ0_indexOf_7cf53_11 : decode cJ0_indexOf_7cf53 11 = .ok (.iload_n 1, 1) := by decide +kernel
theorem dJ0_indexOf_7cf53_12 : decode cJ0_indexOf_7cf53 12 = .ok (.iload_n 2, 1) := by decide +kernel
theorem dJ0_indexOf_7cf53_13 : decode cJ0_indexOf_7cf53 13 = .ok (.aload_n 0, 1) := by decide +kernel
theorem dJ0_indexOf_7cf53_14 : decode cJ0_indexOf_7cf53 14 = .ok (.invokevirtual 505, 3) := by decide +kernel
theorem dJ0_indexOf_7cf53_17 : decode cJ0_indexOf_7cf53 17 = .ok (.invokestatic 637, 3) := by decide +kernel
theorem dJ0_indexOf_7cf53_20 : decode cJ0_indexOf_7cf53 20 = .ok (.goto 16, 3) := by decide +kernel
theorem dJ0_indexOf_7cf53_23 : decode cJ0_indexOf_7cf53 23 = .ok (.aload_n 0, 1) := by decide +kernel
theorem dJ0_indexOf_7cf53_24 : decode cJ0_indexOf_7cf53 24 = .ok (.getfield 9, 3) := by decide +kernel
theorem dJ0_indexOf_7cf53_27 : decode cJ0_indexOf_7cf53 27 = .ok (.iload_n 1, 1) := by decide +kernel
theorem dJ0_indexOf_7cf53_28 : decode cJ0_indexOf_7cf53 28 = .ok (.iload_n 2, 1) := by decide +kernel
theorem dJ0_indexOf_7cf53_29 : decode cJ0_indexOf_7cf53 29 = .ok (.aload_n 0, 1) := by decide +kernel
theorem dJ0_indexOf_7cf53_30 : decode cJ0_indexOf_7cf53 30 = .ok (.invokevirtual 505, 3) := by decide +kernel
theorem dJ0_indexOf_7cf53_33 : decode cJ0_indexOf_7cf53 33 = .ok (.invokestatic 640, 3) := by decide +kernel
theorem dJ0_indexOf_7cf53_36 : decode cJ0_indexOf_7cf53 36 = .ok (.ireturn, 1) := by decide +kernel
theorem dJ0_coder_7d493_0 : decode cJ0_coder_7d493 0 = .ok (.getstatic 38, 3) := by decide +kernel
theorem dJ0_coder_7d493_3 : decode cJ0_coder_7d493 3 = .ok (.ifCond .eq 10, 3) := by decide +kernel
theorem dJ0_coder_7d493_6 : decode cJ0_coder_7d493 6 = .ok (.aload_n 0, 1) := by decide +kernel
theorem dJ0_coder_7d493_7 : decode cJ0_coder_7d493 7 = .ok (.getfield 15, 3) := by decide +kernel
theorem dJ0_coder_7d493_10 : decode cJ0_coder_7d493 10 = .ok (.goto 4, 3) := by decide +kernel
theorem dJ0_coder_7d493_13 : decode cJ0_coder_7d493 13 = .ok (.iconst 1, 1) := by decide +kernel
theorem dJ0_coder_7d493_14 : decode cJ0_coder_7d493 14 = .ok (.ireturn, 1) := by decide +kernel
theorem dJ0_isLatin1_aae02_0 : decode cJ0_isLatin1_aae02 0 = .ok (.getstatic 38, 3) := by decide +kernel
theorem dJ0_isLatin1_aae02_3 : decode cJ0_isLatin1_aae02 3 = .ok (.ifCond .eq 14, 3) := by decide +kernel
theorem dJ0_isLatin1_aae02_6 : decode cJ0_isLatin1_aae02 6 = .ok (.aload_n 0, 1) := by decide +kernel
theorem dJ0_isLatin1_aae02_7 : decode cJ0_isLatin1_aae02 7 = .ok (.getfield 15, 3) := by decide +kernel
theorem dJ0_isLatin1_aae02_10 : decode cJ0_isLatin1_aae02 10 = .ok (.ifCond .ne 7, 3) := by decide +kernel
theorem dJ0_isLatin1_aae02_13 : decode cJ0_isLatin1_aae02 13 = .ok (.iconst 1, 1) := by decide +kernel
theorem dJ0_isLatin1_aae02_14 : decode cJ0_isLatin1_aae02 14 = .ok (.goto 4, 3) := by decide +kernel
theorem dJ0_isLatin1_aae02_17 : decode cJ0_isLatin1_aae02 17 = .ok (.iconst 0, 1) := by decide +kernel
theorem dJ0_isLatin1_aae02_18 : decode cJ0_isLatin1_aae02 18 = .ok (.ireturn, 1) := by decide +kernel
theorem dJ1_canEncode_9a6ad_0 : decode cJ1_canEncode_9a6ad 0 = .ok (.iload_n 0, 1) := by decide +kernel
theorem dJ1_canEncode_9a6ad_1 : decode cJ1_canEncode_9a6ad 1 = .ok (.ifCond .lt 14, 3) := by decide +kernel
theorem dJ1_canEncode_9a6ad_4 : decode cJ1_canEncode_9a6ad 4 = .ok (.iload_n 0, 1) := by decide +kernel
theorem dJ1_canEncode_9a6ad_5 : decode cJ1_canEncode_9a6ad 5 = .ok (.sipush 255, 3) := by decide +kernel
theorem dJ1_canEncode_9a6ad_8 : decode cJ1_canEncode_9a6ad 8 = .ok (.if_icmp .gt 7, 3) := by decide +kernel
theorem dJ1_canEncode_9a6ad_11 : decode cJ1_canEncode_9a6ad 11 = .ok (.iconst 1, 1) := by decide +kernel
theorem dJ1_canEncode_9a6ad_12 : decode cJ1_canEncode_9a6ad 12 = .ok (.goto 4, 3) := by decide +kernel
theorem dJ1_canEncode_9a6ad_15 : decode cJ1_canEncode_9a6ad 15 = .ok (.iconst 0, 1) := by decide +kernel
theorem dJ1_canEncode_9a6ad_16 : decode cJ1_canEncode_9a6ad 16 = .ok (.ireturn, 1) := by decide +kernel
theorem dJ1_indexOf_4cfef_0 : decode cJ1_indexOf_4cfef 0 = .ok (.iload_n 1, 1) := by decide +kernel
theorem dJ1_indexOf_4cfef_1 : decode cJ1_indexOf_4cfef 1 = .ok (.invokestatic 88, 3) := by decide +kernel
theorem dJ1_indexOf_4cfef_4 : decode cJ1_indexOf_4cfef 4 = .ok (.ifCond .ne 5, 3) := by decide +kernel
theorem dJ1_indexOf_4cfef_7 : decode cJ1_indexOf_4cfef 7 = .ok (.iconst (-1), 1) := by decide +kernel
theorem dJ1_indexOf_4cfef_8 : decode cJ1_indexOf_4cfef 8 = .ok (.ireturn, 1) := by decide +kernel
theorem dJ1_indexOf_4cfef_9 : decode cJ1_indexOf_4cfef 9 = .ok (.iload_n 2, 1) := by decide +kernel
theorem dJ1_indexOf_4cfef_10 : decode cJ1_indexOf_4cfef 10 = .ok (.iconst 0, 1) := by decide +kernel
theorem dJ1_indexOf_4cfef_11 : decode cJ1_indexOf_4cfef 11 = .ok (.invokestatic 92, 3) := by decide +kernel
theorem dJ1_indexOf_4cfef_14 : decode cJ1_indexOf_4cfef 14 = .ok (.istore_n 2, 1) := by decide +kernel
theorem dJ1_indexOf_4cfef_15 : decode cJ1_indexOf_4cfef 15 = .ok (.iload_n 3, 1) := by decide +kernel
theorem dJ1_indexOf_4cfef_16 : decode cJ1_indexOf_4cfef 16 = .ok (.aload_n 0, 1) := by decide +kernel
theorem dJ1_indexOf_4cfef_17 : decode cJ1_indexOf_4cfef 17 = .ok (.arraylength, 1) := by decide +kernel
theorem dJ1_indexOf_4cfef_18 : decode cJ1_indexOf_4cfef 18 = .ok (.invokestatic 38, 3) := by decide +kernel
theorem dJ1_indexOf_4cfef_21 : decode cJ1_indexOf_4cfef 21 = .ok (.istore_n 3, 1) := by decide +kernel
theorem dJ1_indexOf_4cfef_22 : decode cJ1_indexOf_4cfef 22 = .ok (.iload_n 2, 1) := by decide +kernel
theorem dJ1_indexOf_4cfef_23 : decode cJ1_indexOf_4cfef 23 = .ok (.iload_n 3, 1) := by decide +kernel
theorem dJ1_indexOf_4cfef_24 : decode cJ1_indexOf_4cfef 24 = .ok (.if_icmp .lt 5, 3) := by decide +kernel
theorem dJ1_indexOf_4cfef_27 : decode cJ1_indexOf_4cfef 27 = .ok (.iconst (-1), 1) := by decide +kernel
theorem dJ1_indexOf_4cfef_28 : decode cJ1_indexOf_4cfef 28 = .ok (.ireturn, 1) := by decide +kernel
theorem dJ1_indexOf_4cfef_29 : decode cJ1_indexOf_4cfef 29 = .ok (.aload_n 0, 1) := by decide +kernel
theorem dJ1_indexOf_4cfef_30 : decode cJ1_indexOf_4cfef 30 = .ok (.iload_n 1, 1) := by decide +kernel
theorem dJ1_indexOf_4cfef_31 : decode cJ1_indexOf_4cfef 31 = .ok (.iload_n 2, 1) := by decide +kernel
theorem dJ1_indexOf_4cfef_32 : decode cJ1_indexOf_4cfef 32 = .ok (.iload_n 3, 1) := by decide +kernel
theorem dJ1_indexOf_4cfef_33 : decode cJ1_indexOf_4cfef 33 = .ok (.invokestatic 95, 3) := by decide +kernel
theorem dJ1_indexOf_4cfef_36 : decode cJ1_indexOf_4cfef 36 = .ok (.ireturn, 1) := by decide +kernel
theorem dJ1_indexOfChar_4cfef_0 : decode cJ1_indexOfChar_4cfef 0 = .ok (.iload_n 1, 1) := by decide +kernel
theorem dJ1_indexOfChar_4cfef_1 : decode cJ1_indexOfChar_4cfef 1 = .ok (.i2b, 1) := by decide +kernel
theorem dJ1_indexOfChar_4cfef_2 : decode cJ1_indexOfChar_4cfef 2 = .ok (.istore 4, 2) := by decide +kernel
theorem dJ1_indexOfChar_4cfef_4 : decode cJ1_indexOfChar_4cfef 4 = .ok (.iload_n 2, 1) := by decide +kernel
theorem dJ1_indexOfChar_4cfef_5 : decode cJ1_indexOfChar_4cfef 5 = .ok (.istore 5, 2) := by decide +kernel
theorem dJ1_indexOfChar_4cfef_7 : decode cJ1_indexOfChar_4cfef 7 = .ok (.iload 5, 2) := by decide +kernel
theorem dJ1_indexOfChar_4cfef_9 : decode cJ1_indexOfChar_4cfef 9 = .ok (.iload_n 3, 1) := by decide +kernel
theorem dJ1_indexOfChar_4cfef_10 : decode cJ1_indexOfChar_4cfef 10 = .ok (.if_icmp .ge 21, 3) := by decide +kernel
theorem dJ1_indexOfChar_4cfef_13 : decode cJ1_indexOfChar_4cfef 13 = .ok (.aload_n 0, 1) := by decide +kernel
theorem dJ1_indexOfChar_4cfef_14 : decode cJ1_indexOfChar_4cfef 14 = .ok (.iload 5, 2) := by decide +kernel
theorem dJ1_indexOfChar_4cfef_16 : decode cJ1_indexOfChar_4cfef 16 = .ok (.baload, 1) := by decide +kernel
theorem dJ1_indexOfChar_4cfef_17 : decode cJ1_indexOfChar_4cfef 17 = .ok (.iload 4, 2) := by decide +kernel
theorem dJ1_indexOfChar_4cfef_19 : decode cJ1_indexOfChar_4cfef 19 = .ok (.if_icmp .ne 6, 3) := by decide +kernel
theorem dJ1_indexOfChar_4cfef_22 : decode cJ1_indexOfChar_4cfef 22 = .ok (.iload 5, 2) := by decide +kernel
theorem dJ1_indexOfChar_4cfef_24 : decode cJ1_indexOfChar_4cfef 24 = .ok (.ireturn, 1) := by decide +kernel
theorem dJ1_indexOfChar_4cfef_25 : decode cJ1_indexOfChar_4cfef 25 = .ok (.iinc 5 1, 3) := by decide +kernel
theorem dJ1_indexOfChar_4cfef_28 : decode cJ1_indexOfChar_4cfef 28 = .ok (.goto (-21), 3) := by decide +kernel
theorem dJ1_indexOfChar_4cfef_31 : decode cJ1_indexOfChar_4cfef 31 = .ok (.iconst (-1), 1) := by decide +kernel
theorem dJ1_indexOfChar_4cfef_32 : decode cJ1_indexOfChar_4cfef 32 = .ok (.ireturn, 1) := by decide +kernel
theorem dJ2_length_9d52b_0 : decode cJ2_length_9d52b 0 = .ok (.aload_n 0, 1) := by decide +kernel
theorem dJ2_length_9d52b_1 : decode cJ2_length_9d52b 1 = .ok (.arraylength, 1) := by decide +kernel
theorem dJ2_length_9d52b_2 : decode cJ2_length_9d52b 2 = .ok (.iconst 1, 1) := by decide +kernel
theorem dJ2_length_9d52b_3 : decode cJ2_length_9d52b 3 = .ok (.ishr, 1) := by decide +kernel
theorem dJ2_length_9d52b_4 : decode cJ2_length_9d52b 4 = .ok (.ireturn, 1) := by decide +kernel
theorem dJ2_indexOf_4cfef_0 : decode cJ2_indexOf_4cfef 0 = .ok (.iload_n 2, 1) := by decide +kernel
theorem dJ2_indexOf_4cfef_1 : decode cJ2_indexOf_4cfef 1 = .ok (.iconst 0, 1) := by decide +kernel
theorem dJ2_indexOf_4cfef_2 : decode cJ2_indexOf_4cfef 2 = .ok (.invokestatic 224, 3) := by decide +kernel
theorem dJ2_indexOf_4cfef_5 : decode cJ2_indexOf_4cfef 5 = .ok (.istore_n 2, 1) := by decide +kernel
theorem dJ2_indexOf_4cfef_6 : decode cJ2_indexOf_4cfef 6 = .ok (.iload_n 3, 1) := by decide +kernel
theorem dJ2_indexOf_4cfef_7 : decode cJ2_indexOf_4cfef 7 = .ok (.aload_n 0, 1) := by decide +kernel
theorem dJ2_indexOf_4cfef_8 : decode cJ2_indexOf_4cfef 8 = .ok (.arraylength, 1) := by decide +kernel
theorem dJ2_indexOf_4cfef_9 : decode cJ2_indexOf_4cfef 9 = .ok (.iconst 1, 1) := by decide +kernel
theorem dJ2_indexOf_4cfef_10 : decode cJ2_indexOf_4cfef 10 = .ok (.ishr, 1) := by decide +kernel
theorem dJ2_indexOf_4cfef_11 : decode cJ2_indexOf_4cfef 11 = .ok (.invokestatic 183, 3) := by decide +kernel
theorem dJ2_indexOf_4cfef_14 : decode cJ2_indexOf_4cfef 14 = .ok (.istore_n 3, 1) := by decide +kernel
theorem dJ2_indexOf_4cfef_15 : decode cJ2_indexOf_4cfef 15 = .ok (.iload_n 2, 1) := by decide +kernel
theorem dJ2_indexOf_4cfef_16 : decode cJ2_indexOf_4cfef 16 = .ok (.iload_n 3, 1) := by decide +kernel
theorem dJ2_indexOf_4cfef_17 : decode cJ2_indexOf_4cfef 17 = .ok (.if_icmp .lt 5, 3) := by decide +kernel
theorem dJ2_indexOf_4cfef_20 : decode cJ2_indexOf_4cfef 20 = .ok (.iconst (-1), 1) := by decide +kernel
theorem dJ2_indexOf_4cfef_21 : decode cJ2_indexOf_4cfef 21 = .ok (.ireturn, 1) := by decide +kernel
theorem dJ2_indexOf_4cfef_22 : decode cJ2_indexOf_4cfef 22 = .ok (.iload_n 1, 1) := by decide +kernel
theorem dJ2_indexOf_4cfef_23 : decode cJ2_indexOf_4cfef 23 = .ok (.ldc 227, 2) := by decide +kernel
theorem dJ2_indexOf_4cfef_25 : decode cJ2_indexOf_4cfef 25 = .ok (.if_icmp .ge 11, 3) := by decide +kernel
theorem dJ2_indexOf_4cfef_28 : decode cJ2_indexOf_4cfef 28 = .ok (.aload_n 0, 1) := by decide +kernel
theorem dJ2_indexOf_4cfef_29 : decode cJ2_indexOf_4cfef 29 = .ok (.iload_n 1, 1) := by decide +kernel
theorem dJ2_indexOf_4cfef_30 : decode cJ2_indexOf_4cfef 30 = .ok (.iload_n 2, 1) := by decide +kernel
theorem dJ2_indexOf_4cfef_31 : decode cJ2_indexOf_4cfef 31 = .ok (.iload_n 3, 1) := by decide +kernel
theorem dJ2_indexOf_4cfef_32 : decode cJ2_indexOf_4cfef 32 = .ok (.invokestatic 228, 3) := by decide +kernel
theorem dJ2_indexOf_4cfef_35 : decode cJ2_indexOf_4cfef 35 = .ok (.ireturn, 1) := by decide +kernel
theorem dJ2_indexOf_4cfef_36 : decode cJ2_indexOf_4cfef 36 = .ok (.aload_n 0, 1) := by decide +kernel
theorem dJ2_indexOf_4cfef_37 : decode cJ2_indexOf_4cfef 37 = .ok (.iload_n 1, 1) := by decide +kernel
theorem dJ2_indexOf_4cfef_38 : decode cJ2_indexOf_4cfef 38 = .ok (.iload_n 2, 1) := by decide +kernel
theorem dJ2_indexOf_4cfef_39 : decode cJ2_indexOf_4cfef 39 = .ok (.iload_n 3, 1) := by decide +kernel
theorem dJ2_indexOf_4cfef_40 : decode cJ2_indexOf_4cfef 40 = .ok (.invokestatic 232, 3) := by decide +kernel
theorem dJ2_indexOf_4cfef_43 : decode cJ2_indexOf_4cfef 43 = .ok (.ireturn, 1) := by decide +kernel
theorem dJ2_indexOfChar_4cfef_0 : decode cJ2_indexOfChar_4cfef 0 = .ok (.iload_n 2, 1) := by decide +kernel
theorem dJ2_indexOfChar_4cfef_1 : decode cJ2_indexOfChar_4cfef 1 = .ok (.iload_n 3, 1) := by decide +kernel
theorem dJ2_indexOfChar_4cfef_2 : decode cJ2_indexOfChar_4cfef 2 = .ok (.aload_n 0, 1) := by decide +kernel
theorem dJ2_indexOfChar_4cfef_3 : decode cJ2_indexOfChar_4cfef 3 = .ok (.invokestatic 96, 3) := by decide +kernel
theorem dJ2_indexOfChar_4cfef_6 : decode cJ2_indexOfChar_4cfef 6 = .ok (.aload_n 0, 1) := by decide +kernel
theorem dJ2_indexOfChar_4cfef_7 : decode cJ2_indexOfChar_4cfef 7 = .ok (.iload_n 1, 1) := by decide +kernel
theorem dJ2_indexOfChar_4cfef_8 : decode cJ2_indexOfChar_4cfef 8 = .ok (.iload_n 2, 1) := by decide +kernel
theorem dJ2_indexOfChar_4cfef_9 : decode cJ2_indexOfChar_4cfef 9 = .ok (.iload_n 3, 1) := by decide +kernel
theorem dJ2_indexOfChar_4cfef_10 : decode cJ2_indexOfChar_4cfef 10 = .ok (.invokestatic 244, 3) := by decide +kernel
theorem dJ2_indexOfChar_4cfef_13 : decode cJ2_indexOfChar_4cfef 13 = .ok (.ireturn, 1) := by decide +kernel
theorem dJ7_fill_53178_0 : decode cJ7_fill_53178 0 = .ok (.iconst 0, 1) := by decide +kernel
theorem dJ7_fill_53178_1 : decode cJ7_fill_53178 1 = .ok (.istore_n 2, 1) := by decide +kernel
theorem dJ7_fill_53178_2 : decode cJ7_fill_53178 2 = .ok (.aload_n 0, 1) := by decide +kernel
theorem dJ7_fill_53178_3 : decode cJ7_fill_53178 3 = .ok (.arraylength, 1) := by decide +kernel
theorem dJ7_fill_53178_4 : decode cJ7_fill_53178 4 = .ok (.istore_n 3, 1) := by decide +kernel
theorem dJ7_fill_53178_5 : decode cJ7_fill_53178 5 = .ok (.iload_n 2, 1) := by decide +kernel
theorem dJ7_fill_53178_6 : decode cJ7_fill_53178 6 = .ok (.iload_n 3, 1) := by decide +kernel
theorem dJ7_fill_53178_7 : decode cJ7_fill_53178 7 = .ok (.if_icmp .ge 13, 3) := by decide +kernel
theorem dJ7_fill_53178_10 : decode cJ7_fill_53178 10 = .ok (.aload_n 0, 1) := by decide +kernel
theorem dJ7_fill_53178_11 : decode cJ7_fill_53178 11 = .ok (.iload_n 2, 1) := by decide +kernel
theorem dJ7_fill_53178_12 : decode cJ7_fill_53178 12 = .ok (.iload_n 1, 1) := by decide +kernel
theorem dJ7_fill_53178_13 : decode cJ7_fill_53178 13 = .ok (.iastore, 1) := by decide +kernel
theorem dJ7_fill_53178_14 : decode cJ7_fill_53178 14 = .ok (.iinc 2 1, 3) := by decide +kernel
theorem dJ7_fill_53178_17 : decode cJ7_fill_53178 17 = .ok (.goto (-12), 3) := by decide +kernel
theorem dJ7_fill_53178_20 : decode cJ7_fill_53178 20 = .ok (.return_, 1) := by decide +kernel
theorem dL_law_0 : decode cL_law 0 = .ok (.new 7, 3) := by decide +kernel
theorem dL_law_3 : decode cL_law 3 = .ok (.dup, 1) := by decide +kernel
theorem dL_law_4 : decode cL_law 4 = .ok (.invokespecial 9, 3) := by decide +kernel
theorem dL_law_7 : decode cL_law 7 = .ok (.astore_n 1, 1) := by decide +kernel
theorem dL_law_8 : decode cL_law 8 = .ok (.new 10, 3) := by decide +kernel
theorem dL_law_11 : decode cL_law 11 = .ok (.dup, 1) := by decide +kernel
theorem dL_law_12 : decode cL_law 12 = .ok (.invokespecial 12, 3) := by decide +kernel
theorem dL_law_15 : decode cL_law 15 = .ok (.astore_n 2, 1) := by decide +kernel
theorem dL_law_16 : decode cL_law 16 = .ok (.iconst 0, 1) := by decide +kernel
theorem dL_law_17 : decode cL_law 17 = .ok (.istore_n 3, 1) := by decide +kernel
theorem dL_law_18 : decode cL_law 18 = .ok (.iload_n 3, 1) := by decide +kernel
theorem dL_law_19 : decode cL_law 19 = .ok (.aload_n 0, 1) := by decide +kernel
theorem dL_law_20 : decode cL_law 20 = .ok (.arraylength, 1) := by decide +kernel
theorem dL_law_21 : decode cL_law 21 = .ok (.bipush 9, 2) := by decide +kernel
theorem dL_law_23 : decode cL_law 23 = .ok (.isub, 1) := by decide +kernel
theorem dL_law_24 : decode cL_law 24 = .ok (.if_icmp .gt 1354, 3) := by decide +kernel
theorem dL_law_27 : decode cL_law 27 = .ok (.aload_n 0, 1) := by decide +kernel
theorem dL_law_28 : decode cL_law 28 = .ok (.iload_n 3, 1) := by decide +kernel
theorem dL_law_29 : decode cL_law 29 = .ok (.iaload, 1) := by decide +kernel
theorem dL_law_30 : decode cL_law 30 = .ok (.bipush 31, 2) := by decide +kernel
theorem dL_law_32 : decode cL_law 32 = .ok (.iand, 1) := by decide +kernel
theorem dL_law_33 : decode cL_law 33 = .ok (.tableswitch 1339 0 31 #[143, 196, 209, 232, 245, 258, 291, 324, 367, 410, 443, 466, 499, 542, 585, 628, 671, 714, 767, 810, 843, 876, 919, 932, 985, 1084, 1159, 1223, 1276, 1289, 1302, 1325], 143) := by decide +kernel
theorem dL_law_176 : decode cL_law 176 = .ok (.aload_n 1, 1) := by decide +kernel
theorem dL_law_177 : decode cL_law 177 = .ok (.aload_n 0, 1) := by decide +kernel
theorem dL_law_178 : decode cL_law 178 = .ok (.iload_n 3, 1) := by decide +kernel
theorem dL_law_179 : decode cL_law 179 = .ok (.iconst 1, 1) := by decide +kernel
theorem dL_law_180 : decode cL_law 180 = .ok (.iadd, 1) := by decide +kernel
theorem dL_law_181 : decode cL_law 181 = .ok (.iaload, 1) := by decide +kernel
theorem dL_law_182 : decode cL_law 182 = .ok (.i2l, 1) := by decide +kernel
theorem dL_law_183 : decode cL_law 183 = .ok (.bipush 32, 2) := by decide +kernel
theorem dL_law_185 : decode cL_law 185 = .ok (.lshl, 1) := by decide +kernel
theorem dL_law_186 : decode cL_law 186 = .ok (.aload_n 0, 1) := by decide +kernel
theorem dL_law_187 : decode cL_law 187 = .ok (.iload_n 3, 1) := by decide +kernel
theorem dL_law_188 : decode cL_law 188 = .ok (.iconst 2, 1) := by decide +kernel
theorem dL_law_189 : decode cL_law 189 = .ok (.iadd, 1) := by decide +kernel
theorem dL_law_190 : decode cL_law 190 = .ok (.iaload, 1) := by decide +kernel
theorem dL_law_191 : decode cL_law 191 = .ok (.i2l, 1) := by decide +kernel
theorem dL_law_192 : decode cL_law 192 = .ok (.ldc2_w 13, 3) := by decide +kernel
theorem dL_law_195 : decode cL_law 195 = .ok (.land, 1) := by decide +kernel
theorem dL_law_196 : decode cL_law 196 = .ok (.lor, 1) := by decide +kernel
theorem dL_law_197 : decode cL_law 197 = .ok (.invokevirtual 15, 3) := by decide +kernel
theorem dL_law_200 : decode cL_law 200 = .ok (.aload_n 2, 1) := by decide +kernel
theorem dL_law_201 : decode cL_law 201 = .ok (.aload_n 0, 1) := by decide +kernel
theorem dL_law_202 : decode cL_law 202 = .ok (.iload_n 3, 1) := by decide +kernel
theorem dL_law_203 : decode cL_law 203 = .ok (.iconst 1, 1) := by decide +kernel
theorem dL_law_204 : decode cL_law 204 = .ok (.iadd, 1) := by decide +kernel
theorem dL_law_205 : decode cL_law 205 = .ok (.iaload, 1) := by decide +kernel
theorem dL_law_206 : decode cL_law 206 = .ok (.i2l, 1) := by decide +kernel
theorem dL_law_207 : decode cL_law 207 = .ok (.bipush 32, 2) := by decide +kernel
theorem dL_law_209 : decode cL_law 209 = .ok (.lshl, 1) := by decide +kernel
theorem dL_law_210 : decode cL_law 210 = .ok (.aload_n 0, 1) := by decide +kernel
theorem dL_law_211 : decode cL_law 211 = .ok (.iload_n 3, 1) := by decide +kernel
theorem dL_law_212 : decode cL_law 212 = .ok (.iconst 2, 1) := by decide +kernel
theorem dL_law_213 : decode cL_law 213 = .ok (.iadd, 1) := by decide +kernel
theorem dL_law_214 : decode cL_law 214 = .ok (.iaload, 1) := by decide +kernel
theorem dL_law_215 : decode cL_law 215 = .ok (.i2l, 1) := by decide +kernel
theorem dL_law_216 : decode cL_law 216 = .ok (.ldc2_w 13, 3) := by decide +kernel
theorem dL_law_219 : decode cL_law 219 = .ok (.land, 1) := by decide +kernel
theorem dL_law_220 : decode cL_law 220 = .ok (.lor, 1) := by decide +kernel
theorem dL_law_221 : decode cL_law 221 = .ok (.invokevirtual 19, 3) := by decide +kernel
theorem dL_law_224 : decode cL_law 224 = .ok (.if_icmp .eq 1148, 3) := by decide +kernel
theorem dL_law_227 : decode cL_law 227 = .ok (.iconst 0, 1) := by decide +kernel
theorem dL_law_228 : decode cL_law 228 = .ok (.ireturn, 1) := by decide +kernel
theorem dL_law_229 : decode cL_law 229 = .ok (.aload_n 1, 1) := by decide +kernel
theorem dL_law_230 : decode cL_law 230 = .ok (.invokevirtual 20, 3) := by decide +kernel
theorem dL_law_233 : decode cL_law 233 = .ok (.aload_n 2, 1) := by decide +kernel
theorem dL_law_234 : decode cL_law 234 = .ok (.invokevirtual 24, 3) := by decide +kernel
theorem dL_law_237 : decode cL_law 237 = .ok (.if_icmp .eq 1135, 3) := by decide +kernel
theorem dL_law_240 : decode cL_law 240 = .ok (.iconst 0, 1) := by decide +kernel
theorem dL_law_241 : decode cL_law 241 = .ok (.ireturn, 1) := by decide +kernel
theorem dL_law_242 : decode cL_law 242 = .ok (.aload_n 1, 1) := by decide +kernel
theorem dL_law_243 : decode cL_law 243 = .ok (.aload_n 0, 1) := by decide +kernel
theorem dL_law_244 : decode cL_law 244 = .ok (.iload_n 3, 1) := by decide +kernel
theorem dL_law_245 : decode cL_law 245 = .ok (.iconst 1, 1) := by decide +kernel
theorem dL_law_246 : decode cL_law 246 = .ok (.iadd, 1) := by decide +kernel
theorem dL_law_247 : decode cL_law 247 = .ok (.iaload, 1) := by decide +kernel
theorem dL_law_248 : decode cL_law 248 = .ok (.invokevirtual 25, 3) := by decide +kernel
theorem dL_law_251 : decode cL_law 251 = .ok (.aload_n 2, 1) := by decide +kernel
theorem dL_law_252 : decode cL_law 252 = .ok (.aload_n 0, 1) := by decide +kernel
theorem dL_law_253 : decode cL_law 253 = .ok (.iload_n 3, 1) := by decide +kernel
theorem dL_law_254 : decode cL_law 254 = .ok (.iconst 1, 1) := by decide +kernel
theorem dL_law_255 : decode cL_law 255 = .ok (.iadd, 1) := by decide +kernel
theorem dL_law_256 : decode cL_law 256 = .ok (.iaload, 1) := by decide +kernel
theorem dL_law_257 : decode cL_law 257 = .ok (.invokevirtual 29, 3) := by decide +kernel
theorem dL_law_260 : decode cL_law 260 = .ok (.if_icmp .eq 1112, 3) := by decide +kernel
theorem dL_law_263 : decode cL_law 263 = .ok (.iconst 0, 1) := by decide +kernel
theorem dL_law_264 : decode cL_law 264 = .ok (.ireturn, 1) := by decide +kernel
theorem dL_law_265 : decode cL_law 265 = .ok (.aload_n 1, 1) := by decide +kernel
theorem dL_law_266 : decode cL_law 266 = .ok (.invokevirtual 30, 3) := by decide +kernel
theorem dL_law_269 : decode cL_law 269 = .ok (.aload_n 2, 1) := by decide +kernel
theorem dL_law_270 : decode cL_law 270 = .ok (.invokevirtual 33, 3) := by decide +kernel
theorem dL_law_273 : decode cL_law 273 = .ok (.if_icmp .eq 1099, 3) := by decide +kernel
theorem dL_law_276 : decode cL_law 276 = .ok (.iconst 0, 1) := by decide +kernel
theorem dL_law_277 : decode cL_law 277 = .ok (.ireturn, 1) := by decide +kernel
theorem dL_law_278 : decode cL_law 278 = .ok (.aload_n 1, 1) := by decide +kernel
theorem dL_law_279 : decode cL_law 279 = .ok (.invokevirtual 34, 3) := by decide +kernel
theorem dL_law_282 : decode cL_law 282 = .ok (.aload_n 2, 1) := by decide +kernel
theorem dL_law_283 : decode cL_law 283 = .ok (.invokevirtual 37, 3) := by decide +kernel
theorem dL_law_286 : decode cL_law 286 = .ok (.if_icmp .eq 1086, 3) := by decide +kernel
theorem dL_law_289 : decode cL_law 289 = .ok (.iconst 0, 1) := by decide +kernel
theorem dL_law_290 : decode cL_law 290 = .ok (.ireturn, 1) := by decide +kernel
theorem dL_law_291 : decode cL_law 291 = .ok (.aload_n 1, 1) := by decide +kernel
theorem dL_law_292 : decode cL_law 292 = .ok (.aload_n 0, 1) := by decide +kernel
theorem dL_law_293 : decode cL_law 293 = .ok (.iload_n 3, 1) := by decide +kernel
theorem dL_law_294 : decode cL_law 294 = .ok (.iconst 1, 1) := by decide +kernel
theorem dL_law_295 : decode cL_law 295 = .ok (.iadd, 1) := by decide +kernel
theorem dL_law_296 : decode cL_law 296 = .ok (.iaload, 1) := by decide +kernel
theorem dL_law_297 : decode cL_law 297 = .ok (.aload_n 0, 1) := by decide +kernel
theorem dL_law_298 : decode cL_law 298 = .ok (.iload_n 3, 1) := by decide +kernel
theorem dL_law_299 : decode cL_law 299 = .ok (.iconst 2, 1) := by decide +kernel
theorem dL_law_300 : decode cL_law 300 = .ok (.iadd, 1) := by decide +kernel
theorem dL_law_301 : decode cL_law 301 = .ok (.iaload, 1) := by decide +kernel
theorem dL_law_302 : decode cL_law 302 = .ok (.invokevirtual 38, 3) := by decide +kernel
theorem dL_law_305 : decode cL_law 305 = .ok (.aload_n 2, 1) := by decide +kernel
theorem dL_law_306 : decode cL_law 306 = .ok (.aload_n 0, 1) := by decide +kernel
theorem dL_law_307 : decode cL_law 307 = .ok (.iload_n 3, 1) := by decide +kernel
theorem dL_law_308 : decode cL_law 308 = .ok (.iconst 1, 1) := by decide +kernel
theorem dL_law_309 : decode cL_law 309 = .ok (.iadd, 1) := by decide +kernel
theorem dL_law_310 : decode cL_law 310 = .ok (.iaload, 1) := by decide +kernel
theorem dL_law_311 : decode cL_law 311 = .ok (.aload_n 0, 1) := by decide +kernel
theorem dL_law_312 : decode cL_law 312 = .ok (.iload_n 3, 1) := by decide +kernel
theorem dL_law_313 : decode cL_law 313 = .ok (.iconst 2, 1) := by decide +kernel
theorem dL_law_314 : decode cL_law 314 = .ok (.iadd, 1) := by decide +kernel
theorem dL_law_315 : decode cL_law 315 = .ok (.iaload, 1) := by decide +kernel
theorem dL_law_316 : decode cL_law 316 = .ok (.invokevirtual 42, 3) := by decide +kernel
theorem dL_law_319 : decode cL_law 319 = .ok (.if_icmp .eq 1053, 3) := by decide +kernel
theorem dL_law_322 : decode cL_law 322 = .ok (.iconst 0, 1) := by decide +kernel
theorem dL_law_323 : decode cL_law 323 = .ok (.ireturn, 1) := by decide +kernel
theorem dL_law_324 : decode cL_law 324 = .ok (.aload_n 1, 1) := by decide +kernel
theorem dL_law_325 : decode cL_law 325 = .ok (.aload_n 0, 1) := by decide +kernel
theorem dL_law_326 : decode cL_law 326 = .ok (.iload_n 3, 1) := by decide +kernel
theorem dL_law_327 : decode cL_law 327 = .ok (.iconst 1, 1) := by decide +kernel
theorem dL_law_328 : decode cL_law 328 = .ok (.iadd, 1) := by decide +kernel
theorem dL_law_329 : decode cL_law 329 = .ok (.iaload, 1) := by decide +kernel
theorem dL_law_330 : decode cL_law 330 = .ok (.aload_n 0, 1) := by decide +kernel
theorem dL_law_331 : decode cL_law 331 = .ok (.iload_n 3, 1) := by decide +kernel
theorem dL_law_332 : decode cL_law 332 = .ok (.iconst 2, 1) := by decide +kernel
theorem dL_law_333 : decode cL_law 333 = .ok (.iadd, 1) := by decide +kernel
theorem dL_law_334 : decode cL_law 334 = .ok (.iaload, 1) := by decide +kernel
theorem dL_law_335 : decode cL_law 335 = .ok (.invokevirtual 43, 3) := by decide +kernel
theorem dL_law_338 : decode cL_law 338 = .ok (.aload_n 2, 1) := by decide +kernel
theorem dL_law_339 : decode cL_law 339 = .ok (.aload_n 0, 1) := by decide +kernel
theorem dL_law_340 : decode cL_law 340 = .ok (.iload_n 3, 1) := by decide +kernel
theorem dL_law_341 : decode cL_law 341 = .ok (.iconst 1, 1) := by decide +kernel
theorem dL_law_342 : decode cL_law 342 = .ok (.iadd, 1) := by decide +kernel
theorem dL_law_343 : decode cL_law 343 = .ok (.iaload, 1) := by decide +kernel
theorem dL_law_344 : decode cL_law 344 = .ok (.aload_n 0, 1) := by decide +kernel
theorem dL_law_345 : decode cL_law 345 = .ok (.iload_n 3, 1) := by decide +kernel
theorem dL_law_346 : decode cL_law 346 = .ok (.iconst 2, 1) := by decide +kernel
theorem dL_law_347 : decode cL_law 347 = .ok (.iadd, 1) := by decide +kernel
theorem dL_law_348 : decode cL_law 348 = .ok (.iaload, 1) := by decide +kernel
theorem dL_law_349 : decode cL_law 349 = .ok (.invokevirtual 46, 3) := by decide +kernel
theorem dL_law_352 : decode cL_law 352 = .ok (.if_icmp .eq 1020, 3) := by decide +kernel
theorem dL_law_355 : decode cL_law 355 = .ok (.iconst 0, 1) := by decide +kernel
theorem dL_law_356 : decode cL_law 356 = .ok (.ireturn, 1) := by decide +kernel
theorem dL_law_357 : decode cL_law 357 = .ok (.aload_n 1, 1) := by decide +kernel
theorem dL_law_358 : decode cL_law 358 = .ok (.aload_n 0, 1) := by decide +kernel
theorem dL_law_359 : decode cL_law 359 = .ok (.iload_n 3, 1) := by decide +kernel
theorem dL_law_360 : decode cL_law 360 = .ok (.iconst 1, 1) := by decide +kernel
theorem dL_law_361 : decode cL_law 361 = .ok (.iadd, 1) := by decide +kernel
theorem dL_law_362 : decode cL_law 362 = .ok (.iaload, 1) := by decide +kernel
theorem dL_law_363 : decode cL_law 363 = .ok (.aload_n 0, 1) := by decide +kernel
theorem dL_law_364 : decode cL_law 364 = .ok (.iload_n 3, 1) := by decide +kernel
theorem dL_law_365 : decode cL_law 365 = .ok (.iconst 2, 1) := by decide +kernel
theorem dL_law_366 : decode cL_law 366 = .ok (.iadd, 1) := by decide +kernel
theorem dL_law_367 : decode cL_law 367 = .ok (.iaload, 1) := by decide +kernel
theorem dL_law_368 : decode cL_law 368 = .ok (.aload_n 0, 1) := by decide +kernel
theorem dL_law_369 : decode cL_law 369 = .ok (.iload_n 3, 1) := by decide +kernel
theorem dL_law_370 : decode cL_law 370 = .ok (.iconst 3, 1) := by decide +kernel
theorem dL_law_371 : decode cL_law 371 = .ok (.iadd, 1) := by decide +kernel
theorem dL_law_372 : decode cL_law 372 = .ok (.iaload, 1) := by decide +kernel
theorem dL_law_373 : decode cL_law 373 = .ok (.invokevirtual 47, 3) := by decide +kernel
theorem dL_law_376 : decode cL_law 376 = .ok (.aload_n 2, 1) := by decide +kernel
theorem dL_law_377 : decode cL_law 377 = .ok (.aload_n 0, 1) := by decide +kernel
theorem dL_law_378 : decode cL_law 378 = .ok (.iload_n 3, 1) := by decide +kernel
theorem dL_law_379 : decode cL_law 379 = .ok (.iconst 1, 1) := by decide +kernel
theorem dL_law_380 : decode cL_law 380 = .ok (.iadd, 1) := by decide +kernel
theorem dL_law_381 : decode cL_law 381 = .ok (.iaload, 1) := by decide +kernel
theorem dL_law_382 : decode cL_law 382 = .ok (.aload_n 0, 1) := by decide +kernel
theorem dL_law_383 : decode cL_law 383 = .ok (.iload_n 3, 1) := by decide +kernel
theorem dL_law_384 : decode cL_law 384 = .ok (.iconst 2, 1) := by decide +kernel
theorem dL_law_385 : decode cL_law 385 = .ok (.iadd, 1) := by decide +kernel
theorem dL_law_386 : decode cL_law 386 = .ok (.iaload, 1) := by decide +kernel
theorem dL_law_387 : decode cL_law 387 = .ok (.aload_n 0, 1) := by decide +kernel
theorem dL_law_388 : decode cL_law 388 = .ok (.iload_n 3, 1) := by decide +kernel
theorem dL_law_389 : decode cL_law 389 = .ok (.iconst 3, 1) := by decide +kernel
theorem dL_law_390 : decode cL_law 390 = .ok (.iadd, 1) := by decide +kernel
theorem dL_law_391 : decode cL_law 391 = .ok (.iaload, 1) := by decide +kernel
theorem dL_law_392 : decode cL_law 392 = .ok (.invokevirtual 51, 3) := by decide +kernel
theorem dL_law_395 : decode cL_law 395 = .ok (.if_icmp .eq 977, 3) := by decide +kernel
theorem dL_law_398 : decode cL_law 398 = .ok (.iconst 0, 1) := by decide +kernel
theorem dL_law_399 : decode cL_law 399 = .ok (.ireturn, 1) := by decide +kernel
theorem dL_law_400 : decode cL_law 400 = .ok (.aload_n 1, 1) := by decide +kernel
theorem dL_law_401 : decode cL_law 401 = .ok (.aload_n 0, 1) := by decide +kernel
theorem dL_law_402 : decode cL_law 402 = .ok (.iload_n 3, 1) := by decide +kernel
theorem dL_law_403 : decode cL_law 403 = .ok (.iconst 1, 1) := by decide +kernel
theorem dL_law_404 : decode cL_law 404 = .ok (.iadd, 1) := by decide +kernel
theorem dL_law_405 : decode cL_law 405 = .ok (.iaload, 1) := by decide +kernel
theorem dL_law_406 : decode cL_law 406 = .ok (.aload_n 0, 1) := by decide +kernel
theorem dL_law_407 : decode cL_law 407 = .ok (.iload_n 3, 1) := by decide +kernel
theorem dL_law_408 : decode cL_law 408 = .ok (.iconst 2, 1) := by decide +kernel
theorem dL_law_409 : decode cL_law 409 = .ok (.iadd, 1) := by decide +kernel
theorem dL_law_410 : decode cL_law 410 = .ok (.iaload, 1) := by decide +kernel
theorem dL_law_411 : decode cL_law 411 = .ok (.aload_n 0, 1) := by decide +kernel
theorem dL_law_412 : decode cL_law 412 = .ok (.iload_n 3, 1) := by decide +kernel
theorem dL_law_413 : decode cL_law 413 = .ok (.iconst 3, 1) := by decide +kernel
theorem dL_law_414 : decode cL_law 414 = .ok (.iadd, 1) := by decide +kernel
theorem dL_law_415 : decode cL_law 415 = .ok (.iaload, 1) := by decide +kernel
theorem dL_law_416 : decode cL_law 416 = .ok (.invokevirtual 52, 3) := by decide +kernel
theorem dL_law_419 : decode cL_law 419 = .ok (.aload_n 2, 1) := by decide +kernel
theorem dL_law_420 : decode cL_law 420 = .ok (.aload_n 0, 1) := by decide +kernel
theorem dL_law_421 : decode cL_law 421 = .ok (.iload_n 3, 1) := by decide +kernel
theorem dL_law_422 : decode cL_law 422 = .ok (.iconst 1, 1) := by decide +kernel
theorem dL_law_423 : decode cL_law 423 = .ok (.iadd, 1) := by decide +kernel
theorem dL_law_424 : decode cL_law 424 = .ok (.iaload, 1) := by decide +kernel
theorem dL_law_425 : decode cL_law 425 = .ok (.aload_n 0, 1) := by decide +kernel
theorem dL_law_426 : decode cL_law 426 = .ok (.iload_n 3, 1) := by decide +kernel
theorem dL_law_427 : decode cL_law 427 = .ok (.iconst 2, 1) := by decide +kernel
theorem dL_law_428 : decode cL_law 428 = .ok (.iadd, 1) := by decide +kernel
theorem dL_law_429 : decode cL_law 429 = .ok (.iaload, 1) := by decide +kernel
theorem dL_law_430 : decode cL_law 430 = .ok (.aload_n 0, 1) := by decide +kernel
theorem dL_law_431 : decode cL_law 431 = .ok (.iload_n 3, 1) := by decide +kernel
theorem dL_law_432 : decode cL_law 432 = .ok (.iconst 3, 1) := by decide +kernel
theorem dL_law_433 : decode cL_law 433 = .ok (.iadd, 1) := by decide +kernel
theorem dL_law_434 : decode cL_law 434 = .ok (.iaload, 1) := by decide +kernel
theorem dL_law_435 : decode cL_law 435 = .ok (.invokevirtual 55, 3) := by decide +kernel
theorem dL_law_438 : decode cL_law 438 = .ok (.if_icmp .eq 934, 3) := by decide +kernel
theorem dL_law_441 : decode cL_law 441 = .ok (.iconst 0, 1) := by decide +kernel
theorem dL_law_442 : decode cL_law 442 = .ok (.ireturn, 1) := by decide +kernel
theorem dL_law_443 : decode cL_law 443 = .ok (.aload_n 1, 1) := by decide +kernel
theorem dL_law_444 : decode cL_law 444 = .ok (.aload_n 0, 1) := by decide +kernel
theorem dL_law_445 : decode cL_law 445 = .ok (.iload_n 3, 1) := by decide +kernel
theorem dL_law_446 : decode cL_law 446 = .ok (.iconst 1, 1) := by decide +kernel
theorem dL_law_447 : decode cL_law 447 = .ok (.iadd, 1) := by decide +kernel
theorem dL_law_448 : decode cL_law 448 = .ok (.iaload, 1) := by decide +kernel
theorem dL_law_449 : decode cL_law 449 = .ok (.aload_n 0, 1) := by decide +kernel
theorem dL_law_450 : decode cL_law 450 = .ok (.iload_n 3, 1) := by decide +kernel
theorem dL_law_451 : decode cL_law 451 = .ok (.iconst 2, 1) := by decide +kernel
theorem dL_law_452 : decode cL_law 452 = .ok (.iadd, 1) := by decide +kernel
theorem dL_law_453 : decode cL_law 453 = .ok (.iaload, 1) := by decide +kernel
theorem dL_law_454 : decode cL_law 454 = .ok (.invokevirtual 56, 3) := by decide +kernel
theorem dL_law_457 : decode cL_law 457 = .ok (.aload_n 2, 1) := by decide +kernel
theorem dL_law_458 : decode cL_law 458 = .ok (.aload_n 0, 1) := by decide +kernel
theorem dL_law_459 : decode cL_law 459 = .ok (.iload_n 3, 1) := by decide +kernel
theorem dL_law_460 : decode cL_law 460 = .ok (.iconst 1, 1) := by decide +kernel
theorem dL_law_461 : decode cL_law 461 = .ok (.iadd, 1) := by decide +kernel
theorem dL_law_462 : decode cL_law 462 = .ok (.iaload, 1) := by decide +kernel
theorem dL_law_463 : decode cL_law 463 = .ok (.aload_n 0, 1) := by decide +kernel
theorem dL_law_464 : decode cL_law 464 = .ok (.iload_n 3, 1) := by decide +kernel
theorem dL_law_465 : decode cL_law 465 = .ok (.iconst 2, 1) := by decide +kernel
theorem dL_law_466 : decode cL_law 466 = .ok (.iadd, 1) := by decide +kernel
theorem dL_law_467 : decode cL_law 467 = .ok (.iaload, 1) := by decide +kernel
theorem dL_law_468 : decode cL_law 468 = .ok (.invokevirtual 59, 3) := by decide +kernel
theorem dL_law_471 : decode cL_law 471 = .ok (.if_icmp .eq 901, 3) := by decide +kernel
theorem dL_law_474 : decode cL_law 474 = .ok (.iconst 0, 1) := by decide +kernel
theorem dL_law_475 : decode cL_law 475 = .ok (.ireturn, 1) := by decide +kernel
theorem dL_law_476 : decode cL_law 476 = .ok (.aload_n 1, 1) := by decide +kernel
theorem dL_law_477 : decode cL_law 477 = .ok (.aload_n 0, 1) := by decide +kernel
theorem dL_law_478 : decode cL_law 478 = .ok (.iload_n 3, 1) := by decide +kernel
theorem dL_law_479 : decode cL_law 479 = .ok (.iconst 1, 1) := by decide +kernel
theorem dL_law_480 : decode cL_law 480 = .ok (.iadd, 1) := by decide +kernel
theorem dL_law_481 : decode cL_law 481 = .ok (.iaload, 1) := by decide +kernel
theorem dL_law_482 : decode cL_law 482 = .ok (.invokevirtual 60, 3) := by decide +kernel
theorem dL_law_485 : decode cL_law 485 = .ok (.aload_n 2, 1) := by decide +kernel
theorem dL_law_486 : decode cL_law 486 = .ok (.aload_n 0, 1) := by decide +kernel
theorem dL_law_487 : decode cL_law 487 = .ok (.iload_n 3, 1) := by decide +kernel
theorem dL_law_488 : decode cL_law 488 = .ok (.iconst 1, 1) := by decide +kernel
theorem dL_law_489 : decode cL_law 489 = .ok (.iadd, 1) := by decide +kernel
theorem dL_law_490 : decode cL_law 490 = .ok (.iaload, 1) := by decide +kernel
theorem dL_law_491 : decode cL_law 491 = .ok (.invokevirtual 63, 3) := by decide +kernel
theorem dL_law_494 : decode cL_law 494 = .ok (.if_icmp .eq 878, 3) := by decide +kernel
theorem dL_law_497 : decode cL_law 497 = .ok (.iconst 0, 1) := by decide +kernel
theorem dL_law_498 : decode cL_law 498 = .ok (.ireturn, 1) := by decide +kernel
theorem dL_law_499 : decode cL_law 499 = .ok (.aload_n 1, 1) := by decide +kernel
theorem dL_law_500 : decode cL_law 500 = .ok (.aload_n 0, 1) := by decide +kernel
theorem dL_law_501 : decode cL_law 501 = .ok (.iload_n 3, 1) := by decide +kernel
theorem dL_law_502 : decode cL_law 502 = .ok (.iconst 1, 1) := by decide +kernel
theorem dL_law_503 : decode cL_law 503 = .ok (.iadd, 1) := by decide +kernel
theorem dL_law_504 : decode cL_law 504 = .ok (.iaload, 1) := by decide +kernel
theorem dL_law_505 : decode cL_law 505 = .ok (.aload_n 0, 1) := by decide +kernel
theorem dL_law_506 : decode cL_law 506 = .ok (.iload_n 3, 1) := by decide +kernel
theorem dL_law_507 : decode cL_law 507 = .ok (.iconst 2, 1) := by decide +kernel
theorem dL_law_508 : decode cL_law 508 = .ok (.iadd, 1) := by decide +kernel
theorem dL_law_509 : decode cL_law 509 = .ok (.iaload, 1) := by decide +kernel
theorem dL_law_510 : decode cL_law 510 = .ok (.invokevirtual 64, 3) := by decide +kernel
theorem dL_law_513 : decode cL_law 513 = .ok (.aload_n 2, 1) := by decide +kernel
theorem dL_law_514 : decode cL_law 514 = .ok (.aload_n 0, 1) := by decide +kernel
theorem dL_law_515 : decode cL_law 515 = .ok (.iload_n 3, 1) := by decide +kernel
theorem dL_law_516 : decode cL_law 516 = .ok (.iconst 1, 1) := by decide +kernel
theorem dL_law_517 : decode cL_law 517 = .ok (.iadd, 1) := by decide +kernel
theorem dL_law_518 : decode cL_law 518 = .ok (.iaload, 1) := by decide +kernel
theorem dL_law_519 : decode cL_law 519 = .ok (.aload_n 0, 1) := by decide +kernel
theorem dL_law_520 : decode cL_law 520 = .ok (.iload_n 3, 1) := by decide +kernel
theorem dL_law_521 : decode cL_law 521 = .ok (.iconst 2, 1) := by decide +kernel
theorem dL_law_522 : decode cL_law 522 = .ok (.iadd, 1) := by decide +kernel
theorem dL_law_523 : decode cL_law 523 = .ok (.iaload, 1) := by decide +kernel
theorem dL_law_524 : decode cL_law 524 = .ok (.invokevirtual 67, 3) := by decide +kernel
theorem dL_law_527 : decode cL_law 527 = .ok (.if_icmp .eq 845, 3) := by decide +kernel
theorem dL_law_530 : decode cL_law 530 = .ok (.iconst 0, 1) := by decide +kernel
theorem dL_law_531 : decode cL_law 531 = .ok (.ireturn, 1) := by decide +kernel
theorem dL_law_532 : decode cL_law 532 = .ok (.aload_n 1, 1) := by decide +kernel
theorem dL_law_533 : decode cL_law 533 = .ok (.aload_n 0, 1) := by decide +kernel
theorem dL_law_534 : decode cL_law 534 = .ok (.iload_n 3, 1) := by decide +kernel
theorem dL_law_535 : decode cL_law 535 = .ok (.iconst 1, 1) := by decide +kernel
theorem dL_law_536 : decode cL_law 536 = .ok (.iadd, 1) := by decide +kernel
theorem dL_law_537 : decode cL_law 537 = .ok (.iaload, 1) := by decide +kernel
theorem dL_law_538 : decode cL_law 538 = .ok (.aload_n 0, 1) := by decide +kernel
theorem dL_law_539 : decode cL_law 539 = .ok (.iload_n 3, 1) := by decide +kernel
theorem dL_law_540 : decode cL_law 540 = .ok (.iconst 2, 1) := by decide +kernel
theorem dL_law_541 : decode cL_law 541 = .ok (.iadd, 1) := by decide +kernel
theorem dL_law_542 : decode cL_law 542 = .ok (.iaload, 1) := by decide +kernel
theorem dL_law_543 : decode cL_law 543 = .ok (.aload_n 0, 1) := by decide +kernel
theorem dL_law_544 : decode cL_law 544 = .ok (.iload_n 3, 1) := by decide +kernel
theorem dL_law_545 : decode cL_law 545 = .ok (.iconst 3, 1) := by decide +kernel
theorem dL_law_546 : decode cL_law 546 = .ok (.iadd, 1) := by decide +kernel
theorem dL_law_547 : decode cL_law 547 = .ok (.iaload, 1) := by decide +kernel
theorem dL_law_548 : decode cL_law 548 = .ok (.invokevirtual 68, 3) := by decide +kernel
theorem dL_law_551 : decode cL_law 551 = .ok (.aload_n 2, 1) := by decide +kernel
theorem dL_law_552 : decode cL_law 552 = .ok (.aload_n 0, 1) := by decide +kernel
theorem dL_law_553 : decode cL_law 553 = .ok (.iload_n 3, 1) := by decide +kernel
theorem dL_law_554 : decode cL_law 554 = .ok (.iconst 1, 1) := by decide +kernel
theorem dL_law_555 : decode cL_law 555 = .ok (.iadd, 1) := by decide +kernel
theorem dL_law_556 : decode cL_law 556 = .ok (.iaload, 1) := by decide +kernel
theorem dL_law_557 : decode cL_law 557 = .ok (.aload_n 0, 1) := by decide +kernel
theorem dL_law_558 : decode cL_law 558 = .ok (.iload_n 3, 1) := by decide +kernel
theorem dL_law_559 : decode cL_law 559 = .ok (.iconst 2, 1) := by decide +kernel
theorem dL_law_560 : decode cL_law 560 = .ok (.iadd, 1) := by decide +kernel
theorem dL_law_561 : decode cL_law 561 = .ok (.iaload, 1) := by decide +kernel
theorem dL_law_562 : decode cL_law 562 = .ok (.aload_n 0, 1) := by decide +kernel
theorem dL_law_563 : decode cL_law 563 = .ok (.iload_n 3, 1) := by decide +kernel
theorem dL_law_564 : decode cL_law 564 = .ok (.iconst 3, 1) := by decide +kernel
theorem dL_law_565 : decode cL_law 565 = .ok (.iadd, 1) := by decide +kernel
theorem dL_law_566 : decode cL_law 566 = .ok (.iaload, 1) := by decide +kernel
theorem dL_law_567 : decode cL_law 567 = .ok (.invokevirtual 71, 3) := by decide +kernel
theorem dL_law_570 : decode cL_law 570 = .ok (.if_icmp .eq 802, 3) := by decide +kernel
theorem dL_law_573 : decode cL_law 573 = .ok (.iconst 0, 1) := by decide +kernel
theorem dL_law_574 : decode cL_law 574 = .ok (.ireturn, 1) := by decide +kernel
theorem dL_law_575 : decode cL_law 575 = .ok (.aload_n 1, 1) := by decide +kernel
theorem dL_law_576 : decode cL_law 576 = .ok (.aload_n 0, 1) := by decide +kernel
theorem dL_law_577 : decode cL_law 577 = .ok (.iload_n 3, 1) := by decide +kernel
theorem dL_law_578 : decode cL_law 578 = .ok (.iconst 1, 1) := by decide +kernel
theorem dL_law_579 : decode cL_law 579 = .ok (.iadd, 1) := by decide +kernel
theorem dL_law_580 : decode cL_law 580 = .ok (.iaload, 1) := by decide +kernel
theorem dL_law_581 : decode cL_law 581 = .ok (.aload_n 0, 1) := by decide +kernel
theorem dL_law_582 : decode cL_law 582 = .ok (.iload_n 3, 1) := by decide +kernel
theorem dL_law_583 : decode cL_law 583 = .ok (.iconst 2, 1) := by decide +kernel
theorem dL_law_584 : decode cL_law 584 = .ok (.iadd, 1) := by decide +kernel
theorem dL_law_585 : decode cL_law 585 = .ok (.iaload, 1) := by decide +kernel
theorem dL_law_586 : decode cL_law 586 = .ok (.aload_n 0, 1) := by decide +kernel
theorem dL_law_587 : decode cL_law 587 = .ok (.iload_n 3, 1) := by decide +kernel
theorem dL_law_588 : decode cL_law 588 = .ok (.iconst 3, 1) := by decide +kernel
theorem dL_law_589 : decode cL_law 589 = .ok (.iadd, 1) := by decide +kernel
theorem dL_law_590 : decode cL_law 590 = .ok (.iaload, 1) := by decide +kernel
theorem dL_law_591 : decode cL_law 591 = .ok (.invokevirtual 72, 3) := by decide +kernel
theorem dL_law_594 : decode cL_law 594 = .ok (.aload_n 2, 1) := by decide +kernel
theorem dL_law_595 : decode cL_law 595 = .ok (.aload_n 0, 1) := by decide +kernel
theorem dL_law_596 : decode cL_law 596 = .ok (.iload_n 3, 1) := by decide +kernel
theorem dL_law_597 : decode cL_law 597 = .ok (.iconst 1, 1) := by decide +kernel
theorem dL_law_598 : decode cL_law 598 = .ok (.iadd, 1) := by decide +kernel
theorem dL_law_599 : decode cL_law 599 = .ok (.iaload, 1) := by decide +kernel
theorem dL_law_600 : decode cL_law 600 = .ok (.aload_n 0, 1) := by decide +kernel
theorem dL_law_601 : decode cL_law 601 = .ok (.iload_n 3, 1) := by decide +kernel
theorem dL_law_602 : decode cL_law 602 = .ok (.iconst 2, 1) := by decide +kernel
theorem dL_law_603 : decode cL_law 603 = .ok (.iadd, 1) := by decide +kernel
theorem dL_law_604 : decode cL_law 604 = .ok (.iaload, 1) := by decide +kernel
theorem dL_law_605 : decode cL_law 605 = .ok (.aload_n 0, 1) := by decide +kernel
theorem dL_law_606 : decode cL_law 606 = .ok (.iload_n 3, 1) := by decide +kernel
theorem dL_law_607 : decode cL_law 607 = .ok (.iconst 3, 1) := by decide +kernel
theorem dL_law_608 : decode cL_law 608 = .ok (.iadd, 1) := by decide +kernel
theorem dL_law_609 : decode cL_law 609 = .ok (.iaload, 1) := by decide +kernel
theorem dL_law_610 : decode cL_law 610 = .ok (.invokevirtual 75, 3) := by decide +kernel
theorem dL_law_613 : decode cL_law 613 = .ok (.if_icmp .eq 759, 3) := by decide +kernel
theorem dL_law_616 : decode cL_law 616 = .ok (.iconst 0, 1) := by decide +kernel
theorem dL_law_617 : decode cL_law 617 = .ok (.ireturn, 1) := by decide +kernel
theorem dL_law_618 : decode cL_law 618 = .ok (.aload_n 1, 1) := by decide +kernel
theorem dL_law_619 : decode cL_law 619 = .ok (.aload_n 0, 1) := by decide +kernel
theorem dL_law_620 : decode cL_law 620 = .ok (.iload_n 3, 1) := by decide +kernel
theorem dL_law_621 : decode cL_law 621 = .ok (.iconst 1, 1) := by decide +kernel
theorem dL_law_622 : decode cL_law 622 = .ok (.iadd, 1) := by decide +kernel
theorem dL_law_623 : decode cL_law 623 = .ok (.iaload, 1) := by decide +kernel
theorem dL_law_624 : decode cL_law 624 = .ok (.aload_n 0, 1) := by decide +kernel
theorem dL_law_625 : decode cL_law 625 = .ok (.iload_n 3, 1) := by decide +kernel
theorem dL_law_626 : decode cL_law 626 = .ok (.iconst 2, 1) := by decide +kernel
theorem dL_law_627 : decode cL_law 627 = .ok (.iadd, 1) := by decide +kernel
theorem dL_law_628 : decode cL_law 628 = .ok (.iaload, 1) := by decide +kernel
theorem dL_law_629 : decode cL_law 629 = .ok (.aload_n 0, 1) := by decide +kernel
theorem dL_law_630 : decode cL_law 630 = .ok (.iload_n 3, 1) := by decide +kernel
theorem dL_law_631 : decode cL_law 631 = .ok (.iconst 3, 1) := by decide +kernel
theorem dL_law_632 : decode cL_law 632 = .ok (.iadd, 1) := by decide +kernel
theorem dL_law_633 : decode cL_law 633 = .ok (.iaload, 1) := by decide +kernel
theorem dL_law_634 : decode cL_law 634 = .ok (.invokevirtual 76, 3) := by decide +kernel
theorem dL_law_637 : decode cL_law 637 = .ok (.aload_n 2, 1) := by decide +kernel
theorem dL_law_638 : decode cL_law 638 = .ok (.aload_n 0, 1) := by decide +kernel
theorem dL_law_639 : decode cL_law 639 = .ok (.iload_n 3, 1) := by decide +kernel
theorem dL_law_640 : decode cL_law 640 = .ok (.iconst 1, 1) := by decide +kernel
theorem dL_law_641 : decode cL_law 641 = .ok (.iadd, 1) := by decide +kernel
theorem dL_law_642 : decode cL_law 642 = .ok (.iaload, 1) := by decide +kernel
theorem dL_law_643 : decode cL_law 643 = .ok (.aload_n 0, 1) := by decide +kernel
theorem dL_law_644 : decode cL_law 644 = .ok (.iload_n 3, 1) := by decide +kernel
theorem dL_law_645 : decode cL_law 645 = .ok (.iconst 2, 1) := by decide +kernel
theorem dL_law_646 : decode cL_law 646 = .ok (.iadd, 1) := by decide +kernel
theorem dL_law_647 : decode cL_law 647 = .ok (.iaload, 1) := by decide +kernel
theorem dL_law_648 : decode cL_law 648 = .ok (.aload_n 0, 1) := by decide +kernel
theorem dL_law_649 : decode cL_law 649 = .ok (.iload_n 3, 1) := by decide +kernel
theorem dL_law_650 : decode cL_law 650 = .ok (.iconst 3, 1) := by decide +kernel
theorem dL_law_651 : decode cL_law 651 = .ok (.iadd, 1) := by decide +kernel
theorem dL_law_652 : decode cL_law 652 = .ok (.iaload, 1) := by decide +kernel
theorem dL_law_653 : decode cL_law 653 = .ok (.invokevirtual 79, 3) := by decide +kernel
theorem dL_law_656 : decode cL_law 656 = .ok (.if_icmp .eq 716, 3) := by decide +kernel
theorem dL_law_659 : decode cL_law 659 = .ok (.iconst 0, 1) := by decide +kernel
theorem dL_law_660 : decode cL_law 660 = .ok (.ireturn, 1) := by decide +kernel
theorem dL_law_661 : decode cL_law 661 = .ok (.aload_n 1, 1) := by decide +kernel
theorem dL_law_662 : decode cL_law 662 = .ok (.aload_n 0, 1) := by decide +kernel
theorem dL_law_663 : decode cL_law 663 = .ok (.iload_n 3, 1) := by decide +kernel
theorem dL_law_664 : decode cL_law 664 = .ok (.iconst 1, 1) := by decide +kernel
theorem dL_law_665 : decode cL_law 665 = .ok (.iadd, 1) := by decide +kernel
theorem dL_law_666 : decode cL_law 666 = .ok (.iaload, 1) := by decide +kernel
theorem dL_law_667 : decode cL_law 667 = .ok (.aload_n 0, 1) := by decide +kernel
theorem dL_law_668 : decode cL_law 668 = .ok (.iload_n 3, 1) := by decide +kernel
theorem dL_law_669 : decode cL_law 669 = .ok (.iconst 2, 1) := by decide +kernel
theorem dL_law_670 : decode cL_law 670 = .ok (.iadd, 1) := by decide +kernel
theorem dL_law_671 : decode cL_law 671 = .ok (.iaload, 1) := by decide +kernel
theorem dL_law_672 : decode cL_law 672 = .ok (.aload_n 0, 1) := by decide +kernel
theorem dL_law_673 : decode cL_law 673 = .ok (.iload_n 3, 1) := by decide +kernel
theorem dL_law_674 : decode cL_law 674 = .ok (.iconst 3, 1) := by decide +kernel
theorem dL_law_675 : decode cL_law 675 = .ok (.iadd, 1) := by decide +kernel
theorem dL_law_676 : decode cL_law 676 = .ok (.iaload, 1) := by decide +kernel
theorem dL_law_677 : decode cL_law 677 = .ok (.invokevirtual 80, 3) := by decide +kernel
theorem dL_law_680 : decode cL_law 680 = .ok (.aload_n 2, 1) := by decide +kernel
theorem dL_law_681 : decode cL_law 681 = .ok (.aload_n 0, 1) := by decide +kernel
theorem dL_law_682 : decode cL_law 682 = .ok (.iload_n 3, 1) := by decide +kernel
theorem dL_law_683 : decode cL_law 683 = .ok (.iconst 1, 1) := by decide +kernel
theorem dL_law_684 : decode cL_law 684 = .ok (.iadd, 1) := by decide +kernel
theorem dL_law_685 : decode cL_law 685 = .ok (.iaload, 1) := by decide +kernel
theorem dL_law_686 : decode cL_law 686 = .ok (.aload_n 0, 1) := by decide +kernel
theorem dL_law_687 : decode cL_law 687 = .ok (.iload_n 3, 1) := by decide +kernel
theorem dL_law_688 : decode cL_law 688 = .ok (.iconst 2, 1) := by decide +kernel
theorem dL_law_689 : decode cL_law 689 = .ok (.iadd, 1) := by decide +kernel
theorem dL_law_690 : decode cL_law 690 = .ok (.iaload, 1) := by decide +kernel
theorem dL_law_691 : decode cL_law 691 = .ok (.aload_n 0, 1) := by decide +kernel
theorem dL_law_692 : decode cL_law 692 = .ok (.iload_n 3, 1) := by decide +kernel
theorem dL_law_693 : decode cL_law 693 = .ok (.iconst 3, 1) := by decide +kernel
theorem dL_law_694 : decode cL_law 694 = .ok (.iadd, 1) := by decide +kernel
theorem dL_law_695 : decode cL_law 695 = .ok (.iaload, 1) := by decide +kernel
theorem dL_law_696 : decode cL_law 696 = .ok (.invokevirtual 83, 3) := by decide +kernel
theorem dL_law_699 : decode cL_law 699 = .ok (.if_icmp .eq 673, 3) := by decide +kernel
theorem dL_law_702 : decode cL_law 702 = .ok (.iconst 0, 1) := by decide +kernel
theorem dL_law_703 : decode cL_law 703 = .ok (.ireturn, 1) := by decide +kernel
theorem dL_law_704 : decode cL_law 704 = .ok (.aload_n 1, 1) := by decide +kernel
theorem dL_law_705 : decode cL_law 705 = .ok (.aload_n 0, 1) := by decide +kernel
theorem dL_law_706 : decode cL_law 706 = .ok (.iload_n 3, 1) := by decide +kernel
theorem dL_law_707 : decode cL_law 707 = .ok (.iconst 1, 1) := by decide +kernel
theorem dL_law_708 : decode cL_law 708 = .ok (.iadd, 1) := by decide +kernel
theorem dL_law_709 : decode cL_law 709 = .ok (.iaload, 1) := by decide +kernel
theorem dL_law_710 : decode cL_law 710 = .ok (.aload_n 0, 1) := by decide +kernel
theorem dL_law_711 : decode cL_law 711 = .ok (.iload_n 3, 1) := by decide +kernel
theorem dL_law_712 : decode cL_law 712 = .ok (.iconst 2, 1) := by decide +kernel
theorem dL_law_713 : decode cL_law 713 = .ok (.iadd, 1) := by decide +kernel
theorem dL_law_714 : decode cL_law 714 = .ok (.iaload, 1) := by decide +kernel
theorem dL_law_715 : decode cL_law 715 = .ok (.aload_n 0, 1) := by decide +kernel
theorem dL_law_716 : decode cL_law 716 = .ok (.iload_n 3, 1) := by decide +kernel
theorem dL_law_717 : decode cL_law 717 = .ok (.iconst 3, 1) := by decide +kernel
theorem dL_law_718 : decode cL_law 718 = .ok (.iadd, 1) := by decide +kernel
theorem dL_law_719 : decode cL_law 719 = .ok (.iaload, 1) := by decide +kernel
theorem dL_law_720 : decode cL_law 720 = .ok (.invokevirtual 84, 3) := by decide +kernel
theorem dL_law_723 : decode cL_law 723 = .ok (.aload_n 2, 1) := by decide +kernel
theorem dL_law_724 : decode cL_law 724 = .ok (.aload_n 0, 1) := by decide +kernel
theorem dL_law_725 : decode cL_law 725 = .ok (.iload_n 3, 1) := by decide +kernel
theorem dL_law_726 : decode cL_law 726 = .ok (.iconst 1, 1) := by decide +kernel
theorem dL_law_727 : decode cL_law 727 = .ok (.iadd, 1) := by decide +kernel
theorem dL_law_728 : decode cL_law 728 = .ok (.iaload, 1) := by decide +kernel
theorem dL_law_729 : decode cL_law 729 = .ok (.aload_n 0, 1) := by decide +kernel
theorem dL_law_730 : decode cL_law 730 = .ok (.iload_n 3, 1) := by decide +kernel
theorem dL_law_731 : decode cL_law 731 = .ok (.iconst 2, 1) := by decide +kernel
theorem dL_law_732 : decode cL_law 732 = .ok (.iadd, 1) := by decide +kernel
theorem dL_law_733 : decode cL_law 733 = .ok (.iaload, 1) := by decide +kernel
theorem dL_law_734 : decode cL_law 734 = .ok (.aload_n 0, 1) := by decide +kernel
theorem dL_law_735 : decode cL_law 735 = .ok (.iload_n 3, 1) := by decide +kernel
theorem dL_law_736 : decode cL_law 736 = .ok (.iconst 3, 1) := by decide +kernel
theorem dL_law_737 : decode cL_law 737 = .ok (.iadd, 1) := by decide +kernel
theorem dL_law_738 : decode cL_law 738 = .ok (.iaload, 1) := by decide +kernel
theorem dL_law_739 : decode cL_law 739 = .ok (.invokevirtual 87, 3) := by decide +kernel
theorem dL_law_742 : decode cL_law 742 = .ok (.if_icmp .eq 630, 3) := by decide +kernel
theorem dL_law_745 : decode cL_law 745 = .ok (.iconst 0, 1) := by decide +kernel
theorem dL_law_746 : decode cL_law 746 = .ok (.ireturn, 1) := by decide +kernel
theorem dL_law_747 : decode cL_law 747 = .ok (.aload_n 1, 1) := by decide +kernel
theorem dL_law_748 : decode cL_law 748 = .ok (.aload_n 0, 1) := by decide +kernel
theorem dL_law_749 : decode cL_law 749 = .ok (.iload_n 3, 1) := by decide +kernel
theorem dL_law_750 : decode cL_law 750 = .ok (.iconst 1, 1) := by decide +kernel
theorem dL_law_751 : decode cL_law 751 = .ok (.iadd, 1) := by decide +kernel
theorem dL_law_752 : decode cL_law 752 = .ok (.iaload, 1) := by decide +kernel
theorem dL_law_753 : decode cL_law 753 = .ok (.aload_n 0, 1) := by decide +kernel
theorem dL_law_754 : decode cL_law 754 = .ok (.iload_n 3, 1) := by decide +kernel
theorem dL_law_755 : decode cL_law 755 = .ok (.iconst 2, 1) := by decide +kernel
theorem dL_law_756 : decode cL_law 756 = .ok (.iadd, 1) := by decide +kernel
theorem dL_law_757 : decode cL_law 757 = .ok (.iaload, 1) := by decide +kernel
theorem dL_law_758 : decode cL_law 758 = .ok (.aload_n 0, 1) := by decide +kernel
theorem dL_law_759 : decode cL_law 759 = .ok (.iload_n 3, 1) := by decide +kernel
theorem dL_law_760 : decode cL_law 760 = .ok (.iconst 3, 1) := by decide +kernel
theorem dL_law_761 : decode cL_law 761 = .ok (.iadd, 1) := by decide +kernel
theorem dL_law_762 : decode cL_law 762 = .ok (.iaload, 1) := by decide +kernel
theorem dL_law_763 : decode cL_law 763 = .ok (.aload_n 0, 1) := by decide +kernel
theorem dL_law_764 : decode cL_law 764 = .ok (.iload_n 3, 1) := by decide +kernel
theorem dL_law_765 : decode cL_law 765 = .ok (.iconst 4, 1) := by decide +kernel
theorem dL_law_766 : decode cL_law 766 = .ok (.iadd, 1) := by decide +kernel
theorem dL_law_767 : decode cL_law 767 = .ok (.iaload, 1) := by decide +kernel
theorem dL_law_768 : decode cL_law 768 = .ok (.invokevirtual 88, 3) := by decide +kernel
theorem dL_law_771 : decode cL_law 771 = .ok (.aload_n 2, 1) := by decide +kernel
theorem dL_law_772 : decode cL_law 772 = .ok (.aload_n 0, 1) := by decide +kernel
theorem dL_law_773 : decode cL_law 773 = .ok (.iload_n 3, 1) := by decide +kernel
theorem dL_law_774 : decode cL_law 774 = .ok (.iconst 1, 1) := by decide +kernel
theorem dL_law_775 : decode cL_law 775 = .ok (.iadd, 1) := by decide +kernel
theorem dL_law_776 : decode cL_law 776 = .ok (.iaload, 1) := by decide +kernel
theorem dL_law_777 : decode cL_law 777 = .ok (.aload_n 0, 1) := by decide +kernel
theorem dL_law_778 : decode cL_law 778 = .ok (.iload_n 3, 1) := by decide +kernel
theorem dL_law_779 : decode cL_law 779 = .ok (.iconst 2, 1) := by decide +kernel
theorem dL_law_780 : decode cL_law 780 = .ok (.iadd, 1) := by decide +kernel
theorem dL_law_781 : decode cL_law 781 = .ok (.iaload, 1) := by decide +kernel
theorem dL_law_782 : decode cL_law 782 = .ok (.aload_n 0, 1) := by decide +kernel
theorem dL_law_783 : decode cL_law 783 = .ok (.iload_n 3, 1) := by decide +kernel
theorem dL_law_784 : decode cL_law 784 = .ok (.iconst 3, 1) := by decide +kernel
theorem dL_law_785 : decode cL_law 785 = .ok (.iadd, 1) := by decide +kernel
theorem dL_law_786 : decode cL_law 786 = .ok (.iaload, 1) := by decide +kernel
theorem dL_law_787 : decode cL_law 787 = .ok (.aload_n 0, 1) := by decide +kernel
theorem dL_law_788 : decode cL_law 788 = .ok (.iload_n 3, 1) := by decide +kernel
theorem dL_law_789 : decode cL_law 789 = .ok (.iconst 4, 1) := by decide +kernel
theorem dL_law_790 : decode cL_law 790 = .ok (.iadd, 1) := by decide +kernel
theorem dL_law_791 : decode cL_law 791 = .ok (.iaload, 1) := by decide +kernel
theorem dL_law_792 : decode cL_law 792 = .ok (.invokevirtual 92, 3) := by decide +kernel
theorem dL_law_795 : decode cL_law 795 = .ok (.if_icmp .eq 577, 3) := by decide +kernel
theorem dL_law_798 : decode cL_law 798 = .ok (.iconst 0, 1) := by decide +kernel
theorem dL_law_799 : decode cL_law 799 = .ok (.ireturn, 1) := by decide +kernel
theorem dL_law_800 : decode cL_law 800 = .ok (.aload_n 1, 1) := by decide +kernel
theorem dL_law_801 : decode cL_law 801 = .ok (.aload_n 0, 1) := by decide +kernel
theorem dL_law_802 : decode cL_law 802 = .ok (.iload_n 3, 1) := by decide +kernel
theorem dL_law_803 : decode cL_law 803 = .ok (.iconst 1, 1) := by decide +kernel
theorem dL_law_804 : decode cL_law 804 = .ok (.iadd, 1) := by decide +kernel
theorem dL_law_805 : decode cL_law 805 = .ok (.iaload, 1) := by decide +kernel
theorem dL_law_806 : decode cL_law 806 = .ok (.aload_n 0, 1) := by decide +kernel
theorem dL_law_807 : decode cL_law 807 = .ok (.iload_n 3, 1) := by decide +kernel
theorem dL_law_808 : decode cL_law 808 = .ok (.iconst 2, 1) := by decide +kernel
theorem dL_law_809 : decode cL_law 809 = .ok (.iadd, 1) := by decide +kernel
theorem dL_law_810 : decode cL_law 810 = .ok (.iaload, 1) := by decide +kernel
theorem dL_law_811 : decode cL_law 811 = .ok (.aload_n 0, 1) := by decide +kernel
theorem dL_law_812 : decode cL_law 812 = .ok (.iload_n 3, 1) := by decide +kernel
theorem dL_law_813 : decode cL_law 813 = .ok (.iconst 3, 1) := by decide +kernel
theorem dL_law_814 : decode cL_law 814 = .ok (.iadd, 1) := by decide +kernel
theorem dL_law_815 : decode cL_law 815 = .ok (.iaload, 1) := by decide +kernel
theorem dL_law_816 : decode cL_law 816 = .ok (.invokevirtual 93, 3) := by decide +kernel
theorem dL_law_819 : decode cL_law 819 = .ok (.aload_n 2, 1) := by decide +kernel
theorem dL_law_820 : decode cL_law 820 = .ok (.aload_n 0, 1) := by decide +kernel
theorem dL_law_821 : decode cL_law 821 = .ok (.iload_n 3, 1) := by decide +kernel
theorem dL_law_822 : decode cL_law 822 = .ok (.iconst 1, 1) := by decide +kernel
theorem dL_law_823 : decode cL_law 823 = .ok (.iadd, 1) := by decide +kernel
theorem dL_law_824 : decode cL_law 824 = .ok (.iaload, 1) := by decide +kernel
theorem dL_law_825 : decode cL_law 825 = .ok (.aload_n 0, 1) := by decide +kernel
theorem dL_law_826 : decode cL_law 826 = .ok (.iload_n 3, 1) := by decide +kernel
theorem dL_law_827 : decode cL_law 827 = .ok (.iconst 2, 1) := by decide +kernel
theorem dL_law_828 : decode cL_law 828 = .ok (.iadd, 1) := by decide +kernel
theorem dL_law_829 : decode cL_law 829 = .ok (.iaload, 1) := by decide +kernel
theorem dL_law_830 : decode cL_law 830 = .ok (.aload_n 0, 1) := by decide +kernel
theorem dL_law_831 : decode cL_law 831 = .ok (.iload_n 3, 1) := by decide +kernel
theorem dL_law_832 : decode cL_law 832 = .ok (.iconst 3, 1) := by decide +kernel
theorem dL_law_833 : decode cL_law 833 = .ok (.iadd, 1) := by decide +kernel
theorem dL_law_834 : decode cL_law 834 = .ok (.iaload, 1) := by decide +kernel
theorem dL_law_835 : decode cL_law 835 = .ok (.invokevirtual 96, 3) := by decide +kernel
theorem dL_law_838 : decode cL_law 838 = .ok (.if_icmp .eq 534, 3) := by decide +kernel
theorem dL_law_841 : decode cL_law 841 = .ok (.iconst 0, 1) := by decide +kernel
theorem dL_law_842 : decode cL_law 842 = .ok (.ireturn, 1) := by decide +kernel
theorem dL_law_843 : decode cL_law 843 = .ok (.aload_n 1, 1) := by decide +kernel
theorem dL_law_844 : decode cL_law 844 = .ok (.aload_n 0, 1) := by decide +kernel
theorem dL_law_845 : decode cL_law 845 = .ok (.iload_n 3, 1) := by decide +kernel
theorem dL_law_846 : decode cL_law 846 = .ok (.iconst 1, 1) := by decide +kernel
theorem dL_law_847 : decode cL_law 847 = .ok (.iadd, 1) := by decide +kernel
theorem dL_law_848 : decode cL_law 848 = .ok (.iaload, 1) := by decide +kernel
theorem dL_law_849 : decode cL_law 849 = .ok (.aload_n 0, 1) := by decide +kernel
theorem dL_law_850 : decode cL_law 850 = .ok (.iload_n 3, 1) := by decide +kernel
theorem dL_law_851 : decode cL_law 851 = .ok (.iconst 2, 1) := by decide +kernel
theorem dL_law_852 : decode cL_law 852 = .ok (.iadd, 1) := by decide +kernel
theorem dL_law_853 : decode cL_law 853 = .ok (.iaload, 1) := by decide +kernel
theorem dL_law_854 : decode cL_law 854 = .ok (.invokevirtual 97, 3) := by decide +kernel
theorem dL_law_857 : decode cL_law 857 = .ok (.aload_n 2, 1) := by decide +kernel
theorem dL_law_858 : decode cL_law 858 = .ok (.aload_n 0, 1) := by decide +kernel
theorem dL_law_859 : decode cL_law 859 = .ok (.iload_n 3, 1) := by decide +kernel
theorem dL_law_860 : decode cL_law 860 = .ok (.iconst 1, 1) := by decide +kernel
theorem dL_law_861 : decode cL_law 861 = .ok (.iadd, 1) := by decide +kernel
theorem dL_law_862 : decode cL_law 862 = .ok (.iaload, 1) := by decide +kernel
theorem dL_law_863 : decode cL_law 863 = .ok (.aload_n 0, 1) := by decide +kernel
theorem dL_law_864 : decode cL_law 864 = .ok (.iload_n 3, 1) := by decide +kernel
theorem dL_law_865 : decode cL_law 865 = .ok (.iconst 2, 1) := by decide +kernel
theorem dL_law_866 : decode cL_law 866 = .ok (.iadd, 1) := by decide +kernel
theorem dL_law_867 : decode cL_law 867 = .ok (.iaload, 1) := by decide +kernel
theorem dL_law_868 : decode cL_law 868 = .ok (.invokevirtual 100, 3) := by decide +kernel
theorem dL_law_871 : decode cL_law 871 = .ok (.if_icmp .eq 501, 3) := by decide +kernel
theorem dL_law_874 : decode cL_law 874 = .ok (.iconst 0, 1) := by decide +kernel
theorem dL_law_875 : decode cL_law 875 = .ok (.ireturn, 1) := by decide +kernel
theorem dL_law_876 : decode cL_law 876 = .ok (.aload_n 1, 1) := by decide +kernel
theorem dL_law_877 : decode cL_law 877 = .ok (.aload_n 0, 1) := by decide +kernel
theorem dL_law_878 : decode cL_law 878 = .ok (.iload_n 3, 1) := by decide +kernel
theorem dL_law_879 : decode cL_law 879 = .ok (.iconst 1, 1) := by decide +kernel
theorem dL_law_880 : decode cL_law 880 = .ok (.iadd, 1) := by decide +kernel
theorem dL_law_881 : decode cL_law 881 = .ok (.iaload, 1) := by decide +kernel
theorem dL_law_882 : decode cL_law 882 = .ok (.aload_n 0, 1) := by decide +kernel
theorem dL_law_883 : decode cL_law 883 = .ok (.iload_n 3, 1) := by decide +kernel
theorem dL_law_884 : decode cL_law 884 = .ok (.iconst 2, 1) := by decide +kernel
theorem dL_law_885 : decode cL_law 885 = .ok (.iadd, 1) := by decide +kernel
theorem dL_law_886 : decode cL_law 886 = .ok (.iaload, 1) := by decide +kernel
theorem dL_law_887 : decode cL_law 887 = .ok (.invokevirtual 101, 3) := by decide +kernel
theorem dL_law_890 : decode cL_law 890 = .ok (.aload_n 2, 1) := by decide +kernel
theorem dL_law_891 : decode cL_law 891 = .ok (.aload_n 0, 1) := by decide +kernel
theorem dL_law_892 : decode cL_law 892 = .ok (.iload_n 3, 1) := by decide +kernel
theorem dL_law_893 : decode cL_law 893 = .ok (.iconst 1, 1) := by decide +kernel
theorem dL_law_894 : decode cL_law 894 = .ok (.iadd, 1) := by decide +kernel
theorem dL_law_895 : decode cL_law 895 = .ok (.iaload, 1) := by decide +kernel
theorem dL_law_896 : decode cL_law 896 = .ok (.aload_n 0, 1) := by decide +kernel
theorem dL_law_897 : decode cL_law 897 = .ok (.iload_n 3, 1) := by decide +kernel
theorem dL_law_898 : decode cL_law 898 = .ok (.iconst 2, 1) := by decide +kernel
theorem dL_law_899 : decode cL_law 899 = .ok (.iadd, 1) := by decide +kernel
theorem dL_law_900 : decode cL_law 900 = .ok (.iaload, 1) := by decide +kernel
theorem dL_law_901 : decode cL_law 901 = .ok (.invokevirtual 104, 3) := by decide +kernel
theorem dL_law_904 : decode cL_law 904 = .ok (.if_icmp .eq 468, 3) := by decide +kernel
theorem dL_law_907 : decode cL_law 907 = .ok (.iconst 0, 1) := by decide +kernel
theorem dL_law_908 : decode cL_law 908 = .ok (.ireturn, 1) := by decide +kernel
theorem dL_law_909 : decode cL_law 909 = .ok (.aload_n 1, 1) := by decide +kernel
theorem dL_law_910 : decode cL_law 910 = .ok (.aload_n 0, 1) := by decide +kernel
theorem dL_law_911 : decode cL_law 911 = .ok (.iload_n 3, 1) := by decide +kernel
theorem dL_law_912 : decode cL_law 912 = .ok (.iconst 1, 1) := by decide +kernel
theorem dL_law_913 : decode cL_law 913 = .ok (.iadd, 1) := by decide +kernel
theorem dL_law_914 : decode cL_law 914 = .ok (.iaload, 1) := by decide +kernel
theorem dL_law_915 : decode cL_law 915 = .ok (.aload_n 0, 1) := by decide +kernel
theorem dL_law_916 : decode cL_law 916 = .ok (.iload_n 3, 1) := by decide +kernel
theorem dL_law_917 : decode cL_law 917 = .ok (.iconst 2, 1) := by decide +kernel
theorem dL_law_918 : decode cL_law 918 = .ok (.iadd, 1) := by decide +kernel
theorem dL_law_919 : decode cL_law 919 = .ok (.iaload, 1) := by decide +kernel
theorem dL_law_920 : decode cL_law 920 = .ok (.aload_n 0, 1) := by decide +kernel
theorem dL_law_921 : decode cL_law 921 = .ok (.iload_n 3, 1) := by decide +kernel
theorem dL_law_922 : decode cL_law 922 = .ok (.iconst 3, 1) := by decide +kernel
theorem dL_law_923 : decode cL_law 923 = .ok (.iadd, 1) := by decide +kernel
theorem dL_law_924 : decode cL_law 924 = .ok (.iaload, 1) := by decide +kernel
theorem dL_law_925 : decode cL_law 925 = .ok (.invokevirtual 105, 3) := by decide +kernel
theorem dL_law_928 : decode cL_law 928 = .ok (.aload_n 2, 1) := by decide +kernel
theorem dL_law_929 : decode cL_law 929 = .ok (.aload_n 0, 1) := by decide +kernel
theorem dL_law_930 : decode cL_law 930 = .ok (.iload_n 3, 1) := by decide +kernel
theorem dL_law_931 : decode cL_law 931 = .ok (.iconst 1, 1) := by decide +kernel
theorem dL_law_932 : decode cL_law 932 = .ok (.iadd, 1) := by decide +kernel
theorem dL_law_933 : decode cL_law 933 = .ok (.iaload, 1) := by decide +kernel
theorem dL_law_934 : decode cL_law 934 = .ok (.aload_n 0, 1) := by decide +kernel
theorem dL_law_935 : decode cL_law 935 = .ok (.iload_n 3, 1) := by decide +kernel
theorem dL_law_936 : decode cL_law 936 = .ok (.iconst 2, 1) := by decide +kernel
theorem dL_law_937 : decode cL_law 937 = .ok (.iadd, 1) := by decide +kernel
theorem dL_law_938 : decode cL_law 938 = .ok (.iaload, 1) := by decide +kernel
theorem dL_law_939 : decode cL_law 939 = .ok (.aload_n 0, 1) := by decide +kernel
theorem dL_law_940 : decode cL_law 940 = .ok (.iload_n 3, 1) := by decide +kernel
theorem dL_law_941 : decode cL_law 941 = .ok (.iconst 3, 1) := by decide +kernel
theorem dL_law_942 : decode cL_law 942 = .ok (.iadd, 1) := by decide +kernel
theorem dL_law_943 : decode cL_law 943 = .ok (.iaload, 1) := by decide +kernel
theorem dL_law_944 : decode cL_law 944 = .ok (.invokevirtual 108, 3) := by decide +kernel
theorem dL_law_947 : decode cL_law 947 = .ok (.if_icmp .eq 425, 3) := by decide +kernel
theorem dL_law_950 : decode cL_law 950 = .ok (.iconst 0, 1) := by decide +kernel
theorem dL_law_951 : decode cL_law 951 = .ok (.ireturn, 1) := by decide +kernel
theorem dL_law_952 : decode cL_law 952 = .ok (.aload_n 1, 1) := by decide +kernel
theorem dL_law_953 : decode cL_law 953 = .ok (.invokevirtual 109, 3) := by decide +kernel
theorem dL_law_956 : decode cL_law 956 = .ok (.aload_n 2, 1) := by decide +kernel
theorem dL_law_957 : decode cL_law 957 = .ok (.invokevirtual 112, 3) := by decide +kernel
theorem dL_law_960 : decode cL_law 960 = .ok (.if_icmp .eq 412, 3) := by decide +kernel
theorem dL_law_963 : decode cL_law 963 = .ok (.iconst 0, 1) := by decide +kernel
theorem dL_law_964 : decode cL_law 964 = .ok (.ireturn, 1) := by decide +kernel
theorem dL_law_965 : decode cL_law 965 = .ok (.aload_n 1, 1) := by decide +kernel
theorem dL_law_966 : decode cL_law 966 = .ok (.aload_n 0, 1) := by decide +kernel
theorem dL_law_967 : decode cL_law 967 = .ok (.iload_n 3, 1) := by decide +kernel
theorem dL_law_968 : decode cL_law 968 = .ok (.iconst 1, 1) := by decide +kernel
theorem dL_law_969 : decode cL_law 969 = .ok (.iadd, 1) := by decide +kernel
theorem dL_law_970 : decode cL_law 970 = .ok (.iaload, 1) := by decide +kernel
theorem dL_law_971 : decode cL_law 971 = .ok (.aload_n 0, 1) := by decide +kernel
theorem dL_law_972 : decode cL_law 972 = .ok (.iload_n 3, 1) := by decide +kernel
theorem dL_law_973 : decode cL_law 973 = .ok (.iconst 2, 1) := by decide +kernel
theorem dL_law_974 : decode cL_law 974 = .ok (.iadd, 1) := by decide +kernel
theorem dL_law_975 : decode cL_law 975 = .ok (.iaload, 1) := by decide +kernel
theorem dL_law_976 : decode cL_law 976 = .ok (.aload_n 0, 1) := by decide +kernel
theorem dL_law_977 : decode cL_law 977 = .ok (.iload_n 3, 1) := by decide +kernel
theorem dL_law_978 : decode cL_law 978 = .ok (.iconst 3, 1) := by decide +kernel
theorem dL_law_979 : decode cL_law 979 = .ok (.iadd, 1) := by decide +kernel
theorem dL_law_980 : decode cL_law 980 = .ok (.iaload, 1) := by decide +kernel
theorem dL_law_981 : decode cL_law 981 = .ok (.aload_n 0, 1) := by decide +kernel
theorem dL_law_982 : decode cL_law 982 = .ok (.iload_n 3, 1) := by decide +kernel
theorem dL_law_983 : decode cL_law 983 = .ok (.iconst 4, 1) := by decide +kernel
theorem dL_law_984 : decode cL_law 984 = .ok (.iadd, 1) := by decide +kernel
theorem dL_law_985 : decode cL_law 985 = .ok (.iaload, 1) := by decide +kernel
theorem dL_law_986 : decode cL_law 986 = .ok (.invokevirtual 113, 3) := by decide +kernel
theorem dL_law_989 : decode cL_law 989 = .ok (.aload_n 2, 1) := by decide +kernel
theorem dL_law_990 : decode cL_law 990 = .ok (.aload_n 0, 1) := by decide +kernel
theorem dL_law_991 : decode cL_law 991 = .ok (.iload_n 3, 1) := by decide +kernel
theorem dL_law_992 : decode cL_law 992 = .ok (.iconst 1, 1) := by decide +kernel
theorem dL_law_993 : decode cL_law 993 = .ok (.iadd, 1) := by decide +kernel
theorem dL_law_994 : decode cL_law 994 = .ok (.iaload, 1) := by decide +kernel
theorem dL_law_995 : decode cL_law 995 = .ok (.aload_n 0, 1) := by decide +kernel
theorem dL_law_996 : decode cL_law 996 = .ok (.iload_n 3, 1) := by decide +kernel
theorem dL_law_997 : decode cL_law 997 = .ok (.iconst 2, 1) := by decide +kernel
theorem dL_law_998 : decode cL_law 998 = .ok (.iadd, 1) := by decide +kernel
theorem dL_law_999 : decode cL_law 999 = .ok (.iaload, 1) := by decide +kernel
theorem dL_law_1000 : decode cL_law 1000 = .ok (.aload_n 0, 1) := by decide +kernel
theorem dL_law_1001 : decode cL_law 1001 = .ok (.iload_n 3, 1) := by decide +kernel
theorem dL_law_1002 : decode cL_law 1002 = .ok (.iconst 3, 1) := by decide +kernel
theorem dL_law_1003 : decode cL_law 1003 = .ok (.iadd, 1) := by decide +kernel
theorem dL_law_1004 : decode cL_law 1004 = .ok (.iaload, 1) := by decide +kernel
theorem dL_law_1005 : decode cL_law 1005 = .ok (.aload_n 0, 1) := by decide +kernel
theorem dL_law_1006 : decode cL_law 1006 = .ok (.iload_n 3, 1) := by decide +kernel
theorem dL_law_1007 : decode cL_law 1007 = .ok (.iconst 4, 1) := by decide +kernel
theorem dL_law_1008 : decode cL_law 1008 = .ok (.iadd, 1) := by decide +kernel
theorem dL_law_1009 : decode cL_law 1009 = .ok (.iaload, 1) := by decide +kernel
theorem dL_law_1010 : decode cL_law 1010 = .ok (.invokevirtual 116, 3) := by decide +kernel
theorem dL_law_1013 : decode cL_law 1013 = .ok (.if_icmp .eq 359, 3) := by decide +kernel
theorem dL_law_1016 : decode cL_law 1016 = .ok (.iconst 0, 1) := by decide +kernel
theorem dL_law_1017 : decode cL_law 1017 = .ok (.ireturn, 1) := by decide +kernel
theorem dL_law_1018 : decode cL_law 1018 = .ok (.aload_n 1, 1) := by decide +kernel
theorem dL_law_1019 : decode cL_law 1019 = .ok (.aload_n 0, 1) := by decide +kernel
theorem dL_law_1020 : decode cL_law 1020 = .ok (.iload_n 3, 1) := by decide +kernel
theorem dL_law_1021 : decode cL_law 1021 = .ok (.iconst 1, 1) := by decide +kernel
theorem dL_law_1022 : decode cL_law 1022 = .ok (.iadd, 1) := by decide +kernel
theorem dL_law_1023 : decode cL_law 1023 = .ok (.iaload, 1) := by decide +kernel
theorem dL_law_1024 : decode cL_law 1024 = .ok (.aload_n 0, 1) := by decide +kernel
theorem dL_law_1025 : decode cL_law 1025 = .ok (.iload_n 3, 1) := by decide +kernel
theorem dL_law_1026 : decode cL_law 1026 = .ok (.iconst 2, 1) := by decide +kernel
theorem dL_law_1027 : decode cL_law 1027 = .ok (.iadd, 1) := by decide +kernel
theorem dL_law_1028 : decode cL_law 1028 = .ok (.iaload, 1) := by decide +kernel
theorem dL_law_1029 : decode cL_law 1029 = .ok (.aload_n 0, 1) := by decide +kernel
theorem dL_law_1030 : decode cL_law 1030 = .ok (.iload_n 3, 1) := by decide +kernel
theorem dL_law_1031 : decode cL_law 1031 = .ok (.iconst 3, 1) := by decide +kernel
theorem dL_law_1032 : decode cL_law 1032 = .ok (.iadd, 1) := by decide +kernel
theorem dL_law_1033 : decode cL_law 1033 = .ok (.iaload, 1) := by decide +kernel
theorem dL_law_1034 : decode cL_law 1034 = .ok (.aload_n 0, 1) := by decide +kernel
theorem dL_law_1035 : decode cL_law 1035 = .ok (.iload_n 3, 1) := by decide +kernel
theorem dL_law_1036 : decode cL_law 1036 = .ok (.iconst 4, 1) := by decide +kernel
theorem dL_law_1037 : decode cL_law 1037 = .ok (.iadd, 1) := by decide +kernel
theorem dL_law_1038 : decode cL_law 1038 = .ok (.iaload, 1) := by decide +kernel
theorem dL_law_1039 : decode cL_law 1039 = .ok (.aload_n 0, 1) := by decide +kernel
theorem dL_law_1040 : decode cL_law 1040 = .ok (.iload_n 3, 1) := by decide +kernel
theorem dL_law_1041 : decode cL_law 1041 = .ok (.iconst 5, 1) := by decide +kernel
theorem dL_law_1042 : decode cL_law 1042 = .ok (.iadd, 1) := by decide +kernel
theorem dL_law_1043 : decode cL_law 1043 = .ok (.iaload, 1) := by decide +kernel
theorem dL_law_1044 : decode cL_law 1044 = .ok (.aload_n 0, 1) := by decide +kernel
theorem dL_law_1045 : decode cL_law 1045 = .ok (.iload_n 3, 1) := by decide +kernel
theorem dL_law_1046 : decode cL_law 1046 = .ok (.bipush 6, 2) := by decide +kernel
theorem dL_law_1048 : decode cL_law 1048 = .ok (.iadd, 1) := by decide +kernel
theorem dL_law_1049 : decode cL_law 1049 = .ok (.iaload, 1) := by decide +kernel
theorem dL_law_1050 : decode cL_law 1050 = .ok (.aload_n 0, 1) := by decide +kernel
theorem dL_law_1051 : decode cL_law 1051 = .ok (.iload_n 3, 1) := by decide +kernel
theorem dL_law_1052 : decode cL_law 1052 = .ok (.bipush 7, 2) := by decide +kernel
theorem dL_law_1054 : decode cL_law 1054 = .ok (.iadd, 1) := by decide +kernel
theorem dL_law_1055 : decode cL_law 1055 = .ok (.iaload, 1) := by decide +kernel
theorem dL_law_1056 : decode cL_law 1056 = .ok (.aload_n 0, 1) := by decide +kernel
theorem dL_law_1057 : decode cL_law 1057 = .ok (.iload_n 3, 1) := by decide +kernel
theorem dL_law_1058 : decode cL_law 1058 = .ok (.bipush 8, 2) := by decide +kernel
theorem dL_law_1060 : decode cL_law 1060 = .ok (.iadd, 1) := by decide +kernel
theorem dL_law_1061 : decode cL_law 1061 = .ok (.iaload, 1) := by decide +kernel
theorem dL_law_1062 : decode cL_law 1062 = .ok (.invokevirtual 117, 3) := by decide +kernel
theorem dL_law_1065 : decode cL_law 1065 = .ok (.aload_n 2, 1) := by decide +kernel
theorem dL_law_1066 : decode cL_law 1066 = .ok (.aload_n 0, 1) := by decide +kernel
theorem dL_law_1067 : decode cL_law 1067 = .ok (.iload_n 3, 1) := by decide +kernel
theorem dL_law_1068 : decode cL_law 1068 = .ok (.iconst 1, 1) := by decide +kernel
theorem dL_law_1069 : decode cL_law 1069 = .ok (.iadd, 1) := by decide +kernel
theorem dL_law_1070 : decode cL_law 1070 = .ok (.iaload, 1) := by decide +kernel
theorem dL_law_1071 : decode cL_law 1071 = .ok (.aload_n 0, 1) := by decide +kernel
theorem dL_law_1072 : decode cL_law 1072 = .ok (.iload_n 3, 1) := by decide +kernel
theorem dL_law_1073 : decode cL_law 1073 = .ok (.iconst 2, 1) := by decide +kernel
theorem dL_law_1074 : decode cL_law 1074 = .ok (.iadd, 1) := by decide +kernel
theorem dL_law_1075 : decode cL_law 1075 = .ok (.iaload, 1) := by decide +kernel
theorem dL_law_1076 : decode cL_law 1076 = .ok (.aload_n 0, 1) := by decide +kernel
theorem dL_law_1077 : decode cL_law 1077 = .ok (.iload_n 3, 1) := by decide +kernel
theorem dL_law_1078 : decode cL_law 1078 = .ok (.iconst 3, 1) := by decide +kernel
theorem dL_law_1079 : decode cL_law 1079 = .ok (.iadd, 1) := by decide +kernel
theorem dL_law_1080 : decode cL_law 1080 = .ok (.iaload, 1) := by decide +kernel
theorem dL_law_1081 : decode cL_law 1081 = .ok (.aload_n 0, 1) := by decide +kernel
theorem dL_law_1082 : decode cL_law 1082 = .ok (.iload_n 3, 1) := by decide +kernel
theorem dL_law_1083 : decode cL_law 1083 = .ok (.iconst 4, 1) := by decide +kernel
theorem dL_law_1084 : decode cL_law 1084 = .ok (.iadd, 1) := by decide +kernel
theorem dL_law_1085 : decode cL_law 1085 = .ok (.iaload, 1) := by decide +kernel
theorem dL_law_1086 : decode cL_law 1086 = .ok (.aload_n 0, 1) := by decide +kernel
theorem dL_law_1087 : decode cL_law 1087 = .ok (.iload_n 3, 1) := by decide +kernel
theorem dL_law_1088 : decode cL_law 1088 = .ok (.iconst 5, 1) := by decide +kernel
theorem dL_law_1089 : decode cL_law 1089 = .ok (.iadd, 1) := by decide +kernel
theorem dL_law_1090 : decode cL_law 1090 = .ok (.iaload, 1) := by decide +kernel
theorem dL_law_1091 : decode cL_law 1091 = .ok (.aload_n 0, 1) := by decide +kernel
theorem dL_law_1092 : decode cL_law 1092 = .ok (.iload_n 3, 1) := by decide +kernel
theorem dL_law_1093 : decode cL_law 1093 = .ok (.bipush 6, 2) := by decide +kernel
theorem dL_law_1095 : decode cL_law 1095 = .ok (.iadd, 1) := by decide +kernel
theorem dL_law_1096 : decode cL_law 1096 = .ok (.iaload, 1) := by decide +kernel
theorem dL_law_1097 : decode cL_law 1097 = .ok (.aload_n 0, 1) := by decide +kernel
theorem dL_law_1098 : decode cL_law 1098 = .ok (.iload_n 3, 1) := by decide +kernel
theorem dL_law_1099 : decode cL_law 1099 = .ok (.bipush 7, 2) := by decide +kernel
theorem dL_law_1101 : decode cL_law 1101 = .ok (.iadd, 1) := by decide +kernel
theorem dL_law_1102 : decode cL_law 1102 = .ok (.iaload, 1) := by decide +kernel
theorem dL_law_1103 : decode cL_law 1103 = .ok (.aload_n 0, 1) := by decide +kernel
theorem dL_law_1104 : decode cL_law 1104 = .ok (.iload_n 3, 1) := by decide +kernel
theorem dL_law_1105 : decode cL_law 1105 = .ok (.bipush 8, 2) := by decide +kernel
theorem dL_law_1107 : decode cL_law 1107 = .ok (.iadd, 1) := by decide +kernel
theorem dL_law_1108 : decode cL_law 1108 = .ok (.iaload, 1) := by decide +kernel
theorem dL_law_1109 : decode cL_law 1109 = .ok (.invokevirtual 121, 3) := by decide +kernel
theorem dL_law_1112 : decode cL_law 1112 = .ok (.if_icmp .eq 260, 3) := by decide +kernel
theorem dL_law_1115 : decode cL_law 1115 = .ok (.iconst 0, 1) := by decide +kernel
theorem dL_law_1116 : decode cL_law 1116 = .ok (.ireturn, 1) := by decide +kernel
theorem dL_law_1117 : decode cL_law 1117 = .ok (.aload_n 1, 1) := by decide +kernel
theorem dL_law_1118 : decode cL_law 1118 = .ok (.aload_n 0, 1) := by decide +kernel
theorem dL_law_1119 : decode cL_law 1119 = .ok (.iload_n 3, 1) := by decide +kernel
theorem dL_law_1120 : decode cL_law 1120 = .ok (.iconst 1, 1) := by decide +kernel
theorem dL_law_1121 : decode cL_law 1121 = .ok (.iadd, 1) := by decide +kernel
theorem dL_law_1122 : decode cL_law 1122 = .ok (.iaload, 1) := by decide +kernel
theorem dL_law_1123 : decode cL_law 1123 = .ok (.aload_n 0, 1) := by decide +kernel
theorem dL_law_1124 : decode cL_law 1124 = .ok (.iload_n 3, 1) := by decide +kernel
theorem dL_law_1125 : decode cL_law 1125 = .ok (.iconst 2, 1) := by decide +kernel
theorem dL_law_1126 : decode cL_law 1126 = .ok (.iadd, 1) := by decide +kernel
theorem dL_law_1127 : decode cL_law 1127 = .ok (.iaload, 1) := by decide +kernel
theorem dL_law_1128 : decode cL_law 1128 = .ok (.aload_n 0, 1) := by decide +kernel
theorem dL_law_1129 : decode cL_law 1129 = .ok (.iload_n 3, 1) := by decide +kernel
theorem dL_law_1130 : decode cL_law 1130 = .ok (.iconst 3, 1) := by decide +kernel
theorem dL_law_1131 : decode cL_law 1131 = .ok (.iadd, 1) := by decide +kernel
theorem dL_law_1132 : decode cL_law 1132 = .ok (.iaload, 1) := by decide +kernel
theorem dL_law_1133 : decode cL_law 1133 = .ok (.aload_n 0, 1) := by decide +kernel
theorem dL_law_1134 : decode cL_law 1134 = .ok (.iload_n 3, 1) := by decide +kernel
theorem dL_law_1135 : decode cL_law 1135 = .ok (.iconst 4, 1) := by decide +kernel
theorem dL_law_1136 : decode cL_law 1136 = .ok (.iadd, 1) := by decide +kernel
theorem dL_law_1137 : decode cL_law 1137 = .ok (.iaload, 1) := by decide +kernel
theorem dL_law_1138 : decode cL_law 1138 = .ok (.aload_n 0, 1) := by decide +kernel
theorem dL_law_1139 : decode cL_law 1139 = .ok (.iload_n 3, 1) := by decide +kernel
theorem dL_law_1140 : decode cL_law 1140 = .ok (.iconst 5, 1) := by decide +kernel
theorem dL_law_1141 : decode cL_law 1141 = .ok (.iadd, 1) := by decide +kernel
theorem dL_law_1142 : decode cL_law 1142 = .ok (.iaload, 1) := by decide +kernel
theorem dL_law_1143 : decode cL_law 1143 = .ok (.aload_n 0, 1) := by decide +kernel
theorem dL_law_1144 : decode cL_law 1144 = .ok (.iload_n 3, 1) := by decide +kernel
theorem dL_law_1145 : decode cL_law 1145 = .ok (.bipush 6, 2) := by decide +kernel
theorem dL_law_1147 : decode cL_law 1147 = .ok (.iadd, 1) := by decide +kernel
theorem dL_law_1148 : decode cL_law 1148 = .ok (.iaload, 1) := by decide +kernel
theorem dL_law_1149 : decode cL_law 1149 = .ok (.invokevirtual 122, 3) := by decide +kernel
theorem dL_law_1152 : decode cL_law 1152 = .ok (.aload_n 2, 1) := by decide +kernel
theorem dL_law_1153 : decode cL_law 1153 = .ok (.aload_n 0, 1) := by decide +kernel
theorem dL_law_1154 : decode cL_law 1154 = .ok (.iload_n 3, 1) := by decide +kernel
theorem dL_law_1155 : decode cL_law 1155 = .ok (.iconst 1, 1) := by decide +kernel
theorem dL_law_1156 : decode cL_law 1156 = .ok (.iadd, 1) := by decide +kernel
theorem dL_law_1157 : decode cL_law 1157 = .ok (.iaload, 1) := by decide +kernel
theorem dL_law_1158 : decode cL_law 1158 = .ok (.aload_n 0, 1) := by decide +kernel
theorem dL_law_1159 : decode cL_law 1159 = .ok (.iload_n 3, 1) := by decide +kernel
theorem dL_law_1160 : decode cL_law 1160 = .ok (.iconst 2, 1) := by decide +kernel
theorem dL_law_1161 : decode cL_law 1161 = .ok (.iadd, 1) := by decide +kernel
theorem dL_law_1162 : decode cL_law 1162 = .ok (.iaload, 1) := by decide +kernel
theorem dL_law_1163 : decode cL_law 1163 = .ok (.aload_n 0, 1) := by decide +kernel
theorem dL_law_1164 : decode cL_law 1164 = .ok (.iload_n 3, 1) := by decide +kernel
theorem dL_law_1165 : decode cL_law 1165 = .ok (.iconst 3, 1) := by decide +kernel
theorem dL_law_1166 : decode cL_law 1166 = .ok (.iadd, 1) := by decide +kernel
theorem dL_law_1167 : decode cL_law 1167 = .ok (.iaload, 1) := by decide +kernel
theorem dL_law_1168 : decode cL_law 1168 = .ok (.aload_n 0, 1) := by decide +kernel
theorem dL_law_1169 : decode cL_law 1169 = .ok (.iload_n 3, 1) := by decide +kernel
theorem dL_law_1170 : decode cL_law 1170 = .ok (.iconst 4, 1) := by decide +kernel
theorem dL_law_1171 : decode cL_law 1171 = .ok (.iadd, 1) := by decide +kernel
theorem dL_law_1172 : decode cL_law 1172 = .ok (.iaload, 1) := by decide +kernel
theorem dL_law_1173 : decode cL_law 1173 = .ok (.aload_n 0, 1) := by decide +kernel
theorem dL_law_1174 : decode cL_law 1174 = .ok (.iload_n 3, 1) := by decide +kernel
theorem dL_law_1175 : decode cL_law 1175 = .ok (.iconst 5, 1) := by decide +kernel
theorem dL_law_1176 : decode cL_law 1176 = .ok (.iadd, 1) := by decide +kernel
theorem dL_law_1177 : decode cL_law 1177 = .ok (.iaload, 1) := by decide +kernel
theorem dL_law_1178 : decode cL_law 1178 = .ok (.aload_n 0, 1) := by decide +kernel
theorem dL_law_1179 : decode cL_law 1179 = .ok (.iload_n 3, 1) := by decide +kernel
theorem dL_law_1180 : decode cL_law 1180 = .ok (.bipush 6, 2) := by decide +kernel
theorem dL_law_1182 : decode cL_law 1182 = .ok (.iadd, 1) := by decide +kernel
theorem dL_law_1183 : decode cL_law 1183 = .ok (.iaload, 1) := by decide +kernel
theorem dL_law_1184 : decode cL_law 1184 = .ok (.invokevirtual 126, 3) := by decide +kernel
theorem dL_law_1187 : decode cL_law 1187 = .ok (.if_icmp .eq 185, 3) := by decide +kernel
theorem dL_law_1190 : decode cL_law 1190 = .ok (.iconst 0, 1) := by decide +kernel
theorem dL_law_1191 : decode cL_law 1191 = .ok (.ireturn, 1) := by decide +kernel
theorem dL_law_1192 : decode cL_law 1192 = .ok (.aload_n 1, 1) := by decide +kernel
theorem dL_law_1193 : decode cL_law 1193 = .ok (.aload_n 0, 1) := by decide +kernel
theorem dL_law_1194 : decode cL_law 1194 = .ok (.iload_n 3, 1) := by decide +kernel
theorem dL_law_1195 : decode cL_law 1195 = .ok (.iconst 1, 1) := by decide +kernel
theorem dL_law_1196 : decode cL_law 1196 = .ok (.iadd, 1) := by decide +kernel
theorem dL_law_1197 : decode cL_law 1197 = .ok (.iaload, 1) := by decide +kernel
theorem dL_law_1198 : decode cL_law 1198 = .ok (.aload_n 0, 1) := by decide +kernel
theorem dL_law_1199 : decode cL_law 1199 = .ok (.iload_n 3, 1) := by decide +kernel
theorem dL_law_1200 : decode cL_law 1200 = .ok (.iconst 2, 1) := by decide +kernel
theorem dL_law_1201 : decode cL_law 1201 = .ok (.iadd, 1) := by decide +kernel
theorem dL_law_1202 : decode cL_law 1202 = .ok (.iaload, 1) := by decide +kernel
theorem dL_law_1203 : decode cL_law 1203 = .ok (.aload_n 0, 1) := by decide +kernel
theorem dL_law_1204 : decode cL_law 1204 = .ok (.iload_n 3, 1) := by decide +kernel
theorem dL_law_1205 : decode cL_law 1205 = .ok (.iconst 3, 1) := by decide +kernel
theorem dL_law_1206 : decode cL_law 1206 = .ok (.iadd, 1) := by decide +kernel
theorem dL_law_1207 : decode cL_law 1207 = .ok (.iaload, 1) := by decide +kernel
theorem dL_law_1208 : decode cL_law 1208 = .ok (.aload_n 0, 1) := by decide +kernel
theorem dL_law_1209 : decode cL_law 1209 = .ok (.iload_n 3, 1) := by decide +kernel
theorem dL_law_1210 : decode cL_law 1210 = .ok (.iconst 4, 1) := by decide +kernel
theorem dL_law_1211 : decode cL_law 1211 = .ok (.iadd, 1) := by decide +kernel
theorem dL_law_1212 : decode cL_law 1212 = .ok (.iaload, 1) := by decide +kernel
theorem dL_law_1213 : decode cL_law 1213 = .ok (.aload_n 0, 1) := by decide +kernel
theorem dL_law_1214 : decode cL_law 1214 = .ok (.iload_n 3, 1) := by decide +kernel
theorem dL_law_1215 : decode cL_law 1215 = .ok (.iconst 5, 1) := by decide +kernel
theorem dL_law_1216 : decode cL_law 1216 = .ok (.iadd, 1) := by decide +kernel
theorem dL_law_1217 : decode cL_law 1217 = .ok (.iaload, 1) := by decide +kernel
theorem dL_law_1218 : decode cL_law 1218 = .ok (.invokevirtual 127, 3) := by decide +kernel
theorem dL_law_1221 : decode cL_law 1221 = .ok (.aload_n 2, 1) := by decide +kernel
theorem dL_law_1222 : decode cL_law 1222 = .ok (.aload_n 0, 1) := by decide +kernel
theorem dL_law_1223 : decode cL_law 1223 = .ok (.iload_n 3, 1) := by decide +kernel
theorem dL_law_1224 : decode cL_law 1224 = .ok (.iconst 1, 1) := by decide +kernel
theorem dL_law_1225 : decode cL_law 1225 = .ok (.iadd, 1) := by decide +kernel
theorem dL_law_1226 : decode cL_law 1226 = .ok (.iaload, 1) := by decide +kernel
theorem dL_law_1227 : decode cL_law 1227 = .ok (.aload_n 0, 1) := by decide +kernel
theorem dL_law_1228 : decode cL_law 1228 = .ok (.iload_n 3, 1) := by decide +kernel
theorem dL_law_1229 : decode cL_law 1229 = .ok (.iconst 2, 1) := by decide +kernel
theorem dL_law_1230 : decode cL_law 1230 = .ok (.iadd, 1) := by decide +kernel
theorem dL_law_1231 : decode cL_law 1231 = .ok (.iaload, 1) := by decide +kernel
theorem dL_law_1232 : decode cL_law 1232 = .ok (.aload_n 0, 1) := by decide +kernel
theorem dL_law_1233 : decode cL_law 1233 = .ok (.iload_n 3, 1) := by decide +kernel
theorem dL_law_1234 : decode cL_law 1234 = .ok (.iconst 3, 1) := by decide +kernel
theorem dL_law_1235 : decode cL_law 1235 = .ok (.iadd, 1) := by decide +kernel
theorem dL_law_1236 : decode cL_law 1236 = .ok (.iaload, 1) := by decide +kernel
theorem dL_law_1237 : decode cL_law 1237 = .ok (.aload_n 0, 1) := by decide +kernel
theorem dL_law_1238 : decode cL_law 1238 = .ok (.iload_n 3, 1) := by decide +kernel
theorem dL_law_1239 : decode cL_law 1239 = .ok (.iconst 4, 1) := by decide +kernel
theorem dL_law_1240 : decode cL_law 1240 = .ok (.iadd, 1) := by decide +kernel
theorem dL_law_1241 : decode cL_law 1241 = .ok (.iaload, 1) := by decide +kernel
theorem dL_law_1242 : decode cL_law 1242 = .ok (.aload_n 0, 1) := by decide +kernel
theorem dL_law_1243 : decode cL_law 1243 = .ok (.iload_n 3, 1) := by decide +kernel
theorem dL_law_1244 : decode cL_law 1244 = .ok (.iconst 5, 1) := by decide +kernel
theorem dL_law_1245 : decode cL_law 1245 = .ok (.iadd, 1) := by decide +kernel
theorem dL_law_1246 : decode cL_law 1246 = .ok (.iaload, 1) := by decide +kernel
theorem dL_law_1247 : decode cL_law 1247 = .ok (.invokevirtual 131, 3) := by decide +kernel
theorem dL_law_1250 : decode cL_law 1250 = .ok (.lcmp, 1) := by decide +kernel
theorem dL_law_1251 : decode cL_law 1251 = .ok (.ifCond .eq 121, 3) := by decide +kernel
theorem dL_law_1254 : decode cL_law 1254 = .ok (.iconst 0, 1) := by decide +kernel
theorem dL_law_1255 : decode cL_law 1255 = .ok (.ireturn, 1) := by decide +kernel
theorem dL_law_1256 : decode cL_law 1256 = .ok (.aload_n 1, 1) := by decide +kernel
theorem dL_law_1257 : decode cL_law 1257 = .ok (.aload_n 0, 1) := by decide +kernel
theorem dL_law_1258 : decode cL_law 1258 = .ok (.iload_n 3, 1) := by decide +kernel
theorem dL_law_1259 : decode cL_law 1259 = .ok (.iconst 1, 1) := by decide +kernel
theorem dL_law_1260 : decode cL_law 1260 = .ok (.iadd, 1) := by decide +kernel
theorem dL_law_1261 : decode cL_law 1261 = .ok (.iaload, 1) := by decide +kernel
theorem dL_law_1262 : decode cL_law 1262 = .ok (.aload_n 0, 1) := by decide +kernel
theorem dL_law_1263 : decode cL_law 1263 = .ok (.iload_n 3, 1) := by decide +kernel
theorem dL_law_1264 : decode cL_law 1264 = .ok (.iconst 2, 1) := by decide +kernel
theorem dL_law_1265 : decode cL_law 1265 = .ok (.iadd, 1) := by decide +kernel
theorem dL_law_1266 : decode cL_law 1266 = .ok (.iaload, 1) := by decide +kernel
theorem dL_law_1267 : decode cL_law 1267 = .ok (.aload_n 0, 1) := by decide +kernel
theorem dL_law_1268 : decode cL_law 1268 = .ok (.iload_n 3, 1) := by decide +kernel
theorem dL_law_1269 : decode cL_law 1269 = .ok (.iconst 3, 1) := by decide +kernel
theorem dL_law_1270 : decode cL_law 1270 = .ok (.iadd, 1) := by decide +kernel
theorem dL_law_1271 : decode cL_law 1271 = .ok (.iaload, 1) := by decide +kernel
theorem dL_law_1272 : decode cL_law 1272 = .ok (.aload_n 0, 1) := by decide +kernel
theorem dL_law_1273 : decode cL_law 1273 = .ok (.iload_n 3, 1) := by decide +kernel
theorem dL_law_1274 : decode cL_law 1274 = .ok (.iconst 4, 1) := by decide +kernel
theorem dL_law_1275 : decode cL_law 1275 = .ok (.iadd, 1) := by decide +kernel
theorem dL_law_1276 : decode cL_law 1276 = .ok (.iaload, 1) := by decide +kernel
theorem dL_law_1277 : decode cL_law 1277 = .ok (.invokevirtual 132, 3) := by decide +kernel
theorem dL_law_1280 : decode cL_law 1280 = .ok (.aload_n 2, 1) := by decide +kernel
theorem dL_law_1281 : decode cL_law 1281 = .ok (.aload_n 0, 1) := by decide +kernel
theorem dL_law_1282 : decode cL_law 1282 = .ok (.iload_n 3, 1) := by decide +kernel
theorem dL_law_1283 : decode cL_law 1283 = .ok (.iconst 1, 1) := by decide +kernel
theorem dL_law_1284 : decode cL_law 1284 = .ok (.iadd, 1) := by decide +kernel
theorem dL_law_1285 : decode cL_law 1285 = .ok (.iaload, 1) := by decide +kernel
theorem dL_law_1286 : decode cL_law 1286 = .ok (.aload_n 0, 1) := by decide +kernel
theorem dL_law_1287 : decode cL_law 1287 = .ok (.iload_n 3, 1) := by decide +kernel
theorem dL_law_1288 : decode cL_law 1288 = .ok (.iconst 2, 1) := by decide +kernel
theorem dL_law_1289 : decode cL_law 1289 = .ok (.iadd, 1) := by decide +kernel
theorem dL_law_1290 : decode cL_law 1290 = .ok (.iaload, 1) := by decide +kernel
theorem dL_law_1291 : decode cL_law 1291 = .ok (.aload_n 0, 1) := by decide +kernel
theorem dL_law_1292 : decode cL_law 1292 = .ok (.iload_n 3, 1) := by decide +kernel
theorem dL_law_1293 : decode cL_law 1293 = .ok (.iconst 3, 1) := by decide +kernel
theorem dL_law_1294 : decode cL_law 1294 = .ok (.iadd, 1) := by decide +kernel
theorem dL_law_1295 : decode cL_law 1295 = .ok (.iaload, 1) := by decide +kernel
theorem dL_law_1296 : decode cL_law 1296 = .ok (.aload_n 0, 1) := by decide +kernel
theorem dL_law_1297 : decode cL_law 1297 = .ok (.iload_n 3, 1) := by decide +kernel
theorem dL_law_1298 : decode cL_law 1298 = .ok (.iconst 4, 1) := by decide +kernel
theorem dL_law_1299 : decode cL_law 1299 = .ok (.iadd, 1) := by decide +kernel
theorem dL_law_1300 : decode cL_law 1300 = .ok (.iaload, 1) := by decide +kernel
theorem dL_law_1301 : decode cL_law 1301 = .ok (.invokevirtual 135, 3) := by decide +kernel
theorem dL_law_1304 : decode cL_law 1304 = .ok (.if_icmp .eq 68, 3) := by decide +kernel
theorem dL_law_1307 : decode cL_law 1307 = .ok (.iconst 0, 1) := by decide +kernel
theorem dL_law_1308 : decode cL_law 1308 = .ok (.ireturn, 1) := by decide +kernel
theorem dL_law_1309 : decode cL_law 1309 = .ok (.aload_n 1, 1) := by decide +kernel
theorem dL_law_1310 : decode cL_law 1310 = .ok (.invokevirtual 136, 3) := by decide +kernel
theorem dL_law_1313 : decode cL_law 1313 = .ok (.aload_n 2, 1) := by decide +kernel
theorem dL_law_1314 : decode cL_law 1314 = .ok (.invokevirtual 139, 3) := by decide +kernel
theorem dL_law_1317 : decode cL_law 1317 = .ok (.if_icmp .eq 55, 3) := by decide +kernel
theorem dL_law_1320 : decode cL_law 1320 = .ok (.iconst 0, 1) := by decide +kernel
theorem dL_law_1321 : decode cL_law 1321 = .ok (.ireturn, 1) := by decide +kernel
theorem dL_law_1322 : decode cL_law 1322 = .ok (.aload_n 1, 1) := by decide +kernel
theorem dL_law_1323 : decode cL_law 1323 = .ok (.invokevirtual 140, 3) := by decide +kernel
theorem dL_law_1326 : decode cL_law 1326 = .ok (.aload_n 2, 1) := by decide +kernel
theorem dL_law_1327 : decode cL_law 1327 = .ok (.invokevirtual 143, 3) := by decide +kernel
theorem dL_law_1330 : decode cL_law 1330 = .ok (.if_icmp .eq 42, 3) := by decide +kernel
theorem dL_law_1333 : decode cL_law 1333 = .ok (.iconst 0, 1) := by decide +kernel
theorem dL_law_1334 : decode cL_law 1334 = .ok (.ireturn, 1) := by decide +kernel
theorem dL_law_1335 : decode cL_law 1335 = .ok (.aload_n 1, 1) := by decide +kernel
theorem dL_law_1336 : decode cL_law 1336 = .ok (.aload_n 0, 1) := by decide +kernel
theorem dL_law_1337 : decode cL_law 1337 = .ok (.iload_n 3, 1) := by decide +kernel
theorem dL_law_1338 : decode cL_law 1338 = .ok (.iconst 1, 1) := by decide +kernel
theorem dL_law_1339 : decode cL_law 1339 = .ok (.iadd, 1) := by decide +kernel
theorem dL_law_1340 : decode cL_law 1340 = .ok (.iaload, 1) := by decide +kernel
theorem dL_law_1341 : decode cL_law 1341 = .ok (.invokevirtual 144, 3) := by decide +kernel
theorem dL_law_1344 : decode cL_law 1344 = .ok (.aload_n 2, 1) := by decide +kernel
theorem dL_law_1345 : decode cL_law 1345 = .ok (.aload_n 0, 1) := by decide +kernel
theorem dL_law_1346 : decode cL_law 1346 = .ok (.iload_n 3, 1) := by decide +kernel
theorem dL_law_1347 : decode cL_law 1347 = .ok (.iconst 1, 1) := by decide +kernel
theorem dL_law_1348 : decode cL_law 1348 = .ok (.iadd, 1) := by decide +kernel
theorem dL_law_1349 : decode cL_law 1349 = .ok (.iaload, 1) := by decide +kernel
theorem dL_law_1350 : decode cL_law 1350 = .ok (.invokevirtual 147, 3) := by decide +kernel
theorem dL_law_1353 : decode cL_law 1353 = .ok (.if_icmp .eq 19, 3) := by decide +kernel
theorem dL_law_1356 : decode cL_law 1356 = .ok (.iconst 0, 1) := by decide +kernel
theorem dL_law_1357 : decode cL_law 1357 = .ok (.ireturn, 1) := by decide +kernel
theorem dL_law_1358 : decode cL_law 1358 = .ok (.aload_n 1, 1) := by decide +kernel
theorem dL_law_1359 : decode cL_law 1359 = .ok (.invokevirtual 148, 3) := by decide +kernel
theorem dL_law_1362 : decode cL_law 1362 = .ok (.aload_n 2, 1) := by decide +kernel
theorem dL_law_1363 : decode cL_law 1363 = .ok (.invokevirtual 152, 3) := by decide +kernel
theorem dL_law_1366 : decode cL_law 1366 = .ok (.lcmp, 1) := by decide +kernel
theorem dL_law_1367 : decode cL_law 1367 = .ok (.ifCond .eq 5, 3) := by decide +kernel
theorem dL_law_1370 : decode cL_law 1370 = .ok (.iconst 0, 1) := by decide +kernel
theorem dL_law_1371 : decode cL_law 1371 = .ok (.ireturn, 1) := by decide +kernel
theorem dL_law_1372 : decode cL_law 1372 = .ok (.iinc 3 9, 3) := by decide +kernel
theorem dL_law_1375 : decode cL_law 1375 = .ok (.goto (-1357), 3) := by decide +kernel
theorem dL_law_1378 : decode cL_law 1378 = .ok (.iconst 1, 1) := by decide +kernel
theorem dL_law_1379 : decode cL_law 1379 = .ok (.ireturn, 1) := by decide +kernel
end
section
-- ===== the light layer over the kit: a world of 75 cells with fixed references, all numbers in one table S (cell, slot) =====
abbrev St : Type := Nat → Nat → Int32
def sr (S : St) (c : Nat) (f : Nat → Int32) : St := fun d => if d = c then f else S d
def su (S : St) (c k : Nat) (v : Int32) : St := sr S c (upd (S c) k v)
/-- launch, class ids, slots, addresses, int[]'s class, Cart[]'s class, the text's address, its row's address -/
abbrev GA : Type := Launch × (Nat → ClassId) × (Nat → Nat → Nat) × (Nat → Nat) × ClassId × ClassId × Nat × Nat
def gl (Γ : GA) : Launch := Γ.1
def gD (Γ : GA) : va_G := (Γ.2.1, Γ.2.2.1)
def gX (Γ : GA) : Nat → Nat := Γ.2.2.2.1
def gI (Γ : GA) : ClassId := Γ.2.2.2.2.1
def gR (Γ : GA) : ClassId := Γ.2.2.2.2.2.1
def gK (Γ : GA) : Nat := Γ.2.2.2.2.2.2.1
def gV (Γ : GA) : Nat := Γ.2.2.2.2.2.2.2
def gT (Γ : GA) : List (ClassId × FieldType) := [(gI Γ, .int), (gR Γ, .object "CartsDownHill$Cart")]
/-- a long in two slots -/
def hiL (v : Int64) : Int32 := Int32.ofBitVec (v.toBitVec.extractLsb' 32 32)
def loL (v : Int64) : Int32 := Int32.ofBitVec (v.toBitVec.extractLsb' 0 32)
def mkL (a b : Int32) : Int64 := Int64.ofBitVec (a.toBitVec ++ b.toBitVec)
theorem mkL_bv (x : BitVec 64) : (x.extractLsb' 32 32 ++ x.extractLsb' 0 32 : BitVec 64) = x := by
  apply BitVec.eq_of_getLsbD_eq
  intro i hi
  rw [BitVec.getLsbD_append]
  by_cases h : i < 32
  · simp [h, BitVec.getLsbD_extractLsb']
  · have h2 : i - 32 < 32 := by omega
    have h3 : 32 + (i - 32) = i := by omega
    simp [h, BitVec.getLsbD_extractLsb', h2, h3]
theorem mkL_hl (v : Int64) : mkL (hiL v) (loL v) = v := by
  show Int64.ofBitVec (v.toBitVec.extractLsb' 32 32 ++ v.toBitVec.extractLsb' 0 32 : BitVec 64) = v
  rw [mkL_bv]
  rfl
def setL (f : Nat → Int32) (v : Int64) : Nat → Int32 := upd (upd f 100 (hiL v)) 101 (loL v)
def getL (f : Nat → Int32) : Int64 := mkL (f 100) (f 101)
theorem getL_setL (f : Nat → Int32) (v : Int64) : getL (setL f v) = v := by
  unfold getL setL upd
  simp [mkL_hl]
def cellE (Γ : GA) (c : Nat) (f : Nat → Int32) : va_E := match c with
  | 0 => .inr (7, [.ref (gX Γ 1), .ref (gX Γ 3), .ref (gX Γ 8), .ref (gX Γ 33), .ref (gX Γ 37), .ref (gX Γ 44), .ref (gX Γ 51), .ref (gX Γ 53), .ref (gX Γ 54), .int (f 9), .int (f 10)])
  | 1 => .inr (5, [.ref (gX Γ 2), .int (f 1)])
  | 2 => .inl (gI Γ, 50, .inl f)
  | 3 => .inr (3, [.ref (gX Γ 4), .ref (gX Γ 5), .ref (gX Γ 6), .ref (gX Γ 7), .int (f 4), .int (f 5)])
  | 4 => .inl (gI Γ, 12, .inl f)
  | 5 => .inl (gI Γ, 12, .inl f)
  | 6 => .inl (gI Γ, 12, .inl f)
  | 7 => .inl (gI Γ, 12, .inl f)
  | 8 => .inl (gR Γ, 8, .inr (.inr (.inr (.inr (fun i => some (gX Γ (9 + 3 * i)))))))
  | 9 => .inr (1, [.ref (gX Γ 10), .ref (gX Γ 11), .int (f 2), .int (f 3)])
  | 10 => .inl (gI Γ, 5, .inl f)
  | 11 => .inl (gI Γ, 5, .inl f)
  | 12 => .inr (1, [.ref (gX Γ 13), .ref (gX Γ 14), .int (f 2), .int (f 3)])
  | 13 => .inl (gI Γ, 5, .inl f)
  | 14 => .inl (gI Γ, 5, .inl f)
  | 15 => .inr (1, [.ref (gX Γ 16), .ref (gX Γ 17), .int (f 2), .int (f 3)])
  | 16 => .inl (gI Γ, 5, .inl f)
  | 17 => .inl (gI Γ, 5, .inl f)
  | 18 => .inr (1, [.ref (gX Γ 19), .ref (gX Γ 20), .int (f 2), .int (f 3)])
  | 19 => .inl (gI Γ, 5, .inl f)
  | 20 => .inl (gI Γ, 5, .inl f)
  | 21 => .inr (1, [.ref (gX Γ 22), .ref (gX Γ 23), .int (f 2), .int (f 3)])
  | 22 => .inl (gI Γ, 5, .inl f)
  | 23 => .inl (gI Γ, 5, .inl f)
  | 24 => .inr (1, [.ref (gX Γ 25), .ref (gX Γ 26), .int (f 2), .int (f 3)])
  | 25 => .inl (gI Γ, 5, .inl f)
  | 26 => .inl (gI Γ, 5, .inl f)
  | 27 => .inr (1, [.ref (gX Γ 28), .ref (gX Γ 29), .int (f 2), .int (f 3)])
  | 28 => .inl (gI Γ, 5, .inl f)
  | 29 => .inl (gI Γ, 5, .inl f)
  | 30 => .inr (1, [.ref (gX Γ 31), .ref (gX Γ 32), .int (f 2), .int (f 3)])
  | 31 => .inl (gI Γ, 5, .inl f)
  | 32 => .inl (gI Γ, 5, .inl f)
  | 33 => .inr (2, [.ref (gX Γ 34), .ref (gX Γ 35), .ref (gX Γ 36), .int (f 3)])
  | 34 => .inl (gI Γ, 8, .inl f)
  | 35 => .inl (gI Γ, 8, .inl f)
  | 36 => .inl (gI Γ, 8, .inl f)
  | 37 => .inr (4, [.ref (gX Γ 38), .ref (gX Γ 39), .ref (gX Γ 40), .int (f 3), .int (f 4), .int (f 5)])
  | 38 => .inl (gI Γ, 8, .inl f)
  | 39 => .inl (gI Γ, 12, .inl f)
  | 40 => .inr (2, [.ref (gX Γ 41), .ref (gX Γ 42), .ref (gX Γ 43), .int (f 3)])
  | 41 => .inl (gI Γ, 8, .inl f)
  | 42 => .inl (gI Γ, 8, .inl f)
  | 43 => .inl (gI Γ, 8, .inl f)
  | 44 => .inr (6, [.ref (gX Γ 3), .ref (gX Γ 45), .ref (gX Γ 46), .ref (gX Γ 47), .ref (gX Γ 48), .int (f 5), .int (f 6), .int (f 7), .int (f 8), .int (f 9), .int (f 10), .int (f 11), .int (f 12), .ref (gX Γ 49), .ref (gX Γ 50)])
  | 45 => .inl (gI Γ, 5, .inl f)
  | 46 => .inl (gI Γ, 5, .inl f)
  | 47 => .inl (gI Γ, 5, .inl f)
  | 48 => .inl (gI Γ, 12, .inl f)
  | 49 => .inl (gI Γ, 5, .inl f)
  | 50 => .inl (gI Γ, 12, .inl f)
  | 51 => .inr (0, [.int (f 0), .int (f 1), .ref (gX Γ 52)])
  | 52 => .inl (gI Γ, 5, .inl f)
  | 53 => .inl (gI Γ, 4, .inl f)
  | 54 => .inl (gI Γ, 4, .inl f)
  | 55 => .inr (8, [.ref (gX Γ 56), .int (f 1), .int (f 2), .int (f 3), .int (f 4), .ref (gX Γ 57), .int (f 6), .int (f 7), .ref (gX Γ 58), .ref (gX Γ 59), .ref (gX Γ 60), .ref (gX Γ 61), .int (f 12), .ref (gX Γ 62), .ref (gX Γ 63), .ref (gX Γ 64), .int (f 16), .int (f 17), .int (f 18), .ref (gX Γ 65), .ref (gX Γ 66), .ref (gX Γ 67), .int (f 22), .int (f 23), .int (f 24), .int (f 25), .ref (gX Γ 68), .ref (gX Γ 69), .int (f 28), .int (f 29), .ref (gX Γ 70), .ref (gX Γ 71), .int (f 32), .int (f 33), .int (f 34), .int (f 35), .ref (gX Γ 72), .ref (gX Γ 73), .ref (gX Γ 74), .long (getL f)])
  | 56 => .inl (gI Γ, 50, .inl f)
  | 57 => .inl (gI Γ, 36, .inl f)
  | 58 => .inl (gI Γ, 12, .inl f)
  | 59 => .inl (gI Γ, 12, .inl f)
  | 60 => .inl (gI Γ, 12, .inl f)
  | 61 => .inl (gI Γ, 12, .inl f)
  | 62 => .inl (gI Γ, 8, .inl f)
  | 63 => .inl (gI Γ, 8, .inl f)
  | 64 => .inl (gI Γ, 80, .inl f)
  | 65 => .inl (gI Γ, 6, .inl f)
  | 66 => .inl (gI Γ, 6, .inl f)
  | 67 => .inl (gI Γ, 12, .inl f)
  | 68 => .inl (gI Γ, 12, .inl f)
  | 69 => .inl (gI Γ, 6, .inl f)
  | 70 => .inl (gI Γ, 24, .inl f)
  | 71 => .inl (gI Γ, 4, .inl f)
  | 72 => .inl (gI Γ, 12, .inl f)
  | 73 => .inl (gI Γ, 8, .inl f)
  | 74 => .inl (gI Γ, 24, .inl f)
  | _ => .inl (gI Γ, 0, .inl f)
def nC : Nat := 75
def wsOf (Γ : GA) (S : St) : va_W := (List.range nC).map (fun c => (gX Γ c, cellE Γ c (S c)))
theorem ws_get (Γ : GA) (S : St) {c : Nat} (h : c < nC) : (wsOf Γ S)[c]? = some (gX Γ c, cellE Γ c (S c)) := by
  unfold wsOf
  rw [List.getElem?_map, List.getElem?_range h]
  rfl
theorem ws_len (Γ : GA) (S : St) : (wsOf Γ S).length = nC := by simp [wsOf]
theorem ws_inv {Γ : GA} {S : St} {k : Nat} {q : Nat × va_E} (h : (wsOf Γ S)[k]? = some q) : k < nC ∧ q = (gX Γ k, cellE Γ k (S k)) := by
  have hk : k < nC := by
    have := (List.getElem?_eq_some_iff.mp h).1
    rwa [ws_len] at this
  rw [ws_get Γ S hk] at h
  exact ⟨hk, (Option.some.inj h).symm⟩
theorem ws_set (Γ : GA) (S : St) {c : Nat} (_h : c < nC) (f : Nat → Int32) : (wsOf Γ S).set c (gX Γ c, cellE Γ c f) = wsOf Γ (sr S c f) := by
  apply List.ext_getElem?
  intro k
  by_cases hk : k < nC
  · rw [ws_get Γ _ hk]
    by_cases hc : c = k
    · subst hc
      rw [List.getElem?_set_self (by rw [ws_len]; exact hk)]
      simp [sr]
    · rw [List.getElem?_set_ne hc, ws_get Γ S hk]
      simp [sr, Ne.symm hc]
  · rw [List.getElem?_eq_none (by rw [List.length_set, ws_len]; omega), List.getElem?_eq_none (by rw [ws_len]; omega)]
def XI (Γ : GA) : Prop := ∀ i j : Nat, i < nC → j < nC → gX Γ i = gX Γ j → i = j
def AW (Γ : GA) : Nat → Prop := fun q => ∃ c : Nat, c < nC ∧ q = gX Γ c
theorem ws_D {Γ : GA} {A : Nat → Prop} (hX : XI Γ) (hA : ∀ c, c < nC → A (gX Γ c)) (S : St) : va_D A (wsOf Γ S) := by
  refine ⟨fun i j p q hi hj e => ?_, fun k q hk => ?_⟩
  · obtain ⟨h1, rfl⟩ := ws_inv hi
    obtain ⟨h2, rfl⟩ := ws_inv hj
    exact hX i j h1 h2 e
  · obtain ⟨h1, rfl⟩ := ws_inv hk
    exact hA k h1
def isNest : Cond → Bool
  | .fieldLinkNest .. => true
  | .methodLinkNest .. => true
  | _ => false
theorem nest_warm {w : Cond} {s U : State} (h : isNest w = true) (hW : s.WarmedH U.vm) (hZ : va_Nw w s) : va_Nw w U := by
  cases w <;> first | exact va_Nw.warmF hW hZ | exact va_Nw.warmM hW hZ | cases h
theorem nest_same {w : Cond} {s U : State} (h : isNest w = true) (hv : s.vm = U.vm) (hZ : va_Nw w s) : va_Nw w U := by
  cases w <;> first | exact va_Nw.same rfl hv hZ | cases h
/-- the text "lrtaus", and the one static that its methods read -/
def SC (Γ : GA) (A : Nat → Prop) (U : State) (H : Heap) : Prop :=
  vk_R RX5 51 "lrtaus" (gK Γ) U ∧ vk_S 1 [6] [[108, 114, 116, 97, 117, 115]] (fun _ => gK Γ) (fun _ => gV Γ) A U H ∧ va_Z "java/lang/String" "COMPACT_STRINGS" "Z" (.int 1) A U H
theorem SC.warm {Γ : GA} {A : Nat → Prop} {s U : State} {H : Heap} (hW : s.WarmedH U.vm) (h : SC Γ A s H) : SC Γ A U H :=
  ⟨h.1.warm hW, h.2.1.moved hW.alike, h.2.2.moved hW.alike⟩
theorem SC.same {Γ : GA} {A : Nat → Prop} {s U : State} {H : Heap} (hv : U.vm = s.vm) (h : SC Γ A s H) : SC Γ A U H := by
  have ha : s.vm.Alike U.vm := by rw [hv]; exact Vm.Alike.refl _
  exact ⟨h.1.same hv, h.2.1.moved ha, h.2.2.moved ha⟩
theorem SC.kept {Γ : GA} {A : Nat → Prop} {U : State} {H H1 : Heap} (h : SC Γ A U H) (hq : ∀ a : Nat, a < H.size → ¬ A a → H1[a]? = H[a]?) : SC Γ A U H1 :=
  ⟨h.1, h.2.1.kept hq, h.2.2.kept hq⟩
theorem SC.narrow {Γ : GA} {A B : Nat → Prop} {U : State} {H : Heap} (h : SC Γ A U H) (hAB : ∀ q, B q → A q) : SC Γ B U H :=
  ⟨h.1, h.2.1.narrow hAB, h.2.2.narrow hAB⟩
def World (Γ : GA) (S : St) (U : State) : Prop :=
  va_P (gD Γ) vwCl (wsOf Γ S) U.heap ∧ va_K (gD Γ) vwCl (gT Γ) U ∧ XI Γ ∧ SC Γ (AW Γ) U U.heap ∧ ∀ w ∈ lw_tbl, isNest w = true → va_Nw w U
theorem World.calling {Γ : GA} {S : St} {a : Array Value} {U : State} {g : JFrame} {mk : MethodId} (h : World Γ S U) : World Γ S (U.calling g mk a) := by
  obtain ⟨h1, h2, h3, h4, h5⟩ := h
  exact ⟨h1, va_K.moved (u := U) (U := U.calling g mk a) (Vm.Alike.refl U.vm) h2, h3, SC.same (s := U) (U := U.calling g mk a) rfl h4, fun w hw hn => nest_same (s := U) (U := U.calling g mk a) hn rfl (h5 w hw hn)⟩
def WT : List Cond := lw_tbl.filter goodWord
theorem mem_WT {w : Cond} (h : w ∈ lw_tbl) (hg : goodWord w = true) : w ∈ WT := List.mem_filter.mpr ⟨h, hg⟩
def rmd (d : Nat) : Room := { frames := d, cells := 0, slots := 0, locals := 38 * d }
def Qw (Γ : GA) (ov : Option Value) (S' : St) : Array Value → State → Outcome → State → Prop := fun _ st o t => o = .returned ov ∧ World Γ S' t ∧ va_F (AW Γ) st t
def Ct (Γ : GA) (y : MethodName) (bytes : ByteArray) (maxL : Nat) (ret : Option FieldType) (d : Nat) (av : List Value) (S : St) (ov : Option Value) (S' : St) : Prop :=
  Met (gl Γ) y (Cond.code y bytes maxL ret :: WT) (rmd d) (va_Pc av (World Γ S)) (Qw Γ ov S') 0 0 (AW Γ)
/-- contracts: what the pure answer says, the method does -/
def CtI (Γ : GA) (y : MethodName) (bytes : ByteArray) (maxL : Nat) (ret : Option FieldType) (d : Nat) (av : List Value) (S : St) (o : Option (Int32 × St)) : Prop := ∀ r S', o = some (r, S') → Ct Γ y bytes maxL ret d av S (some (.int r)) S'
def CtL (Γ : GA) (y : MethodName) (bytes : ByteArray) (maxL : Nat) (ret : Option FieldType) (d : Nat) (av : List Value) (S : St) (o : Option (Int64 × St)) : Prop := ∀ r S', o = some (r, S') → Ct Γ y bytes maxL ret d av S (some (.long r)) S'
def CtV (Γ : GA) (y : MethodName) (bytes : ByteArray) (maxL : Nat) (ret : Option FieldType) (d : Nat) (av : List Value) (S : St) (o : Option (Unit × St)) : Prop := ∀ r S', o = some (r, S') → Ct Γ y bytes maxL ret d av S none S'
/-- program, env, room, state, method, args, below, meth, code, cells, slots, region -/
abbrev EV : Type := Program × Env × Room × State × MethodId × Array Value × List Frame × Method × Code × Nat × Nat × (Nat → Prop)
def eR (E : EV) : Room := E.2.2.1
def eS (E : EV) : State := E.2.2.2.1
def eM (E : EV) : MethodId := E.2.2.2.2.1
def eA (E : EV) : Array Value := E.2.2.2.2.2.1
def eB (E : EV) : List Frame := E.2.2.2.2.2.2.1
def eMt (E : EV) : Method := E.2.2.2.2.2.2.2.1
def eC (E : EV) : Code := E.2.2.2.2.2.2.2.2.1
def eN (E : EV) : Nat := E.2.2.2.2.2.2.2.2.2.1
def eL (E : EV) : Nat := E.2.2.2.2.2.2.2.2.2.2.1
def eG (E : EV) : Nat → Prop := E.2.2.2.2.2.2.2.2.2.2.2
abbrev WW (Γ : GA) (E : EV) (H : Heap) (locs : List Loc) (Q : State → Prop) (g : JFrame) : Prop := W E.1 (gl Γ) E.2.1 (eR E) (eS E) (eM E) (eA E) (eB E) (eMt E) (eC E) H locs (eN E) (eL E) Q g
/-- what stands throughout a method's body -/
def Cx (Γ : GA) (E : EV) (own : String) (cc : ByteArray) (nL d : Nat) (ret : Option FieldType) : Prop :=
  E.1.tables.exec = Jvm.exec ∧ (eC E).code = cc ∧ (eC E).maxLocals = nL ∧ (eS E).vm.findClass own = some (eM E).cls ∧ (∀ w ∈ WT, w.before (eA E) (eS E) = true) ∧ (∀ w ∈ lw_tbl, isNest w = true → va_Nw w (eS E)) ∧
  va_K (gD Γ) vwCl (gT Γ) (eS E) ∧ XI Γ ∧ SC Γ (eG E) (eS E) (eS E).heap ∧ (∀ c, c < nC → (eG E) (gX Γ c)) ∧ d ≤ (eR E).frames ∧ 38 * d ≤ (eR E).locals ∧ eN E ≤ (eR E).cells ∧ eL E ≤ (eR E).slots ∧ (eMt E).locks = false ∧ (eMt E).sig.returnType = ret
def Mx (Γ : GA) (E : EV) : Prop := eN E = 0 ∧ eL E = 0 ∧ eG E = AW Γ
def G {α : Type} (Γ : GA) (E : EV) (Qf : α → St → State → Prop) (nL pc : Nat) (lv : List (Nat × Value)) (st : List Value) (S : St) (res : Option (α × St)) : Prop :=
  ∀ (H : Heap) (locs : List Loc) (ls : Array Slot), va_P (gD Γ) vwCl (wsOf Γ S) H → va_S (eG E) (eS E).heap H locs → lv_has ls nL lv → ∀ (a : α) (S' : St), res = some (a, S') → WW Γ E H locs (Qf a S') (F0 (eM E) pc ls st)
def QI (Γ : GA) (E : EV) : Int32 → St → State → Prop := fun r S' => MQ (eB E) (Qw Γ (some (.int r)) S') (eA E) (eS E) 0 0 (AW Γ)
def QL (Γ : GA) (E : EV) : Int64 → St → State → Prop := fun r S' => MQ (eB E) (Qw Γ (some (.long r)) S') (eA E) (eS E) 0 0 (AW Γ)
def QV (Γ : GA) (E : EV) : Unit → St → State → Prop := fun _ S' => MQ (eB E) (Qw Γ none S') (eA E) (eS E) 0 0 (AW Γ)
-- the pure words
def grd {β : Type} (b : Bool) (r : Option β) : Option β := if b = true then r else none
def lett {β γ : Type} (v : β) (K : β → Option γ) : Option γ := K v
def bnd {α β : Type} (o : Option (α × St)) (K : α → St → Option β) : Option β := match o with
  | none => none
  | some (r, S) => K r S
def inb (i : Int32) (n : Nat) : Bool := decide (0 ≤ i) && decide (i.toNatClampNeg < n)
def nz (y : Int32) : Bool := !decide (y = 0)
def nzL (y : Int64) : Bool := !decide (y = 0)
def isB (y : Int32) : Bool := decide (y = 0) || decide (y = 1)
theorem inb_in {i : Int32} {n : Nat} (h : inb i n = true) : vp_in i n := by
  unfold inb at h
  simp only [Bool.and_eq_true, decide_eq_true_eq] at h
  rintro (q | q)
  · exact absurd q (Int32.not_lt.mpr h.1)
  · omega
theorem inb_lt {i : Int32} {n : Nat} (h : inb i n = true) : i.toNatClampNeg < n := by
  unfold inb at h
  simp only [Bool.and_eq_true, decide_eq_true_eq] at h
  exact h.2
theorem nz_ne {y : Int32} (h : nz y = true) : ¬ y = 0 := by simpa [nz] using h
theorem nzL_ne {y : Int64} (h : nzL y = true) : ¬ y = 0 := by simpa [nzL] using h
-- facts of cells
def FI (c ci k : Nat) : Prop := c < nC ∧ ∀ (Γ : GA) (f : Nat → Int32), ∃ fs : List Value, cellE Γ c f = .inr (ci, fs) ∧ fs[k]? = some (.int (f k)) ∧ k < fs.length ∧ ∀ v : Int32, cellE Γ c (upd f k v) = .inr (ci, fs.set k (.int v))
def FR (c ci k r : Nat) : Prop := c < nC ∧ ∀ (Γ : GA) (f : Nat → Int32), ∃ fs : List Value, cellE Γ c f = .inr (ci, fs) ∧ fs[k]? = some (.ref (gX Γ r))
def FL (c ci k : Nat) : Prop := c < nC ∧ ∀ (Γ : GA) (f : Nat → Int32), ∃ fs : List Value, cellE Γ c f = .inr (ci, fs) ∧ fs[k]? = some (.long (getL f)) ∧ k < fs.length ∧ ∀ v : Int64, cellE Γ c (setL f v) = .inr (ci, fs.set k (.long v))
def FO (c ci : Nat) : Prop := c < nC ∧ ∀ (Γ : GA) (f : Nat → Int32), ∃ fs : List Value, cellE Γ c f = .inr (ci, fs)
def AI (c n : Nat) : Prop := c < nC ∧ n < 100000 ∧ ∀ (Γ : GA) (f : Nat → Int32), cellE Γ c f = .inl (gI Γ, n, .inl f)
def AQ (c n : Nat) (g : Nat → Nat) : Prop := c < nC ∧ ∀ (Γ : GA) (f : Nat → Int32), cellE Γ c f = .inl (gR Γ, n, .inr (.inr (.inr (.inr (fun i => some (gX Γ (g i)))))))
-- facts of links
def LK (own : String) (idx ci k : Nat) : Prop := ∃ (C : String) (T : u_T) (N : Nat), vwCl[ci]? = some (C, T, N) ∧ k < N ∧ (∀ w ∈ u_ws C T N, w ∈ WT) ∧
  ((Cond.fieldLink own idx (T k).1 (T k).2.1 (T k).2.2.1 ∈ WT) ∨ ∃ host : String, Cond.fieldLinkNest own idx (T k).1 (T k).2.1 (T k).2.2.1 host ∈ lw_tbl)
def LPu (own : String) (idx ci k : Nat) (ty : FieldType) : Prop := ∃ (C : String) (T : u_T) (N : Nat) (ty0 : Nat → FieldType), vwCl[ci]? = some (C, T, N) ∧ k < N ∧ (∀ w ∈ u_ws C T N, w ∈ WT) ∧
  (∀ k, k < N → parseFieldDescriptor (T k).2.2.1 = some (ty0 k)) ∧ (∀ a, a < N → ∀ b, b < N → a ≠ b → (T a).2.1 ≠ (T b).2.1) ∧ (T k).2.2.2 = false ∧ parseFieldDescriptor (T k).2.2.1 = some ty ∧
  ((Cond.fieldLink own idx (T k).1 (T k).2.1 (T k).2.2.1 ∈ WT) ∨ ∃ host : String, Cond.fieldLinkNest own idx (T k).1 (T k).2.1 (T k).2.2.1 host ∈ lw_tbl)
def LM (own : String) (idx : Nat) (y : MethodName) (bytes : ByteArray) (maxL : Nat) (ret : Option FieldType) (n : Nat) : Prop :=
  Cond.code y bytes maxL ret ∈ WT ∧ Cond.initialized y.cls ∈ WT ∧ (y.cls ≠ "java/lang/invoke/MethodHandle" ∧ y.cls ≠ "java/lang/invoke/VarHandle" ∧ (parseMethodDescriptor y.desc).map (fun d => d.parameters.length) = some n) ∧ maxL ≤ 19 ∧
  (Cond.methodLink own idx y ∈ WT ∨ ∃ host : String, Cond.methodLinkNest own idx y host ∈ lw_tbl)
def LVi (own : String) (idx : Nat) (y : MethodName) (bytes : ByteArray) (maxL : Nat) (ret : Option FieldType) (n : Nat) : Prop := LM own idx y bytes maxL ret n ∧ Cond.instanceMethod y ∈ WT ∧ Cond.selects y.cls y y ∈ WT
def LSt (own : String) (idx : Nat) (y : MethodName) (bytes : ByteArray) (maxL : Nat) (ret : Option FieldType) (n : Nat) : Prop := LM own idx y bytes maxL ret n ∧ Cond.static y ∈ WT
end
section
-- ===== the rules of G: a row an instruction =====
theorem g_none {α : Type} {Γ : GA} {E : EV} {Qf : α → St → State → Prop} {nL pc : Nat} {lv : List (Nat × Value)} {st : List Value} {S : St} : G Γ E Qf nL pc lv st S none := by
  intro H locs ls _ _ _ a S' hr
  cases hr
section GR
variable {α : Type} {Γ : GA} {E : EV} {own : String} {cc : ByteArray} {nL d : Nat} {ret : Option FieldType} {Qf : α → St → State → Prop} {pc : Nat} {lv lv' : List (Nat × Value)} {st : List Value} {S : St} {res : Option (α × St)}
theorem Cx.hx (C : Cx Γ E own cc nL d ret) : E.1.tables.exec = Jvm.exec := C.1
theorem Cx.hb (C : Cx Γ E own cc nL d ret) : (eC E).code = cc := C.2.1
theorem Cx.hml (C : Cx Γ E own cc nL d ret) : (eC E).maxLocals = nL := C.2.2.1
theorem Cx.hown (C : Cx Γ E own cc nL d ret) : (eS E).vm.findClass own = some (eM E).cls := C.2.2.2.1
theorem Cx.hts (C : Cx Γ E own cc nL d ret) : ∀ w ∈ WT, w.before (eA E) (eS E) = true := C.2.2.2.2.1
theorem Cx.hnt (C : Cx Γ E own cc nL d ret) : ∀ w ∈ lw_tbl, isNest w = true → va_Nw w (eS E) := C.2.2.2.2.2.1
theorem Cx.hK (C : Cx Γ E own cc nL d ret) : va_K (gD Γ) vwCl (gT Γ) (eS E) := C.2.2.2.2.2.2.1
theorem Cx.hX (C : Cx Γ E own cc nL d ret) : XI Γ := C.2.2.2.2.2.2.2.1
theorem Cx.hSC (C : Cx Γ E own cc nL d ret) : SC Γ (eG E) (eS E) (eS E).heap := C.2.2.2.2.2.2.2.2.1
theorem Cx.hA (C : Cx Γ E own cc nL d ret) : ∀ c, c < nC → (eG E) (gX Γ c) := C.2.2.2.2.2.2.2.2.2.1
theorem Cx.hfr (C : Cx Γ E own cc nL d ret) : d ≤ (eR E).frames := C.2.2.2.2.2.2.2.2.2.2.1
theorem Cx.hlo (C : Cx Γ E own cc nL d ret) : 38 * d ≤ (eR E).locals := C.2.2.2.2.2.2.2.2.2.2.2.1
theorem Cx.hce (C : Cx Γ E own cc nL d ret) : eN E ≤ (eR E).cells := C.2.2.2.2.2.2.2.2.2.2.2.2.1
theorem Cx.hsl (C : Cx Γ E own cc nL d ret) : eL E ≤ (eR E).slots := C.2.2.2.2.2.2.2.2.2.2.2.2.2.1
theorem Cx.hlk (C : Cx Γ E own cc nL d ret) : (eMt E).locks = false := C.2.2.2.2.2.2.2.2.2.2.2.2.2.2.1
theorem Cx.hr (C : Cx Γ E own cc nL d ret) : (eMt E).sig.returnType = ret := C.2.2.2.2.2.2.2.2.2.2.2.2.2.2.2
theorem Cx.hD (C : Cx Γ E own cc nL d ret) (S : St) : va_D (eG E) (wsOf Γ S) := ws_D C.hX C.hA S
/-- fewer locals -/
theorem g_sub (ks : List Nat) (hl : lv_pick lv ks = lv') (k : G Γ E Qf nL pc lv' st S res) : G Γ E Qf nL pc lv st S res :=
  fun H locs ls hP hS h => k H locs ls hP hS (lv_sub h ks hl)
theorem g_pc {pc' : Nat} (hp : pc = pc') (k : G Γ E Qf nL pc' lv st S res) : G Γ E Qf nL pc lv st S res := hp ▸ k
theorem g_grd {b : Bool} (k : b = true → G Γ E Qf nL pc lv st S res) : G Γ E Qf nL pc lv st S (grd b res) := by
  cases b with
  | true => exact k rfl
  | false => exact g_none
theorem g_iconst (C : Cx Γ E own cc nL d ret) {n : Int} {v : Int32} (hd : decode cc pc = .ok (.iconst n, 1)) (hv : Int32.ofInt n = v) (k : G Γ E Qf nL (pc + 1) lv (.int v :: st) S res) : G Γ E Qf nL pc lv st S res :=
  fun H locs ls hP hS h a S' hr => lv_iconst C.hx C.hb hd hv (k H locs ls hP hS h a S' hr)
theorem g_bipush (C : Cx Γ E own cc nL d ret) {n : Int} {v : Int32} (hd : decode cc pc = .ok (.bipush n, 2)) (hv : (Int8.ofInt n).toInt32 = v) (k : G Γ E Qf nL (pc + 2) lv (.int v :: st) S res) : G Γ E Qf nL pc lv st S res :=
  fun H locs ls hP hS h a S' hr => lv_bipush C.hx C.hb hd hv (k H locs ls hP hS h a S' hr)
theorem g_sipush (C : Cx Γ E own cc nL d ret) {n : Int} {v : Int32} (hd : decode cc pc = .ok (.sipush n, 3)) (hv : (Int16.ofInt n).toInt32 = v) (k : G Γ E Qf nL (pc + 3) lv (.int v :: st) S res) : G Γ E Qf nL pc lv st S res :=
  fun H locs ls hP hS h a S' hr => lv_sipush C.hx C.hb hd hv (k H locs ls hP hS h a S' hr)
theorem g_lconst (C : Cx Γ E own cc nL d ret) {n : Fin 2} {v : Int64} (hd : decode cc pc = .ok (.lconst n, 1)) (hv : Int64.ofNat (n : Nat) = v) (k : G Γ E Qf nL (pc + 1) lv (.long v :: st) S res) : G Γ E Qf nL pc lv st S res :=
  fun H locs ls hP hS h a S' hr => lv_lconst C.hx C.hb hd hv (k H locs ls hP hS h a S' hr)
theorem g_ldc (C : Cx Γ E own cc nL d ret) {index : Nat} {v : Int32} (hw : Cond.constant own index v ∈ WT) (hd : decode cc pc = .ok (.ldc index, 2)) (k : G Γ E Qf nL (pc + 2) lv (.int v :: st) S res) : G Γ E Qf nL pc lv st S res :=
  fun H locs ls hP hS h a S' hr => lv_ldc C.hx C.hb C.hown (C.hts _ hw) hd (k H locs ls hP hS h a S' hr)
theorem g_ldcw (C : Cx Γ E own cc nL d ret) {index : Nat} {v : Int32} (hw : Cond.constant own index v ∈ WT) (hd : decode cc pc = .ok (.ldc_w index, 3)) (k : G Γ E Qf nL (pc + 3) lv (.int v :: st) S res) : G Γ E Qf nL pc lv st S res :=
  fun H locs ls hP hS h a S' hr => lv_ldcw C.hx C.hb C.hown (C.hts _ hw) hd (k H locs ls hP hS h a S' hr)
theorem g_ldc2 (C : Cx Γ E own cc nL d ret) {index : Nat} {v : Int64} (hw : Cond.constantLong own index v ∈ WT) (hd : decode cc pc = .ok (.ldc2_w index, 3)) (k : G Γ E Qf nL (pc + 3) lv (.long v :: st) S res) : G Γ E Qf nL pc lv st S res :=
  fun H locs ls hP hS h a S' hr => lv_ldc2 C.hx C.hb C.hown (C.hts _ hw) hd (k H locs ls hP hS h a S' hr)
theorem g_iload_n (C : Cx Γ E own cc nL d ret) {k : Fin 4} {i : Nat} {x : Int32} (hd : decode cc pc = .ok (.iload_n k, 1)) (j : Nat) (hi : (k : Nat) = i) (hj : lv[j]? = some (i, .int x)) (kk : G Γ E Qf nL (pc + 1) lv (.int x :: st) S res) : G Γ E Qf nL pc lv st S res :=
  fun H locs ls hP hS h a S' hr => lv_iload_n C.hx C.hb hd hi (lv_at h j hj) (kk H locs ls hP hS h a S' hr)
theorem g_iload (C : Cx Γ E own cc nL d ret) {i : Nat} {x : Int32} (hd : decode cc pc = .ok (.iload i, 2)) (j : Nat) (hj : lv[j]? = some (i, .int x)) (kk : G Γ E Qf nL (pc + 2) lv (.int x :: st) S res) : G Γ E Qf nL pc lv st S res :=
  fun H locs ls hP hS h a S' hr => lv_iload C.hx C.hb hd (lv_at h j hj) (kk H locs ls hP hS h a S' hr)
theorem g_lload_n (C : Cx Γ E own cc nL d ret) {k : Fin 4} {i : Nat} {x : Int64} (hd : decode cc pc = .ok (.lload_n k, 1)) (j : Nat) (hi : (k : Nat) = i) (hj : lv[j]? = some (i, .long x)) (kk : G Γ E Qf nL (pc + 1) lv (.long x :: st) S res) : G Γ E Qf nL pc lv st S res :=
  fun H locs ls hP hS h a S' hr => lv_lload_n C.hx C.hb hd hi (lv_at h j hj) (kk H locs ls hP hS h a S' hr)
theorem g_lload (C : Cx Γ E own cc nL d ret) {i : Nat} {x : Int64} (hd : decode cc pc = .ok (.lload i, 2)) (j : Nat) (hj : lv[j]? = some (i, .long x)) (kk : G Γ E Qf nL (pc + 2) lv (.long x :: st) S res) : G Γ E Qf nL pc lv st S res :=
  fun H locs ls hP hS h a S' hr => lv_lload C.hx C.hb hd (lv_at h j hj) (kk H locs ls hP hS h a S' hr)
theorem g_aload_n (C : Cx Γ E own cc nL d ret) {k : Fin 4} {i : Nat} {x : Nat} (hd : decode cc pc = .ok (.aload_n k, 1)) (j : Nat) (hi : (k : Nat) = i) (hj : lv[j]? = some (i, .ref x)) (kk : G Γ E Qf nL (pc + 1) lv (.ref x :: st) S res) : G Γ E Qf nL pc lv st S res :=
  fun H locs ls hP hS h a S' hr => lv_aload_n C.hx C.hb hd hi (lv_at h j hj) (kk H locs ls hP hS h a S' hr)
theorem g_istore_n (C : Cx Γ E own cc nL d ret) {k : Fin 4} {i : Nat} {x : Int32} {K : Int32 → Option (α × St)} (hd : decode cc pc = .ok (.istore_n k, 1)) (hi : (k : Nat) = i) (hn : i < nL) (lv' : Int32 → List (Nat × Value)) (hl : ∀ x : Int32, (i, Value.int x) :: lv.filter (fun q => !(q.1 == i) && !(q.1 + 1 == i && q.2.category == 2)) = lv' x) (kk : ∀ x1 : Int32, G Γ E Qf nL (pc + 1) (lv' x1) st S (K x1)) : G Γ E Qf nL pc lv (.int x :: st) S (lett x K) :=
  fun H locs ls hP hS h a S' hr => lv_istore_n C.hx C.hb hd hi h hn (hl x) (fun ls' h' => kk x H locs ls' hP hS h' a S' hr)
theorem g_istore (C : Cx Γ E own cc nL d ret) {i : Nat} {x : Int32} {K : Int32 → Option (α × St)} (hd : decode cc pc = .ok (.istore i, 2)) (hn : i < nL) (lv' : Int32 → List (Nat × Value)) (hl : ∀ x : Int32, (i, Value.int x) :: lv.filter (fun q => !(q.1 == i) && !(q.1 + 1 == i && q.2.category == 2)) = lv' x) (kk : ∀ x1 : Int32, G Γ E Qf nL (pc + 2) (lv' x1) st S (K x1)) : G Γ E Qf nL pc lv (.int x :: st) S (lett x K) :=
  fun H locs ls hP hS h a S' hr => lv_istore C.hx C.hb hd h hn (hl x) (fun ls' h' => kk x H locs ls' hP hS h' a S' hr)
theorem g_lstore_n (C : Cx Γ E own cc nL d ret) {k : Fin 4} {i : Nat} {x : Int64} {K : Int64 → Option (α × St)} (hd : decode cc pc = .ok (.lstore_n k, 1)) (hi : (k : Nat) = i) (hn : i + 1 < nL) (lv' : Int64 → List (Nat × Value)) (hl : ∀ x : Int64, (i, Value.long x) :: lv.filter (fun q => !(q.1 == i) && (!(q.1 == i + 1) && !(q.1 + 1 == i && q.2.category == 2))) = lv' x) (kk : ∀ x1 : Int64, G Γ E Qf nL (pc + 1) (lv' x1) st S (K x1)) : G Γ E Qf nL pc lv (.long x :: st) S (lett x K) :=
  fun H locs ls hP hS h a S' hr => lv_lstore_n C.hx C.hb hd hi h hn (hl x) (fun ls' h' => kk x H locs ls' hP hS h' a S' hr)
theorem g_lstore (C : Cx Γ E own cc nL d ret) {i : Nat} {x : Int64} {K : Int64 → Option (α × St)} (hd : decode cc pc = .ok (.lstore i, 2)) (hn : i + 1 < nL) (lv' : Int64 → List (Nat × Value)) (hl : ∀ x : Int64, (i, Value.long x) :: lv.filter (fun q => !(q.1 == i) && (!(q.1 == i + 1) && !(q.1 + 1 == i && q.2.category == 2))) = lv' x) (kk : ∀ x1 : Int64, G Γ E Qf nL (pc + 2) (lv' x1) st S (K x1)) : G Γ E Qf nL pc lv (.long x :: st) S (lett x K) :=
  fun H locs ls hP hS h a S' hr => lv_lstore C.hx C.hb hd h hn (hl x) (fun ls' h' => kk x H locs ls' hP hS h' a S' hr)
theorem g_iinc (C : Cx Γ E own cc nL d ret) {i : Nat} {n : Int} {x v : Int32} {K : Int32 → Option (α × St)} (hd : decode cc pc = .ok (.iinc i n, 3)) (j : Nat) (hj : lv[j]? = some (i, .int x)) (hv : Int32.ofInt n = v) (hn : i < nL) (lv' : Int32 → List (Nat × Value)) (hl : ∀ x : Int32, (i, Value.int x) :: lv.filter (fun q => !(q.1 == i) && !(q.1 + 1 == i && q.2.category == 2)) = lv' x) (kk : ∀ x1 : Int32, G Γ E Qf nL (pc + 3) (lv' x1) st S (K x1)) : G Γ E Qf nL pc lv st S (lett (x + v) K) :=
  fun H locs ls hP hS h a S' hr => lv_iinc C.hx C.hb hd h hj (by rw [hv]) hn (hl (x + v)) (fun ls' h' => kk (x + v) H locs ls' hP hS h' a S' hr)
theorem g_iadd (C : Cx Γ E own cc nL d ret) {x y : Int32} (hd : decode cc pc = .ok (.iadd, 1)) (k : G Γ E Qf nL (pc + 1) lv (.int (x + y) :: st) S res) : G Γ E Qf nL pc lv (.int y :: .int x :: st) S res :=
  fun H locs ls hP hS h a S' hr => lv_iadd C.hx C.hb hd (k H locs ls hP hS h a S' hr)
theorem g_isub (C : Cx Γ E own cc nL d ret) {x y : Int32} (hd : decode cc pc = .ok (.isub, 1)) (k : G Γ E Qf nL (pc + 1) lv (.int (x - y) :: st) S res) : G Γ E Qf nL pc lv (.int y :: .int x :: st) S res :=
  fun H locs ls hP hS h a S' hr => lv_isub C.hx C.hb hd (k H locs ls hP hS h a S' hr)
theorem g_imul (C : Cx Γ E own cc nL d ret) {x y : Int32} (hd : decode cc pc = .ok (.imul, 1)) (k : G Γ E Qf nL (pc + 1) lv (.int (x * y) :: st) S res) : G Γ E Qf nL pc lv (.int y :: .int x :: st) S res :=
  fun H locs ls hP hS h a S' hr => lv_imul C.hx C.hb hd (k H locs ls hP hS h a S' hr)
theorem g_iand (C : Cx Γ E own cc nL d ret) {x y : Int32} (hd : decode cc pc = .ok (.iand, 1)) (k : G Γ E Qf nL (pc + 1) lv (.int (x &&& y) :: st) S res) : G Γ E Qf nL pc lv (.int y :: .int x :: st) S res :=
  fun H locs ls hP hS h a S' hr => lv_iand C.hx C.hb hd (k H locs ls hP hS h a S' hr)
theorem g_ior (C : Cx Γ E own cc nL d ret) {x y : Int32} (hd : decode cc pc = .ok (.ior, 1)) (k : G Γ E Qf nL (pc + 1) lv (.int (x ||| y) :: st) S res) : G Γ E Qf nL pc lv (.int y :: .int x :: st) S res :=
  fun H locs ls hP hS h a S' hr => lv_ior C.hx C.hb hd (k H locs ls hP hS h a S' hr)
theorem g_ixor (C : Cx Γ E own cc nL d ret) {x y : Int32} (hd : decode cc pc = .ok (.ixor, 1)) (k : G Γ E Qf nL (pc + 1) lv (.int (x ^^^ y) :: st) S res) : G Γ E Qf nL pc lv (.int y :: .int x :: st) S res :=
  fun H locs ls hP hS h a S' hr => lv_ixor C.hx C.hb hd (k H locs ls hP hS h a S' hr)
theorem g_ishl (C : Cx Γ E own cc nL d ret) {x y : Int32} (hd : decode cc pc = .ok (.ishl, 1)) (k : G Γ E Qf nL (pc + 1) lv (.int (x <<< (y &&& 31)) :: st) S res) : G Γ E Qf nL pc lv (.int y :: .int x :: st) S res :=
  fun H locs ls hP hS h a S' hr => lv_ishl C.hx C.hb hd (k H locs ls hP hS h a S' hr)
theorem g_ishr (C : Cx Γ E own cc nL d ret) {x y : Int32} (hd : decode cc pc = .ok (.ishr, 1)) (k : G Γ E Qf nL (pc + 1) lv (.int (x >>> (y &&& 31)) :: st) S res) : G Γ E Qf nL pc lv (.int y :: .int x :: st) S res :=
  fun H locs ls hP hS h a S' hr => lv_ishr C.hx C.hb hd (k H locs ls hP hS h a S' hr)
theorem g_ladd (C : Cx Γ E own cc nL d ret) {x y : Int64} (hd : decode cc pc = .ok (.ladd, 1)) (k : G Γ E Qf nL (pc + 1) lv (.long (x + y) :: st) S res) : G Γ E Qf nL pc lv (.long y :: .long x :: st) S res :=
  fun H locs ls hP hS h a S' hr => lv_ladd C.hx C.hb hd (k H locs ls hP hS h a S' hr)
theorem g_lsub (C : Cx Γ E own cc nL d ret) {x y : Int64} (hd : decode cc pc = .ok (.lsub, 1)) (k : G Γ E Qf nL (pc + 1) lv (.long (x - y) :: st) S res) : G Γ E Qf nL pc lv (.long y :: .long x :: st) S res :=
  fun H locs ls hP hS h a S' hr => lv_lsub C.hx C.hb hd (k H locs ls hP hS h a S' hr)
theorem g_lmul (C : Cx Γ E own cc nL d ret) {x y : Int64} (hd : decode cc pc = .ok (.lmul, 1)) (k : G Γ E Qf nL (pc + 1) lv (.long (x * y) :: st) S res) : G Γ E Qf nL pc lv (.long y :: .long x :: st) S res :=
  fun H locs ls hP hS h a S' hr => lv_lmul C.hx C.hb hd (k H locs ls hP hS h a S' hr)
theorem g_land (C : Cx Γ E own cc nL d ret) {x y : Int64} (hd : decode cc pc = .ok (.land, 1)) (k : G Γ E Qf nL (pc + 1) lv (.long (x &&& y) :: st) S res) : G Γ E Qf nL pc lv (.long y :: .long x :: st) S res :=
  fun H locs ls hP hS h a S' hr => lv_land C.hx C.hb hd (k H locs ls hP hS h a S' hr)
theorem g_lor (C : Cx Γ E own cc nL d ret) {x y : Int64} (hd : decode cc pc = .ok (.lor, 1)) (k : G Γ E Qf nL (pc + 1) lv (.long (x ||| y) :: st) S res) : G Γ E Qf nL pc lv (.long y :: .long x :: st) S res :=
  fun H locs ls hP hS h a S' hr => lv_lor C.hx C.hb hd (k H locs ls hP hS h a S' hr)
theorem g_idiv (C : Cx Γ E own cc nL d ret) {x y : Int32} (hd : decode cc pc = .ok (.idiv, 1)) (k : G Γ E Qf nL (pc + 1) lv (.int (x / y) :: st) S res) : G Γ E Qf nL pc lv (.int y :: .int x :: st) S (grd (nz y) res) :=
  g_grd fun hz H locs ls hP hS h a S' hr => lv_idiv C.hx C.hb hd (nz_ne hz) (k H locs ls hP hS h a S' hr)
theorem g_irem (C : Cx Γ E own cc nL d ret) {x y : Int32} (hd : decode cc pc = .ok (.irem, 1)) (k : G Γ E Qf nL (pc + 1) lv (.int (x - x / y * y) :: st) S res) : G Γ E Qf nL pc lv (.int y :: .int x :: st) S (grd (nz y) res) :=
  g_grd fun hz H locs ls hP hS h a S' hr => lv_irem C.hx C.hb hd (nz_ne hz) (k H locs ls hP hS h a S' hr)
theorem g_ldiv (C : Cx Γ E own cc nL d ret) {x y : Int64} (hd : decode cc pc = .ok (.ldiv, 1)) (k : G Γ E Qf nL (pc + 1) lv (.long (x / y) :: st) S res) : G Γ E Qf nL pc lv (.long y :: .long x :: st) S (grd (nzL y) res) :=
  g_grd fun hz H locs ls hP hS h a S' hr => lv_ldiv C.hx C.hb hd (nzL_ne hz) (k H locs ls hP hS h a S' hr)
theorem g_lrem (C : Cx Γ E own cc nL d ret) {x y : Int64} (hd : decode cc pc = .ok (.lrem, 1)) (k : G Γ E Qf nL (pc + 1) lv (.long (x - x / y * y) :: st) S res) : G Γ E Qf nL pc lv (.long y :: .long x :: st) S (grd (nzL y) res) :=
  g_grd fun hz H locs ls hP hS h a S' hr => lv_lrem C.hx C.hb hd (nzL_ne hz) (k H locs ls hP hS h a S' hr)
theorem g_i2l (C : Cx Γ E own cc nL d ret) {x : Int32} (hd : decode cc pc = .ok (.i2l, 1)) (k : G Γ E Qf nL (pc + 1) lv (.long (x.toInt64) :: st) S res) : G Γ E Qf nL pc lv (.int x :: st) S res :=
  fun H locs ls hP hS h a S' hr => lv_i2l C.hx C.hb hd rfl (k H locs ls hP hS h a S' hr)
theorem g_l2i (C : Cx Γ E own cc nL d ret) {x : Int64} (hd : decode cc pc = .ok (.l2i, 1)) (k : G Γ E Qf nL (pc + 1) lv (.int (x.toInt32) :: st) S res) : G Γ E Qf nL pc lv (.long x :: st) S res :=
  fun H locs ls hP hS h a S' hr => lv_l2i C.hx C.hb hd rfl (k H locs ls hP hS h a S' hr)
theorem g_i2c (C : Cx Γ E own cc nL d ret) {x : Int32} (hd : decode cc pc = .ok (.i2c, 1)) (k : G Γ E Qf nL (pc + 1) lv (.int ((x.toUInt32 % 65536).toInt32) :: st) S res) : G Γ E Qf nL pc lv (.int x :: st) S res :=
  fun H locs ls hP hS h a S' hr => lv_i2c C.hx C.hb hd rfl (k H locs ls hP hS h a S' hr)
theorem g_i2b (C : Cx Γ E own cc nL d ret) {x : Int32} (hd : decode cc pc = .ok (.i2b, 1)) (k : G Γ E Qf nL (pc + 1) lv (.int (x.toInt8.toInt32) :: st) S res) : G Γ E Qf nL pc lv (.int x :: st) S res :=
  fun H locs ls hP hS h a S' hr => lv_i2b C.hx C.hb hd rfl (k H locs ls hP hS h a S' hr)
theorem g_iushr (C : Cx Γ E own cc nL d ret) {x y : Int32} (hd : decode cc pc = .ok (.iushr, 1)) (k : G Γ E Qf nL (pc + 1) lv (.int ((x.toUInt32 >>> (y.toUInt32 &&& Int32.toUInt32 31)).toInt32) :: st) S res) : G Γ E Qf nL pc lv (.int y :: .int x :: st) S res :=
  fun H locs ls hP hS h a S' hr => lv_iushr C.hx C.hb hd rfl (k H locs ls hP hS h a S' hr)
theorem g_lushr (C : Cx Γ E own cc nL d ret) {x : Int64} {y : Int32} (hd : decode cc pc = .ok (.lushr, 1)) (k : G Γ E Qf nL (pc + 1) lv (.long ((x.toUInt64 >>> (y.toInt64.toUInt64 &&& Int64.toUInt64 63)).toInt64) :: st) S res) : G Γ E Qf nL pc lv (.int y :: .long x :: st) S res :=
  fun H locs ls hP hS h a S' hr => lv_lushr C.hx C.hb hd rfl (k H locs ls hP hS h a S' hr)
theorem g_lshl (C : Cx Γ E own cc nL d ret) {x : Int64} {y : Int32} (hd : decode cc pc = .ok (.lshl, 1)) (k : G Γ E Qf nL (pc + 1) lv (.long (x <<< (y.toInt64 &&& 63)) :: st) S res) : G Γ E Qf nL pc lv (.int y :: .long x :: st) S res :=
  fun H locs ls hP hS h a S' hr => lv_lshl C.hx C.hb hd rfl (k H locs ls hP hS h a S' hr)
theorem g_lcmp (C : Cx Γ E own cc nL d ret) {x y : Int64} (hd : decode cc pc = .ok (.lcmp, 1)) (k : G Γ E Qf nL (pc + 1) lv (.int (lg_cmp x y) :: st) S res) : G Γ E Qf nL pc lv (.long y :: .long x :: st) S res :=
  fun H locs ls hP hS h a S' hr => W.lcmp C.hx C.hb hd (k H locs ls hP hS h a S' hr)
theorem g_dup (C : Cx Γ E own cc nL d ret) {va : Value} (hd : decode cc pc = .ok (.dup, 1)) (hc : va.category = 1) (k : G Γ E Qf nL (pc + 1) lv (va :: va :: st) S res) : G Γ E Qf nL pc lv (va :: st) S res :=
  fun H locs ls hP hS h a S' hr => lv_dup C.hx C.hb hd hc (k H locs ls hP hS h a S' hr)
theorem g_dup2 (C : Cx Γ E own cc nL d ret) {va vb : Value} (hd : decode cc pc = .ok (.dup2, 1)) (hc : va.category = 1) (hc2 : vb.category = 1) (k : G Γ E Qf nL (pc + 1) lv (va :: vb :: va :: vb :: st) S res) : G Γ E Qf nL pc lv (va :: vb :: st) S res :=
  fun H locs ls hP hS h a S' hr => lv_dup2_11 C.hx C.hb hd hc hc2 (k H locs ls hP hS h a S' hr)
theorem g_pop (C : Cx Γ E own cc nL d ret) {va : Value} (hd : decode cc pc = .ok (.pop, 1)) (hc : va.category = 1) (k : G Γ E Qf nL (pc + 1) lv st S res) : G Γ E Qf nL pc lv (va :: st) S res :=
  fun H locs ls hP hS h a S' hr => lv_pop C.hx C.hb hd hc (k H locs ls hP hS h a S' hr)
theorem g_goto (C : Cx Γ E own cc nL d ret) {off : Int} (tgt : Nat) (hd : decode cc pc = .ok (.goto off, 3)) (ht : (pc : Int) + off = (tgt : Int)) (k : G Γ E Qf nL tgt lv st S res) : G Γ E Qf nL pc lv st S res :=
  fun H locs ls hP hS h a S' hr => lv_goto C.hx C.hb hd ht (k H locs ls hP hS h a S' hr)
theorem g_icmp_eq (C : Cx Γ E own cc nL d ret) {x y : Int32} {off : Int} (tgt : Nat) {A B : Option (α × St)} (hd : decode cc pc = .ok (.if_icmp .eq off, 3)) (ht : (pc : Int) + off = (tgt : Int)) (kA : G Γ E Qf nL (tgt) lv st S A) (kB : G Γ E Qf nL (pc + 3) lv st S B) : G Γ E Qf nL pc lv (.int y :: .int x :: st) S (if x = y then A else B) :=
  fun H locs ls hP hS h a S' hr => lv_icmp_eq C.hx C.hb hd ht (fun hc => kA H locs ls hP hS h a S' (by rw [if_pos hc] at hr; exact hr)) (fun hc => kB H locs ls hP hS h a S' (by rw [if_neg hc] at hr; exact hr))
theorem g_if_eq (C : Cx Γ E own cc nL d ret) {x : Int32} {off : Int} (tgt : Nat) {A B : Option (α × St)} (hd : decode cc pc = .ok (.ifCond .eq off, 3)) (ht : (pc : Int) + off = (tgt : Int)) (kA : G Γ E Qf nL (tgt) lv st S A) (kB : G Γ E Qf nL (pc + 3) lv st S B) : G Γ E Qf nL pc lv (.int x :: st) S (if x = 0 then A else B) :=
  fun H locs ls hP hS h a S' hr => lv_if_eq C.hx C.hb hd ht (fun hc => kA H locs ls hP hS h a S' (by rw [if_pos hc] at hr; exact hr)) (fun hc => kB H locs ls hP hS h a S' (by rw [if_neg hc] at hr; exact hr))
theorem g_icmp_ne (C : Cx Γ E own cc nL d ret) {x y : Int32} {off : Int} (tgt : Nat) {A B : Option (α × St)} (hd : decode cc pc = .ok (.if_icmp .ne off, 3)) (ht : (pc : Int) + off = (tgt : Int)) (kA : G Γ E Qf nL (pc + 3) lv st S A) (kB : G Γ E Qf nL (tgt) lv st S B) : G Γ E Qf nL pc lv (.int y :: .int x :: st) S (if x = y then A else B) :=
  fun H locs ls hP hS h a S' hr => lv_icmp_ne C.hx C.hb hd ht (fun hc => kB H locs ls hP hS h a S' (by rw [if_neg hc] at hr; exact hr)) (fun hc => kA H locs ls hP hS h a S' (by rw [if_pos hc] at hr; exact hr))
theorem g_if_ne (C : Cx Γ E own cc nL d ret) {x : Int32} {off : Int} (tgt : Nat) {A B : Option (α × St)} (hd : decode cc pc = .ok (.ifCond .ne off, 3)) (ht : (pc : Int) + off = (tgt : Int)) (kA : G Γ E Qf nL (pc + 3) lv st S A) (kB : G Γ E Qf nL (tgt) lv st S B) : G Γ E Qf nL pc lv (.int x :: st) S (if x = 0 then A else B) :=
  fun H locs ls hP hS h a S' hr => lv_if_ne C.hx C.hb hd ht (fun hc => kB H locs ls hP hS h a S' (by rw [if_neg hc] at hr; exact hr)) (fun hc => kA H locs ls hP hS h a S' (by rw [if_pos hc] at hr; exact hr))
theorem g_icmp_lt (C : Cx Γ E own cc nL d ret) {x y : Int32} {off : Int} (tgt : Nat) {A B : Option (α × St)} (hd : decode cc pc = .ok (.if_icmp .lt off, 3)) (ht : (pc : Int) + off = (tgt : Int)) (kA : G Γ E Qf nL (tgt) lv st S A) (kB : G Γ E Qf nL (pc + 3) lv st S B) : G Γ E Qf nL pc lv (.int y :: .int x :: st) S (if x < y then A else B) :=
  fun H locs ls hP hS h a S' hr => lv_icmp_lt C.hx C.hb hd ht (fun hc => kA H locs ls hP hS h a S' (by rw [if_pos hc] at hr; exact hr)) (fun hc => kB H locs ls hP hS h a S' (by rw [if_neg hc] at hr; exact hr))
theorem g_if_lt (C : Cx Γ E own cc nL d ret) {x : Int32} {off : Int} (tgt : Nat) {A B : Option (α × St)} (hd : decode cc pc = .ok (.ifCond .lt off, 3)) (ht : (pc : Int) + off = (tgt : Int)) (kA : G Γ E Qf nL (tgt) lv st S A) (kB : G Γ E Qf nL (pc + 3) lv st S B) : G Γ E Qf nL pc lv (.int x :: st) S (if x < 0 then A else B) :=
  fun H locs ls hP hS h a S' hr => lv_if_lt C.hx C.hb hd ht (fun hc => kA H locs ls hP hS h a S' (by rw [if_pos hc] at hr; exact hr)) (fun hc => kB H locs ls hP hS h a S' (by rw [if_neg hc] at hr; exact hr))
theorem g_icmp_ge (C : Cx Γ E own cc nL d ret) {x y : Int32} {off : Int} (tgt : Nat) {A B : Option (α × St)} (hd : decode cc pc = .ok (.if_icmp .ge off, 3)) (ht : (pc : Int) + off = (tgt : Int)) (kA : G Γ E Qf nL (tgt) lv st S A) (kB : G Γ E Qf nL (pc + 3) lv st S B) : G Γ E Qf nL pc lv (.int y :: .int x :: st) S (if y ≤ x then A else B) :=
  fun H locs ls hP hS h a S' hr => lv_icmp_ge C.hx C.hb hd ht (fun hc => kA H locs ls hP hS h a S' (by rw [if_pos hc] at hr; exact hr)) (fun hc => kB H locs ls hP hS h a S' (by rw [if_neg hc] at hr; exact hr))
theorem g_if_ge (C : Cx Γ E own cc nL d ret) {x : Int32} {off : Int} (tgt : Nat) {A B : Option (α × St)} (hd : decode cc pc = .ok (.ifCond .ge off, 3)) (ht : (pc : Int) + off = (tgt : Int)) (kA : G Γ E Qf nL (tgt) lv st S A) (kB : G Γ E Qf nL (pc + 3) lv st S B) : G Γ E Qf nL pc lv (.int x :: st) S (if 0 ≤ x then A else B) :=
  fun H locs ls hP hS h a S' hr => lv_if_ge C.hx C.hb hd ht (fun hc => kA H locs ls hP hS h a S' (by rw [if_pos hc] at hr; exact hr)) (fun hc => kB H locs ls hP hS h a S' (by rw [if_neg hc] at hr; exact hr))
theorem g_icmp_gt (C : Cx Γ E own cc nL d ret) {x y : Int32} {off : Int} (tgt : Nat) {A B : Option (α × St)} (hd : decode cc pc = .ok (.if_icmp .gt off, 3)) (ht : (pc : Int) + off = (tgt : Int)) (kA : G Γ E Qf nL (tgt) lv st S A) (kB : G Γ E Qf nL (pc + 3) lv st S B) : G Γ E Qf nL pc lv (.int y :: .int x :: st) S (if y < x then A else B) :=
  fun H locs ls hP hS h a S' hr => lv_icmp_gt C.hx C.hb hd ht (fun hc => kA H locs ls hP hS h a S' (by rw [if_pos hc] at hr; exact hr)) (fun hc => kB H locs ls hP hS h a S' (by rw [if_neg hc] at hr; exact hr))
theorem g_if_gt (C : Cx Γ E own cc nL d ret) {x : Int32} {off : Int} (tgt : Nat) {A B : Option (α × St)} (hd : decode cc pc = .ok (.ifCond .gt off, 3)) (ht : (pc : Int) + off = (tgt : Int)) (kA : G Γ E Qf nL (tgt) lv st S A) (kB : G Γ E Qf nL (pc + 3) lv st S B) : G Γ E Qf nL pc lv (.int x :: st) S (if 0 < x then A else B) :=
  fun H locs ls hP hS h a S' hr => lv_if_gt C.hx C.hb hd ht (fun hc => kA H locs ls hP hS h a S' (by rw [if_pos hc] at hr; exact hr)) (fun hc => kB H locs ls hP hS h a S' (by rw [if_neg hc] at hr; exact hr))
theorem g_icmp_le (C : Cx Γ E own cc nL d ret) {x y : Int32} {off : Int} (tgt : Nat) {A B : Option (α × St)} (hd : decode cc pc = .ok (.if_icmp .le off, 3)) (ht : (pc : Int) + off = (tgt : Int)) (kA : G Γ E Qf nL (tgt) lv st S A) (kB : G Γ E Qf nL (pc + 3) lv st S B) : G Γ E Qf nL pc lv (.int y :: .int x :: st) S (if x ≤ y then A else B) :=
  fun H locs ls hP hS h a S' hr => lv_icmp_le C.hx C.hb hd ht (fun hc => kA H locs ls hP hS h a S' (by rw [if_pos hc] at hr; exact hr)) (fun hc => kB H locs ls hP hS h a S' (by rw [if_neg hc] at hr; exact hr))
theorem g_if_le (C : Cx Γ E own cc nL d ret) {x : Int32} {off : Int} (tgt : Nat) {A B : Option (α × St)} (hd : decode cc pc = .ok (.ifCond .le off, 3)) (ht : (pc : Int) + off = (tgt : Int)) (kA : G Γ E Qf nL (tgt) lv st S A) (kB : G Γ E Qf nL (pc + 3) lv st S B) : G Γ E Qf nL pc lv (.int x :: st) S (if x ≤ 0 then A else B) :=
  fun H locs ls hP hS h a S' hr => lv_if_le C.hx C.hb hd ht (fun hc => kA H locs ls hP hS h a S' (by rw [if_pos hc] at hr; exact hr)) (fun hc => kB H locs ls hP hS h a S' (by rw [if_neg hc] at hr; exact hr))
theorem g_getI (C : Cx Γ E own cc nL d ret) {index ci k c : Nat} (hk : LK own index ci k) (hf : FI c ci k) (hd : decode cc pc = .ok (.getfield index, 3)) (kk : G Γ E Qf nL (pc + 3) lv (.int (S c k) :: st) S res) : G Γ E Qf nL pc lv (.ref (gX Γ c) :: st) S res := by
  intro H locs ls hP hS h a S' hr
  obtain ⟨Cn, T, N, h1, h2, h3, h4⟩ := hk
  obtain ⟨hc, hf⟩ := hf
  obtain ⟨fs, f1, f2, -, -⟩ := hf Γ (S c)
  have he := ws_get Γ S hc
  rw [f1] at he
  rcases h4 with h4 | ⟨host, h4⟩
  · exact va_get C.hx C.hb C.hts h3 C.hown C.hK hP c he h1 k h2 (C.hts _ h4) (fun _ h9 => h9) f2 hd (kk H locs ls hP hS h a S' hr)
  · exact va_getN C.hx C.hb C.hts h3 C.hown C.hK hP c he h1 k h2 (va_Nw.use rfl (C.hnt _ h4 rfl)) (fun _ h9 => h9) f2 hd (kk H locs ls hP hS h a S' hr)
theorem g_getL (C : Cx Γ E own cc nL d ret) {index ci k c : Nat} (hk : LK own index ci k) (hf : FL c ci k) (hd : decode cc pc = .ok (.getfield index, 3)) (kk : G Γ E Qf nL (pc + 3) lv (.long (getL (S c)) :: st) S res) : G Γ E Qf nL pc lv (.ref (gX Γ c) :: st) S res := by
  intro H locs ls hP hS h a S' hr
  obtain ⟨Cn, T, N, h1, h2, h3, h4⟩ := hk
  obtain ⟨hc, hf⟩ := hf
  obtain ⟨fs, f1, f2, -, -⟩ := hf Γ (S c)
  have he := ws_get Γ S hc
  rw [f1] at he
  rcases h4 with h4 | ⟨host, h4⟩
  · exact va_get C.hx C.hb C.hts h3 C.hown C.hK hP c he h1 k h2 (C.hts _ h4) (fun _ h9 => h9) f2 hd (kk H locs ls hP hS h a S' hr)
  · exact va_getN C.hx C.hb C.hts h3 C.hown C.hK hP c he h1 k h2 (va_Nw.use rfl (C.hnt _ h4 rfl)) (fun _ h9 => h9) f2 hd (kk H locs ls hP hS h a S' hr)
theorem g_getR (C : Cx Γ E own cc nL d ret) {index ci k c r : Nat} (hk : LK own index ci k) (hf : FR c ci k r) (hd : decode cc pc = .ok (.getfield index, 3)) (kk : G Γ E Qf nL (pc + 3) lv (.ref (gX Γ r) :: st) S res) : G Γ E Qf nL pc lv (.ref (gX Γ c) :: st) S res := by
  intro H locs ls hP hS h a S' hr
  obtain ⟨Cn, T, N, h1, h2, h3, h4⟩ := hk
  obtain ⟨hc, hf⟩ := hf
  obtain ⟨fs, f1, f2⟩ := hf Γ (S c)
  have he := ws_get Γ S hc
  rw [f1] at he
  rcases h4 with h4 | ⟨host, h4⟩
  · exact va_get C.hx C.hb C.hts h3 C.hown C.hK hP c he h1 k h2 (C.hts _ h4) (fun _ h9 => h9) f2 hd (kk H locs ls hP hS h a S' hr)
  · exact va_getN C.hx C.hb C.hts h3 C.hown C.hK hP c he h1 k h2 (va_Nw.use rfl (C.hnt _ h4 rfl)) (fun _ h9 => h9) f2 hd (kk H locs ls hP hS h a S' hr)
theorem g_putI (C : Cx Γ E own cc nL d ret) {index ci k c : Nat} {v : Int32} {K : St → Option (α × St)} (hk : LPu own index ci k .int) (hf : FI c ci k) (hd : decode cc pc = .ok (.putfield index, 3)) (kk : ∀ S1 : St, G Γ E Qf nL (pc + 3) lv st S1 (K S1)) : G Γ E Qf nL pc lv (.int v :: .ref (gX Γ c) :: st) S (lett (su S c k v) K) := by
  intro H locs ls hP hS h a S' hr
  obtain ⟨Cn, T, N, ty0, h1, h2, h3, t1, t2, t3, t4, h4⟩ := hk
  obtain ⟨hc, hf⟩ := hf
  obtain ⟨fs, f1, f2, f3, f4⟩ := hf Γ (S c)
  have he := ws_get Γ S hc
  rw [f1] at he
  have hset : (wsOf Γ S).set c (gX Γ c, .inr (ci, fs.set k (.int v))) = wsOf Γ (su S c k v) := by
    rw [← f4 v, ws_set Γ S hc]; rfl
  rcases h4 with h4 | ⟨host, h4⟩
  · exact va_put C.hx C.hb C.hts h3 ty0 t1 t2 C.hown C.hK hP (C.hD S) hS c he h1 k h2 (C.hts _ h4) (fun _ h9 => h9) t3 t4 rfl rfl f3 hd (fun H1 locs1 hP1 _ hS1 => kk _ H1 locs1 ls (hset ▸ hP1) hS1 h a S' hr)
  · exact va_putN C.hx C.hb C.hts h3 ty0 t1 t2 C.hown C.hK hP (C.hD S) hS c he h1 k h2 (va_Nw.use rfl (C.hnt _ h4 rfl)) (fun _ h9 => h9) t3 t4 rfl rfl f3 hd (fun H1 locs1 hP1 _ hS1 => kk _ H1 locs1 ls (hset ▸ hP1) hS1 h a S' hr)
theorem g_putL (C : Cx Γ E own cc nL d ret) {index ci k c : Nat} {v : Int64} {K : St → Option (α × St)} (hk : LPu own index ci k .long) (hf : FL c ci k) (hd : decode cc pc = .ok (.putfield index, 3)) (kk : ∀ S1 : St, G Γ E Qf nL (pc + 3) lv st S1 (K S1)) : G Γ E Qf nL pc lv (.long v :: .ref (gX Γ c) :: st) S (lett (sr S c (setL (S c) v)) K) := by
  intro H locs ls hP hS h a S' hr
  obtain ⟨Cn, T, N, ty0, h1, h2, h3, t1, t2, t3, t4, h4⟩ := hk
  obtain ⟨hc, hf⟩ := hf
  obtain ⟨fs, f1, f2, f3, f4⟩ := hf Γ (S c)
  have he := ws_get Γ S hc
  rw [f1] at he
  have hset : (wsOf Γ S).set c (gX Γ c, .inr (ci, fs.set k (.long v))) = wsOf Γ (sr S c (setL (S c) v)) := by
    rw [← f4 v, ws_set Γ S hc]
  rcases h4 with h4 | ⟨host, h4⟩
  · exact va_put C.hx C.hb C.hts h3 ty0 t1 t2 C.hown C.hK hP (C.hD S) hS c he h1 k h2 (C.hts _ h4) (fun _ h9 => h9) t3 t4 rfl rfl f3 hd (fun H1 locs1 hP1 _ hS1 => kk _ H1 locs1 ls (hset ▸ hP1) hS1 h a S' hr)
  · exact va_putN C.hx C.hb C.hts h3 ty0 t1 t2 C.hown C.hK hP (C.hD S) hS c he h1 k h2 (va_Nw.use rfl (C.hnt _ h4 rfl)) (fun _ h9 => h9) t3 t4 rfl rfl f3 hd (fun H1 locs1 hP1 _ hS1 => kk _ H1 locs1 ls (hset ▸ hP1) hS1 h a S' hr)
theorem g_iald (C : Cx Γ E own cc nL d ret) {c n : Nat} {i : Int32} (hf : AI c n) (hd : decode cc pc = .ok (.iaload, 1)) (kk : G Γ E Qf nL (pc + 1) lv (.int (S c i.toNatClampNeg) :: st) S res) : G Γ E Qf nL pc lv (.int i :: .ref (gX Γ c) :: st) S (grd (inb i n) res) := by
  refine g_grd fun hi => ?_
  intro H locs ls hP hS h a S' hr
  have he := ws_get Γ S hf.1
  rw [hf.2.2 Γ (S c)] at he
  exact va_iald C.hx C.hb C.hK hP c 0 he rfl (inb_in hi) hd (kk H locs ls hP hS h a S' hr)
theorem g_iast (C : Cx Γ E own cc nL d ret) {c n : Nat} {i x : Int32} {K : St → Option (α × St)} (hf : AI c n) (hd : decode cc pc = .ok (.iastore, 1)) (kk : ∀ S1 : St, G Γ E Qf nL (pc + 1) lv st S1 (K S1)) : G Γ E Qf nL pc lv (.int x :: .int i :: .ref (gX Γ c) :: st) S (grd (inb i n) (lett (su S c i.toNatClampNeg x) K)) := by
  refine g_grd fun hi => ?_
  intro H locs ls hP hS h a S' hr
  have he := ws_get Γ S hf.1
  rw [hf.2.2 Γ (S c)] at he
  have hset : (wsOf Γ S).set c (gX Γ c, .inl (gI Γ, n, .inl (upd (S c) i.toNatClampNeg x))) = wsOf Γ (su S c i.toNatClampNeg x) := by
    rw [← hf.2.2 Γ (upd (S c) i.toNatClampNeg x), ws_set Γ S hf.1]; rfl
  exact va_iast C.hx C.hb C.hK hP (C.hD S) hS c 0 he rfl (inb_in hi) hd (fun H1 locs1 hP1 _ hS1 => kk _ H1 locs1 ls (hset ▸ hP1) hS1 h a S' hr)
theorem g_alen (C : Cx Γ E own cc nL d ret) {c n : Nat} (hf : AI c n) (hd : decode cc pc = .ok (.arraylength, 1)) (kk : G Γ E Qf nL (pc + 1) lv (.int (nI n) :: st) S res) : G Γ E Qf nL pc lv (.ref (gX Γ c) :: st) S res := by
  intro H locs ls hP hS h a S' hr
  have he := ws_get Γ S hf.1
  rw [hf.2.2 Γ (S c)] at he
  exact va_alen C.hx C.hb C.hK hP c 0 he rfl rfl hd (kk H locs ls hP hS h a S' hr)
theorem g_aald (C : Cx Γ E own cc nL d ret) {c n : Nat} {gf : Nat → Nat} {i : Int32} (hf : AQ c n gf) (hd : decode cc pc = .ok (.aaload, 1)) (kk : i.toNatClampNeg < n → G Γ E Qf nL (pc + 1) lv (.ref (gX Γ (gf i.toNatClampNeg)) :: st) S res) : G Γ E Qf nL pc lv (.int i :: .ref (gX Γ c) :: st) S (grd (inb i n) res) := by
  refine g_grd fun hi => ?_
  intro H locs ls hP hS h a S' hr
  have he := ws_get Γ S hf.1
  rw [hf.2 Γ (S c)] at he
  exact va_aldq C.hx C.hb C.hK hP c 1 he rfl (inb_in hi) hd (kk (inb_lt hi) H locs ls hP hS h a S' hr)
/-- System.arraycopy of ints -/
theorem g_copy (C : Cx Γ E own cc nL (d + 1) ret) {c0 n0 c1 n1 index : Nat} {sp dp n : Int32} {K : St → Option (α × St)} (h0 : AI c0 n0) (h1 : AI c1 n1) (hw : Cond.methodLink own index arraycopyName ∈ WT) (hw1 : Cond.native arraycopyName ∈ WT) (hw2 : Cond.static arraycopyName ∈ WT) (hw3 : Cond.initialized "java/lang/System" ∈ WT)
    (q1 : ¬ sp < 0) (q2 : ¬ dp < 0) (q3 : ¬ n < 0) (q4 : sp.toNatClampNeg + n.toNatClampNeg ≤ n0) (q5 : dp.toNatClampNeg + n.toNatClampNeg ≤ n1) (hr0 : (st.map fun v => v.category).sum ≤ 8) (hd : decode cc pc = .ok (.invokestatic index, 3)) (kk : ∀ S1 : St, G Γ E Qf nL (pc + 3) lv st S1 (K S1)) :
    G Γ E Qf nL pc lv (.int n :: .int dp :: .ref (gX Γ c1) :: .int sp :: .ref (gX Γ c0) :: st) S (lett (sr S c1 (va_cpy (S c0) (S c1) sp.toNatClampNeg dp.toNatClampNeg n.toNatClampNeg)) K) := by
  intro H locs ls hP hS h a S' hr
  have he0 := ws_get Γ S h0.1
  rw [h0.2.2 Γ (S c0)] at he0
  have he1 := ws_get Γ S h1.1
  rw [h1.2.2 Γ (S c1)] at he1
  have hset : (wsOf Γ S).set c1 (gX Γ c1, .inl (gI Γ, n1, .inl (va_cpy (S c0) (S c1) sp.toNatClampNeg dp.toNatClampNeg n.toNatClampNeg))) = wsOf Γ (sr S c1 (va_cpy (S c0) (S c1) sp.toNatClampNeg dp.toNatClampNeg n.toNatClampNeg)) := by
    rw [← h1.2.2 Γ, ws_set Γ S h1.1]
  have hlo := C.hlo
  have hfr := C.hfr
  refine va_copyi C.hx C.hb (C.hml.trans h.1.symm) C.hown (C.hts _ hw) (C.hts _ hw1) (C.hts _ hw2) (C.hts _ hw3) C.hK hP (C.hD S) hS c0 c1 0 0 (ty := .int) he0 he1 rfl rfl rfl q1 q2 q3 q4 q5 (fun _ _ => rfl) (by omega) ?_ hd (fun H1 locs1 hP1 _ hS1 => kk _ H1 locs1 ls (hset ▸ hP1) hS1 h a S' hr)
  have : nativeFrameWords "java/lang/System" "arraycopy" 5 + 11 ≤ 30 := by decide +kernel
  omega
theorem g_mmin (C : Cx Γ E own cc nL (d + 1) ret) {index : Nat} {x y : Int32} (hw : Cond.methodLink own index Lib.Math.min.name ∈ WT) (hw1 : Cond.static Lib.Math.min.name ∈ WT) (hw2 : Cond.initialized "java/lang/Math" ∈ WT) (hw3 : Cond.code Lib.Math.min.name Lib.Math.min.code 2 (some .int) ∈ WT) (hr0 : (st.map fun v => v.category).sum ≤ 8) (hd : decode cc pc = .ok (.invokestatic index, 3))
    (kk : G Γ E Qf nL (pc + 3) lv (.int (if y < x then y else x) :: st) S res) : G Γ E Qf nL pc lv (.int y :: .int x :: st) S res := by
  intro H locs ls hP hS h a S' hr
  have hlo := C.hlo
  have hfr := C.hfr
  exact va_mmin C.hx C.hb (C.hml.trans h.1.symm) C.hown (C.hts _ hw) (C.hts _ hw1) (C.hts _ hw2) (C.hts _ hw3) (by omega) (by omega) C.hce C.hsl hd (kk H locs ls hP hS h a S' hr)
theorem g_mmax (C : Cx Γ E own cc nL (d + 1) ret) {index : Nat} {x y : Int32} (hw : Cond.methodLink own index Lib.Math.max.name ∈ WT) (hw1 : Cond.static Lib.Math.max.name ∈ WT) (hw2 : Cond.initialized "java/lang/Math" ∈ WT) (hw3 : Cond.code Lib.Math.max.name Lib.Math.max.code 2 (some .int) ∈ WT) (hr0 : (st.map fun v => v.category).sum ≤ 8) (hd : decode cc pc = .ok (.invokestatic index, 3))
    (kk : G Γ E Qf nL (pc + 3) lv (.int (if x < y then y else x) :: st) S res) : G Γ E Qf nL pc lv (.int y :: .int x :: st) S res := by
  intro H locs ls hP hS h a S' hr
  have hlo := C.hlo
  have hfr := C.hfr
  exact va_mmax C.hx C.hb (C.hml.trans h.1.symm) C.hown (C.hts _ hw) (C.hts _ hw1) (C.hts _ hw2) (C.hts _ hw3) (by omega) (by omega) C.hce C.hsl hd (kk H locs ls hP hS h a S' hr)
theorem g_mabs (C : Cx Γ E own cc nL (d + 1) ret) {index : Nat} {x : Int32} (hw : Cond.methodLink own index Lib.Math.abs.name ∈ WT) (hw1 : Cond.static Lib.Math.abs.name ∈ WT) (hw2 : Cond.initialized "java/lang/Math" ∈ WT) (hw3 : Cond.code Lib.Math.abs.name Lib.Math.abs.code 1 (some .int) ∈ WT) (hr0 : (st.map fun v => v.category).sum ≤ 8) (hd : decode cc pc = .ok (.invokestatic index, 3))
    (kk : G Γ E Qf nL (pc + 3) lv (.int (if 0 ≤ x then x else 0 - x) :: st) S res) : G Γ E Qf nL pc lv (.int x :: st) S res := by
  intro H locs ls hP hS h a S' hr
  have hlo := C.hlo
  have hfr := C.hfr
  exact va_mabs C.hx C.hb (C.hml.trans h.1.symm) C.hown (C.hts _ hw) (C.hts _ hw1) (C.hts _ hw2) (C.hts _ hw3) (by omega) (by omega) C.hce C.hsl hd (kk H locs ls hP hS h a S' hr)
end GR
end
section
-- ===== the ends of a method, its contract out of G, calls, switches =====
theorem wd_of {Γ : GA} {E : EV} {own : String} {cc : ByteArray} {nL d : Nat} {ret : Option FieldType} (C : Cx Γ E own cc nL d ret) {S : St} {H : Heap} {locs : List Loc} {U : State} (hP : va_P (gD Γ) vwCl (wsOf Γ S) H) (hS : va_S (eG E) (eS E).heap H locs) (hU : U.heap = H) (hW : (eS E).WarmedH U.vm) : World Γ S U :=
  ⟨by rw [hU]; exact hP, va_K.moved hW.alike C.hK, C.hX, by rw [hU]; exact ((C.hSC.kept hS.2.1).warm hW).narrow (fun q hq => by obtain ⟨c, h, rfl⟩ := hq; exact C.hA c h), fun w hw hn => nest_warm hn hW (C.hnt w hw hn)⟩
theorem g_iret {Γ : GA} {E : EV} {own : String} {cc : ByteArray} {nL d : Nat} (C : Cx Γ E own cc nL d (some .int)) (M : Mx Γ E) {pc : Nat} {lv : List (Nat × Value)} {S : St} {v : Int32} (hd : decode cc pc = .ok (.ireturn, 1)) : G Γ E (QI Γ E) nL pc lv [.int v] S (some (v, S)) := by
  intro H locs ls hP hS h a S' hr
  cases hr
  have hlk := C.hlk
  show W _ _ _ _ _ _ _ _ _ _ _ _ (eN E) (eL E) _ _
  rw [M.1, M.2.1]
  exact W.iret C.hx C.hb C.hr (fun t ht hW => ⟨rfl, wd_of C hP hS ht hW, by have := hS.F ht; rw [M.2.2] at this; exact this⟩) (fun q hq => by have := hS.2.2 q hq; rw [M.2.2] at this; exact this) hd
theorem narrow_b {v : Int32} (h : isB v = true) : narrow .boolean (.int v) = .int v := by
  unfold isB at h
  simp only [Bool.or_eq_true, decide_eq_true_eq] at h
  rcases h with rfl | rfl <;> rfl
theorem g_zret {Γ : GA} {E : EV} {own : String} {cc : ByteArray} {nL d : Nat} (C : Cx Γ E own cc nL d (some .boolean)) (M : Mx Γ E) {pc : Nat} {lv : List (Nat × Value)} {S : St} {v : Int32} (hd : decode cc pc = .ok (.ireturn, 1)) : G Γ E (QI Γ E) nL pc lv [.int v] S (grd (isB v) (some (v, S))) := by
  refine g_grd fun hb => ?_
  intro H locs ls hP hS h a S' hr
  cases hr
  have hlk := C.hlk
  show W _ _ _ _ _ _ _ _ _ _ _ _ (eN E) (eL E) _ _
  rw [M.1, M.2.1]
  exact W.zret C.hx C.hb C.hr (narrow_b hb) (fun t ht hW => ⟨rfl, wd_of C hP hS ht hW, by have := hS.F ht; rw [M.2.2] at this; exact this⟩) (fun q hq => by have := hS.2.2 q hq; rw [M.2.2] at this; exact this) hd
theorem g_zret1 {Γ : GA} {E : EV} {own : String} {cc : ByteArray} {nL d : Nat} (C : Cx Γ E own cc nL d (some .boolean)) (M : Mx Γ E) {pc : Nat} {lv : List (Nat × Value)} {S : St} {v : Int32} (hv : isB v = true) (hd : decode cc pc = .ok (.ireturn, 1)) : G Γ E (QI Γ E) nL pc lv [.int v] S (some (v, S)) := by
  have h := g_zret C M (lv := lv) (S := S) (v := v) hd
  rw [hv] at h
  exact h
theorem g_lret {Γ : GA} {E : EV} {own : String} {cc : ByteArray} {nL d : Nat} (C : Cx Γ E own cc nL d (some .long)) (M : Mx Γ E) {pc : Nat} {lv : List (Nat × Value)} {S : St} {v : Int64} (hd : decode cc pc = .ok (.lreturn, 1)) : G Γ E (QL Γ E) nL pc lv [.long v] S (some (v, S)) := by
  intro H locs ls hP hS h a S' hr
  cases hr
  have hlk := C.hlk
  show W _ _ _ _ _ _ _ _ _ _ _ _ (eN E) (eL E) _ _
  rw [M.1, M.2.1]
  exact W.lret C.hx C.hb C.hr (fun t ht hW => ⟨rfl, wd_of C hP hS ht hW, by have := hS.F ht; rw [M.2.2] at this; exact this⟩) (fun q hq => by have := hS.2.2 q hq; rw [M.2.2] at this; exact this) hd
theorem g_vret {Γ : GA} {E : EV} {own : String} {cc : ByteArray} {nL d : Nat} (C : Cx Γ E own cc nL d none) (M : Mx Γ E) {pc : Nat} {lv : List (Nat × Value)} {S : St} (hd : decode cc pc = .ok (.return_, 1)) : G Γ E (QV Γ E) nL pc lv [] S (some ((), S)) := by
  intro H locs ls hP hS h a S' hr
  cases hr
  have hlk := C.hlk
  show W _ _ _ _ _ _ _ _ _ _ _ _ (eN E) (eL E) _ _
  rw [M.1, M.2.1]
  exact W.vret C.hx C.hb C.hr (fun t ht hW => ⟨rfl, wd_of C hP hS ht hW, by have := hS.F ht; rw [M.2.2] at this; exact this⟩) (fun q hq => by have := hS.2.2 q hq; rw [M.2.2] at this; exact this) hd
theorem ct_of {Γ : GA} {y : MethodName} {bytes : ByteArray} {maxL : Nat} {ret : Option FieldType} {d : Nat} {av : List Value} {S S' : St} {ov : Option Value} (hp : plainName y.cls = true) (hlen : (lg_sl av).length ≤ maxL)
    (k : ∀ E : EV, Cx Γ E y.cls bytes maxL d ret → Mx Γ E → ∀ ls : Array Slot, lv_has ls maxL (lv_args 0 av) → va_P (gD Γ) vwCl (wsOf Γ S) (eS E).heap → WW Γ E (eS E).heap [] (MQ (eB E) (Qw Γ ov S') (eA E) (eS E) 0 0 (AW Γ)) (F0 (eM E) 0 ls [])) : Ct Γ y bytes maxL ret d av S ov S' := by
  refine Met.ofW (cc := bytes) (maxL := maxL) (ret := ret) hp rfl ?_
  intro p e s m args below meth c s₁ B hml hv
  obtain ⟨rfl, hP, hK, hX, hSC, hN⟩ := hv
  have hts := atoms_spec (ws := Cond.code y bytes maxL ret :: WT) B.pre
  rw [lg_entry_eq]
  exact k (p, e, rmd d, s, m, av.toArray, below, meth, c, 0, 0, AW Γ) ⟨B.exec, B.bytes, hml, findClass_of_methodNamed B.named, fun w hw => hts w (List.mem_cons_of_mem _ hw), hN, hK, hX, hSC, fun c h => ⟨c, h, rfl⟩, Nat.le_refl _, Nat.le_refl _, Nat.le_refl _, Nat.le_refl _, B.notSynchronized, B.returns⟩ ⟨rfl, rfl, rfl⟩ _ (lv_entry av hlen) hP
theorem ctI_of {Γ : GA} {y : MethodName} {bytes : ByteArray} {maxL : Nat} {ret : Option FieldType} {d : Nat} {av : List Value} {S : St} {o : Option (Int32 × St)} (hp : plainName y.cls = true) (hlen : (lg_sl av).length ≤ maxL)
    (k : ∀ E : EV, Cx Γ E y.cls bytes maxL d ret → Mx Γ E → G Γ E (QI Γ E) maxL 0 (lv_args 0 av) [] S o) : CtI Γ y bytes maxL ret d av S o :=
  fun r S' hr => ct_of hp hlen (fun E C M ls h hP => k E C M _ _ ls hP va_S.rf h r S' hr)
theorem ctL_of {Γ : GA} {y : MethodName} {bytes : ByteArray} {maxL : Nat} {ret : Option FieldType} {d : Nat} {av : List Value} {S : St} {o : Option (Int64 × St)} (hp : plainName y.cls = true) (hlen : (lg_sl av).length ≤ maxL)
    (k : ∀ E : EV, Cx Γ E y.cls bytes maxL d ret → Mx Γ E → G Γ E (QL Γ E) maxL 0 (lv_args 0 av) [] S o) : CtL Γ y bytes maxL ret d av S o :=
  fun r S' hr => ct_of hp hlen (fun E C M ls h hP => k E C M _ _ ls hP va_S.rf h r S' hr)
theorem ctV_of {Γ : GA} {y : MethodName} {bytes : ByteArray} {maxL : Nat} {ret : Option FieldType} {d : Nat} {av : List Value} {S : St} {o : Option (Unit × St)} (hp : plainName y.cls = true) (hlen : (lg_sl av).length ≤ maxL)
    (k : ∀ E : EV, Cx Γ E y.cls bytes maxL d ret → Mx Γ E → G Γ E (QV Γ E) maxL 0 (lv_args 0 av) [] S o) : CtV Γ y bytes maxL ret d av S o :=
  fun r S' hr => ct_of hp hlen (fun E C M ls h hP => k E C M _ _ ls hP va_S.rf h r S' hr)
theorem good_all {c : Cond} (h : c ∈ WT) : GoodIn WT (c :: WT) := by
  intro w hw
  have hm : w ∈ WT := by
    rcases List.mem_cons.mp hw with rfl | h1
    · exact h
    · exact h1
  exact ⟨hm, good_of_word (List.mem_filter.mp hm).2⟩
theorem va_callw {p : Program} {l : Launch} {e : Env} {R : Room} {s : State} {m : MethodId} {args : Array Value} {below : List Frame} {meth : Method} {c : Code} {H : Heap} {locs : List Loc} {cells slots : Nat} {Q : State → Prop} {pc : Nat} {ls : Array Slot} {rest st0 : List Value} {a : Array Value} {A0 : Nat → Prop} {H0 : Heap} {Γ : GA} {ov : Option Value} {S' : St}
    (hr : va_Run p l e R s m args below meth c H locs cells slots 0 0 (F0 m pc ls st0) rest (Qw Γ ov S' a) (AW Γ)) (hS : va_S A0 H0 H locs) (hA : ∀ q, AW Γ q → A0 q)
    (kk : ∀ (H1 : Heap) (locs1 : List Loc), va_P (gD Γ) vwCl (wsOf Γ S') H1 → va_S A0 H0 H1 locs1 → W p l e R s m args below meth c H1 locs1 cells slots Q (F0 m (pc + 3) ls (ov.toList ++ rest))) : W p l e R s m args below meth c H locs cells slots Q (F0 m pc ls st0) := by
  intro T hT X
  obtain ⟨v, st₀, t, T', L, h0, X', hL, e1, e2, ⟨hv, hWd, hz, hk⟩, st⟩ := hr T hT X
  cases hv
  rw [h0] at hz hk
  obtain ⟨t2, a1, b1⟩ := kk T'.heap (locs ++ L) (by rw [e1]; exact hWd.1)
    ⟨Nat.le_trans hS.1 (by rw [e1]; exact hz), fun q h1 h2 => by rw [e1, hk q (Nat.lt_of_lt_of_le h1 hS.1) (fun z => h2 (hA q z))]; exact hS.2.1 q h1 h2, fun q hq => by
      rcases List.mem_append.mp hq with h | h
      · exact hS.2.2 q h
      · exact hA _ (hL q h)⟩ T' rfl X'
  exact ⟨t2, st t2 a1, b1⟩
section GC
variable {α : Type} {Γ : GA} {E : EV} {own : String} {cc : ByteArray} {nL d : Nat} {ret : Option FieldType} {Qf : α → St → State → Prop} {pc : Nat} {lv : List (Nat × Value)} {st st0 : List Value} {S : St}
variable {index n maxL dy ci c : Nat} {y : MethodName} {bytes : ByteArray} {yret : Option FieldType} {As : List Value}
theorem g_hA (C : Cx Γ E own cc nL d ret) : ∀ q, AW Γ q → (eG E) q := fun q hq => by obtain ⟨c, h, rfl⟩ := hq; exact C.hA c h
/-- a call of an object's method: what comes behind it -/
theorem g_callV (C : Cx Γ E own cc nL d ret) (L : LVi own index y bytes maxL yret n) (hO : FO c ci) (hcl : (vwCl[ci]?).map (fun q => q.1) = some y.cls) {ov : Option Value} {S1 : St} (hM : Ct Γ y bytes maxL yret dy (.ref (gX Γ c) :: As) S ov S1) (hdd : dy + 1 ≤ d) (hn : As.length = n) (hst : st0 = As.reverse ++ .ref (gX Γ c) :: st) (hr0 : (st.map fun v => v.category).sum ≤ 8)
    (hd : decode cc pc = .ok (.invokevirtual index, 3)) {Q : State → Prop} {H : Heap} {locs : List Loc} {ls : Array Slot} (hP : va_P (gD Γ) vwCl (wsOf Γ S) H) (hS : va_S (eG E) (eS E).heap H locs) (h : lv_has ls nL lv)
    (kk : ∀ (H1 : Heap) (locs1 : List Loc), va_P (gD Γ) vwCl (wsOf Γ S1) H1 → va_S (eG E) (eS E).heap H1 locs1 → WW Γ E H1 locs1 Q (F0 (eM E) (pc + 3) ls (ov.toList ++ st))) : WW Γ E H locs Q (F0 (eM E) pc ls st0) := by
  obtain ⟨⟨l1, l2, l3, l4, l5⟩, l6, l7⟩ := L
  obtain ⟨hc, hO⟩ := hO
  obtain ⟨fs, f1⟩ := hO Γ (S c)
  have he := ws_get Γ S hc
  rw [f1] at he
  have hlo := C.hlo
  have hfr := C.hfr
  obtain ⟨q, hq, hq1⟩ := Option.map_eq_some_iff.mp hcl
  have hrecv := va_recv C.hK hP hq he
  rw [hq1] at hrecv
  have hpre : PreV (eS E) H y.cls (gX Γ c) (va_Pc (.ref (gX Γ c) :: As) (World Γ S)) As := ⟨fun a U g mk q => ⟨q.1, q.2.calling⟩, hrecv, fun U hU hW => ⟨rfl, wd_of C hP hS hU hW⟩⟩
  have hR : (rmd dy).frames + 1 ≤ (eR E).frames ∧ 8 + (maxL + 11) + (rmd dy).locals ≤ (eR E).locals := ⟨Nat.le_trans hdd hfr, by show 8 + (maxL + 11) + 38 * dy ≤ _; omega⟩
  rcases l5 with l5 | ⟨host, l5⟩
  · exact va_callw (va_runV (As := As) (rest := st) (C := y.cls) (n := n) ⟨C.hx, C.hb, C.hml, C.hown, C.hts⟩ hM ⟨callB_of n C.hts (good_all l1) rfl rfl rfl (C.hts _ l2) (C.hts _ l5) l3 hR, C.hts _ l6, C.hts _ l7⟩ hpre rfl hn h.1 hst (lv_room hr0) hd ⟨C.hce, C.hsl⟩) hS (g_hA C) kk
  · exact va_callw (va_runVN (As := As) (rest := st) (C := y.cls) (n := n) ⟨C.hx, C.hb, C.hml, C.hown, C.hts⟩ hM ⟨va_cnB n C.hts (good_all l1) rfl rfl rfl (C.hnt _ l5 rfl) (C.hts _ l2) l3 hR, C.hts _ l6, C.hts _ l7⟩ hpre rfl hn h.1 hst (lv_room hr0) hd ⟨C.hce, C.hsl⟩) hS (g_hA C) kk
theorem g_callS (C : Cx Γ E own cc nL d ret) (L : LSt own index y bytes maxL yret n) {ov : Option Value} {S1 : St} (hM : Ct Γ y bytes maxL yret dy As S ov S1) (hdd : dy + 1 ≤ d) (hn : As.length = n) (hst : st0 = As.reverse ++ st) (hr0 : (st.map fun v => v.category).sum ≤ 8)
    (hd : decode cc pc = .ok (.invokestatic index, 3)) {Q : State → Prop} {H : Heap} {locs : List Loc} {ls : Array Slot} (hP : va_P (gD Γ) vwCl (wsOf Γ S) H) (hS : va_S (eG E) (eS E).heap H locs) (h : lv_has ls nL lv)
    (kk : ∀ (H1 : Heap) (locs1 : List Loc), va_P (gD Γ) vwCl (wsOf Γ S1) H1 → va_S (eG E) (eS E).heap H1 locs1 → WW Γ E H1 locs1 Q (F0 (eM E) (pc + 3) ls (ov.toList ++ st))) : WW Γ E H locs Q (F0 (eM E) pc ls st0) := by
  obtain ⟨⟨l1, l2, l3, l4, l5⟩, l6⟩ := L
  have hlo := C.hlo
  have hfr := C.hfr
  have hpre : PreS (eS E) H (va_Pc As (World Γ S)) As := ⟨fun a U g mk q => ⟨q.1, q.2.calling⟩, fun U hU hW => ⟨rfl, wd_of C hP hS hU hW⟩⟩
  have hR : (rmd dy).frames + 1 ≤ (eR E).frames ∧ 8 + (maxL + 11) + (rmd dy).locals ≤ (eR E).locals := ⟨Nat.le_trans hdd hfr, by show 8 + (maxL + 11) + 38 * dy ≤ _; omega⟩
  rcases l5 with l5 | ⟨host, l5⟩
  · exact va_callw (va_runS (As := As) (rest := st) (n := n) ⟨C.hx, C.hb, C.hml, C.hown, C.hts⟩ hM ⟨callB_of n C.hts (good_all l1) rfl rfl rfl (C.hts _ l2) (C.hts _ l5) l3 hR, C.hts _ l6⟩ hpre rfl hn h.1 hst (lv_room hr0) hd ⟨C.hce, C.hsl⟩) hS (g_hA C) kk
  · exact va_callw (va_runSN (As := As) (rest := st) (n := n) ⟨C.hx, C.hb, C.hml, C.hown, C.hts⟩ hM ⟨va_cnB n C.hts (good_all l1) rfl rfl rfl (C.hnt _ l5 rfl) (C.hts _ l2) l3 hR, C.hts _ l6, trivial⟩ hpre rfl hn h.1 hst (lv_room hr0) hd ⟨C.hce, C.hsl⟩) hS (g_hA C) kk
theorem g_callVI (C : Cx Γ E own cc nL d ret) (L : LVi own index y bytes maxL yret n) (hO : FO c ci) (hcl : (vwCl[ci]?).map (fun q => q.1) = some y.cls) {o : Option (Int32 × St)} {K : Int32 → St → Option (α × St)} (hM : CtI Γ y bytes maxL yret dy (.ref (gX Γ c) :: As) S o) (hdd : dy + 1 ≤ d) (hn : As.length = n) (hst : st0 = As.reverse ++ .ref (gX Γ c) :: st) (hr0 : (st.map fun v => v.category).sum ≤ 8)
    (hd : decode cc pc = .ok (.invokevirtual index, 3)) (kk : ∀ (r : Int32) (S1 : St), G Γ E Qf nL (pc + 3) lv (.int r :: st) S1 (K r S1)) : G Γ E Qf nL pc lv st0 S (bnd o K) := by
  intro H locs ls hP hS h a S' hr
  cases o with
  | none => cases hr
  | some q =>
    obtain ⟨r, S1⟩ := q
    exact g_callV C L hO hcl (hM r S1 rfl) hdd hn hst hr0 hd hP hS h (fun H1 locs1 hP1 hS1 => kk r S1 H1 locs1 ls hP1 hS1 h a S' hr)
theorem g_callSI (C : Cx Γ E own cc nL d ret) (L : LSt own index y bytes maxL yret n) {o : Option (Int32 × St)} {K : Int32 → St → Option (α × St)} (hM : CtI Γ y bytes maxL yret dy As S o) (hdd : dy + 1 ≤ d) (hn : As.length = n) (hst : st0 = As.reverse ++ st) (hr0 : (st.map fun v => v.category).sum ≤ 8)
    (hd : decode cc pc = .ok (.invokestatic index, 3)) (kk : ∀ (r : Int32) (S1 : St), G Γ E Qf nL (pc + 3) lv (.int r :: st) S1 (K r S1)) : G Γ E Qf nL pc lv st0 S (bnd o K) := by
  intro H locs ls hP hS h a S' hr
  cases o with
  | none => cases hr
  | some q =>
    obtain ⟨r, S1⟩ := q
    exact g_callS C L (hM r S1 rfl) hdd hn hst hr0 hd hP hS h (fun H1 locs1 hP1 hS1 => kk r S1 H1 locs1 ls hP1 hS1 h a S' hr)
theorem g_callVL (C : Cx Γ E own cc nL d ret) (L : LVi own index y bytes maxL yret n) (hO : FO c ci) (hcl : (vwCl[ci]?).map (fun q => q.1) = some y.cls) {o : Option (Int64 × St)} {K : Int64 → St → Option (α × St)} (hM : CtL Γ y bytes maxL yret dy (.ref (gX Γ c) :: As) S o) (hdd : dy + 1 ≤ d) (hn : As.length = n) (hst : st0 = As.reverse ++ .ref (gX Γ c) :: st) (hr0 : (st.map fun v => v.category).sum ≤ 8)
    (hd : decode cc pc = .ok (.invokevirtual index, 3)) (kk : ∀ (r : Int64) (S1 : St), G Γ E Qf nL (pc + 3) lv (.long r :: st) S1 (K r S1)) : G Γ E Qf nL pc lv st0 S (bnd o K) := by
  intro H locs ls hP hS h a S' hr
  cases o with
  | none => cases hr
  | some q =>
    obtain ⟨r, S1⟩ := q
    exact g_callV C L hO hcl (hM r S1 rfl) hdd hn hst hr0 hd hP hS h (fun H1 locs1 hP1 hS1 => kk r S1 H1 locs1 ls hP1 hS1 h a S' hr)
theorem g_callSL (C : Cx Γ E own cc nL d ret) (L : LSt own index y bytes maxL yret n) {o : Option (Int64 × St)} {K : Int64 → St → Option (α × St)} (hM : CtL Γ y bytes maxL yret dy As S o) (hdd : dy + 1 ≤ d) (hn : As.length = n) (hst : st0 = As.reverse ++ st) (hr0 : (st.map fun v => v.category).sum ≤ 8)
    (hd : decode cc pc = .ok (.invokestatic index, 3)) (kk : ∀ (r : Int64) (S1 : St), G Γ E Qf nL (pc + 3) lv (.long r :: st) S1 (K r S1)) : G Γ E Qf nL pc lv st0 S (bnd o K) := by
  intro H locs ls hP hS h a S' hr
  cases o with
  | none => cases hr
  | some q =>
    obtain ⟨r, S1⟩ := q
    exact g_callS C L (hM r S1 rfl) hdd hn hst hr0 hd hP hS h (fun H1 locs1 hP1 hS1 => kk r S1 H1 locs1 ls hP1 hS1 h a S' hr)
theorem g_callVV (C : Cx Γ E own cc nL d ret) (L : LVi own index y bytes maxL yret n) (hO : FO c ci) (hcl : (vwCl[ci]?).map (fun q => q.1) = some y.cls) {o : Option (Unit × St)} {K : Unit → St → Option (α × St)} (hM : CtV Γ y bytes maxL yret dy (.ref (gX Γ c) :: As) S o) (hdd : dy + 1 ≤ d) (hn : As.length = n) (hst : st0 = As.reverse ++ .ref (gX Γ c) :: st) (hr0 : (st.map fun v => v.category).sum ≤ 8)
    (hd : decode cc pc = .ok (.invokevirtual index, 3)) (kk : ∀ (r : Unit) (S1 : St), G Γ E Qf nL (pc + 3) lv (st) S1 (K r S1)) : G Γ E Qf nL pc lv st0 S (bnd o K) := by
  intro H locs ls hP hS h a S' hr
  cases o with
  | none => cases hr
  | some q =>
    obtain ⟨r, S1⟩ := q
    exact g_callV C L hO hcl (hM r S1 rfl) hdd hn hst hr0 hd hP hS h (fun H1 locs1 hP1 hS1 => kk r S1 H1 locs1 ls hP1 hS1 h a S' hr)
theorem g_callSV (C : Cx Γ E own cc nL d ret) (L : LSt own index y bytes maxL yret n) {o : Option (Unit × St)} {K : Unit → St → Option (α × St)} (hM : CtV Γ y bytes maxL yret dy As S o) (hdd : dy + 1 ≤ d) (hn : As.length = n) (hst : st0 = As.reverse ++ st) (hr0 : (st.map fun v => v.category).sum ≤ 8)
    (hd : decode cc pc = .ok (.invokestatic index, 3)) (kk : ∀ (r : Unit) (S1 : St), G Γ E Qf nL (pc + 3) lv (st) S1 (K r S1)) : G Γ E Qf nL pc lv st0 S (bnd o K) := by
  intro H locs ls hP hS h a S' hr
  cases o with
  | none => cases hr
  | some q =>
    obtain ⟨r, S1⟩ := q
    exact g_callS C L (hM r S1 rfl) hdd hn hst hr0 hd hP hS h (fun H1 locs1 hP1 hS1 => kk r S1 H1 locs1 ls hP1 hS1 h a S' hr)
/-- tableswitch: a key more -/
theorem g_tsw {res A B : Option (α × St)} (C : Cx Γ E own cc nL d ret) {dflt lo hi off : Int} {offs : Array Int} {len : Nat} {x : Int32} (key : Int32) (tgt j : Nat) (hd : decode cc pc = .ok (.tableswitch dflt lo hi offs, len)) (hP0 : ¬ (lo ≤ x.toInt ∧ x.toInt < key.toInt)) (hk : lo ≤ key.toInt ∧ key.toInt ≤ hi ∧ (key.toInt - lo).toNat = j) (ho : offs[j]? = some off) (ht : (pc : Int) + off = (tgt : Int))
    (kA : G Γ E Qf nL tgt lv st S A) (kB : ¬ (lo ≤ x.toInt ∧ x.toInt < key.toInt + 1) → G Γ E Qf nL pc lv (.int x :: st) S B) : G Γ E Qf nL pc lv (.int x :: st) S (if x = key then A else B) := by
  by_cases hx : x = key
  · subst hx
    rw [if_pos rfl]
    intro H locs ls hP hS h a S' hr
    exact lv_tableIn C.hx C.hb hd (by omega) (by omega) (by rw [hk.2.2]; exact ho) ht (kA H locs ls hP hS h a S' hr)
  · rw [if_neg hx]
    refine kB (fun hh => ?_)
    have : x.toInt ≠ key.toInt := fun e => hx (Int32.toInt_inj.mp e)
    omega
theorem g_tsd {res : Option (α × St)} (C : Cx Γ E own cc nL d ret) {dflt lo hi : Int} {offs : Array Int} {len : Nat} {x : Int32} {k : Int} (tgt : Nat) (hd : decode cc pc = .ok (.tableswitch dflt lo hi offs, len)) (hP0 : ¬ (lo ≤ x.toInt ∧ x.toInt < k + 1)) (hk : hi = k) (ht : (pc : Int) + dflt = (tgt : Int))
    (kA : G Γ E Qf nL tgt lv st S res) : G Γ E Qf nL pc lv (.int x :: st) S res := by
  intro H locs ls hP hS h a S' hr
  exact lv_tableOut C.hx C.hb hd (by omega) ht (kA H locs ls hP hS h a S' hr)
/-- lookupswitch: a key more, with what was passed by -/
theorem g_lsw {A B : Option (α × St)} (C : Cx Γ E own cc nL d ret) {dflt off : Int} {ps : Array (Int × Int)} {len : Nat} {x : Int32} (key : Int32) (tgt : Nat) (hd : decode cc pc = .ok (.lookupswitch dflt ps, len)) (hp : (ps.toList.zip (ps.toList.drop 1)).all (fun (a, next) => a.1 < next.1) = true) (ho : Op.lookupswitch.offset ps.toList dflt key.toInt = off) (ht : (pc : Int) + off = (tgt : Int))
    (kA : G Γ E Qf nL tgt lv st S A) (kB : ¬ x = key → G Γ E Qf nL pc lv (.int x :: st) S B) : G Γ E Qf nL pc lv (.int x :: st) S (if x = key then A else B) := by
  by_cases hx : x = key
  · subst hx
    rw [if_pos rfl]
    intro H locs ls hP hS h a S' hr
    exact lv_lookup C.hx C.hb hd hp ho ht (kA H locs ls hP hS h a S' hr)
  · rw [if_neg hx]
    exact kB hx
theorem g_lsd {res : Option (α × St)} (C : Cx Γ E own cc nL d ret) {dflt : Int} {ps : Array (Int × Int)} {len : Nat} {x : Int32} (tgt : Nat) (hd : decode cc pc = .ok (.lookupswitch dflt ps, len)) (hp : (ps.toList.zip (ps.toList.drop 1)).all (fun (a, next) => a.1 < next.1) = true) (ho : Op.lookupswitch.offset ps.toList dflt x.toInt = dflt) (ht : (pc : Int) + dflt = (tgt : Int))
    (kA : G Γ E Qf nL tgt lv st S res) : G Γ E Qf nL pc lv (.int x :: st) S res := by
  intro H locs ls hP hS h a S' hr
  exact lv_lookup C.hx C.hb hd hp ho ht (kA H locs ls hP hS h a S' hr)
end GC
def FU : Nat := 100000
end
section
theorem zz_last : True := trivial
end
