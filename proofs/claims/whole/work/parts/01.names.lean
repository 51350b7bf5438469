-- ===== PART A: goes FIRST, ahead of the names: the tables' words, and 'selects' of the private methods out of them =====
/-- a private method of a class that the tables say can be made, by its rows of tables_1 -/
def lw_okq (q : MethodName × Nat) : Prop := (q.1.cls ≠ "java/lang/invoke/MethodHandle" ∧ q.1.cls ≠ "java/lang/invoke/VarHandle") ∧ Cond.instantiable q.1.cls q.2 ∈ tables_1 ∧ Cond.privateMethod q.1 ∈ tables_1 ∧ Cond.instanceMethod q.1 ∈ tables_1
theorem lw_p0 : lw_okq (⟨"CartsDownHill$Page", "put", "(I)V"⟩, 2) := ⟨⟨by decide +kernel, by decide +kernel⟩, List.mem_of_getElem? (i := 28) (by decide +kernel), List.mem_of_getElem? (i := 287) (by decide +kernel), List.mem_of_getElem? (i := 288) (by decide +kernel)⟩
theorem lw_p1 : lw_okq (⟨"CartsDownHill$Page", "hillFault", "()I"⟩, 2) := ⟨⟨by decide +kernel, by decide +kernel⟩, List.mem_of_getElem? (i := 28) (by decide +kernel), List.mem_of_getElem? (i := 299) (by decide +kernel), List.mem_of_getElem? (i := 300) (by decide +kernel)⟩
theorem lw_p2 : lw_okq (⟨"CartsDownHill$Page", "fitsHill", "(IZ)Z"⟩, 2) := ⟨⟨by decide +kernel, by decide +kernel⟩, List.mem_of_getElem? (i := 28) (by decide +kernel), List.mem_of_getElem? (i := 303) (by decide +kernel), List.mem_of_getElem? (i := 304) (by decide +kernel)⟩
theorem lw_p3 : lw_okq (⟨"CartsDownHill$Page", "at", "(I)I"⟩, 2) := ⟨⟨by decide +kernel, by decide +kernel⟩, List.mem_of_getElem? (i := 28) (by decide +kernel), List.mem_of_getElem? (i := 307) (by decide +kernel), List.mem_of_getElem? (i := 308) (by decide +kernel)⟩
theorem lw_p4 : lw_okq (⟨"CartsDownHill$Page", "isDigit", "(II)Z"⟩, 2) := ⟨⟨by decide +kernel, by decide +kernel⟩, List.mem_of_getElem? (i := 28) (by decide +kernel), List.mem_of_getElem? (i := 311) (by decide +kernel), List.mem_of_getElem? (i := 312) (by decide +kernel)⟩
theorem lw_p5 : lw_okq (⟨"CartsDownHill$Page", "digitAt", "(I)I"⟩, 2) := ⟨⟨by decide +kernel, by decide +kernel⟩, List.mem_of_getElem? (i := 28) (by decide +kernel), List.mem_of_getElem? (i := 315) (by decide +kernel), List.mem_of_getElem? (i := 316) (by decide +kernel)⟩
theorem lw_p6 : lw_okq (⟨"CartsDownHill$Page", "cartFault", "()I"⟩, 2) := ⟨⟨by decide +kernel, by decide +kernel⟩, List.mem_of_getElem? (i := 28) (by decide +kernel), List.mem_of_getElem? (i := 319) (by decide +kernel), List.mem_of_getElem? (i := 320) (by decide +kernel)⟩
theorem lw_p7 : lw_okq (⟨"CartsDownHill$Page", "fitsCart", "(I)Z"⟩, 2) := ⟨⟨by decide +kernel, by decide +kernel⟩, List.mem_of_getElem? (i := 28) (by decide +kernel), List.mem_of_getElem? (i := 323) (by decide +kernel), List.mem_of_getElem? (i := 324) (by decide +kernel)⟩
theorem lw_p8 : lw_okq (⟨"CartsDownHill$Page", "kindAt", "(I)I"⟩, 2) := ⟨⟨by decide +kernel, by decide +kernel⟩, List.mem_of_getElem? (i := 28) (by decide +kernel), List.mem_of_getElem? (i := 327) (by decide +kernel), List.mem_of_getElem? (i := 328) (by decide +kernel)⟩
theorem lw_p9 : lw_okq (⟨"CartsDownHill$Page", "isHill", "()Z"⟩, 2) := ⟨⟨by decide +kernel, by decide +kernel⟩, List.mem_of_getElem? (i := 28) (by decide +kernel), List.mem_of_getElem? (i := 423) (by decide +kernel), List.mem_of_getElem? (i := 424) (by decide +kernel)⟩
theorem lw_p10 : lw_okq (⟨"CartsDownHill$Page", "commas", "()I"⟩, 2) := ⟨⟨by decide +kernel, by decide +kernel⟩, List.mem_of_getElem? (i := 28) (by decide +kernel), List.mem_of_getElem? (i := 428) (by decide +kernel), List.mem_of_getElem? (i := 429) (by decide +kernel)⟩
theorem lw_p11 : lw_okq (⟨"CartsDownHill$Hill", "read", "(LCartsDownHill$Page;)V"⟩, 6) := ⟨⟨by decide +kernel, by decide +kernel⟩, List.mem_of_getElem? (i := 46) (by decide +kernel), List.mem_of_getElem? (i := 432) (by decide +kernel), List.mem_of_getElem? (i := 433) (by decide +kernel)⟩
theorem lw_p12 : lw_okq (⟨"CartsDownHill$Hill", "readDrop", "(LCartsDownHill$Page;II)V"⟩, 6) := ⟨⟨by decide +kernel, by decide +kernel⟩, List.mem_of_getElem? (i := 46) (by decide +kernel), List.mem_of_getElem? (i := 441) (by decide +kernel), List.mem_of_getElem? (i := 442) (by decide +kernel)⟩
theorem lw_p13 : lw_okq (⟨"CartsDownHill$Page", "isCart", "()Z"⟩, 2) := ⟨⟨by decide +kernel, by decide +kernel⟩, List.mem_of_getElem? (i := 28) (by decide +kernel), List.mem_of_getElem? (i := 450) (by decide +kernel), List.mem_of_getElem? (i := 451) (by decide +kernel)⟩
theorem lw_p14 : lw_okq (⟨"CartsDownHill$Cart", "read", "(LCartsDownHill$Page;)V"⟩, 4) := ⟨⟨by decide +kernel, by decide +kernel⟩, List.mem_of_getElem? (i := 83) (by decide +kernel), List.mem_of_getElem? (i := 455) (by decide +kernel), List.mem_of_getElem? (i := 456) (by decide +kernel)⟩
theorem lw_p15 : lw_okq (⟨"CartsDownHill", "isCell", "(I)Z"⟩, 11) := ⟨⟨by decide +kernel, by decide +kernel⟩, List.mem_of_getElem? (i := 20) (by decide +kernel), List.mem_of_getElem? (i := 465) (by decide +kernel), List.mem_of_getElem? (i := 466) (by decide +kernel)⟩
def lw_privs_1 : List (MethodName × Nat) := [(⟨"CartsDownHill$Page", "put", "(I)V"⟩, 2), (⟨"CartsDownHill$Page", "hillFault", "()I"⟩, 2), (⟨"CartsDownHill$Page", "fitsHill", "(IZ)Z"⟩, 2), (⟨"CartsDownHill$Page", "at", "(I)I"⟩, 2), (⟨"CartsDownHill$Page", "isDigit", "(II)Z"⟩, 2), (⟨"CartsDownHill$Page", "digitAt", "(I)I"⟩, 2), (⟨"CartsDownHill$Page", "cartFault", "()I"⟩, 2), (⟨"CartsDownHill$Page", "fitsCart", "(I)Z"⟩, 2), (⟨"CartsDownHill$Page", "kindAt", "(I)I"⟩, 2), (⟨"CartsDownHill$Page", "isHill", "()Z"⟩, 2), (⟨"CartsDownHill$Page", "commas", "()I"⟩, 2), (⟨"CartsDownHill$Hill", "read", "(LCartsDownHill$Page;)V"⟩, 6), (⟨"CartsDownHill$Hill", "readDrop", "(LCartsDownHill$Page;II)V"⟩, 6), (⟨"CartsDownHill$Page", "isCart", "()Z"⟩, 2), (⟨"CartsDownHill$Cart", "read", "(LCartsDownHill$Page;)V"⟩, 4), (⟨"CartsDownHill", "isCell", "(I)Z"⟩, 11)]
theorem lw_r1 : ∀ q ∈ lw_privs_1, lw_okq q := List.forall_mem_cons.mpr ⟨lw_p0, List.forall_mem_cons.mpr ⟨lw_p1, List.forall_mem_cons.mpr ⟨lw_p2, List.forall_mem_cons.mpr ⟨lw_p3, List.forall_mem_cons.mpr ⟨lw_p4, List.forall_mem_cons.mpr ⟨lw_p5, List.forall_mem_cons.mpr ⟨lw_p6, List.forall_mem_cons.mpr ⟨lw_p7, List.forall_mem_cons.mpr ⟨lw_p8, List.forall_mem_cons.mpr ⟨lw_p9, List.forall_mem_cons.mpr ⟨lw_p10, List.forall_mem_cons.mpr ⟨lw_p11, List.forall_mem_cons.mpr ⟨lw_p12, List.forall_mem_cons.mpr ⟨lw_p13, List.forall_mem_cons.mpr ⟨lw_p14, List.forall_mem_cons.mpr ⟨lw_p15, fun _ h => absurd h List.not_mem_nil⟩⟩⟩⟩⟩⟩⟩⟩⟩⟩⟩⟩⟩⟩⟩⟩
theorem lw_p16 : lw_okq (⟨"CartsDownHill", "isCart", "(I)Z"⟩, 11) := ⟨⟨by decide +kernel, by decide +kernel⟩, List.mem_of_getElem? (i := 20) (by decide +kernel), List.mem_of_getElem? (i := 473) (by decide +kernel), List.mem_of_getElem? (i := 474) (by decide +kernel)⟩
theorem lw_p17 : lw_okq (⟨"CartsDownHill", "isLoss", "(II)Z"⟩, 11) := ⟨⟨by decide +kernel, by decide +kernel⟩, List.mem_of_getElem? (i := 20) (by decide +kernel), List.mem_of_getElem? (i := 481) (by decide +kernel), List.mem_of_getElem? (i := 482) (by decide +kernel)⟩
theorem lw_p18 : lw_okq (⟨"CartsDownHill", "refusalOfRun", "(IIZ)I"⟩, 11) := ⟨⟨by decide +kernel, by decide +kernel⟩, List.mem_of_getElem? (i := 20) (by decide +kernel), List.mem_of_getElem? (i := 511) (by decide +kernel), List.mem_of_getElem? (i := 512) (by decide +kernel)⟩
theorem lw_p19 : lw_okq (⟨"CartsDownHill", "goDown", "(II)V"⟩, 11) := ⟨⟨by decide +kernel, by decide +kernel⟩, List.mem_of_getElem? (i := 20) (by decide +kernel), List.mem_of_getElem? (i := 518) (by decide +kernel), List.mem_of_getElem? (i := 519) (by decide +kernel)⟩
theorem lw_p20 : lw_okq (⟨"CartsDownHill$Ride", "mount", "(LCartsDownHill$Cart;I)V"⟩, 15) := ⟨⟨by decide +kernel, by decide +kernel⟩, List.mem_of_getElem? (i := 166) (by decide +kernel), List.mem_of_getElem? (i := 522) (by decide +kernel), List.mem_of_getElem? (i := 523) (by decide +kernel)⟩
theorem lw_p21 : lw_okq (⟨"CartsDownHill$Ride", "go", "(I)V"⟩, 15) := ⟨⟨by decide +kernel, by decide +kernel⟩, List.mem_of_getElem? (i := 166) (by decide +kernel), List.mem_of_getElem? (i := 530) (by decide +kernel), List.mem_of_getElem? (i := 531) (by decide +kernel)⟩
theorem lw_p22 : lw_okq (⟨"CartsDownHill$Ride", "goThrough", "(I)V"⟩, 15) := ⟨⟨by decide +kernel, by decide +kernel⟩, List.mem_of_getElem? (i := 166) (by decide +kernel), List.mem_of_getElem? (i := 534) (by decide +kernel), List.mem_of_getElem? (i := 535) (by decide +kernel)⟩
theorem lw_p23 : lw_okq (⟨"CartsDownHill$Ride", "takes", "(IIIII)I"⟩, 15) := ⟨⟨by decide +kernel, by decide +kernel⟩, List.mem_of_getElem? (i := 166) (by decide +kernel), List.mem_of_getElem? (i := 538) (by decide +kernel), List.mem_of_getElem? (i := 539) (by decide +kernel)⟩
theorem lw_p24 : lw_okq (⟨"CartsDownHill$Ride", "bearable", "(I)I"⟩, 15) := ⟨⟨by decide +kernel, by decide +kernel⟩, List.mem_of_getElem? (i := 166) (by decide +kernel), List.mem_of_getElem? (i := 548) (by decide +kernel), List.mem_of_getElem? (i := 549) (by decide +kernel)⟩
theorem lw_p25 : lw_okq (⟨"CartsDownHill$Ride", "tell", "(I)I"⟩, 15) := ⟨⟨by decide +kernel, by decide +kernel⟩, List.mem_of_getElem? (i := 166) (by decide +kernel), List.mem_of_getElem? (i := 552) (by decide +kernel), List.mem_of_getElem? (i := 553) (by decide +kernel)⟩
theorem lw_p26 : lw_okq (⟨"CartsDownHill$Best", "clear", "()V"⟩, 3) := ⟨⟨by decide +kernel, by decide +kernel⟩, List.mem_of_getElem? (i := 227) (by decide +kernel), List.mem_of_getElem? (i := 568) (by decide +kernel), List.mem_of_getElem? (i := 569) (by decide +kernel)⟩
theorem lw_p27 : lw_okq (⟨"CartsDownHill", "tryBrakes", "(II)V"⟩, 11) := ⟨⟨by decide +kernel, by decide +kernel⟩, List.mem_of_getElem? (i := 20) (by decide +kernel), List.mem_of_getElem? (i := 572) (by decide +kernel), List.mem_of_getElem? (i := 573) (by decide +kernel)⟩
theorem lw_p28 : lw_okq (⟨"CartsDownHill$Hill", "bendAt", "(I)I"⟩, 6) := ⟨⟨by decide +kernel, by decide +kernel⟩, List.mem_of_getElem? (i := 46) (by decide +kernel), List.mem_of_getElem? (i := 580) (by decide +kernel), List.mem_of_getElem? (i := 581) (by decide +kernel)⟩
theorem lw_p29 : lw_okq (⟨"CartsDownHill$Best", "offer", "(II)Z"⟩, 3) := ⟨⟨by decide +kernel, by decide +kernel⟩, List.mem_of_getElem? (i := 227) (by decide +kernel), List.mem_of_getElem? (i := 584) (by decide +kernel), List.mem_of_getElem? (i := 585) (by decide +kernel)⟩
theorem lw_p30 : lw_okq (⟨"CartsDownHill", "isBraked", "(I)Z"⟩, 11) := ⟨⟨by decide +kernel, by decide +kernel⟩, List.mem_of_getElem? (i := 20) (by decide +kernel), List.mem_of_getElem? (i := 588) (by decide +kernel), List.mem_of_getElem? (i := 589) (by decide +kernel)⟩
theorem lw_p31 : lw_okq (⟨"CartsDownHill$Best", "keepRow", "([I)V"⟩, 3) := ⟨⟨by decide +kernel, by decide +kernel⟩, List.mem_of_getElem? (i := 227) (by decide +kernel), List.mem_of_getElem? (i := 601) (by decide +kernel), List.mem_of_getElem? (i := 602) (by decide +kernel)⟩
def lw_privs_2 : List (MethodName × Nat) := [(⟨"CartsDownHill", "isCart", "(I)Z"⟩, 11), (⟨"CartsDownHill", "isLoss", "(II)Z"⟩, 11), (⟨"CartsDownHill", "refusalOfRun", "(IIZ)I"⟩, 11), (⟨"CartsDownHill", "goDown", "(II)V"⟩, 11), (⟨"CartsDownHill$Ride", "mount", "(LCartsDownHill$Cart;I)V"⟩, 15), (⟨"CartsDownHill$Ride", "go", "(I)V"⟩, 15), (⟨"CartsDownHill$Ride", "goThrough", "(I)V"⟩, 15), (⟨"CartsDownHill$Ride", "takes", "(IIIII)I"⟩, 15), (⟨"CartsDownHill$Ride", "bearable", "(I)I"⟩, 15), (⟨"CartsDownHill$Ride", "tell", "(I)I"⟩, 15), (⟨"CartsDownHill$Best", "clear", "()V"⟩, 3), (⟨"CartsDownHill", "tryBrakes", "(II)V"⟩, 11), (⟨"CartsDownHill$Hill", "bendAt", "(I)I"⟩, 6), (⟨"CartsDownHill$Best", "offer", "(II)Z"⟩, 3), (⟨"CartsDownHill", "isBraked", "(I)Z"⟩, 11), (⟨"CartsDownHill$Best", "keepRow", "([I)V"⟩, 3)]
theorem lw_r2 : ∀ q ∈ lw_privs_2, lw_okq q := List.forall_mem_cons.mpr ⟨lw_p16, List.forall_mem_cons.mpr ⟨lw_p17, List.forall_mem_cons.mpr ⟨lw_p18, List.forall_mem_cons.mpr ⟨lw_p19, List.forall_mem_cons.mpr ⟨lw_p20, List.forall_mem_cons.mpr ⟨lw_p21, List.forall_mem_cons.mpr ⟨lw_p22, List.forall_mem_cons.mpr ⟨lw_p23, List.forall_mem_cons.mpr ⟨lw_p24, List.forall_mem_cons.mpr ⟨lw_p25, List.forall_mem_cons.mpr ⟨lw_p26, List.forall_mem_cons.mpr ⟨lw_p27, List.forall_mem_cons.mpr ⟨lw_p28, List.forall_mem_cons.mpr ⟨lw_p29, List.forall_mem_cons.mpr ⟨lw_p30, List.forall_mem_cons.mpr ⟨lw_p31, fun _ h => absurd h List.not_mem_nil⟩⟩⟩⟩⟩⟩⟩⟩⟩⟩⟩⟩⟩⟩⟩⟩
theorem lw_p32 : lw_okq (⟨"CartsDownHill$Ride", "spendNext", "(I)Z"⟩, 15) := ⟨⟨by decide +kernel, by decide +kernel⟩, List.mem_of_getElem? (i := 166) (by decide +kernel), List.mem_of_getElem? (i := 606) (by decide +kernel), List.mem_of_getElem? (i := 607) (by decide +kernel)⟩
theorem lw_p33 : lw_okq (⟨"CartsDownHill", "timeAt", "(III)I"⟩, 11) := ⟨⟨by decide +kernel, by decide +kernel⟩, List.mem_of_getElem? (i := 20) (by decide +kernel), List.mem_of_getElem? (i := 614) (by decide +kernel), List.mem_of_getElem? (i := 615) (by decide +kernel)⟩
theorem lw_p34 : lw_okq (⟨"CartsDownHill$Ride", "timeIfDown", "()I"⟩, 15) := ⟨⟨by decide +kernel, by decide +kernel⟩, List.mem_of_getElem? (i := 166) (by decide +kernel), List.mem_of_getElem? (i := 618) (by decide +kernel), List.mem_of_getElem? (i := 619) (by decide +kernel)⟩
theorem lw_p35 : lw_okq (⟨"CartsDownHill", "apartBy", "(II)I"⟩, 11) := ⟨⟨by decide +kernel, by decide +kernel⟩, List.mem_of_getElem? (i := 20) (by decide +kernel), List.mem_of_getElem? (i := 626) (by decide +kernel), List.mem_of_getElem? (i := 627) (by decide +kernel)⟩
theorem lw_p36 : lw_okq (⟨"CartsDownHill", "flatCells", "(II)I"⟩, 11) := ⟨⟨by decide +kernel, by decide +kernel⟩, List.mem_of_getElem? (i := 20) (by decide +kernel), List.mem_of_getElem? (i := 636) (by decide +kernel), List.mem_of_getElem? (i := 637) (by decide +kernel)⟩
theorem lw_p37 : lw_okq (⟨"CartsDownHill$Ride", "goFlat", "(III)I"⟩, 15) := ⟨⟨by decide +kernel, by decide +kernel⟩, List.mem_of_getElem? (i := 166) (by decide +kernel), List.mem_of_getElem? (i := 640) (by decide +kernel), List.mem_of_getElem? (i := 641) (by decide +kernel)⟩
theorem lw_p38 : lw_okq (⟨"CartsDownHill$Coasts", "put", "(III)V"⟩, 4) := ⟨⟨by decide +kernel, by decide +kernel⟩, List.mem_of_getElem? (i := 110) (by decide +kernel), List.mem_of_getElem? (i := 648) (by decide +kernel), List.mem_of_getElem? (i := 649) (by decide +kernel)⟩
theorem lw_p39 : lw_okq (⟨"CartsDownHill", "allCoastsAreSo", "(I)Z"⟩, 11) := ⟨⟨by decide +kernel, by decide +kernel⟩, List.mem_of_getElem? (i := 20) (by decide +kernel), List.mem_of_getElem? (i := 656) (by decide +kernel), List.mem_of_getElem? (i := 657) (by decide +kernel)⟩
theorem lw_p40 : lw_okq (⟨"CartsDownHill", "timeOf", "(II)I"⟩, 11) := ⟨⟨by decide +kernel, by decide +kernel⟩, List.mem_of_getElem? (i := 20) (by decide +kernel), List.mem_of_getElem? (i := 664) (by decide +kernel), List.mem_of_getElem? (i := 665) (by decide +kernel)⟩
theorem lw_p41 : lw_okq (⟨"CartsDownHill", "refusalOfFour", "(IIII)I"⟩, 11) := ⟨⟨by decide +kernel, by decide +kernel⟩, List.mem_of_getElem? (i := 20) (by decide +kernel), List.mem_of_getElem? (i := 678) (by decide +kernel), List.mem_of_getElem? (i := 679) (by decide +kernel)⟩
theorem lw_p42 : lw_okq (⟨"CartsDownHill", "takeTimes", "(IIIII)V"⟩, 11) := ⟨⟨by decide +kernel, by decide +kernel⟩, List.mem_of_getElem? (i := 20) (by decide +kernel), List.mem_of_getElem? (i := 682) (by decide +kernel), List.mem_of_getElem? (i := 683) (by decide +kernel)⟩
theorem lw_p43 : lw_okq (⟨"CartsDownHill", "thousandths", "(III)I"⟩, 11) := ⟨⟨by decide +kernel, by decide +kernel⟩, List.mem_of_getElem? (i := 20) (by decide +kernel), List.mem_of_getElem? (i := 686) (by decide +kernel), List.mem_of_getElem? (i := 687) (by decide +kernel)⟩
theorem lw_p44 : lw_okq (⟨"CartsDownHill", "quickestOfFour", "()I"⟩, 11) := ⟨⟨by decide +kernel, by decide +kernel⟩, List.mem_of_getElem? (i := 20) (by decide +kernel), List.mem_of_getElem? (i := 698) (by decide +kernel), List.mem_of_getElem? (i := 699) (by decide +kernel)⟩
theorem lw_p45 : lw_okq (⟨"CartsDownHill", "weighBends", "(I)V"⟩, 11) := ⟨⟨by decide +kernel, by decide +kernel⟩, List.mem_of_getElem? (i := 20) (by decide +kernel), List.mem_of_getElem? (i := 706) (by decide +kernel), List.mem_of_getElem? (i := 707) (by decide +kernel)⟩
theorem lw_p46 : lw_okq (⟨"CartsDownHill", "stayingWith", "(I)J"⟩, 11) := ⟨⟨by decide +kernel, by decide +kernel⟩, List.mem_of_getElem? (i := 20) (by decide +kernel), List.mem_of_getElem? (i := 714) (by decide +kernel), List.mem_of_getElem? (i := 715) (by decide +kernel)⟩
theorem lw_p47 : lw_okq (⟨"CartsDownHill$Hill", "bends", "()I"⟩, 6) := ⟨⟨by decide +kernel, by decide +kernel⟩, List.mem_of_getElem? (i := 46) (by decide +kernel), List.mem_of_getElem? (i := 724) (by decide +kernel), List.mem_of_getElem? (i := 725) (by decide +kernel)⟩
def lw_privs_3 : List (MethodName × Nat) := [(⟨"CartsDownHill$Ride", "spendNext", "(I)Z"⟩, 15), (⟨"CartsDownHill", "timeAt", "(III)I"⟩, 11), (⟨"CartsDownHill$Ride", "timeIfDown", "()I"⟩, 15), (⟨"CartsDownHill", "apartBy", "(II)I"⟩, 11), (⟨"CartsDownHill", "flatCells", "(II)I"⟩, 11), (⟨"CartsDownHill$Ride", "goFlat", "(III)I"⟩, 15), (⟨"CartsDownHill$Coasts", "put", "(III)V"⟩, 4), (⟨"CartsDownHill", "allCoastsAreSo", "(I)Z"⟩, 11), (⟨"CartsDownHill", "timeOf", "(II)I"⟩, 11), (⟨"CartsDownHill", "refusalOfFour", "(IIII)I"⟩, 11), (⟨"CartsDownHill", "takeTimes", "(IIIII)V"⟩, 11), (⟨"CartsDownHill", "thousandths", "(III)I"⟩, 11), (⟨"CartsDownHill", "quickestOfFour", "()I"⟩, 11), (⟨"CartsDownHill", "weighBends", "(I)V"⟩, 11), (⟨"CartsDownHill", "stayingWith", "(I)J"⟩, 11), (⟨"CartsDownHill$Hill", "bends", "()I"⟩, 6)]
theorem lw_r3 : ∀ q ∈ lw_privs_3, lw_okq q := List.forall_mem_cons.mpr ⟨lw_p32, List.forall_mem_cons.mpr ⟨lw_p33, List.forall_mem_cons.mpr ⟨lw_p34, List.forall_mem_cons.mpr ⟨lw_p35, List.forall_mem_cons.mpr ⟨lw_p36, List.forall_mem_cons.mpr ⟨lw_p37, List.forall_mem_cons.mpr ⟨lw_p38, List.forall_mem_cons.mpr ⟨lw_p39, List.forall_mem_cons.mpr ⟨lw_p40, List.forall_mem_cons.mpr ⟨lw_p41, List.forall_mem_cons.mpr ⟨lw_p42, List.forall_mem_cons.mpr ⟨lw_p43, List.forall_mem_cons.mpr ⟨lw_p44, List.forall_mem_cons.mpr ⟨lw_p45, List.forall_mem_cons.mpr ⟨lw_p46, List.forall_mem_cons.mpr ⟨lw_p47, fun _ h => absurd h List.not_mem_nil⟩⟩⟩⟩⟩⟩⟩⟩⟩⟩⟩⟩⟩⟩⟩⟩
theorem lw_p48 : lw_okq (⟨"CartsDownHill$Coasts", "copy", "(LCartsDownHill$Coasts;)V"⟩, 4) := ⟨⟨by decide +kernel, by decide +kernel⟩, List.mem_of_getElem? (i := 110) (by decide +kernel), List.mem_of_getElem? (i := 740) (by decide +kernel), List.mem_of_getElem? (i := 741) (by decide +kernel)⟩
theorem lw_p49 : lw_okq (⟨"CartsDownHill", "mixedCart", "(JI)J"⟩, 11) := ⟨⟨by decide +kernel, by decide +kernel⟩, List.mem_of_getElem? (i := 20) (by decide +kernel), List.mem_of_getElem? (i := 763) (by decide +kernel), List.mem_of_getElem? (i := 764) (by decide +kernel)⟩
theorem lw_p50 : lw_okq (⟨"CartsDownHillModel", "faultOf", "(I)I"⟩, 40) := ⟨⟨by decide +kernel, by decide +kernel⟩, List.mem_of_getElem? (i := 769) (by decide +kernel), List.mem_of_getElem? (i := 912) (by decide +kernel), List.mem_of_getElem? (i := 913) (by decide +kernel)⟩
theorem lw_p51 : lw_okq (⟨"CartsDownHillModel", "goHill", "(I)Z"⟩, 40) := ⟨⟨by decide +kernel, by decide +kernel⟩, List.mem_of_getElem? (i := 769) (by decide +kernel), List.mem_of_getElem? (i := 916) (by decide +kernel), List.mem_of_getElem? (i := 917) (by decide +kernel)⟩
theorem lw_p52 : lw_okq (⟨"CartsDownHillModel", "goNext", "(II)Z"⟩, 40) := ⟨⟨by decide +kernel, by decide +kernel⟩, List.mem_of_getElem? (i := 769) (by decide +kernel), List.mem_of_getElem? (i := 922) (by decide +kernel), List.mem_of_getElem? (i := 923) (by decide +kernel)⟩
theorem lw_p53 : lw_okq (⟨"CartsDownHillModel", "goCart", "(I)Z"⟩, 40) := ⟨⟨by decide +kernel, by decide +kernel⟩, List.mem_of_getElem? (i := 769) (by decide +kernel), List.mem_of_getElem? (i := 927) (by decide +kernel), List.mem_of_getElem? (i := 928) (by decide +kernel)⟩
theorem lw_p54 : lw_okq (⟨"CartsDownHillModel", "isCell", "(I)Z"⟩, 40) := ⟨⟨by decide +kernel, by decide +kernel⟩, List.mem_of_getElem? (i := 769) (by decide +kernel), List.mem_of_getElem? (i := 946) (by decide +kernel), List.mem_of_getElem? (i := 947) (by decide +kernel)⟩
theorem lw_p55 : lw_okq (⟨"CartsDownHillModel", "cellOf", "(II)I"⟩, 40) := ⟨⟨by decide +kernel, by decide +kernel⟩, List.mem_of_getElem? (i := 769) (by decide +kernel), List.mem_of_getElem? (i := 950) (by decide +kernel), List.mem_of_getElem? (i := 951) (by decide +kernel)⟩
theorem lw_p56 : lw_okq (⟨"CartsDownHillModel", "isCart", "(I)Z"⟩, 40) := ⟨⟨by decide +kernel, by decide +kernel⟩, List.mem_of_getElem? (i := 769) (by decide +kernel), List.mem_of_getElem? (i := 958) (by decide +kernel), List.mem_of_getElem? (i := 959) (by decide +kernel)⟩
theorem lw_p57 : lw_okq (⟨"CartsDownHillModel", "isLoss", "(II)Z"⟩, 40) := ⟨⟨by decide +kernel, by decide +kernel⟩, List.mem_of_getElem? (i := 769) (by decide +kernel), List.mem_of_getElem? (i := 966) (by decide +kernel), List.mem_of_getElem? (i := 967) (by decide +kernel)⟩
theorem lw_p58 : lw_okq (⟨"CartsDownHillModel", "lacks", "()Z"⟩, 40) := ⟨⟨by decide +kernel, by decide +kernel⟩, List.mem_of_getElem? (i := 769) (by decide +kernel), List.mem_of_getElem? (i := 994) (by decide +kernel), List.mem_of_getElem? (i := 995) (by decide +kernel)⟩
theorem lw_p59 : lw_okq (⟨"CartsDownHillModel", "take", "(I)V"⟩, 40) := ⟨⟨by decide +kernel, by decide +kernel⟩, List.mem_of_getElem? (i := 769) (by decide +kernel), List.mem_of_getElem? (i := 1003) (by decide +kernel), List.mem_of_getElem? (i := 1004) (by decide +kernel)⟩
theorem lw_p60 : lw_okq (⟨"CartsDownHillModel", "go", "(I)V"⟩, 40) := ⟨⟨by decide +kernel, by decide +kernel⟩, List.mem_of_getElem? (i := 769) (by decide +kernel), List.mem_of_getElem? (i := 1007) (by decide +kernel), List.mem_of_getElem? (i := 1008) (by decide +kernel)⟩
theorem lw_p61 : lw_okq (⟨"CartsDownHillModel", "goCell", "(I)I"⟩, 40) := ⟨⟨by decide +kernel, by decide +kernel⟩, List.mem_of_getElem? (i := 769) (by decide +kernel), List.mem_of_getElem? (i := 1011) (by decide +kernel), List.mem_of_getElem? (i := 1012) (by decide +kernel)⟩
theorem lw_p62 : lw_okq (⟨"CartsDownHillModel", "takes", "(IIIII)I"⟩, 40) := ⟨⟨by decide +kernel, by decide +kernel⟩, List.mem_of_getElem? (i := 769) (by decide +kernel), List.mem_of_getElem? (i := 1015) (by decide +kernel), List.mem_of_getElem? (i := 1016) (by decide +kernel)⟩
theorem lw_p63 : lw_okq (⟨"CartsDownHillModel", "bearable", "(I)I"⟩, 40) := ⟨⟨by decide +kernel, by decide +kernel⟩, List.mem_of_getElem? (i := 769) (by decide +kernel), List.mem_of_getElem? (i := 1022) (by decide +kernel), List.mem_of_getElem? (i := 1023) (by decide +kernel)⟩
def lw_privs_4 : List (MethodName × Nat) := [(⟨"CartsDownHill$Coasts", "copy", "(LCartsDownHill$Coasts;)V"⟩, 4), (⟨"CartsDownHill", "mixedCart", "(JI)J"⟩, 11), (⟨"CartsDownHillModel", "faultOf", "(I)I"⟩, 40), (⟨"CartsDownHillModel", "goHill", "(I)Z"⟩, 40), (⟨"CartsDownHillModel", "goNext", "(II)Z"⟩, 40), (⟨"CartsDownHillModel", "goCart", "(I)Z"⟩, 40), (⟨"CartsDownHillModel", "isCell", "(I)Z"⟩, 40), (⟨"CartsDownHillModel", "cellOf", "(II)I"⟩, 40), (⟨"CartsDownHillModel", "isCart", "(I)Z"⟩, 40), (⟨"CartsDownHillModel", "isLoss", "(II)Z"⟩, 40), (⟨"CartsDownHillModel", "lacks", "()Z"⟩, 40), (⟨"CartsDownHillModel", "take", "(I)V"⟩, 40), (⟨"CartsDownHillModel", "go", "(I)V"⟩, 40), (⟨"CartsDownHillModel", "goCell", "(I)I"⟩, 40), (⟨"CartsDownHillModel", "takes", "(IIIII)I"⟩, 40), (⟨"CartsDownHillModel", "bearable", "(I)I"⟩, 40)]
theorem lw_r4 : ∀ q ∈ lw_privs_4, lw_okq q := List.forall_mem_cons.mpr ⟨lw_p48, List.forall_mem_cons.mpr ⟨lw_p49, List.forall_mem_cons.mpr ⟨lw_p50, List.forall_mem_cons.mpr ⟨lw_p51, List.forall_mem_cons.mpr ⟨lw_p52, List.forall_mem_cons.mpr ⟨lw_p53, List.forall_mem_cons.mpr ⟨lw_p54, List.forall_mem_cons.mpr ⟨lw_p55, List.forall_mem_cons.mpr ⟨lw_p56, List.forall_mem_cons.mpr ⟨lw_p57, List.forall_mem_cons.mpr ⟨lw_p58, List.forall_mem_cons.mpr ⟨lw_p59, List.forall_mem_cons.mpr ⟨lw_p60, List.forall_mem_cons.mpr ⟨lw_p61, List.forall_mem_cons.mpr ⟨lw_p62, List.forall_mem_cons.mpr ⟨lw_p63, fun _ h => absurd h List.not_mem_nil⟩⟩⟩⟩⟩⟩⟩⟩⟩⟩⟩⟩⟩⟩⟩⟩
theorem lw_p64 : lw_okq (⟨"CartsDownHillModel", "isBraked", "(I)Z"⟩, 40) := ⟨⟨by decide +kernel, by decide +kernel⟩, List.mem_of_getElem? (i := 769) (by decide +kernel), List.mem_of_getElem? (i := 1039) (by decide +kernel), List.mem_of_getElem? (i := 1040) (by decide +kernel)⟩
theorem lw_p65 : lw_okq (⟨"CartsDownHillModel", "bendAt", "(I)I"⟩, 40) := ⟨⟨by decide +kernel, by decide +kernel⟩, List.mem_of_getElem? (i := 769) (by decide +kernel), List.mem_of_getElem? (i := 1043) (by decide +kernel), List.mem_of_getElem? (i := 1044) (by decide +kernel)⟩
theorem lw_p66 : lw_okq (⟨"CartsDownHillModel", "timeBy", "(III)I"⟩, 40) := ⟨⟨by decide +kernel, by decide +kernel⟩, List.mem_of_getElem? (i := 769) (by decide +kernel), List.mem_of_getElem? (i := 1060) (by decide +kernel), List.mem_of_getElem? (i := 1061) (by decide +kernel)⟩
theorem lw_p67 : lw_okq (⟨"CartsDownHillModel", "farthestBy", "(III)I"⟩, 40) := ⟨⟨by decide +kernel, by decide +kernel⟩, List.mem_of_getElem? (i := 769) (by decide +kernel), List.mem_of_getElem? (i := 1072) (by decide +kernel), List.mem_of_getElem? (i := 1073) (by decide +kernel)⟩
theorem lw_p68 : lw_okq (⟨"CartsDownHillModel", "rubsNow", "()I"⟩, 40) := ⟨⟨by decide +kernel, by decide +kernel⟩, List.mem_of_getElem? (i := 769) (by decide +kernel), List.mem_of_getElem? (i := 1084) (by decide +kernel), List.mem_of_getElem? (i := 1085) (by decide +kernel)⟩
theorem lw_p69 : lw_okq (⟨"CartsDownHillModel", "chanceOf", "(IIII)I"⟩, 40) := ⟨⟨by decide +kernel, by decide +kernel⟩, List.mem_of_getElem? (i := 769) (by decide +kernel), List.mem_of_getElem? (i := 1095) (by decide +kernel), List.mem_of_getElem? (i := 1096) (by decide +kernel)⟩
theorem lw_p70 : lw_okq (⟨"CartsDownHillModel", "downTime", "(II)I"⟩, 40) := ⟨⟨by decide +kernel, by decide +kernel⟩, List.mem_of_getElem? (i := 769) (by decide +kernel), List.mem_of_getElem? (i := 1099) (by decide +kernel), List.mem_of_getElem? (i := 1100) (by decide +kernel)⟩
theorem lw_p71 : lw_okq (⟨"CartsDownHillModel", "areFour", "(IIII)Z"⟩, 40) := ⟨⟨by decide +kernel, by decide +kernel⟩, List.mem_of_getElem? (i := 769) (by decide +kernel), List.mem_of_getElem? (i := 1107) (by decide +kernel), List.mem_of_getElem? (i := 1108) (by decide +kernel)⟩
theorem lw_p72 : lw_okq (⟨"CartsDownHillModel", "winsOf", "(IIIIII)I"⟩, 40) := ⟨⟨by decide +kernel, by decide +kernel⟩, List.mem_of_getElem? (i := 769) (by decide +kernel), List.mem_of_getElem? (i := 1114) (by decide +kernel), List.mem_of_getElem? (i := 1115) (by decide +kernel)⟩
theorem lw_p73 : lw_okq (⟨"CartsDownHillModel", "quickest", "(I)I"⟩, 40) := ⟨⟨by decide +kernel, by decide +kernel⟩, List.mem_of_getElem? (i := 769) (by decide +kernel), List.mem_of_getElem? (i := 1125) (by decide +kernel), List.mem_of_getElem? (i := 1126) (by decide +kernel)⟩
theorem lw_p74 : lw_okq (⟨"CartsDownHillModel", "staysBy", "(IIII)J"⟩, 40) := ⟨⟨by decide +kernel, by decide +kernel⟩, List.mem_of_getElem? (i := 769) (by decide +kernel), List.mem_of_getElem? (i := 1141) (by decide +kernel), List.mem_of_getElem? (i := 1142) (by decide +kernel)⟩
theorem lw_p75 : lw_okq (⟨"CartsDownHillModel", "leaving", "(II)I"⟩, 40) := ⟨⟨by decide +kernel, by decide +kernel⟩, List.mem_of_getElem? (i := 769) (by decide +kernel), List.mem_of_getElem? (i := 1145) (by decide +kernel), List.mem_of_getElem? (i := 1146) (by decide +kernel)⟩
theorem lw_p76 : lw_okq (⟨"CartsDownHillModel", "bends", "()I"⟩, 40) := ⟨⟨by decide +kernel, by decide +kernel⟩, List.mem_of_getElem? (i := 769) (by decide +kernel), List.mem_of_getElem? (i := 1154) (by decide +kernel), List.mem_of_getElem? (i := 1155) (by decide +kernel)⟩
theorem lw_p77 : lw_okq (⟨"CartsDownHillModel", "countOf", "(I)I"⟩, 40) := ⟨⟨by decide +kernel, by decide +kernel⟩, List.mem_of_getElem? (i := 769) (by decide +kernel), List.mem_of_getElem? (i := 1171) (by decide +kernel), List.mem_of_getElem? (i := 1172) (by decide +kernel)⟩
theorem lw_p78 : lw_okq (⟨"CartsDownHillModel", "say", "(J)V"⟩, 40) := ⟨⟨by decide +kernel, by decide +kernel⟩, List.mem_of_getElem? (i := 769) (by decide +kernel), List.mem_of_getElem? (i := 1180) (by decide +kernel), List.mem_of_getElem? (i := 1181) (by decide +kernel)⟩
theorem lw_p79 : lw_okq (⟨"CartsDownHillModel", "sayCart", "(I)V"⟩, 40) := ⟨⟨by decide +kernel, by decide +kernel⟩, List.mem_of_getElem? (i := 769) (by decide +kernel), List.mem_of_getElem? (i := 1185) (by decide +kernel), List.mem_of_getElem? (i := 1186) (by decide +kernel)⟩
def lw_privs_5 : List (MethodName × Nat) := [(⟨"CartsDownHillModel", "isBraked", "(I)Z"⟩, 40), (⟨"CartsDownHillModel", "bendAt", "(I)I"⟩, 40), (⟨"CartsDownHillModel", "timeBy", "(III)I"⟩, 40), (⟨"CartsDownHillModel", "farthestBy", "(III)I"⟩, 40), (⟨"CartsDownHillModel", "rubsNow", "()I"⟩, 40), (⟨"CartsDownHillModel", "chanceOf", "(IIII)I"⟩, 40), (⟨"CartsDownHillModel", "downTime", "(II)I"⟩, 40), (⟨"CartsDownHillModel", "areFour", "(IIII)Z"⟩, 40), (⟨"CartsDownHillModel", "winsOf", "(IIIIII)I"⟩, 40), (⟨"CartsDownHillModel", "quickest", "(I)I"⟩, 40), (⟨"CartsDownHillModel", "staysBy", "(IIII)J"⟩, 40), (⟨"CartsDownHillModel", "leaving", "(II)I"⟩, 40), (⟨"CartsDownHillModel", "bends", "()I"⟩, 40), (⟨"CartsDownHillModel", "countOf", "(I)I"⟩, 40), (⟨"CartsDownHillModel", "say", "(J)V"⟩, 40), (⟨"CartsDownHillModel", "sayCart", "(I)V"⟩, 40)]
theorem lw_r5 : ∀ q ∈ lw_privs_5, lw_okq q := List.forall_mem_cons.mpr ⟨lw_p64, List.forall_mem_cons.mpr ⟨lw_p65, List.forall_mem_cons.mpr ⟨lw_p66, List.forall_mem_cons.mpr ⟨lw_p67, List.forall_mem_cons.mpr ⟨lw_p68, List.forall_mem_cons.mpr ⟨lw_p69, List.forall_mem_cons.mpr ⟨lw_p70, List.forall_mem_cons.mpr ⟨lw_p71, List.forall_mem_cons.mpr ⟨lw_p72, List.forall_mem_cons.mpr ⟨lw_p73, List.forall_mem_cons.mpr ⟨lw_p74, List.forall_mem_cons.mpr ⟨lw_p75, List.forall_mem_cons.mpr ⟨lw_p76, List.forall_mem_cons.mpr ⟨lw_p77, List.forall_mem_cons.mpr ⟨lw_p78, List.forall_mem_cons.mpr ⟨lw_p79, fun _ h => absurd h List.not_mem_nil⟩⟩⟩⟩⟩⟩⟩⟩⟩⟩⟩⟩⟩⟩⟩⟩
def lw_privs : List (MethodName × Nat) := lw_privs_1 ++ (lw_privs_2 ++ (lw_privs_3 ++ (lw_privs_4 ++ (lw_privs_5))))
def lw_tbl : List Cond := k2_sels lw_privs ++ tables_1
theorem lw_privs_ok : ∀ q ∈ lw_privs, lw_okq q := by
  show ∀ q ∈ lw_privs_1 ++ (lw_privs_2 ++ (lw_privs_3 ++ (lw_privs_4 ++ (lw_privs_5)))), lw_okq q
  exact List.forall_mem_append.mpr ⟨lw_r1, List.forall_mem_append.mpr ⟨lw_r2, List.forall_mem_append.mpr ⟨lw_r3, List.forall_mem_append.mpr ⟨lw_r4, lw_r5⟩⟩⟩⟩
def RX0 : String := "CartsDownHill$Best"
def TX0 : u_T := fun k => match k with
  | 0 => ("CartsDownHill$Best", "time", "I", false)
  | 1 => ("CartsDownHill$Best", "way", "I", false)
  | _ => ("CartsDownHill$Best", "row", "[I", true)
def tyX0 : Nat → FieldType := fun k => match k with
  | 0 => .int
  | 1 => .int
  | _ => .array .int
abbrev wsX00 : List Cond := u_ws RX0 TX0 3
theorem nmX0 : ∀ a, a < 3 → ∀ b, b < 3 → a ≠ b → (TX0 a).2.1 ≠ (TX0 b).2.1 := by decide +kernel
theorem tyX0_ok : ∀ k, k < 3 → parseFieldDescriptor (TX0 k).2.2.1 = some (tyX0 k) := by decide +kernel
abbrev cX0_init : ByteArray := prog_2_method_1_code
def yX0_init : MethodName := ⟨RX0, "<init>", "()V"⟩
abbrev cX0_clear : ByteArray := prog_2_method_2_code
def yX0_clear : MethodName := ⟨RX0, "clear", "()V"⟩
abbrev cX0_offer : ByteArray := prog_2_method_3_code
def yX0_offer : MethodName := ⟨RX0, "offer", "(II)Z"⟩
abbrev cX0_keepRow : ByteArray := prog_2_method_4_code
def yX0_keepRow : MethodName := ⟨RX0, "keepRow", "([I)V"⟩
def RX1 : String := "CartsDownHill$Cart"
def TX1 : u_T := fun k => match k with
  | 0 => ("CartsDownHill$Cart", "kind", "[I", true)
  | 1 => ("CartsDownHill$Cart", "n", "[I", true)
  | 2 => ("CartsDownHill$Cart", "size", "I", false)
  | _ => ("CartsDownHill$Cart", "weight", "I", false)
def tyX1 : Nat → FieldType := fun k => match k with
  | 0 => .array .int
  | 1 => .array .int
  | 2 => .int
  | _ => .int
abbrev wsX10 : List Cond := u_ws RX1 TX1 4
theorem nmX1 : ∀ a, a < 4 → ∀ b, b < 4 → a ≠ b → (TX1 a).2.1 ≠ (TX1 b).2.1 := by decide +kernel
theorem tyX1_ok : ∀ k, k < 4 → parseFieldDescriptor (TX1 k).2.2.1 = some (tyX1 k) := by decide +kernel
abbrev cX1_init : ByteArray := prog_3_method_1_code
def yX1_init : MethodName := ⟨RX1, "<init>", "()V"⟩
abbrev cX1_read : ByteArray := prog_3_method_2_code
def yX1_read : MethodName := ⟨RX1, "read", "(LCartsDownHill$Page;)V"⟩
def RX2 : String := "CartsDownHill$Coasts"
def TX2 : u_T := fun k => match k with
  | 0 => ("CartsDownHill$Coasts", "cart", "[I", true)
  | 1 => ("CartsDownHill$Coasts", "swing", "[I", true)
  | 2 => ("CartsDownHill$Coasts", "cells", "[I", true)
  | _ => ("CartsDownHill$Coasts", "size", "I", false)
def tyX2 : Nat → FieldType := fun k => match k with
  | 0 => .array .int
  | 1 => .array .int
  | 2 => .array .int
  | _ => .int
abbrev wsX20 : List Cond := u_ws RX2 TX2 4
theorem nmX2 : ∀ a, a < 4 → ∀ b, b < 4 → a ≠ b → (TX2 a).2.1 ≠ (TX2 b).2.1 := by decide +kernel
theorem tyX2_ok : ∀ k, k < 4 → parseFieldDescriptor (TX2 k).2.2.1 = some (tyX2 k) := by decide +kernel
abbrev cX2_init : ByteArray := prog_4_method_1_code
def yX2_init : MethodName := ⟨RX2, "<init>", "()V"⟩
abbrev cX2_put : ByteArray := prog_4_method_2_code
def yX2_put : MethodName := ⟨RX2, "put", "(III)V"⟩
abbrev cX2_copy : ByteArray := prog_4_method_3_code
def yX2_copy : MethodName := ⟨RX2, "copy", "(LCartsDownHill$Coasts;)V"⟩
def RX3 : String := "CartsDownHill$Hill"
def TX3 : u_T := fun k => match k with
  | 0 => ("CartsDownHill$Hill", "drop", "[I", true)
  | 1 => ("CartsDownHill$Hill", "sharp", "[I", true)
  | 2 => ("CartsDownHill$Hill", "bump", "[I", true)
  | 3 => ("CartsDownHill$Hill", "brakes", "[I", true)
  | 4 => ("CartsDownHill$Hill", "size", "I", false)
  | _ => ("CartsDownHill$Hill", "timesRead", "I", false)
def tyX3 : Nat → FieldType := fun k => match k with
  | 0 => .array .int
  | 1 => .array .int
  | 2 => .array .int
  | 3 => .array .int
  | 4 => .int
  | _ => .int
abbrev wsX30 : List Cond := u_ws RX3 TX3 6
theorem nmX3 : ∀ a, a < 6 → ∀ b, b < 6 → a ≠ b → (TX3 a).2.1 ≠ (TX3 b).2.1 := by decide +kernel
theorem tyX3_ok : ∀ k, k < 6 → parseFieldDescriptor (TX3 k).2.2.1 = some (tyX3 k) := by decide +kernel
abbrev cX3_init : ByteArray := prog_5_method_1_code
def yX3_init : MethodName := ⟨RX3, "<init>", "()V"⟩
abbrev cX3_read : ByteArray := prog_5_method_2_code
def yX3_read : MethodName := ⟨RX3, "read", "(LCartsDownHill$Page;)V"⟩
abbrev cX3_readDrop : ByteArray := prog_5_method_3_code
def yX3_readDrop : MethodName := ⟨RX3, "readDrop", "(LCartsDownHill$Page;II)V"⟩
abbrev cX3_bends : ByteArray := prog_5_method_4_code
def yX3_bends : MethodName := ⟨RX3, "bends", "()I"⟩
abbrev cX3_bendAt : ByteArray := prog_5_method_5_code
def yX3_bendAt : MethodName := ⟨RX3, "bendAt", "(I)I"⟩
def RX4 : String := "CartsDownHill$Image"
def TX4 : u_T := fun k => match k with
  | 0 => ("CartsDownHill$Image", "weights", "[I", true)
  | 1 => ("CartsDownHill$Image", "brakes", "[I", true)
  | 2 => ("CartsDownHill$Image", "coasts", "LCartsDownHill$Coasts;", true)
  | 3 => ("CartsDownHill$Image", "cartCount", "I", false)
  | 4 => ("CartsDownHill$Image", "holds", "I", false)
  | _ => ("CartsDownHill$Image", "hillsRead", "I", false)
def tyX4 : Nat → FieldType := fun k => match k with
  | 0 => .array .int
  | 1 => .array .int
  | 2 => .object "CartsDownHill$Coasts"
  | 3 => .int
  | 4 => .int
  | _ => .int
abbrev wsX40 : List Cond := u_ws RX4 TX4 6
theorem nmX4 : ∀ a, a < 6 → ∀ b, b < 6 → a ≠ b → (TX4 a).2.1 ≠ (TX4 b).2.1 := by decide +kernel
theorem tyX4_ok : ∀ k, k < 6 → parseFieldDescriptor (TX4 k).2.2.1 = some (tyX4 k) := by decide +kernel
abbrev cX4_init : ByteArray := prog_6_method_1_code
def yX4_init : MethodName := ⟨RX4, "<init>", "()V"⟩
def RX5 : String := "CartsDownHill$Page"
def TX5 : u_T := fun k => match k with
  | 0 => ("CartsDownHill$Page", "letter", "[I", true)
  | _ => ("CartsDownHill$Page", "size", "I", false)
def tyX5 : Nat → FieldType := fun k => match k with
  | 0 => .array .int
  | _ => .int
abbrev wsX50 : List Cond := u_ws RX5 TX5 2
theorem nmX5 : ∀ a, a < 2 → ∀ b, b < 2 → a ≠ b → (TX5 a).2.1 ≠ (TX5 b).2.1 := by decide +kernel
theorem tyX5_ok : ∀ k, k < 2 → parseFieldDescriptor (TX5 k).2.2.1 = some (tyX5 k) := by decide +kernel
abbrev cX5_init : ByteArray := prog_7_method_1_code
def yX5_init : MethodName := ⟨RX5, "<init>", "()V"⟩
abbrev cX5_put : ByteArray := prog_7_method_2_code
def yX5_put : MethodName := ⟨RX5, "put", "(I)V"⟩
abbrev cX5_at : ByteArray := prog_7_method_3_code
def yX5_at : MethodName := ⟨RX5, "at", "(I)I"⟩
abbrev cX5_digitAt : ByteArray := prog_7_method_4_code
def yX5_digitAt : MethodName := ⟨RX5, "digitAt", "(I)I"⟩
abbrev cX5_isDigit : ByteArray := prog_7_method_5_code
def yX5_isDigit : MethodName := ⟨RX5, "isDigit", "(II)Z"⟩
abbrev cX5_hillFault : ByteArray := prog_7_method_6_code
def yX5_hillFault : MethodName := ⟨RX5, "hillFault", "()I"⟩
abbrev cX5_fitsHill : ByteArray := prog_7_method_7_code
def yX5_fitsHill : MethodName := ⟨RX5, "fitsHill", "(IZ)Z"⟩
abbrev cX5_isHill : ByteArray := prog_7_method_8_code
def yX5_isHill : MethodName := ⟨RX5, "isHill", "()Z"⟩
abbrev cX5_commas : ByteArray := prog_7_method_9_code
def yX5_commas : MethodName := ⟨RX5, "commas", "()I"⟩
abbrev cX5_cartFault : ByteArray := prog_7_method_10_code
def yX5_cartFault : MethodName := ⟨RX5, "cartFault", "()I"⟩
abbrev cX5_fitsCart : ByteArray := prog_7_method_11_code
def yX5_fitsCart : MethodName := ⟨RX5, "fitsCart", "(I)Z"⟩
abbrev cX5_isCart : ByteArray := prog_7_method_12_code
def yX5_isCart : MethodName := ⟨RX5, "isCart", "()Z"⟩
abbrev cX5_kindAt : ByteArray := prog_7_method_13_code
def yX5_kindAt : MethodName := ⟨RX5, "kindAt", "(I)I"⟩
def RX6 : String := "CartsDownHill$Ride"
def TX6 : u_T := fun k => match k with
  | 0 => ("CartsDownHill$Ride", "hill", "LCartsDownHill$Hill;", true)
  | 1 => ("CartsDownHill$Ride", "kind", "[I", true)
  | 2 => ("CartsDownHill$Ride", "n", "[I", true)
  | 3 => ("CartsDownHill$Ride", "spent", "[I", true)
  | 4 => ("CartsDownHill$Ride", "brakes", "[I", true)
  | 5 => ("CartsDownHill$Ride", "size", "I", false)
  | 6 => ("CartsDownHill$Ride", "weight", "I", false)
  | 7 => ("CartsDownHill$Ride", "holds", "I", false)
  | 8 => ("CartsDownHill$Ride", "ending", "I", false)
  | 9 => ("CartsDownHill$Ride", "lastCell", "I", false)
  | 10 => ("CartsDownHill$Ride", "time", "I", false)
  | 11 => ("CartsDownHill$Ride", "swing", "I", false)
  | 12 => ("CartsDownHill$Ride", "braked", "I", false)
  | 13 => ("CartsDownHill$Ride", "took", "[I", true)
  | _ => ("CartsDownHill$Ride", "swingIn", "[I", true)
def tyX6 : Nat → FieldType := fun k => match k with
  | 0 => .object "CartsDownHill$Hill"
  | 1 => .array .int
  | 2 => .array .int
  | 3 => .array .int
  | 4 => .array .int
  | 5 => .int
  | 6 => .int
  | 7 => .int
  | 8 => .int
  | 9 => .int
  | 10 => .int
  | 11 => .int
  | 12 => .int
  | 13 => .array .int
  | _ => .array .int
abbrev wsX60 : List Cond := u_ws RX6 TX6 15
theorem nmX6 : ∀ a, a < 15 → ∀ b, b < 15 → a ≠ b → (TX6 a).2.1 ≠ (TX6 b).2.1 := by decide +kernel
theorem tyX6_ok : ∀ k, k < 15 → parseFieldDescriptor (TX6 k).2.2.1 = some (tyX6 k) := by decide +kernel
abbrev cX6_init : ByteArray := prog_8_method_1_code
def yX6_init : MethodName := ⟨RX6, "<init>", "(LCartsDownHill$Hill;)V"⟩
abbrev cX6_mount : ByteArray := prog_8_method_2_code
def yX6_mount : MethodName := ⟨RX6, "mount", "(LCartsDownHill$Cart;I)V"⟩
abbrev cX6_go : ByteArray := prog_8_method_3_code
def yX6_go : MethodName := ⟨RX6, "go", "(I)V"⟩
abbrev cX6_goThrough : ByteArray := prog_8_method_4_code
def yX6_goThrough : MethodName := ⟨RX6, "goThrough", "(I)V"⟩
abbrev cX6_takes : ByteArray := prog_8_method_5_code
def yX6_takes : MethodName := ⟨RX6, "takes", "(IIIII)I"⟩
abbrev cX6_bearable : ByteArray := prog_8_method_6_code
def yX6_bearable : MethodName := ⟨RX6, "bearable", "(I)I"⟩
abbrev cX6_root : ByteArray := prog_8_method_7_code
def yX6_root : MethodName := ⟨RX6, "root", "(I)I"⟩
abbrev cX6_timeIfDown : ByteArray := prog_8_method_8_code
def yX6_timeIfDown : MethodName := ⟨RX6, "timeIfDown", "()I"⟩
abbrev cX6_tell : ByteArray := prog_8_method_9_code
def yX6_tell : MethodName := ⟨RX6, "tell", "(I)I"⟩
abbrev cX6_goFlat : ByteArray := prog_8_method_10_code
def yX6_goFlat : MethodName := ⟨RX6, "goFlat", "(III)I"⟩
abbrev cX6_spendNext : ByteArray := prog_8_method_11_code
def yX6_spendNext : MethodName := ⟨RX6, "spendNext", "(I)Z"⟩
def RX7 : String := "CartsDownHill"
def TX7 : u_T := fun k => match k with
  | 0 => ("CartsDownHill", "page", "LCartsDownHill$Page;", true)
  | 1 => ("CartsDownHill", "slope", "LCartsDownHill$Hill;", true)
  | 2 => ("CartsDownHill", "carts", "[LCartsDownHill$Cart;", true)
  | 3 => ("CartsDownHill", "coasts", "LCartsDownHill$Coasts;", true)
  | 4 => ("CartsDownHill", "kept", "LCartsDownHill$Image;", true)
  | 5 => ("CartsDownHill", "ride", "LCartsDownHill$Ride;", true)
  | 6 => ("CartsDownHill", "best", "LCartsDownHill$Best;", true)
  | 7 => ("CartsDownHill", "times", "[I", true)
  | 8 => ("CartsDownHill", "safe", "[I", true)
  | 9 => ("CartsDownHill", "cartCount", "I", false)
  | _ => ("CartsDownHill", "holds", "I", false)
def tyX7 : Nat → FieldType := fun k => match k with
  | 0 => .object "CartsDownHill$Page"
  | 1 => .object "CartsDownHill$Hill"
  | 2 => .array (.object "CartsDownHill$Cart")
  | 3 => .object "CartsDownHill$Coasts"
  | 4 => .object "CartsDownHill$Image"
  | 5 => .object "CartsDownHill$Ride"
  | 6 => .object "CartsDownHill$Best"
  | 7 => .array .int
  | 8 => .array .int
  | 9 => .int
  | _ => .int
abbrev wsX70 : List Cond := u_ws RX7 TX7 11
theorem nmX7 : ∀ a, a < 11 → ∀ b, b < 11 → a ≠ b → (TX7 a).2.1 ≠ (TX7 b).2.1 := by decide +kernel
theorem tyX7_ok : ∀ k, k < 11 → parseFieldDescriptor (TX7 k).2.2.1 = some (tyX7 k) := by decide +kernel
abbrev cX7_init : ByteArray := prog_1_method_1_code
def yX7_init : MethodName := ⟨RX7, "<init>", "()V"⟩
abbrev cX7_letters : ByteArray := prog_1_method_2_code
def yX7_letters : MethodName := ⟨RX7, "letters", "(J)I"⟩
abbrev cX7_blank : ByteArray := prog_1_method_3_code
def yX7_blank : MethodName := ⟨RX7, "blank", "()I"⟩
abbrev cX7_fault : ByteArray := prog_1_method_4_code
def yX7_fault : MethodName := ⟨RX7, "fault", "(I)I"⟩
abbrev cX7_hill : ByteArray := prog_1_method_5_code
def yX7_hill : MethodName := ⟨RX7, "hill", "()I"⟩
abbrev cX7_cart : ByteArray := prog_1_method_6_code
def yX7_cart : MethodName := ⟨RX7, "cart", "()I"⟩
abbrev cX7_cell : ByteArray := prog_1_method_7_code
def yX7_cell : MethodName := ⟨RX7, "cell", "(II)I"⟩
abbrev cX7_about : ByteArray := prog_1_method_8_code
def yX7_about : MethodName := ⟨RX7, "about", "(II)I"⟩
abbrev cX7_loss : ByteArray := prog_1_method_9_code
def yX7_loss : MethodName := ⟨RX7, "loss", "(III)I"⟩
abbrev cX7_as : ByteArray := prog_1_method_10_code
def yX7_as : MethodName := ⟨RX7, "as", "(III)I"⟩
abbrev cX7_weigh : ByteArray := prog_1_method_11_code
def yX7_weigh : MethodName := ⟨RX7, "weigh", "(II)I"⟩
abbrev cX7_grip : ByteArray := prog_1_method_12_code
def yX7_grip : MethodName := ⟨RX7, "grip", "(I)I"⟩
abbrev cX7_brake : ByteArray := prog_1_method_13_code
def yX7_brake : MethodName := ⟨RX7, "brake", "(II)I"⟩
abbrev cX7_run : ByteArray := prog_1_method_14_code
def yX7_run : MethodName := ⟨RX7, "run", "(III)I"⟩
abbrev cX7_pace : ByteArray := prog_1_method_15_code
def yX7_pace : MethodName := ⟨RX7, "pace", "(III)I"⟩
abbrev cX7_lost : ByteArray := prog_1_method_16_code
def yX7_lost : MethodName := ⟨RX7, "lost", "(III)I"⟩
abbrev cX7_bestBrakes : ByteArray := prog_1_method_17_code
def yX7_bestBrakes : MethodName := ⟨RX7, "bestBrakes", "(III)I"⟩
abbrev cX7_bestPush : ByteArray := prog_1_method_18_code
def yX7_bestPush : MethodName := ⟨RX7, "bestPush", "(III)I"⟩
abbrev cX7_work : ByteArray := prog_1_method_19_code
def yX7_work : MethodName := ⟨RX7, "work", "(IIII)I"⟩
abbrev cX7_weighed : ByteArray := prog_1_method_20_code
def yX7_weighed : MethodName := ⟨RX7, "weighed", "(III)I"⟩
abbrev cX7_close : ByteArray := prog_1_method_21_code
def yX7_close : MethodName := ⟨RX7, "close", "(II)I"⟩
abbrev cX7_farthest : ByteArray := prog_1_method_22_code
def yX7_farthest : MethodName := ⟨RX7, "farthest", "(II)I"⟩
abbrev cX7_coast : ByteArray := prog_1_method_23_code
def yX7_coast : MethodName := ⟨RX7, "coast", "(III)I"⟩
abbrev cX7_rubs : ByteArray := prog_1_method_24_code
def yX7_rubs : MethodName := ⟨RX7, "rubs", "()I"⟩
abbrev cX7_chance : ByteArray := prog_1_method_25_code
def yX7_chance : MethodName := ⟨RX7, "chance", "(IIII)I"⟩
abbrev cX7_wins : ByteArray := prog_1_method_26_code
def yX7_wins : MethodName := ⟨RX7, "wins", "(IIIIIIII)I"⟩
abbrev cX7_plan : ByteArray := prog_1_method_27_code
def yX7_plan : MethodName := ⟨RX7, "plan", "(IIIIII)I"⟩
abbrev cX7_stays : ByteArray := prog_1_method_28_code
def yX7_stays : MethodName := ⟨RX7, "stays", "(IIIII)J"⟩
abbrev cX7_straw : ByteArray := prog_1_method_29_code
def yX7_straw : MethodName := ⟨RX7, "straw", "(IIII)I"⟩
abbrev cX7_image : ByteArray := prog_1_method_30_code
def yX7_image : MethodName := ⟨RX7, "image", "()I"⟩
abbrev cX7_restore : ByteArray := prog_1_method_31_code
def yX7_restore : MethodName := ⟨RX7, "restore", "()I"⟩
abbrev cX7_count : ByteArray := prog_1_method_32_code
def yX7_count : MethodName := ⟨RX7, "count", "(I)I"⟩
abbrev cX7_digest : ByteArray := prog_1_method_33_code
def yX7_digest : MethodName := ⟨RX7, "digest", "()J"⟩
abbrev cX7_isCart : ByteArray := prog_1_method_34_code
def yX7_isCart : MethodName := ⟨RX7, "isCart", "(I)Z"⟩
abbrev cX7_isLoss : ByteArray := prog_1_method_35_code
def yX7_isLoss : MethodName := ⟨RX7, "isLoss", "(II)Z"⟩
abbrev cX7_isCell : ByteArray := prog_1_method_36_code
def yX7_isCell : MethodName := ⟨RX7, "isCell", "(I)Z"⟩
abbrev cX7_isWithin : ByteArray := prog_1_method_37_code
def yX7_isWithin : MethodName := ⟨RX7, "isWithin", "(III)Z"⟩
abbrev cX7_isSwing : ByteArray := prog_1_method_38_code
def yX7_isSwing : MethodName := ⟨RX7, "isSwing", "(I)Z"⟩
abbrev cX7_isOfKind : ByteArray := prog_1_method_39_code
def yX7_isOfKind : MethodName := ⟨RX7, "isOfKind", "(II)Z"⟩
abbrev cX7_codeAt : ByteArray := prog_1_method_40_code
def yX7_codeAt : MethodName := ⟨RX7, "codeAt", "(JI)I"⟩
abbrev cX7_by : ByteArray := prog_1_method_41_code
def yX7_by : MethodName := ⟨RX7, "by", "(II)I"⟩
abbrev cX7_refusalOfRun : ByteArray := prog_1_method_42_code
def yX7_refusalOfRun : MethodName := ⟨RX7, "refusalOfRun", "(IIZ)I"⟩
abbrev cX7_refusalOfFour : ByteArray := prog_1_method_43_code
def yX7_refusalOfFour : MethodName := ⟨RX7, "refusalOfFour", "(IIII)I"⟩
abbrev cX7_goDown : ByteArray := prog_1_method_44_code
def yX7_goDown : MethodName := ⟨RX7, "goDown", "(II)V"⟩
abbrev cX7_timeOf : ByteArray := prog_1_method_45_code
def yX7_timeOf : MethodName := ⟨RX7, "timeOf", "(II)I"⟩
abbrev cX7_timeAt : ByteArray := prog_1_method_46_code
def yX7_timeAt : MethodName := ⟨RX7, "timeAt", "(III)I"⟩
abbrev cX7_choice : ByteArray := prog_1_method_47_code
def yX7_choice : MethodName := ⟨RX7, "choice", "(II)I"⟩
abbrev cX7_isBraked : ByteArray := prog_1_method_48_code
def yX7_isBraked : MethodName := ⟨RX7, "isBraked", "(I)Z"⟩
abbrev cX7_tryBrakes : ByteArray := prog_1_method_49_code
def yX7_tryBrakes : MethodName := ⟨RX7, "tryBrakes", "(II)V"⟩
abbrev cX7_apartBy : ByteArray := prog_1_method_50_code
def yX7_apartBy : MethodName := ⟨RX7, "apartBy", "(II)I"⟩
abbrev cX7_flatCells : ByteArray := prog_1_method_51_code
def yX7_flatCells : MethodName := ⟨RX7, "flatCells", "(II)I"⟩
abbrev cX7_allCoastsAreSo : ByteArray := prog_1_method_52_code
def yX7_allCoastsAreSo : MethodName := ⟨RX7, "allCoastsAreSo", "(I)Z"⟩
abbrev cX7_tenths : ByteArray := prog_1_method_53_code
def yX7_tenths : MethodName := ⟨RX7, "tenths", "(III)I"⟩
abbrev cX7_takeTimes : ByteArray := prog_1_method_54_code
def yX7_takeTimes : MethodName := ⟨RX7, "takeTimes", "(IIIII)V"⟩
abbrev cX7_quickestOfFour : ByteArray := prog_1_method_55_code
def yX7_quickestOfFour : MethodName := ⟨RX7, "quickestOfFour", "()I"⟩
abbrev cX7_thousandths : ByteArray := prog_1_method_56_code
def yX7_thousandths : MethodName := ⟨RX7, "thousandths", "(III)I"⟩
abbrev cX7_weighBends : ByteArray := prog_1_method_57_code
def yX7_weighBends : MethodName := ⟨RX7, "weighBends", "(I)V"⟩
abbrev cX7_safeHundredths : ByteArray := prog_1_method_58_code
def yX7_safeHundredths : MethodName := ⟨RX7, "safeHundredths", "(III)I"⟩
abbrev cX7_stayingWith : ByteArray := prog_1_method_59_code
def yX7_stayingWith : MethodName := ⟨RX7, "stayingWith", "(I)J"⟩
abbrev cX7_lowest : ByteArray := prog_1_method_60_code
def yX7_lowest : MethodName := ⟨RX7, "lowest", "(JJI)J"⟩
abbrev cX7_mixed : ByteArray := prog_1_method_61_code
def yX7_mixed : MethodName := ⟨RX7, "mixed", "(JI)J"⟩
abbrev cX7_mixedCart : ByteArray := prog_1_method_62_code
def yX7_mixedCart : MethodName := ⟨RX7, "mixedCart", "(JI)J"⟩
def RX8 : String := "CartsDownHillModel"
def TX8 : u_T := fun k => match k with
  | 0 => ("CartsDownHillModel", "page", "[I", true)
  | 1 => ("CartsDownHillModel", "pageMany", "I", false)
  | 2 => ("CartsDownHillModel", "state", "I", false)
  | 3 => ("CartsDownHillModel", "readMany", "I", false)
  | 4 => ("CartsDownHillModel", "readWeight", "I", false)
  | 5 => ("CartsDownHillModel", "readRows", "[I", true)
  | 6 => ("CartsDownHillModel", "cells", "I", false)
  | 7 => ("CartsDownHillModel", "hillsRead", "I", false)
  | 8 => ("CartsDownHillModel", "drops", "[I", true)
  | 9 => ("CartsDownHillModel", "sharps", "[I", true)
  | 10 => ("CartsDownHillModel", "bumps", "[I", true)
  | 11 => ("CartsDownHillModel", "brakes", "[I", true)
  | 12 => ("CartsDownHillModel", "carts", "I", false)
  | 13 => ("CartsDownHillModel", "weights", "[I", true)
  | 14 => ("CartsDownHillModel", "lossMany", "[I", true)
  | 15 => ("CartsDownHillModel", "losses", "[I", true)
  | 16 => ("CartsDownHillModel", "gripTold", "I", false)
  | 17 => ("CartsDownHillModel", "weightNow", "I", false)
  | 18 => ("CartsDownHillModel", "manyNow", "I", false)
  | 19 => ("CartsDownHillModel", "kindsNow", "[I", true)
  | 20 => ("CartsDownHillModel", "sizesNow", "[I", true)
  | 21 => ("CartsDownHillModel", "brakesNow", "[I", true)
  | 22 => ("CartsDownHillModel", "endNow", "I", false)
  | 23 => ("CartsDownHillModel", "cellNow", "I", false)
  | 24 => ("CartsDownHillModel", "timeNow", "I", false)
  | 25 => ("CartsDownHillModel", "swingNow", "I", false)
  | 26 => ("CartsDownHillModel", "ends", "[I", true)
  | 27 => ("CartsDownHillModel", "tookNow", "[I", true)
  | 28 => ("CartsDownHillModel", "brakedNow", "I", false)
  | 29 => ("CartsDownHillModel", "coasts", "I", false)
  | 30 => ("CartsDownHillModel", "coastRows", "[I", true)
  | 31 => ("CartsDownHillModel", "four", "[I", true)
  | 32 => ("CartsDownHillModel", "keptHill", "I", false)
  | 33 => ("CartsDownHillModel", "keptGrip", "I", false)
  | 34 => ("CartsDownHillModel", "keptCarts", "I", false)
  | 35 => ("CartsDownHillModel", "keptCoasts", "I", false)
  | 36 => ("CartsDownHillModel", "keptBrakes", "[I", true)
  | 37 => ("CartsDownHillModel", "keptWeights", "[I", true)
  | 38 => ("CartsDownHillModel", "keptRows", "[I", true)
  | _ => ("CartsDownHillModel", "hash", "J", false)
def tyX8 : Nat → FieldType := fun k => match k with
  | 0 => .array .int
  | 1 => .int
  | 2 => .int
  | 3 => .int
  | 4 => .int
  | 5 => .array .int
  | 6 => .int
  | 7 => .int
  | 8 => .array .int
  | 9 => .array .int
  | 10 => .array .int
  | 11 => .array .int
  | 12 => .int
  | 13 => .array .int
  | 14 => .array .int
  | 15 => .array .int
  | 16 => .int
  | 17 => .int
  | 18 => .int
  | 19 => .array .int
  | 20 => .array .int
  | 21 => .array .int
  | 22 => .int
  | 23 => .int
  | 24 => .int
  | 25 => .int
  | 26 => .array .int
  | 27 => .array .int
  | 28 => .int
  | 29 => .int
  | 30 => .array .int
  | 31 => .array .int
  | 32 => .int
  | 33 => .int
  | 34 => .int
  | 35 => .int
  | 36 => .array .int
  | 37 => .array .int
  | 38 => .array .int
  | _ => .long
abbrev wsX80 : List Cond := u_ws RX8 TX8 40
theorem nmX8 : ∀ a, a < 40 → ∀ b, b < 40 → a ≠ b → (TX8 a).2.1 ≠ (TX8 b).2.1 := by decide +kernel
theorem tyX8_ok : ∀ k, k < 40 → parseFieldDescriptor (TX8 k).2.2.1 = some (tyX8 k) := by decide +kernel
abbrev cX8_init : ByteArray := prog_10_method_1_code
def yX8_init : MethodName := ⟨RX8, "<init>", "()V"⟩
abbrev cX8_in : ByteArray := prog_10_method_2_code
def yX8_in : MethodName := ⟨RX8, "in", "(JJJ)Z"⟩
abbrev cX8_letters : ByteArray := prog_10_method_3_code
def yX8_letters : MethodName := ⟨RX8, "letters", "(J)I"⟩
abbrev cX8_blank : ByteArray := prog_10_method_4_code
def yX8_blank : MethodName := ⟨RX8, "blank", "()I"⟩
abbrev cX8_goHill : ByteArray := prog_10_method_5_code
def yX8_goHill : MethodName := ⟨RX8, "goHill", "(I)Z"⟩
abbrev cX8_goNext : ByteArray := prog_10_method_6_code
def yX8_goNext : MethodName := ⟨RX8, "goNext", "(II)Z"⟩
abbrev cX8_kindOf : ByteArray := prog_10_method_7_code
def yX8_kindOf : MethodName := ⟨RX8, "kindOf", "(I)I"⟩
abbrev cX8_goCart : ByteArray := prog_10_method_8_code
def yX8_goCart : MethodName := ⟨RX8, "goCart", "(I)Z"⟩
abbrev cX8_faultOf : ByteArray := prog_10_method_9_code
def yX8_faultOf : MethodName := ⟨RX8, "faultOf", "(I)I"⟩
abbrev cX8_fault : ByteArray := prog_10_method_10_code
def yX8_fault : MethodName := ⟨RX8, "fault", "(I)I"⟩
abbrev cX8_hill : ByteArray := prog_10_method_11_code
def yX8_hill : MethodName := ⟨RX8, "hill", "()I"⟩
abbrev cX8_cart : ByteArray := prog_10_method_12_code
def yX8_cart : MethodName := ⟨RX8, "cart", "()I"⟩
abbrev cX8_isCell : ByteArray := prog_10_method_13_code
def yX8_isCell : MethodName := ⟨RX8, "isCell", "(I)Z"⟩
abbrev cX8_isCart : ByteArray := prog_10_method_14_code
def yX8_isCart : MethodName := ⟨RX8, "isCart", "(I)Z"⟩
abbrev cX8_cellOf : ByteArray := prog_10_method_15_code
def yX8_cellOf : MethodName := ⟨RX8, "cellOf", "(II)I"⟩
abbrev cX8_cell : ByteArray := prog_10_method_16_code
def yX8_cell : MethodName := ⟨RX8, "cell", "(II)I"⟩
abbrev cX8_about : ByteArray := prog_10_method_17_code
def yX8_about : MethodName := ⟨RX8, "about", "(II)I"⟩
abbrev cX8_isLoss : ByteArray := prog_10_method_18_code
def yX8_isLoss : MethodName := ⟨RX8, "isLoss", "(II)Z"⟩
abbrev cX8_loss : ByteArray := prog_10_method_19_code
def yX8_loss : MethodName := ⟨RX8, "loss", "(III)I"⟩
abbrev cX8_as : ByteArray := prog_10_method_20_code
def yX8_as : MethodName := ⟨RX8, "as", "(III)I"⟩
abbrev cX8_weigh : ByteArray := prog_10_method_21_code
def yX8_weigh : MethodName := ⟨RX8, "weigh", "(II)I"⟩
abbrev cX8_grip : ByteArray := prog_10_method_22_code
def yX8_grip : MethodName := ⟨RX8, "grip", "(I)I"⟩
abbrev cX8_brake : ByteArray := prog_10_method_23_code
def yX8_brake : MethodName := ⟨RX8, "brake", "(II)I"⟩
abbrev cX8_take : ByteArray := prog_10_method_24_code
def yX8_take : MethodName := ⟨RX8, "take", "(I)V"⟩
abbrev cX8_takes : ByteArray := prog_10_method_25_code
def yX8_takes : MethodName := ⟨RX8, "takes", "(IIIII)I"⟩
abbrev cX8_root : ByteArray := prog_10_method_26_code
def yX8_root : MethodName := ⟨RX8, "root", "(I)I"⟩
abbrev cX8_bearable : ByteArray := prog_10_method_27_code
def yX8_bearable : MethodName := ⟨RX8, "bearable", "(I)I"⟩
abbrev cX8_goCell : ByteArray := prog_10_method_28_code
def yX8_goCell : MethodName := ⟨RX8, "goCell", "(I)I"⟩
abbrev cX8_go : ByteArray := prog_10_method_29_code
def yX8_go : MethodName := ⟨RX8, "go", "(I)V"⟩
abbrev cX8_isSwing : ByteArray := prog_10_method_30_code
def yX8_isSwing : MethodName := ⟨RX8, "isSwing", "(I)Z"⟩
abbrev cX8_lacks : ByteArray := prog_10_method_31_code
def yX8_lacks : MethodName := ⟨RX8, "lacks", "()Z"⟩
abbrev cX8_run : ByteArray := prog_10_method_32_code
def yX8_run : MethodName := ⟨RX8, "run", "(III)I"⟩
abbrev cX8_pace : ByteArray := prog_10_method_33_code
def yX8_pace : MethodName := ⟨RX8, "pace", "(III)I"⟩
abbrev cX8_lost : ByteArray := prog_10_method_34_code
def yX8_lost : MethodName := ⟨RX8, "lost", "(III)I"⟩
abbrev cX8_bendAt : ByteArray := prog_10_method_35_code
def yX8_bendAt : MethodName := ⟨RX8, "bendAt", "(I)I"⟩
abbrev cX8_isBraked : ByteArray := prog_10_method_36_code
def yX8_isBraked : MethodName := ⟨RX8, "isBraked", "(I)Z"⟩
abbrev cX8_bestBrakes : ByteArray := prog_10_method_37_code
def yX8_bestBrakes : MethodName := ⟨RX8, "bestBrakes", "(III)I"⟩
abbrev cX8_bestPush : ByteArray := prog_10_method_38_code
def yX8_bestPush : MethodName := ⟨RX8, "bestPush", "(III)I"⟩
abbrev cX8_work : ByteArray := prog_10_method_39_code
def yX8_work : MethodName := ⟨RX8, "work", "(IIII)I"⟩
abbrev cX8_timeBy : ByteArray := prog_10_method_40_code
def yX8_timeBy : MethodName := ⟨RX8, "timeBy", "(III)I"⟩
abbrev cX8_weighed : ByteArray := prog_10_method_41_code
def yX8_weighed : MethodName := ⟨RX8, "weighed", "(III)I"⟩
abbrev cX8_close : ByteArray := prog_10_method_42_code
def yX8_close : MethodName := ⟨RX8, "close", "(II)I"⟩
abbrev cX8_farthestBy : ByteArray := prog_10_method_43_code
def yX8_farthestBy : MethodName := ⟨RX8, "farthestBy", "(III)I"⟩
abbrev cX8_farthest : ByteArray := prog_10_method_44_code
def yX8_farthest : MethodName := ⟨RX8, "farthest", "(II)I"⟩
abbrev cX8_coast : ByteArray := prog_10_method_45_code
def yX8_coast : MethodName := ⟨RX8, "coast", "(III)I"⟩
abbrev cX8_rubsNow : ByteArray := prog_10_method_46_code
def yX8_rubsNow : MethodName := ⟨RX8, "rubsNow", "()I"⟩
abbrev cX8_rubs : ByteArray := prog_10_method_47_code
def yX8_rubs : MethodName := ⟨RX8, "rubs", "()I"⟩
abbrev cX8_downTime : ByteArray := prog_10_method_48_code
def yX8_downTime : MethodName := ⟨RX8, "downTime", "(II)I"⟩
abbrev cX8_chanceOf : ByteArray := prog_10_method_49_code
def yX8_chanceOf : MethodName := ⟨RX8, "chanceOf", "(IIII)I"⟩
abbrev cX8_isSlip : ByteArray := prog_10_method_50_code
def yX8_isSlip : MethodName := ⟨RX8, "isSlip", "(I)Z"⟩
abbrev cX8_chance : ByteArray := prog_10_method_51_code
def yX8_chance : MethodName := ⟨RX8, "chance", "(IIII)I"⟩
abbrev cX8_winsOf : ByteArray := prog_10_method_52_code
def yX8_winsOf : MethodName := ⟨RX8, "winsOf", "(IIIIII)I"⟩
abbrev cX8_common : ByteArray := prog_10_method_53_code
def yX8_common : MethodName := ⟨RX8, "common", "(II)I"⟩
abbrev cX8_areFour : ByteArray := prog_10_method_54_code
def yX8_areFour : MethodName := ⟨RX8, "areFour", "(IIII)Z"⟩
abbrev cX8_areUnlike : ByteArray := prog_10_method_55_code
def yX8_areUnlike : MethodName := ⟨RX8, "areUnlike", "(IIII)Z"⟩
abbrev cX8_wins : ByteArray := prog_10_method_56_code
def yX8_wins : MethodName := ⟨RX8, "wins", "(IIIIIIII)I"⟩
abbrev cX8_quickest : ByteArray := prog_10_method_57_code
def yX8_quickest : MethodName := ⟨RX8, "quickest", "(I)I"⟩
abbrev cX8_plan : ByteArray := prog_10_method_58_code
def yX8_plan : MethodName := ⟨RX8, "plan", "(IIIIII)I"⟩
abbrev cX8_staysBy : ByteArray := prog_10_method_59_code
def yX8_staysBy : MethodName := ⟨RX8, "staysBy", "(IIII)J"⟩
abbrev cX8_leaving : ByteArray := prog_10_method_60_code
def yX8_leaving : MethodName := ⟨RX8, "leaving", "(II)I"⟩
abbrev cX8_bends : ByteArray := prog_10_method_61_code
def yX8_bends : MethodName := ⟨RX8, "bends", "()I"⟩
abbrev cX8_isShake : ByteArray := prog_10_method_62_code
def yX8_isShake : MethodName := ⟨RX8, "isShake", "(I)Z"⟩
abbrev cX8_stays : ByteArray := prog_10_method_63_code
def yX8_stays : MethodName := ⟨RX8, "stays", "(IIIII)J"⟩
abbrev cX8_straw : ByteArray := prog_10_method_64_code
def yX8_straw : MethodName := ⟨RX8, "straw", "(IIII)I"⟩
abbrev cX8_image : ByteArray := prog_10_method_65_code
def yX8_image : MethodName := ⟨RX8, "image", "()I"⟩
abbrev cX8_restore : ByteArray := prog_10_method_66_code
def yX8_restore : MethodName := ⟨RX8, "restore", "()I"⟩
abbrev cX8_countOf : ByteArray := prog_10_method_67_code
def yX8_countOf : MethodName := ⟨RX8, "countOf", "(I)I"⟩
abbrev cX8_count : ByteArray := prog_10_method_68_code
def yX8_count : MethodName := ⟨RX8, "count", "(I)I"⟩
abbrev cX8_say : ByteArray := prog_10_method_69_code
def yX8_say : MethodName := ⟨RX8, "say", "(J)V"⟩
abbrev cX8_sayCart : ByteArray := prog_10_method_70_code
def yX8_sayCart : MethodName := ⟨RX8, "sayCart", "(I)V"⟩
abbrev cX8_digest : ByteArray := prog_10_method_71_code
def yX8_digest : MethodName := ⟨RX8, "digest", "()J"⟩
def RJ11 : String := "java/lang/Character"
abbrev cJ11_isValidCodePoint_9a6ad : ByteArray := prog_11_method_11_code
def yJ11_isValidCodePoint_9a6ad : MethodName := ⟨RJ11, "isValidCodePoint", "(I)Z"⟩
abbrev cJ11_highSurrogate_5068e : ByteArray := prog_11_method_28_code
def yJ11_highSurrogate_5068e : MethodName := ⟨RJ11, "highSurrogate", "(I)C"⟩
abbrev cJ11_lowSurrogate_5068e : ByteArray := prog_11_method_29_code
def yJ11_lowSurrogate_5068e : MethodName := ⟨RJ11, "lowSurrogate", "(I)C"⟩
def RJ6 : String := "java/lang/Integer"
abbrev cJ6_bitCount_0f7a4 : ByteArray := prog_12_method_49_code
def yJ6_bitCount_0f7a4 : MethodName := ⟨RJ6, "bitCount", "(I)I"⟩
def RJ9 : String := "java/lang/Math"
abbrev cJ9_abs_0f7a4 : ByteArray := prog_13_method_59_code
def yJ9_abs_0f7a4 : MethodName := ⟨RJ9, "abs", "(I)I"⟩
abbrev cJ9_max_7cf53 : ByteArray := prog_13_method_65_code
def yJ9_max_7cf53 : MethodName := ⟨RJ9, "max", "(II)I"⟩
abbrev cJ9_min_7cf53 : ByteArray := prog_13_method_69_code
def yJ9_min_7cf53 : MethodName := ⟨RJ9, "min", "(II)I"⟩
def RJ0 : String := "java/lang/String"
abbrev cJ0_length_8abf5 : ByteArray := prog_14_method_54_code
def yJ0_length_8abf5 : MethodName := ⟨RJ0, "length", "()I"⟩
abbrev cJ0_indexOf_0f7a4 : ByteArray := prog_14_method_79_code
def yJ0_indexOf_0f7a4 : MethodName := ⟨RJ0, "indexOf", "(I)I"⟩
abbrev cJ0_indexOf_7cf53 : ByteArray := prog_14_method_80_code
def yJ0_indexOf_7cf53 : MethodName := ⟨RJ0, "indexOf", "(II)I"⟩
abbrev cJ0_coder_7d493 : ByteArray := prog_14_method_152_code
def yJ0_coder_7d493 : MethodName := ⟨RJ0, "coder", "()B"⟩
abbrev cJ0_isLatin1_aae02 : ByteArray := prog_14_method_154_code
def yJ0_isLatin1_aae02 : MethodName := ⟨RJ0, "isLatin1", "()Z"⟩
abbrev cJ0_checkBoundsBeginEnd_23922 : ByteArray := prog_14_method_158_code
def yJ0_checkBoundsBeginEnd_23922 : MethodName := ⟨RJ0, "checkBoundsBeginEnd", "(III)V"⟩
def RJ1 : String := "java/lang/StringLatin1"
abbrev cJ1_canEncode_9a6ad : ByteArray := prog_15_method_4_code
def yJ1_canEncode_9a6ad : MethodName := ⟨RJ1, "canEncode", "(I)Z"⟩
abbrev cJ1_indexOf_4cfef : ByteArray := prog_15_method_22_code
def yJ1_indexOf_4cfef : MethodName := ⟨RJ1, "indexOf", "([BIII)I"⟩
abbrev cJ1_indexOfChar_4cfef : ByteArray := prog_15_method_23_code
def yJ1_indexOfChar_4cfef : MethodName := ⟨RJ1, "indexOfChar", "([BIII)I"⟩
def RJ2 : String := "java/lang/StringUTF16"
abbrev cJ2_getChar_3b067 : ByteArray := prog_16_method_5_code
def yJ2_getChar_3b067 : MethodName := ⟨RJ2, "getChar", "([BI)C"⟩
abbrev cJ2_length_9d52b : ByteArray := prog_16_method_6_code
def yJ2_length_9d52b : MethodName := ⟨RJ2, "length", "([B)I"⟩
abbrev cJ2_indexOf_4cfef : ByteArray := prog_16_method_40_code
def yJ2_indexOf_4cfef : MethodName := ⟨RJ2, "indexOf", "([BIII)I"⟩
abbrev cJ2_indexOfChar_4cfef : ByteArray := prog_16_method_47_code
def yJ2_indexOfChar_4cfef : MethodName := ⟨RJ2, "indexOfChar", "([BIII)I"⟩
abbrev cJ2_indexOfCharUnsafe_4cfef : ByteArray := prog_16_method_48_code
def yJ2_indexOfCharUnsafe_4cfef : MethodName := ⟨RJ2, "indexOfCharUnsafe", "([BIII)I"⟩
abbrev cJ2_indexOfSupplementary_4cfef : ByteArray := prog_16_method_49_code
def yJ2_indexOfSupplementary_4cfef : MethodName := ⟨RJ2, "indexOfSupplementary", "([BIII)I"⟩
abbrev cJ2_checkBoundsBeginEnd_d044e : ByteArray := prog_16_method_93_code
def yJ2_checkBoundsBeginEnd_d044e : MethodName := ⟨RJ2, "checkBoundsBeginEnd", "(II[B)V"⟩
def RJ10 : String := "java/lang/System"
def RJ7 : String := "java/util/Arrays"
abbrev cJ7_fill_53178 : ByteArray := prog_18_method_103_code
def yJ7_fill_53178 : MethodName := ⟨RJ7, "fill", "([II)V"⟩
def RJ3 : String := "jdk/internal/util/Preconditions"
abbrev cJ3_checkFromToIndex_8c36e : ByteArray := prog_19_method_12_code
def yJ3_checkFromToIndex_8c36e : MethodName := ⟨RJ3, "checkFromToIndex", "(IIILjava/util/function/BiFunction;)I"⟩
def RL : String := "CartsDownHillLaw"
abbrev cL_law : ByteArray := code
def yL_law : MethodName := ⟨RL, "law", "([I)Z"⟩
abbrev vwCl : List vw_C := [(RX0, TX0, 3), (RX1, TX1, 4), (RX2, TX2, 4), (RX3, TX3, 6), (RX4, TX4, 6), (RX5, TX5, 2), (RX6, TX6, 15), (RX7, TX7, 11), (RX8, TX8, 40)]
