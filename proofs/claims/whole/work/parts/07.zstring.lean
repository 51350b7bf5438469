-- ===== the text "lrtaus" and its indexOf =====
def bytL (j : Nat) : Int32 := ([108, 114, 116, 97, 117, 115] : List Int32).getD j 0
section GS
variable {α : Type} {Γ : GA} {E : EV} {own : String} {cc : ByteArray} {nL d : Nat} {ret : Option FieldType} {Qf : α → St → State → Prop} {pc : Nat} {lv lv' : List (Nat × Value)} {st st0 : List Value} {S : St} {res : Option (α × St)}
theorem g_gsC (C : Cx Γ E own cc nL d ret) {index : Nat} (hw : Cond.fieldLink own index "java/lang/String" "COMPACT_STRINGS" "Z" ∈ WT) (hd : decode cc pc = .ok (.getstatic index, 3)) (kk : G Γ E Qf nL (pc + 3) lv (.int 1 :: st) S res) : G Γ E Qf nL pc lv st S res :=
  fun H locs ls hP hS h a S' hr => va_gets C.hx C.hb C.hSC.2.2 hS C.hown (C.hts _ hw) (fun _ h9 => h9) hd (kk H locs ls hP hS h a S' hr)
theorem g_gfV (C : Cx Γ E own cc nL d ret) {index : Nat} (hw : Cond.fieldLink own index "java/lang/String" "value" "[B" ∈ WT) (hd : decode cc pc = .ok (.getfield index, 3)) (kk : G Γ E Qf nL (pc + 3) lv (.ref (gV Γ) :: st) S res) : G Γ E Qf nL pc lv (.ref (gK Γ) :: st) S res :=
  fun H locs ls hP hS h a S' hr => vk_getf C.hx C.hb (C.hSC.2.1.1 0 (by decide)).2.2.1 hS C.hown (C.hts _ hw) (fun _ h9 => h9) hd (kk H locs ls hP hS h a S' hr)
theorem g_gfC (C : Cx Γ E own cc nL d ret) {index : Nat} (hw : Cond.fieldLink own index "java/lang/String" "coder" "B" ∈ WT) (hd : decode cc pc = .ok (.getfield index, 3)) (kk : G Γ E Qf nL (pc + 3) lv (.int 0 :: st) S res) : G Γ E Qf nL pc lv (.ref (gK Γ) :: st) S res :=
  fun H locs ls hP hS h a S' hr => vk_getf C.hx C.hb (C.hSC.2.1.1 0 (by decide)).2.1 hS C.hown (C.hts _ hw) (fun _ h9 => h9) hd (kk H locs ls hP hS h a S' hr)
theorem g_blen (C : Cx Γ E own cc nL d ret) (hd : decode cc pc = .ok (.arraylength, 1)) (kk : G Γ E Qf nL (pc + 1) lv (.int 6 :: st) S res) : G Γ E Qf nL pc lv (.ref (gV Γ) :: st) S res :=
  fun H locs ls hP hS h a S' hr => va_tlen C.hx C.hb (C.hSC.2.1.1 0 (by decide)).2.2.2 hS rfl hd (kk H locs ls hP hS h a S' hr)
theorem g_bald (C : Cx Γ E own cc nL d ret) {i : Int32} (hd : decode cc pc = .ok (.baload, 1)) (kk : G Γ E Qf nL (pc + 1) lv (.int (bytL i.toNatClampNeg) :: st) S res) : G Γ E Qf nL pc lv (.int i :: .ref (gV Γ) :: st) S (grd (inb i 6) res) :=
  g_grd fun hi H locs ls hP hS h a S' hr => va_tb C.hx C.hb (C.hSC.2.1.1 0 (by decide)).2.2.2 hS (inb_in hi) rfl hd (kk H locs ls hP hS h a S' hr)
theorem g_callStrN {index maxL dy n : Nat} {y : MethodName} {bytes : ByteArray} {yret : Option FieldType} {As : List Value} (C : Cx Γ E own cc nL d ret) (L : LVi own index y bytes maxL yret n) (hy : y.cls = "java/lang/String") {o : Option (Int32 × St)} {K : Int32 → St → Option (α × St)} (hM : CtI Γ y bytes maxL yret dy (.ref (gK Γ) :: As) S o) (hdd : dy + 1 ≤ d) (hn : As.length = n) (hst : st0 = As.reverse ++ .ref (gK Γ) :: st) (hr0 : (st.map fun v => v.category).sum ≤ 8)
    (hd : decode cc pc = .ok (.invokevirtual index, 3)) (kk : ∀ (r : Int32) (S1 : St), G Γ E Qf nL (pc + 3) lv (.int r :: st) S1 (K r S1)) : G Γ E Qf nL pc lv st0 S (bnd o K) := by
  intro H locs ls hP hS h a S' hr
  cases o with
  | none => cases hr
  | some q =>
    obtain ⟨r, S1⟩ := q
    obtain ⟨⟨l1, l2, l3, l4, l5⟩, l6, l7⟩ := L
    have hlo := C.hlo
    have hfr := C.hfr
    have hrecv := vk_recv (i := 0) C.hSC.2.1 (by decide) hS
    have hpre : PreV (eS E) H y.cls (gK Γ) (va_Pc (.ref (gK Γ) :: As) (World Γ S)) As := ⟨fun a U g mk q => ⟨q.1, q.2.calling⟩, by rw [hy]; exact hrecv, fun U hU hW => ⟨rfl, wd_of C hP hS hU hW⟩⟩
    have hR : (rmd dy).frames + 1 ≤ (eR E).frames ∧ 8 + (maxL + 11) + (rmd dy).locals ≤ (eR E).locals := ⟨Nat.le_trans hdd hfr, by show 8 + (maxL + 11) + 38 * dy ≤ _; omega⟩
    rcases l5 with l5 | ⟨host, l5⟩
    · exact va_callw (va_runV (As := As) (rest := st) (C := y.cls) (n := n) ⟨C.hx, C.hb, C.hml, C.hown, C.hts⟩ (hM r S1 rfl) ⟨callB_of n C.hts (good_all l1) rfl rfl rfl (C.hts _ l2) (C.hts _ l5) l3 hR, C.hts _ l6, C.hts _ l7⟩ hpre rfl hn h.1 hst (lv_room hr0) hd ⟨C.hce, C.hsl⟩) hS (g_hA C) (fun H1 locs1 hP1 hS1 => kk r S1 H1 locs1 ls hP1 hS1 h a S' hr)
    · exact va_callw (va_runVN (As := As) (rest := st) (C := y.cls) (n := n) ⟨C.hx, C.hb, C.hml, C.hown, C.hts⟩ (hM r S1 rfl) ⟨va_cnB n C.hts (good_all l1) rfl rfl rfl (C.hnt _ l5 rfl) (C.hts _ l2) l3 hR, C.hts _ l6, C.hts _ l7⟩ hpre rfl hn h.1 hst (lv_room hr0) hd ⟨C.hce, C.hsl⟩) hS (g_hA C) (fun H1 locs1 hP1 hS1 => kk r S1 H1 locs1 ls hP1 hS1 h a S' hr)
end GS
theorem g_bret {Γ : GA} {E : EV} {own : String} {cc : ByteArray} {nL d : Nat} (C : Cx Γ E own cc nL d (some .byte)) (M : Mx Γ E) {pc : Nat} {lv : List (Nat × Value)} {S : St} {v : Int32} (hv : narrow .byte (.int v) = .int v) (hd : decode cc pc = .ok (.ireturn, 1)) : G Γ E (QI Γ E) nL pc lv [.int v] S (some (v, S)) := by
  intro H locs ls hP hS h a S' hr
  cases hr
  have hlk := C.hlk
  show W _ _ _ _ _ _ _ _ _ _ _ _ (eN E) (eL E) _ _
  rw [M.1, M.2.1]
  exact W.zret C.hx C.hb C.hr hv (fun t ht hW => ⟨rfl, wd_of C hP hS ht hW, by have := hS.F ht; rw [M.2.2] at this; exact this⟩) (fun q hq => by have := hS.2.2 q hq; rw [M.2.2] at this; exact this) hd
theorem ksf_J0_38 : Cond.fieldLink RJ0 38 "java/lang/String" "COMPACT_STRINGS" "Z" ∈ WT := mem_WT (List.mem_of_getElem? (i := 423) (by decide +kernel)) rfl
theorem ksf_J0_15 : Cond.fieldLink RJ0 15 "java/lang/String" "coder" "B" ∈ WT := mem_WT (List.mem_of_getElem? (i := 1269) (by decide +kernel)) rfl
theorem ksf_J0_9 : Cond.fieldLink RJ0 9 "java/lang/String" "value" "[B" ∈ WT := mem_WT (List.mem_of_getElem? (i := 1270) (by decide +kernel)) rfl
theorem lv_J0_335 : LVi RJ0 335 yJ0_coder_7d493 cJ0_coder_7d493 1 (some .byte) 0 := ⟨⟨mem_WT (List.mem_of_getElem? (i := 432) (by decide +kernel)) rfl, mem_WT (List.mem_of_getElem? (i := 90) (by decide +kernel)) rfl, by decide +kernel, by decide, Or.inl (mem_WT (List.mem_of_getElem? (i := 429) (by decide +kernel)) rfl)⟩, mem_WT (List.mem_of_getElem? (i := 430) (by decide +kernel)) rfl, mem_WT (List.mem_of_getElem? (i := 431) (by decide +kernel)) rfl⟩
theorem ls_J1_88 : LSt RJ1 88 yJ1_canEncode_9a6ad cJ1_canEncode_9a6ad 1 (some .boolean) 1 := ⟨⟨mem_WT (List.mem_of_getElem? (i := 438) (by decide +kernel)) rfl, mem_WT (List.mem_of_getElem? (i := 91) (by decide +kernel)) rfl, by decide +kernel, by decide, Or.inl (mem_WT (List.mem_of_getElem? (i := 436) (by decide +kernel)) rfl)⟩, mem_WT (List.mem_of_getElem? (i := 437) (by decide +kernel)) rfl⟩
theorem kw_J1_92 : Cond.methodLink RJ1 92 Lib.Math.max.name ∈ WT := mem_WT (List.mem_of_getElem? (i := 439) (by decide +kernel)) rfl
theorem kw_J1_38 : Cond.methodLink RJ1 38 Lib.Math.min.name ∈ WT := mem_WT (List.mem_of_getElem? (i := 442) (by decide +kernel)) rfl
theorem ls_J1_95 : LSt RJ1 95 yJ1_indexOfChar_4cfef cJ1_indexOfChar_4cfef 6 (some .int) 4 := ⟨⟨mem_WT (List.mem_of_getElem? (i := 447) (by decide +kernel)) rfl, mem_WT (List.mem_of_getElem? (i := 91) (by decide +kernel)) rfl, by decide +kernel, by decide, Or.inl (mem_WT (List.mem_of_getElem? (i := 445) (by decide +kernel)) rfl)⟩, mem_WT (List.mem_of_getElem? (i := 446) (by decide +kernel)) rfl⟩
theorem lv_J0_492 : LVi RJ0 492 yJ0_isLatin1_aae02 cJ0_isLatin1_aae02 1 (some .boolean) 0 := ⟨⟨mem_WT (List.mem_of_getElem? (i := 422) (by decide +kernel)) rfl, mem_WT (List.mem_of_getElem? (i := 90) (by decide +kernel)) rfl, by decide +kernel, by decide, Or.inl (mem_WT (List.mem_of_getElem? (i := 419) (by decide +kernel)) rfl)⟩, mem_WT (List.mem_of_getElem? (i := 420) (by decide +kernel)) rfl, mem_WT (List.mem_of_getElem? (i := 421) (by decide +kernel)) rfl⟩
theorem lv_J0_505 : LVi RJ0 505 yJ0_length_8abf5 cJ0_length_8abf5 1 (some .int) 0 := ⟨⟨mem_WT (List.mem_of_getElem? (i := 428) (by decide +kernel)) rfl, mem_WT (List.mem_of_getElem? (i := 90) (by decide +kernel)) rfl, by decide +kernel, by decide, Or.inl (mem_WT (List.mem_of_getElem? (i := 425) (by decide +kernel)) rfl)⟩, mem_WT (List.mem_of_getElem? (i := 426) (by decide +kernel)) rfl, mem_WT (List.mem_of_getElem? (i := 427) (by decide +kernel)) rfl⟩
theorem ls_J0_637 : LSt RJ0 637 yJ1_indexOf_4cfef cJ1_indexOf_4cfef 4 (some .int) 4 := ⟨⟨mem_WT (List.mem_of_getElem? (i := 435) (by decide +kernel)) rfl, mem_WT (List.mem_of_getElem? (i := 91) (by decide +kernel)) rfl, by decide +kernel, by decide, Or.inl (mem_WT (List.mem_of_getElem? (i := 433) (by decide +kernel)) rfl)⟩, mem_WT (List.mem_of_getElem? (i := 434) (by decide +kernel)) rfl⟩
theorem lv_J0_633 : LVi RJ0 633 yJ0_indexOf_7cf53 cJ0_indexOf_7cf53 3 (some .int) 2 := ⟨⟨mem_WT (List.mem_of_getElem? (i := 418) (by decide +kernel)) rfl, mem_WT (List.mem_of_getElem? (i := 90) (by decide +kernel)) rfl, by decide +kernel, by decide, Or.inl (mem_WT (List.mem_of_getElem? (i := 415) (by decide +kernel)) rfl)⟩, mem_WT (List.mem_of_getElem? (i := 416) (by decide +kernel)) rfl, mem_WT (List.mem_of_getElem? (i := 417) (by decide +kernel)) rfl⟩
def f_sCoder (S : St) : Option (Int32 × St) :=
  if (1 : Int32) = 0 then
    some (1, S)
  else
    some (0, S)
set_option maxRecDepth 100000 in
set_option maxHeartbeats 4000000 in
theorem p_sCoder {Γ : GA} {E : EV} (C : Cx Γ E RJ0 cJ0_coder_7d493 1 0 (some .byte)) (M : Mx Γ E) (S : St) : G Γ E (QI Γ E) 1 0 [(0, .ref (gK Γ))] [] S (f_sCoder S) := by
  rw [f_sCoder]
  refine g_gsC (pc := 0) C ksf_J0_38 dJ0_coder_7d493_0 ?_
  refine g_if_eq (pc := 3) C 13 dJ0_coder_7d493_3 (by decide) ?_ ?_
  · refine g_iconst (pc := 13) C (v := 1) dJ0_coder_7d493_13 (by decide) ?_
    exact g_bret C M rfl dJ0_coder_7d493_14
  · refine g_aload_n (pc := 6) C dJ0_coder_7d493_6 0 rfl rfl ?_
    refine g_gfC (pc := 7) C ksf_J0_15 dJ0_coder_7d493_7 ?_
    refine g_goto (pc := 10) C 14 dJ0_coder_7d493_10 (by decide) ?_
    exact g_bret C M rfl dJ0_coder_7d493_14
theorem ct_sCoder {Γ : GA} (S : St) : CtI Γ yJ0_coder_7d493 cJ0_coder_7d493 1 (some .byte) 0 [.ref (gK Γ)] S (f_sCoder S) :=
  ctI_of (by decide) (Nat.le_of_ble_eq_true rfl) (fun _ C M => p_sCoder C M  S)
def f_sLength (S : St) : Option (Int32 × St) :=
  bnd (f_sCoder S) fun r_2 S_1 =>
  some ((6 >>> (r_2 &&& 31)), S_1)
set_option maxRecDepth 100000 in
set_option maxHeartbeats 4000000 in
theorem p_sLength {Γ : GA} {E : EV} (C : Cx Γ E RJ0 cJ0_length_8abf5 1 1 (some .int)) (M : Mx Γ E) (S : St) : G Γ E (QI Γ E) 1 0 [(0, .ref (gK Γ))] [] S (f_sLength S) := by
  rw [f_sLength]
  refine g_aload_n (pc := 0) C dJ0_length_8abf5_0 0 rfl rfl ?_
  refine g_gfV (pc := 1) C ksf_J0_9 dJ0_length_8abf5_1 ?_
  refine g_blen (pc := 4) C dJ0_length_8abf5_4 ?_
  refine g_aload_n (pc := 5) C dJ0_length_8abf5_5 0 rfl rfl ?_
  refine g_callStrN (pc := 6) (As := []) (st := [.int 6]) C lv_J0_335 rfl (ct_sCoder S) (by decide) rfl rfl (Nat.le_of_ble_eq_true rfl) dJ0_length_8abf5_6 (fun r_2 S_1 => ?_)
  refine g_ishr (pc := 9) C dJ0_length_8abf5_9 ?_
  exact g_iret C M dJ0_length_8abf5_10
theorem ct_sLength {Γ : GA} (S : St) : CtI Γ yJ0_length_8abf5 cJ0_length_8abf5 1 (some .int) 1 [.ref (gK Γ)] S (f_sLength S) :=
  ctI_of (by decide) (Nat.le_of_ble_eq_true rfl) (fun _ C M => p_sLength C M  S)
def f_sLatin1 (S : St) : Option (Int32 × St) :=
  if (1 : Int32) = 0 then
    some (0, S)
  else
    if (0 : Int32) = 0 then
      some (1, S)
    else
      some (0, S)
set_option maxRecDepth 100000 in
set_option maxHeartbeats 4000000 in
theorem p_sLatin1 {Γ : GA} {E : EV} (C : Cx Γ E RJ0 cJ0_isLatin1_aae02 1 0 (some .boolean)) (M : Mx Γ E) (S : St) : G Γ E (QI Γ E) 1 0 [(0, .ref (gK Γ))] [] S (f_sLatin1 S) := by
  rw [f_sLatin1]
  refine g_gsC (pc := 0) C ksf_J0_38 dJ0_isLatin1_aae02_0 ?_
  refine g_if_eq (pc := 3) C 17 dJ0_isLatin1_aae02_3 (by decide) ?_ ?_
  · refine g_iconst (pc := 17) C (v := 0) dJ0_isLatin1_aae02_17 (by decide) ?_
    exact g_zret1 C M rfl dJ0_isLatin1_aae02_18
  · refine g_aload_n (pc := 6) C dJ0_isLatin1_aae02_6 0 rfl rfl ?_
    refine g_gfC (pc := 7) C ksf_J0_15 dJ0_isLatin1_aae02_7 ?_
    refine g_if_ne (pc := 10) C 17 dJ0_isLatin1_aae02_10 (by decide) ?_ ?_
    · refine g_iconst (pc := 13) C (v := 1) dJ0_isLatin1_aae02_13 (by decide) ?_
      refine g_goto (pc := 14) C 18 dJ0_isLatin1_aae02_14 (by decide) ?_
      exact g_zret1 C M rfl dJ0_isLatin1_aae02_18
    · refine g_iconst (pc := 17) C (v := 0) dJ0_isLatin1_aae02_17 (by decide) ?_
      exact g_zret1 C M rfl dJ0_isLatin1_aae02_18
theorem ct_sLatin1 {Γ : GA} (S : St) : CtI Γ yJ0_isLatin1_aae02 cJ0_isLatin1_aae02 1 (some .boolean) 0 [.ref (gK Γ)] S (f_sLatin1 S) :=
  ctI_of (by decide) (Nat.le_of_ble_eq_true rfl) (fun _ C M => p_sLatin1 C M  S)
def f_sCan (x0 : Int32) (S : St) : Option (Int32 × St) :=
  if x0 < 0 then
    some (0, S)
  else
    if 255 < x0 then
      some (0, S)
    else
      some (1, S)
set_option maxRecDepth 100000 in
set_option maxHeartbeats 4000000 in
theorem p_sCan {Γ : GA} {E : EV} (C : Cx Γ E RJ1 cJ1_canEncode_9a6ad 1 0 (some .boolean)) (M : Mx Γ E) (x0 : Int32) (S : St) : G Γ E (QI Γ E) 1 0 [(0, .int x0)] [] S (f_sCan x0 S) := by
  rw [f_sCan]
  refine g_iload_n (pc := 0) C dJ1_canEncode_9a6ad_0 0 rfl rfl ?_
  refine g_if_lt (pc := 1) C 15 dJ1_canEncode_9a6ad_1 (by decide) ?_ ?_
  · refine g_iconst (pc := 15) C (v := 0) dJ1_canEncode_9a6ad_15 (by decide) ?_
    exact g_zret1 C M rfl dJ1_canEncode_9a6ad_16
  · refine g_iload_n (pc := 4) C dJ1_canEncode_9a6ad_4 0 rfl rfl ?_
    refine g_sipush (pc := 5) C (v := 255) dJ1_canEncode_9a6ad_5 (by decide) ?_
    refine g_icmp_gt (pc := 8) C 15 dJ1_canEncode_9a6ad_8 (by decide) ?_ ?_
    · refine g_iconst (pc := 15) C (v := 0) dJ1_canEncode_9a6ad_15 (by decide) ?_
      exact g_zret1 C M rfl dJ1_canEncode_9a6ad_16
    · refine g_iconst (pc := 11) C (v := 1) dJ1_canEncode_9a6ad_11 (by decide) ?_
      refine g_goto (pc := 12) C 16 dJ1_canEncode_9a6ad_12 (by decide) ?_
      exact g_zret1 C M rfl dJ1_canEncode_9a6ad_16
theorem ct_sCan {Γ : GA} (x0 : Int32) (S : St) : CtI Γ yJ1_canEncode_9a6ad cJ1_canEncode_9a6ad 1 (some .boolean) 0 [.int x0] S (f_sCan x0 S) :=
  ctI_of (by decide) (Nat.le_of_ble_eq_true rfl) (fun _ C M => p_sCan C M x0 S)
def f_sIdxChar_l7 : Nat → Int32 → Int32 → Int32 → St → Option (Int32 × St)
  | 0, _, _, _, _ => none
  | n + 1, x3, x4, x5, S =>
    if x3 ≤ x5 then
      some ((-1), S)
    else
      grd (inb x5 6) <|
      if (bytL (x5 : Int32).toNatClampNeg) = x4 then
        some (x5, S)
      else
        lett (x5 + 1) fun x5_2 =>
        f_sIdxChar_l7 n x3 x4 x5_2 S
def f_sIdxChar (x1 : Int32) (x2 : Int32) (x3 : Int32) (S : St) : Option (Int32 × St) :=
  lett ((x1 : Int32).toInt8.toInt32) fun x4_1 =>
  f_sIdxChar_l7 FU x3 x4_1 x2 S
set_option maxRecDepth 100000 in
set_option maxHeartbeats 4000000 in
theorem p_sIdxChar_l7 {Γ : GA} {E : EV} (C : Cx Γ E RJ1 cJ1_indexOfChar_4cfef 6 0 (some .int)) (M : Mx Γ E) : ∀ (n : Nat) (x3 : Int32) (x4 : Int32) (x5 : Int32) (S : St), G Γ E (QI Γ E) 6 7 [(0, .ref (gV Γ)), (3, .int x3), (4, .int x4), (5, .int x5)] [] S (f_sIdxChar_l7 n x3 x4 x5 S) := by
  intro n
  induction n with
  | zero => intro x3 x4 x5 S; exact g_none
  | succ n ih =>
    intro x3 x4 x5 S
    rw [f_sIdxChar_l7]
    refine g_iload (pc := 7) C dJ1_indexOfChar_4cfef_7 3 rfl ?_
    refine g_iload_n (pc := 9) C dJ1_indexOfChar_4cfef_9 1 rfl rfl ?_
    refine g_icmp_ge (pc := 10) C 31 dJ1_indexOfChar_4cfef_10 (by decide) ?_ ?_
    · refine g_iconst (pc := 31) C (v := (-1)) dJ1_indexOfChar_4cfef_31 (by decide) ?_
      exact g_iret C M dJ1_indexOfChar_4cfef_32
    · refine g_aload_n (pc := 13) C dJ1_indexOfChar_4cfef_13 0 rfl rfl ?_
      refine g_iload (pc := 14) C dJ1_indexOfChar_4cfef_14 3 rfl ?_
      refine g_bald (pc := 16) C dJ1_indexOfChar_4cfef_16 ?_
      refine g_iload (pc := 17) C dJ1_indexOfChar_4cfef_17 2 rfl ?_
      refine g_icmp_ne (pc := 19) C 25 dJ1_indexOfChar_4cfef_19 (by decide) ?_ ?_
      · refine g_iload (pc := 22) C dJ1_indexOfChar_4cfef_22 3 rfl ?_
        exact g_iret C M dJ1_indexOfChar_4cfef_24
      · refine g_iinc (pc := 25) C (v := 1) dJ1_indexOfChar_4cfef_25 3 rfl (by decide) (by decide) (fun x => [(5, .int x), (0, .ref (gV Γ)), (3, .int x3), (4, .int x4)]) (fun _ => rfl) (fun x5_2 => ?_)
        refine g_goto (pc := 28) C 7 dJ1_indexOfChar_4cfef_28 (by decide) ?_
        exact g_sub [1, 2, 3, 0] rfl (ih x3 x4 x5_2 S)
set_option maxRecDepth 100000 in
set_option maxHeartbeats 4000000 in
theorem p_sIdxChar {Γ : GA} {E : EV} (C : Cx Γ E RJ1 cJ1_indexOfChar_4cfef 6 0 (some .int)) (M : Mx Γ E) (x1 : Int32) (x2 : Int32) (x3 : Int32) (S : St) : G Γ E (QI Γ E) 6 0 [(0, .ref (gV Γ)), (1, .int x1), (2, .int x2), (3, .int x3)] [] S (f_sIdxChar x1 x2 x3 S) := by
  rw [f_sIdxChar]
  refine g_iload_n (pc := 0) C dJ1_indexOfChar_4cfef_0 1 rfl rfl ?_
  refine g_i2b (pc := 1) C dJ1_indexOfChar_4cfef_1 ?_
  refine g_istore (pc := 2) C dJ1_indexOfChar_4cfef_2 (by decide) (fun x => [(4, .int x), (0, .ref (gV Γ)), (1, .int x1), (2, .int x2), (3, .int x3)]) (fun _ => rfl) (fun x4_1 => ?_)
  refine g_iload_n (pc := 4) C dJ1_indexOfChar_4cfef_4 3 rfl rfl ?_
  refine g_istore0 (pc := 5) C dJ1_indexOfChar_4cfef_5 (by decide) (lv' := [(5, .int x2), (4, .int x4_1), (0, .ref (gV Γ)), (1, .int x1), (2, .int x2), (3, .int x3)]) rfl ?_
  exact g_sub [2, 5, 1, 0] rfl (p_sIdxChar_l7 C M FU x3 x4_1 x2 S)
theorem ct_sIdxChar {Γ : GA} (x1 : Int32) (x2 : Int32) (x3 : Int32) (S : St) : CtI Γ yJ1_indexOfChar_4cfef cJ1_indexOfChar_4cfef 6 (some .int) 0 [.ref (gV Γ), .int x1, .int x2, .int x3] S (f_sIdxChar x1 x2 x3 S) :=
  ctI_of (by decide) (Nat.le_of_ble_eq_true rfl) (fun _ C M => p_sIdxChar C M x1 x2 x3 S)
def f_sIdx1 (x1 : Int32) (x2 : Int32) (x3 : Int32) (S : St) : Option (Int32 × St) :=
  bnd (f_sCan x1 S) fun r_2 S_1 =>
  if r_2 = 0 then
    some ((-1), S_1)
  else
    lett (if x2 < 0 then 0 else x2) fun x2_3 =>
    lett (if 6 < x3 then 6 else x3) fun x3_4 =>
    if x2_3 < x3_4 then
      bnd (f_sIdxChar x1 x2_3 x3_4 S_1) fun r_6 S_5 =>
      some (r_6, S_5)
    else
      some ((-1), S_1)
set_option maxRecDepth 100000 in
set_option maxHeartbeats 4000000 in
theorem p_sIdx1 {Γ : GA} {E : EV} (C : Cx Γ E RJ1 cJ1_indexOf_4cfef 4 1 (some .int)) (M : Mx Γ E) (x1 : Int32) (x2 : Int32) (x3 : Int32) (S : St) : G Γ E (QI Γ E) 4 0 [(0, .ref (gV Γ)), (1, .int x1), (2, .int x2), (3, .int x3)] [] S (f_sIdx1 x1 x2 x3 S) := by
  rw [f_sIdx1]
  refine g_iload_n (pc := 0) C dJ1_indexOf_4cfef_0 1 rfl rfl ?_
  refine g_callSI (pc := 1) (As := [.int x1]) (st := []) C ls_J1_88 (ct_sCan x1 S) (by decide) rfl rfl (Nat.le_of_ble_eq_true rfl) dJ1_indexOf_4cfef_1 (fun r_2 S_1 => ?_)
  refine g_if_ne (pc := 4) C 9 dJ1_indexOf_4cfef_4 (by decide) ?_ ?_
  · refine g_iconst (pc := 7) C (v := (-1)) dJ1_indexOf_4cfef_7 (by decide) ?_
    exact g_iret C M dJ1_indexOf_4cfef_8
  · refine g_iload_n (pc := 9) C dJ1_indexOf_4cfef_9 2 rfl rfl ?_
    refine g_iconst (pc := 10) C (v := 0) dJ1_indexOf_4cfef_10 (by decide) ?_
    refine g_mmax (pc := 11) C kw_J1_92 kw_mmax1 kw_m2 kw_mmax3 (Nat.le_of_ble_eq_true rfl) dJ1_indexOf_4cfef_11 ?_
    refine g_istore_n (pc := 14) C dJ1_indexOf_4cfef_14 rfl (by decide) (fun x => [(2, .int x), (0, .ref (gV Γ)), (1, .int x1), (3, .int x3)]) (fun _ => rfl) (fun x2_3 => ?_)
    refine g_iload_n (pc := 15) C dJ1_indexOf_4cfef_15 3 rfl rfl ?_
    refine g_aload_n (pc := 16) C dJ1_indexOf_4cfef_16 1 rfl rfl ?_
    refine g_blen (pc := 17) C dJ1_indexOf_4cfef_17 ?_
    refine g_mmin (pc := 18) C kw_J1_38 kw_mmin1 kw_m2 kw_mmin3 (Nat.le_of_ble_eq_true rfl) dJ1_indexOf_4cfef_18 ?_
    refine g_istore_n (pc := 21) C dJ1_indexOf_4cfef_21 rfl (by decide) (fun x => [(3, .int x), (2, .int x2_3), (0, .ref (gV Γ)), (1, .int x1)]) (fun _ => rfl) (fun x3_4 => ?_)
    refine g_iload_n (pc := 22) C dJ1_indexOf_4cfef_22 1 rfl rfl ?_
    refine g_iload_n (pc := 23) C dJ1_indexOf_4cfef_23 0 rfl rfl ?_
    refine g_icmp_lt (pc := 24) C 29 dJ1_indexOf_4cfef_24 (by decide) ?_ ?_
    · refine g_aload_n (pc := 29) C dJ1_indexOf_4cfef_29 2 rfl rfl ?_
      refine g_iload_n (pc := 30) C dJ1_indexOf_4cfef_30 3 rfl rfl ?_
      refine g_iload_n (pc := 31) C dJ1_indexOf_4cfef_31 1 rfl rfl ?_
      refine g_iload_n (pc := 32) C dJ1_indexOf_4cfef_32 0 rfl rfl ?_
      refine g_callSI (pc := 33) (As := [.ref (gV Γ), .int x1, .int x2_3, .int x3_4]) (st := []) C ls_J1_95 (ct_sIdxChar x1 x2_3 x3_4 S_1) (by decide) rfl rfl (Nat.le_of_ble_eq_true rfl) dJ1_indexOf_4cfef_33 (fun r_6 S_5 => ?_)
      exact g_iret C M dJ1_indexOf_4cfef_36
    · refine g_iconst (pc := 27) C (v := (-1)) dJ1_indexOf_4cfef_27 (by decide) ?_
      exact g_iret C M dJ1_indexOf_4cfef_28
theorem ct_sIdx1 {Γ : GA} (x1 : Int32) (x2 : Int32) (x3 : Int32) (S : St) : CtI Γ yJ1_indexOf_4cfef cJ1_indexOf_4cfef 4 (some .int) 1 [.ref (gV Γ), .int x1, .int x2, .int x3] S (f_sIdx1 x1 x2 x3 S) :=
  ctI_of (by decide) (Nat.le_of_ble_eq_true rfl) (fun _ C M => p_sIdx1 C M x1 x2 x3 S)
def f_sIdx2 (x1 : Int32) (x2 : Int32) (S : St) : Option (Int32 × St) :=
  bnd (f_sLatin1 S) fun r_2 S_1 =>
  if r_2 = 0 then
    bnd (f_sLength S_1) fun r_4 S_3 =>
    none
  else
    bnd (f_sLength S_1) fun r_6 S_5 =>
    bnd (f_sIdx1 x1 x2 r_6 S_5) fun r_8 S_7 =>
    some (r_8, S_7)
set_option maxRecDepth 100000 in
set_option maxHeartbeats 4000000 in
theorem p_sIdx2 {Γ : GA} {E : EV} (C : Cx Γ E RJ0 cJ0_indexOf_7cf53 3 2 (some .int)) (M : Mx Γ E) (x1 : Int32) (x2 : Int32) (S : St) : G Γ E (QI Γ E) 3 0 [(0, .ref (gK Γ)), (1, .int x1), (2, .int x2)] [] S (f_sIdx2 x1 x2 S) := by
  rw [f_sIdx2]
  refine g_aload_n (pc := 0) C dJ0_indexOf_7cf53_0 0 rfl rfl ?_
  refine g_callStrN (pc := 1) (As := []) (st := []) C lv_J0_492 rfl (ct_sLatin1 S) (by decide) rfl rfl (Nat.le_of_ble_eq_true rfl) dJ0_indexOf_7cf53_1 (fun r_2 S_1 => ?_)
  refine g_if_eq (pc := 4) C 23 dJ0_indexOf_7cf53_4 (by decide) ?_ ?_
  · refine g_aload_n (pc := 23) C dJ0_indexOf_7cf53_23 0 rfl rfl ?_
    refine g_gfV (pc := 24) C ksf_J0_9 dJ0_indexOf_7cf53_24 ?_
    refine g_iload_n (pc := 27) C dJ0_indexOf_7cf53_27 1 rfl rfl ?_
    refine g_iload_n (pc := 28) C dJ0_indexOf_7cf53_28 2 rfl rfl ?_
    refine g_aload_n (pc := 29) C dJ0_indexOf_7cf53_29 0 rfl rfl ?_
    refine g_callStrN (pc := 30) (As := []) (st := [.int x2, .int x1, .ref (gV Γ)]) C lv_J0_505 rfl (ct_sLength S_1) (by decide) rfl rfl (Nat.le_of_ble_eq_true rfl) dJ0_indexOf_7cf53_30 (fun r_4 S_3 => ?_)
    exact g_none
  · refine g_aload_n (pc := 7) C dJ0_indexOf_7cf53_7 0 rfl rfl ?_
    refine g_gfV (pc := 8) C ksf_J0_9 dJ0_indexOf_7cf53_8 ?_
    refine g_iload_n (pc := 11) C dJ0_indexOf_7cf53_11 1 rfl rfl ?_
    refine g_iload_n (pc := 12) C dJ0_indexOf_7cf53_12 2 rfl rfl ?_
    refine g_aload_n (pc := 13) C dJ0_indexOf_7cf53_13 0 rfl rfl ?_
    refine g_callStrN (pc := 14) (As := []) (st := [.int x2, .int x1, .ref (gV Γ)]) C lv_J0_505 rfl (ct_sLength S_1) (by decide) rfl rfl (Nat.le_of_ble_eq_true rfl) dJ0_indexOf_7cf53_14 (fun r_6 S_5 => ?_)
    refine g_callSI (pc := 17) (As := [.ref (gV Γ), .int x1, .int x2, .int r_6]) (st := []) C ls_J0_637 (ct_sIdx1 x1 x2 r_6 S_5) (by decide) rfl rfl (Nat.le_of_ble_eq_true rfl) dJ0_indexOf_7cf53_17 (fun r_8 S_7 => ?_)
    refine g_goto (pc := 20) C 36 dJ0_indexOf_7cf53_20 (by decide) ?_
    exact g_iret C M dJ0_indexOf_7cf53_36
theorem ct_sIdx2 {Γ : GA} (x1 : Int32) (x2 : Int32) (S : St) : CtI Γ yJ0_indexOf_7cf53 cJ0_indexOf_7cf53 3 (some .int) 2 [.ref (gK Γ), .int x1, .int x2] S (f_sIdx2 x1 x2 S) :=
  ctI_of (by decide) (Nat.le_of_ble_eq_true rfl) (fun _ C M => p_sIdx2 C M x1 x2 S)
def f_sIdx (x1 : Int32) (S : St) : Option (Int32 × St) :=
  bnd (f_sIdx2 x1 0 S) fun r_2 S_1 =>
  some (r_2, S_1)
set_option maxRecDepth 100000 in
set_option maxHeartbeats 4000000 in
theorem p_sIdx {Γ : GA} {E : EV} (C : Cx Γ E RJ0 cJ0_indexOf_0f7a4 2 3 (some .int)) (M : Mx Γ E) (x1 : Int32) (S : St) : G Γ E (QI Γ E) 2 0 [(0, .ref (gK Γ)), (1, .int x1)] [] S (f_sIdx x1 S) := by
  rw [f_sIdx]
  refine g_aload_n (pc := 0) C dJ0_indexOf_0f7a4_0 0 rfl rfl ?_
  refine g_iload_n (pc := 1) C dJ0_indexOf_0f7a4_1 1 rfl rfl ?_
  refine g_iconst (pc := 2) C (v := 0) dJ0_indexOf_0f7a4_2 (by decide) ?_
  refine g_callStrN (pc := 3) (As := [.int x1, .int 0]) (st := []) C lv_J0_633 rfl (ct_sIdx2 x1 0 S) (by decide) rfl rfl (Nat.le_of_ble_eq_true rfl) dJ0_indexOf_0f7a4_3 (fun r_2 S_1 => ?_)
  exact g_iret C M dJ0_indexOf_0f7a4_6
theorem ct_sIdx {Γ : GA} (x1 : Int32) (S : St) : CtI Γ yJ0_indexOf_0f7a4 cJ0_indexOf_0f7a4 2 (some .int) 3 [.ref (gK Γ), .int x1] S (f_sIdx x1 S) :=
  ctI_of (by decide) (Nat.le_of_ble_eq_true rfl) (fun _ C M => p_sIdx C M x1 S)
theorem bnd_some {α β : Type} (r : α) (S : St) (K : α → St → Option β) : bnd (some (r, S)) K = K r S := rfl
-- what the walk of indexOf answers
theorem s_latin (S : St) : f_sLatin1 S = some (1, S) := rfl
theorem s_coder (S : St) : f_sCoder S = some (0, S) := rfl
theorem s_len (S : St) : f_sLength S = some (6, S) := by
  unfold f_sLength
  rw [s_coder]
  rfl
theorem s_can (x : Int32) (S : St) : f_sCan x S = some (if 0 ≤ x ∧ x ≤ 255 then 1 else 0, S) := by
  unfold f_sCan
  by_cases h1 : x < 0
  · rw [if_pos h1, if_neg (fun h => absurd h1 (Int32.not_lt.mpr h.1))]
  · rw [if_neg h1]
    by_cases h2 : 255 < x
    · rw [if_pos h2, if_neg (fun h => absurd h2 (Int32.not_lt.mpr h.2))]
    · rw [if_neg h2, if_pos ⟨Int32.not_lt.mp h1, Int32.not_lt.mp h2⟩]
theorem s_step (n : Nat) (y : Int32) (S : St) (k : Int32) (h1 : ¬ (6 : Int32) ≤ k) (h2 : inb k 6 = true) : f_sIdxChar_l7 (n + 1) 6 y k S = if bytL k.toNatClampNeg = y then some (k, S) else f_sIdxChar_l7 n 6 y (k + 1) S := by
  rw [f_sIdxChar_l7, if_neg h1, h2]
  rfl
def idxB (y : Int32) : Int32 := if bytL 0 = y then 0 else if bytL 1 = y then 1 else if bytL 2 = y then 2 else if bytL 3 = y then 3 else if bytL 4 = y then 4 else if bytL 5 = y then 5 else -1
theorem s_loop (n : Nat) (y : Int32) (S : St) : f_sIdxChar_l7 (n + 7) 6 y 0 S = some (idxB y, S) := by
  have e6 : f_sIdxChar_l7 (n + 1) 6 y 6 S = some (-1, S) := by rw [f_sIdxChar_l7, if_pos (by decide)]
  have e5 := s_step (n + 1) y S 5 (by decide) (by decide)
  have e4 := s_step (n + 2) y S 4 (by decide) (by decide)
  have e3 := s_step (n + 3) y S 3 (by decide) (by decide)
  have e2 := s_step (n + 4) y S 2 (by decide) (by decide)
  have e1 := s_step (n + 5) y S 1 (by decide) (by decide)
  have e0 := s_step (n + 6) y S 0 (by decide) (by decide)
  rw [show (5 : Int32) + 1 = 6 from by decide, e6] at e5
  rw [show (4 : Int32) + 1 = 5 from by decide, e5] at e4
  rw [show (3 : Int32) + 1 = 4 from by decide, e4] at e3
  rw [show (2 : Int32) + 1 = 3 from by decide, e3] at e2
  rw [show (1 : Int32) + 1 = 2 from by decide, e2] at e1
  rw [show (0 : Int32) + 1 = 1 from by decide, e1] at e0
  rw [e0]
  unfold idxB
  rw [show (0 : Int32).toNatClampNeg = 0 from by decide, show (1 : Int32).toNatClampNeg = 1 from by decide, show (2 : Int32).toNatClampNeg = 2 from by decide, show (3 : Int32).toNatClampNeg = 3 from by decide, show (4 : Int32).toNatClampNeg = 4 from by decide, show (5 : Int32).toNatClampNeg = 5 from by decide]
  by_cases h0 : bytL 0 = y
  · rw [if_pos h0, if_pos h0]
  rw [if_neg h0, if_neg h0]
  by_cases h1 : bytL 1 = y
  · rw [if_pos h1, if_pos h1]
  rw [if_neg h1, if_neg h1]
  by_cases h2 : bytL 2 = y
  · rw [if_pos h2, if_pos h2]
  rw [if_neg h2, if_neg h2]
  by_cases h3 : bytL 3 = y
  · rw [if_pos h3, if_pos h3]
  rw [if_neg h3, if_neg h3]
  by_cases h4 : bytL 4 = y
  · rw [if_pos h4, if_pos h4]
  rw [if_neg h4, if_neg h4]
  by_cases h5 : bytL 5 = y
  · rw [if_pos h5, if_pos h5]
  rw [if_neg h5, if_neg h5]
theorem s_tab : (List.range 256).all (fun m => decide (idxB ((nI m).toInt8.toInt32) = kindL (nI m))) = true := by decide +kernel
theorem s_char (x : Int32) (h0 : 0 ≤ x) (h1 : x ≤ 255) (S : St) : f_sIdxChar x 0 6 S = some (kindL x, S) := by
  obtain ⟨j, hj, rfl⟩ := nI_of (Int32.not_lt.mpr h0)
  have hn : j < 256 := by have := (nI_leI (b := 255) hj (by decide)).mp h1; omega
  show f_sIdxChar_l7 FU 6 ((nI j).toInt8.toInt32) 0 S = _
  rw [show FU = 99993 + 7 from rfl, s_loop]
  have h := List.all_eq_true.mp s_tab j (List.mem_range.mpr hn)
  rw [of_decide_eq_true h]
theorem kindL_out {x : Int32} (h : ¬ (0 ≤ x ∧ x ≤ 255)) : kindL x = -1 := by
  have ne : ∀ k : Int32, 0 ≤ k → k ≤ 255 → x ≠ k := fun k h1 h2 e => h (by rw [e]; exact ⟨h1, h2⟩)
  unfold kindL
  rw [if_neg (ne 108 (by decide) (by decide)), if_neg (ne 114 (by decide) (by decide)), if_neg (ne 116 (by decide) (by decide)), if_neg (ne 97 (by decide) (by decide)), if_neg (ne 117 (by decide) (by decide)), if_neg (ne 115 (by decide) (by decide))]
theorem s_idx1 (x : Int32) (S : St) : f_sIdx1 x 0 6 S = some (kindL x, S) := by
  unfold f_sIdx1
  rw [s_can, bnd_some]
  by_cases hx : 0 ≤ x ∧ x ≤ 255
  · rw [if_pos hx, if_neg (by decide)]
    rw [show (if (0 : Int32) < 0 then (0 : Int32) else 0) = 0 from by decide, show (if (6 : Int32) < 6 then (6 : Int32) else 6) = 6 from by decide]
    simp only [lett]
    rw [if_pos (by decide), s_char x hx.1 hx.2, bnd_some]
  · rw [if_neg hx, if_pos rfl, kindL_out hx]
theorem s_idx (x : Int32) (S : St) : f_sIdx x S = some (kindL x, S) := by
  unfold f_sIdx f_sIdx2
  rw [s_latin, bnd_some, if_neg (by decide), s_len, bnd_some, s_idx1, bnd_some, bnd_some]
theorem ct_indexOf {Γ : GA} (x : Int32) (S : St) : CtI Γ yJ0_indexOf_0f7a4 cJ0_indexOf_0f7a4 2 (some .int) 3 [.ref (gK Γ), .int x] S (f_indexOf x S) := by
  have h := ct_sIdx (Γ := Γ) x S
  rw [s_idx] at h
  exact h
