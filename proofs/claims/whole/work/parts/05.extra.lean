section GX
variable {α : Type} {Γ : GA} {E : EV} {own : String} {cc : ByteArray} {nL d : Nat} {ret : Option FieldType} {Qf : α → St → State → Prop} {pc : Nat} {lv lv' : List (Nat × Value)} {st : List Value} {S : St} {res : Option (α × St)}
theorem g_istore_n0 (C : Cx Γ E own cc nL d ret) {k : Fin 4} {i : Nat} {x : Int32} (hd : decode cc pc = .ok (.istore_n k, 1)) (hi : (k : Nat) = i) (hn : i < nL) (hl : (i, Value.int x) :: lv.filter (fun q => !(q.1 == i) && !(q.1 + 1 == i && q.2.category == 2)) = lv') (kk : G Γ E Qf nL (pc + 1) lv' st S res) : G Γ E Qf nL pc lv (.int x :: st) S res :=
  fun H locs ls hP hS h a S' hr => lv_istore_n C.hx C.hb hd hi h hn hl (fun ls' h' => kk H locs ls' hP hS h' a S' hr)
theorem g_istore0 (C : Cx Γ E own cc nL d ret) {i : Nat} {x : Int32} (hd : decode cc pc = .ok (.istore i, 2)) (hn : i < nL) (hl : (i, Value.int x) :: lv.filter (fun q => !(q.1 == i) && !(q.1 + 1 == i && q.2.category == 2)) = lv') (kk : G Γ E Qf nL (pc + 2) lv' st S res) : G Γ E Qf nL pc lv (.int x :: st) S res :=
  fun H locs ls hP hS h a S' hr => lv_istore C.hx C.hb hd h hn hl (fun ls' h' => kk H locs ls' hP hS h' a S' hr)
theorem g_lstore_n0 (C : Cx Γ E own cc nL d ret) {k : Fin 4} {i : Nat} {x : Int64} (hd : decode cc pc = .ok (.lstore_n k, 1)) (hi : (k : Nat) = i) (hn : i + 1 < nL) (hl : (i, Value.long x) :: lv.filter (fun q => !(q.1 == i) && (!(q.1 == i + 1) && !(q.1 + 1 == i && q.2.category == 2))) = lv') (kk : G Γ E Qf nL (pc + 1) lv' st S res) : G Γ E Qf nL pc lv (.long x :: st) S res :=
  fun H locs ls hP hS h a S' hr => lv_lstore_n C.hx C.hb hd hi h hn hl (fun ls' h' => kk H locs ls' hP hS h' a S' hr)
theorem g_lstore0 (C : Cx Γ E own cc nL d ret) {i : Nat} {x : Int64} (hd : decode cc pc = .ok (.lstore i, 2)) (hn : i + 1 < nL) (hl : (i, Value.long x) :: lv.filter (fun q => !(q.1 == i) && (!(q.1 == i + 1) && !(q.1 + 1 == i && q.2.category == 2))) = lv') (kk : G Γ E Qf nL (pc + 2) lv' st S res) : G Γ E Qf nL pc lv (.long x :: st) S res :=
  fun H locs ls hP hS h a S' hr => lv_lstore C.hx C.hb hd h hn hl (fun ls' h' => kk H locs ls' hP hS h' a S' hr)
/-- the text "lrtaus" -/
theorem g_ldcS (C : Cx Γ E RX5 cc nL d ret) (hd : decode cc pc = .ok (.ldc 51, 2)) (kk : G Γ E Qf nL (pc + 2) lv (.ref (gK Γ) :: st) S res) : G Γ E Qf nL pc lv st S res :=
  fun H locs ls hP hS h a S' hr => va_ldcS C.hx C.hb C.hown C.hSC.1 hd (kk H locs ls hP hS h a S' hr)
theorem g_callStr {index maxL dy : Nat} {y : MethodName} {bytes : ByteArray} {yret : Option FieldType} {x : Int32} (C : Cx Γ E own cc nL d ret) (L : LVi own index y bytes maxL yret 1) (hy : y.cls = "java/lang/String") {o : Option (Int32 × St)} {K : Int32 → St → Option (α × St)} (hM : CtI Γ y bytes maxL yret dy [.ref (gK Γ), .int x] S o) (hdd : dy + 1 ≤ d) (hr0 : (st.map fun v => v.category).sum ≤ 8)
    (hd : decode cc pc = .ok (.invokevirtual index, 3)) (kk : ∀ (r : Int32) (S1 : St), G Γ E Qf nL (pc + 3) lv (.int r :: st) S1 (K r S1)) : G Γ E Qf nL pc lv (.int x :: .ref (gK Γ) :: st) S (bnd o K) := by
  intro H locs ls hP hS h a S' hr
  cases o with
  | none => cases hr
  | some q =>
    obtain ⟨r, S1⟩ := q
    obtain ⟨⟨l1, l2, l3, l4, l5⟩, l6, l7⟩ := L
    have hlo := C.hlo
    have hfr := C.hfr
    have hrecv := vk_recv (i := 0) C.hSC.2.1 (by decide) hS
    have hpre : PreV (eS E) H y.cls (gK Γ) (va_Pc [.ref (gK Γ), .int x] (World Γ S)) [.int x] := ⟨fun a U g mk q => ⟨q.1, q.2.calling⟩, by rw [hy]; exact hrecv, fun U hU hW => ⟨rfl, wd_of C hP hS hU hW⟩⟩
    have hR : (rmd dy).frames + 1 ≤ (eR E).frames ∧ 8 + (maxL + 11) + (rmd dy).locals ≤ (eR E).locals := ⟨Nat.le_trans hdd hfr, by show 8 + (maxL + 11) + 38 * dy ≤ _; omega⟩
    rcases l5 with l5 | ⟨host, l5⟩
    · exact va_callw (va_runV (As := [.int x]) (rest := st) (C := y.cls) (n := 1) ⟨C.hx, C.hb, C.hml, C.hown, C.hts⟩ (hM r S1 rfl) ⟨callB_of 1 C.hts (good_all l1) rfl rfl rfl (C.hts _ l2) (C.hts _ l5) l3 hR, C.hts _ l6, C.hts _ l7⟩ hpre rfl rfl h.1 rfl (lv_room hr0) hd ⟨C.hce, C.hsl⟩) hS (g_hA C) (fun H1 locs1 hP1 hS1 => kk r S1 H1 locs1 ls hP1 hS1 h a S' hr)
    · exact va_callw (va_runVN (As := [.int x]) (rest := st) (C := y.cls) (n := 1) ⟨C.hx, C.hb, C.hml, C.hown, C.hts⟩ (hM r S1 rfl) ⟨va_cnB 1 C.hts (good_all l1) rfl rfl rfl (C.hnt _ l5 rfl) (C.hts _ l2) l3 hR, C.hts _ l6, C.hts _ l7⟩ hpre rfl rfl h.1 rfl (lv_room hr0) hd ⟨C.hce, C.hsl⟩) hS (g_hA C) (fun H1 locs1 hP1 hS1 => kk r S1 H1 locs1 ls hP1 hS1 h a S' hr)
end GX
def kindL (x : Int32) : Int32 := if x = 108 then 0 else if x = 114 then 1 else if x = 116 then 2 else if x = 97 then 3 else if x = 117 then 4 else if x = 115 then 5 else -1
def f_indexOf (x : Int32) (S : St) : Option (Int32 × St) := some (kindL x, S)
