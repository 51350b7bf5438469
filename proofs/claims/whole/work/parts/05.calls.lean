-- ===== the ends of a method, its contract out of G, calls, switches =====
theorem wd_of {Γ : GA} {E : EV} {own : String} {cc : ByteArray} {nL d : Nat} {ret : Option FieldType} (C : Cx Γ E own cc nL d ret) {S : St} {H : Heap} {locs : List Loc} {U : State} (hP : va_P (gD Γ) vwCl (wsOf Γ S) H) (hS : va_S (eG E) (eS E).heap H locs) (hU : U.heap = H) (hW : (eS E).WarmedH U.vm) : World Γ S U :=
  ⟨by rw [hU]; exact hP, va_K.moved hW.alike C.hK, C.hX, by rw [hU]; exact ((C.hSC.kept hS.2.1).warm hW).narrow (fun q hq => by obtain ⟨c, h, rfl⟩ := hq; exact C.hA c h), fun w hw hn => nest_warm hn hW (C.hnt w hw hn)⟩
theorem g_iret {Γ : GA} {E : EV} {own : String} {cc : ByteArray} {nL d : Nat} (C : Cx Γ E own cc nL d (some .int)) (M : Mx Γ E) {pc : Nat} {lv : List (Nat × Value)} {S : St} {v : Int32} (hd : decode cc pc = .ok (.ireturn, 1)) : G Γ E (QI Γ E) nL pc lv [.int v] S (some (v, S)) := by
  intro H locs ls hP hS h a S' hr
  cases hr
  have hlk := C.hlk
  show W _ _ _ _ _ _ _ _ _ _ _ _ (eN E) (eL E) _ _
  rw [M.1, M.2.1]
  exact W.iret C.hx C.hb C.hr (fun t ht hW => ⟨rfl, wd_of C hP hS ht hW, by have := hS.F ht; rw [M.2.2] at this; exact this⟩) (fun q hq => by have := hS.2.2 q hq; rw [M.2.2] at this; exact this) hd
theorem narrow_b {v : Int32} (h : isB v = true) : narrow .boolean (.int v) = .int v := by
  unfold isB at h
  simp only [Bool.or_eq_true, decide_eq_true_eq] at h
  rcases h with rfl | rfl <;> rfl
theorem g_zret {Γ : GA} {E : EV} {own : String} {cc : ByteArray} {nL d : Nat} (C : Cx Γ E own cc nL d (some .boolean)) (M : Mx Γ E) {pc : Nat} {lv : List (Nat × Value)} {S : St} {v : Int32} (hd : decode cc pc = .ok (.ireturn, 1)) : G Γ E (QI Γ E) nL pc lv [.int v] S (grd (isB v) (some (v, S))) := by
  refine g_grd fun hb => ?_
  intro H locs ls hP hS h a S' hr
  cases hr
  have hlk := C.hlk
  show W _ _ _ _ _ _ _ _ _ _ _ _ (eN E) (eL E) _ _
  rw [M.1, M.2.1]
  exact W.zret C.hx C.hb C.hr (narrow_b hb) (fun t ht hW => ⟨rfl, wd_of C hP hS ht hW, by have := hS.F ht; rw [M.2.2] at this; exact this⟩) (fun q hq => by have := hS.2.2 q hq; rw [M.2.2] at this; exact this) hd
theorem g_zret1 {Γ : GA} {E : EV} {own : String} {cc : ByteArray} {nL d : Nat} (C : Cx Γ E own cc nL d (some .boolean)) (M : Mx Γ E) {pc : Nat} {lv : List (Nat × Value)} {S : St} {v : Int32} (hv : isB v = true) (hd : decode cc pc = .ok (.ireturn, 1)) : G Γ E (QI Γ E) nL pc lv [.int v] S (some (v, S)) := by
  have h := g_zret C M (lv := lv) (S := S) (v := v) hd
  rw [hv] at h
  exact h
theorem g_lret {Γ : GA} {E : EV} {own : String} {cc : ByteArray} {nL d : Nat} (C : Cx Γ E own cc nL d (some .long)) (M : Mx Γ E) {pc : Nat} {lv : List (Nat × Value)} {S : St} {v : Int64} (hd : decode cc pc = .ok (.lreturn, 1)) : G Γ E (QL Γ E) nL pc lv [.long v] S (some (v, S)) := by
  intro H locs ls hP hS h a S' hr
  cases hr
  have hlk := C.hlk
  show W _ _ _ _ _ _ _ _ _ _ _ _ (eN E) (eL E) _ _
  rw [M.1, M.2.1]
  exact W.lret C.hx C.hb C.hr (fun t ht hW => ⟨rfl, wd_of C hP hS ht hW, by have := hS.F ht; rw [M.2.2] at this; exact this⟩) (fun q hq => by have := hS.2.2 q hq; rw [M.2.2] at this; exact this) hd
theorem g_vret {Γ : GA} {E : EV} {own : String} {cc : ByteArray} {nL d : Nat} (C : Cx Γ E own cc nL d none) (M : Mx Γ E) {pc : Nat} {lv : List (Nat × Value)} {S : St} (hd : decode cc pc = .ok (.return_, 1)) : G Γ E (QV Γ E) nL pc lv [] S (some ((), S)) := by
  intro H locs ls hP hS h a S' hr
  cases hr
  have hlk := C.hlk
  show W _ _ _ _ _ _ _ _ _ _ _ _ (eN E) (eL E) _ _
  rw [M.1, M.2.1]
  exact W.vret C.hx C.hb C.hr (fun t ht hW => ⟨rfl, wd_of C hP hS ht hW, by have := hS.F ht; rw [M.2.2] at this; exact this⟩) (fun q hq => by have := hS.2.2 q hq; rw [M.2.2] at this; exact this) hd
theorem ct_of {Γ : GA} {y : MethodName} {bytes : ByteArray} {maxL : Nat} {ret : Option FieldType} {d : Nat} {av : List Value} {S S' : St} {ov : Option Value} (hp : plainName y.cls = true) (hlen : (lg_sl av).length ≤ maxL)
    (k : ∀ E : EV, Cx Γ E y.cls bytes maxL d ret → Mx Γ E → ∀ ls : Array Slot, lv_has ls maxL (lv_args 0 av) → va_P (gD Γ) vwCl (wsOf Γ S) (eS E).heap → WW Γ E (eS E).heap [] (MQ (eB E) (Qw Γ ov S') (eA E) (eS E) 0 0 (AW Γ)) (F0 (eM E) 0 ls [])) : Ct Γ y bytes maxL ret d av S ov S' := by
  refine Met.ofW (cc := bytes) (maxL := maxL) (ret := ret) hp rfl ?_
  intro p e s m args below meth c s₁ B hml hv
  obtain ⟨rfl, hP, hK, hX, hSC, hN⟩ := hv
  have hts := atoms_spec (ws := Cond.code y bytes maxL ret :: WT) B.pre
  rw [lg_entry_eq]
  exact k (p, e, rmd d, s, m, av.toArray, below, meth, c, 0, 0, AW Γ) ⟨B.exec, B.bytes, hml, findClass_of_methodNamed B.named, fun w hw => hts w (List.mem_cons_of_mem _ hw), hN, hK, hX, hSC, fun c h => ⟨c, h, rfl⟩, Nat.le_refl _, Nat.le_refl _, Nat.le_refl _, Nat.le_refl _, B.notSynchronized, B.returns⟩ ⟨rfl, rfl, rfl⟩ _ (lv_entry av hlen) hP
theorem ctI_of {Γ : GA} {y : MethodName} {bytes : ByteArray} {maxL : Nat} {ret : Option FieldType} {d : Nat} {av : List Value} {S : St} {o : Option (Int32 × St)} (hp : plainName y.cls = true) (hlen : (lg_sl av).length ≤ maxL)
    (k : ∀ E : EV, Cx Γ E y.cls bytes maxL d ret → Mx Γ E → G Γ E (QI Γ E) maxL 0 (lv_args 0 av) [] S o) : CtI Γ y bytes maxL ret d av S o :=
  fun r S' hr => ct_of hp hlen (fun E C M ls h hP => k E C M _ _ ls hP va_S.rf h r S' hr)
theorem ctL_of {Γ : GA} {y : MethodName} {bytes : ByteArray} {maxL : Nat} {ret : Option FieldType} {d : Nat} {av : List Value} {S : St} {o : Option (Int64 × St)} (hp : plainName y.cls = true) (hlen : (lg_sl av).length ≤ maxL)
    (k : ∀ E : EV, Cx Γ E y.cls bytes maxL d ret → Mx Γ E → G Γ E (QL Γ E) maxL 0 (lv_args 0 av) [] S o) : CtL Γ y bytes maxL ret d av S o :=
  fun r S' hr => ct_of hp hlen (fun E C M ls h hP => k E C M _ _ ls hP va_S.rf h r S' hr)
theorem ctV_of {Γ : GA} {y : MethodName} {bytes : ByteArray} {maxL : Nat} {ret : Option FieldType} {d : Nat} {av : List Value} {S : St} {o : Option (Unit × St)} (hp : plainName y.cls = true) (hlen : (lg_sl av).length ≤ maxL)
    (k : ∀ E : EV, Cx Γ E y.cls bytes maxL d ret → Mx Γ E → G Γ E (QV Γ E) maxL 0 (lv_args 0 av) [] S o) : CtV Γ y bytes maxL ret d av S o :=
  fun r S' hr => ct_of hp hlen (fun E C M ls h hP => k E C M _ _ ls hP va_S.rf h r S' hr)
theorem good_all {c : Cond} (h : c ∈ WT) : GoodIn WT (c :: WT) := by
  intro w hw
  have hm : w ∈ WT := by
    rcases List.mem_cons.mp hw with rfl | h1
    · exact h
    · exact h1
  exact ⟨hm, good_of_word (List.mem_filter.mp hm).2⟩
theorem va_callw {p : Program} {l : Launch} {e : Env} {R : Room} {s : State} {m : MethodId} {args : Array Value} {below : List Frame} {meth : Method} {c : Code} {H : Heap} {locs : List Loc} {cells slots : Nat} {Q : State → Prop} {pc : Nat} {ls : Array Slot} {rest st0 : List Value} {a : Array Value} {A0 : Nat → Prop} {H0 : Heap} {Γ : GA} {ov : Option Value} {S' : St}
    (hr : va_Run p l e R s m args below meth c H locs cells slots 0 0 (F0 m pc ls st0) rest (Qw Γ ov S' a) (AW Γ)) (hS : va_S A0 H0 H locs) (hA : ∀ q, AW Γ q → A0 q)
    (kk : ∀ (H1 : Heap) (locs1 : List Loc), va_P (gD Γ) vwCl (wsOf Γ S') H1 → va_S A0 H0 H1 locs1 → W p l e R s m args below meth c H1 locs1 cells slots Q (F0 m (pc + 3) ls (ov.toList ++ rest))) : W p l e R s m args below meth c H locs cells slots Q (F0 m pc ls st0) := by
  intro T hT X
  obtain ⟨v, st₀, t, T', L, h0, X', hL, e1, e2, ⟨hv, hWd, hz, hk⟩, st⟩ := hr T hT X
  cases hv
  rw [h0] at hz hk
  obtain ⟨t2, a1, b1⟩ := kk T'.heap (locs ++ L) (by rw [e1]; exact hWd.1)
    ⟨Nat.le_trans hS.1 (by rw [e1]; exact hz), fun q h1 h2 => by rw [e1, hk q (Nat.lt_of_lt_of_le h1 hS.1) (fun z => h2 (hA q z))]; exact hS.2.1 q h1 h2, fun q hq => by
      rcases List.mem_append.mp hq with h | h
      · exact hS.2.2 q h
      · exact hA _ (hL q h)⟩ T' rfl X'
  exact ⟨t2, st t2 a1, b1⟩
section GC
variable {α : Type} {Γ : GA} {E : EV} {own : String} {cc : ByteArray} {nL d : Nat} {ret : Option FieldType} {Qf : α → St → State → Prop} {pc : Nat} {lv : List (Nat × Value)} {st st0 : List Value} {S : St}
variable {index n maxL dy ci c : Nat} {y : MethodName} {bytes : ByteArray} {yret : Option FieldType} {As : List Value}
theorem g_hA (C : Cx Γ E own cc nL d ret) : ∀ q, AW Γ q → (eG E) q := fun q hq => by obtain ⟨c, h, rfl⟩ := hq; exact C.hA c h
/-- a call of an object's method: what comes behind it -/
theorem g_callV (C : Cx Γ E own cc nL d ret) (L : LVi own index y bytes maxL yret n) (hO : FO c ci) (hcl : (vwCl[ci]?).map (fun q => q.1) = some y.cls) {ov : Option Value} {S1 : St} (hM : Ct Γ y bytes maxL yret dy (.ref (gX Γ c) :: As) S ov S1) (hdd : dy + 1 ≤ d) (hn : As.length = n) (hst : st0 = As.reverse ++ .ref (gX Γ c) :: st) (hr0 : (st.map fun v => v.category).sum ≤ 8)
    (hd : decode cc pc = .ok (.invokevirtual index, 3)) {Q : State → Prop} {H : Heap} {locs : List Loc} {ls : Array Slot} (hP : va_P (gD Γ) vwCl (wsOf Γ S) H) (hS : va_S (eG E) (eS E).heap H locs) (h : lv_has ls nL lv)
    (kk : ∀ (H1 : Heap) (locs1 : List Loc), va_P (gD Γ) vwCl (wsOf Γ S1) H1 → va_S (eG E) (eS E).heap H1 locs1 → WW Γ E H1 locs1 Q (F0 (eM E) (pc + 3) ls (ov.toList ++ st))) : WW Γ E H locs Q (F0 (eM E) pc ls st0) := by
  obtain ⟨⟨l1, l2, l3, l4, l5⟩, l6, l7⟩ := L
  obtain ⟨hc, hO⟩ := hO
  obtain ⟨fs, f1⟩ := hO Γ (S c)
  have he := ws_get Γ S hc
  rw [f1] at he
  have hlo := C.hlo
  have hfr := C.hfr
  obtain ⟨q, hq, hq1⟩ := Option.map_eq_some_iff.mp hcl
  have hrecv := va_recv C.hK hP hq he
  rw [hq1] at hrecv
  have hpre : PreV (eS E) H y.cls (gX Γ c) (va_Pc (.ref (gX Γ c) :: As) (World Γ S)) As := ⟨fun a U g mk q => ⟨q.1, q.2.calling⟩, hrecv, fun U hU hW => ⟨rfl, wd_of C hP hS hU hW⟩⟩
  have hR : (rmd dy).frames + 1 ≤ (eR E).frames ∧ 8 + (maxL + 11) + (rmd dy).locals ≤ (eR E).locals := ⟨Nat.le_trans hdd hfr, by show 8 + (maxL + 11) + 38 * dy ≤ _; omega⟩
  rcases l5 with l5 | ⟨host, l5⟩
  · exact va_callw (va_runV (As := As) (rest := st) (C := y.cls) (n := n) ⟨C.hx, C.hb, C.hml, C.hown, C.hts⟩ hM ⟨callB_of n C.hts (good_all l1) rfl rfl rfl (C.hts _ l2) (C.hts _ l5) l3 hR, C.hts _ l6, C.hts _ l7⟩ hpre rfl hn h.1 hst (lv_room hr0) hd ⟨C.hce, C.hsl⟩) hS (g_hA C) kk
  · exact va_callw (va_runVN (As := As) (rest := st) (C := y.cls) (n := n) ⟨C.hx, C.hb, C.hml, C.hown, C.hts⟩ hM ⟨va_cnB n C.hts (good_all l1) rfl rfl rfl (C.hnt _ l5 rfl) (C.hts _ l2) l3 hR, C.hts _ l6, C.hts _ l7⟩ hpre rfl hn h.1 hst (lv_room hr0) hd ⟨C.hce, C.hsl⟩) hS (g_hA C) kk
theorem g_callS (C : Cx Γ E own cc nL d ret) (L : LSt own index y bytes maxL yret n) {ov : Option Value} {S1 : St} (hM : Ct Γ y bytes maxL yret dy As S ov S1) (hdd : dy + 1 ≤ d) (hn : As.length = n) (hst : st0 = As.reverse ++ st) (hr0 : (st.map fun v => v.category).sum ≤ 8)
    (hd : decode cc pc = .ok (.invokestatic index, 3)) {Q : State → Prop} {H : Heap} {locs : List Loc} {ls : Array Slot} (hP : va_P (gD Γ) vwCl (wsOf Γ S) H) (hS : va_S (eG E) (eS E).heap H locs) (h : lv_has ls nL lv)
    (kk : ∀ (H1 : Heap) (locs1 : List Loc), va_P (gD Γ) vwCl (wsOf Γ S1) H1 → va_S (eG E) (eS E).heap H1 locs1 → WW Γ E H1 locs1 Q (F0 (eM E) (pc + 3) ls (ov.toList ++ st))) : WW Γ E H locs Q (F0 (eM E) pc ls st0) := by
  obtain ⟨⟨l1, l2, l3, l4, l5⟩, l6⟩ := L
  have hlo := C.hlo
  have hfr := C.hfr
  have hpre : PreS (eS E) H (va_Pc As (World Γ S)) As := ⟨fun a U g mk q => ⟨q.1, q.2.calling⟩, fun U hU hW => ⟨rfl, wd_of C hP hS hU hW⟩⟩
  have hR : (rmd dy).frames + 1 ≤ (eR E).frames ∧ 8 + (maxL + 11) + (rmd dy).locals ≤ (eR E).locals := ⟨Nat.le_trans hdd hfr, by show 8 + (maxL + 11) + 38 * dy ≤ _; omega⟩
  rcases l5 with l5 | ⟨host, l5⟩
  · exact va_callw (va_runS (As := As) (rest := st) (n := n) ⟨C.hx, C.hb, C.hml, C.hown, C.hts⟩ hM ⟨callB_of n C.hts (good_all l1) rfl rfl rfl (C.hts _ l2) (C.hts _ l5) l3 hR, C.hts _ l6⟩ hpre rfl hn h.1 hst (lv_room hr0) hd ⟨C.hce, C.hsl⟩) hS (g_hA C) kk
  · exact va_callw (va_runSN (As := As) (rest := st) (n := n) ⟨C.hx, C.hb, C.hml, C.hown, C.hts⟩ hM ⟨va_cnB n C.hts (good_all l1) rfl rfl rfl (C.hnt _ l5 rfl) (C.hts _ l2) l3 hR, C.hts _ l6, trivial⟩ hpre rfl hn h.1 hst (lv_room hr0) hd ⟨C.hce, C.hsl⟩) hS (g_hA C) kk
theorem g_callVI (C : Cx Γ E own cc nL d ret) (L : LVi own index y bytes maxL yret n) (hO : FO c ci) (hcl : (vwCl[ci]?).map (fun q => q.1) = some y.cls) {o : Option (Int32 × St)} {K : Int32 → St → Option (α × St)} (hM : CtI Γ y bytes maxL yret dy (.ref (gX Γ c) :: As) S o) (hdd : dy + 1 ≤ d) (hn : As.length = n) (hst : st0 = As.reverse ++ .ref (gX Γ c) :: st) (hr0 : (st.map fun v => v.category).sum ≤ 8)
    (hd : decode cc pc = .ok (.invokevirtual index, 3)) (kk : ∀ (r : Int32) (S1 : St), G Γ E Qf nL (pc + 3) lv (.int r :: st) S1 (K r S1)) : G Γ E Qf nL pc lv st0 S (bnd o K) := by
  intro H locs ls hP hS h a S' hr
  cases o with
  | none => cases hr
  | some q =>
    obtain ⟨r, S1⟩ := q
    exact g_callV C L hO hcl (hM r S1 rfl) hdd hn hst hr0 hd hP hS h (fun H1 locs1 hP1 hS1 => kk r S1 H1 locs1 ls hP1 hS1 h a S' hr)
theorem g_callSI (C : Cx Γ E own cc nL d ret) (L : LSt own index y bytes maxL yret n) {o : Option (Int32 × St)} {K : Int32 → St → Option (α × St)} (hM : CtI Γ y bytes maxL yret dy As S o) (hdd : dy + 1 ≤ d) (hn : As.length = n) (hst : st0 = As.reverse ++ st) (hr0 : (st.map fun v => v.category).sum ≤ 8)
    (hd : decode cc pc = .ok (.invokestatic index, 3)) (kk : ∀ (r : Int32) (S1 : St), G Γ E Qf nL (pc + 3) lv (.int r :: st) S1 (K r S1)) : G Γ E Qf nL pc lv st0 S (bnd o K) := by
  intro H locs ls hP hS h a S' hr
  cases o with
  | none => cases hr
  | some q =>
    obtain ⟨r, S1⟩ := q
    exact g_callS C L (hM r S1 rfl) hdd hn hst hr0 hd hP hS h (fun H1 locs1 hP1 hS1 => kk r S1 H1 locs1 ls hP1 hS1 h a S' hr)
theorem g_callVL (C : Cx Γ E own cc nL d ret) (L : LVi own index y bytes maxL yret n) (hO : FO c ci) (hcl : (vwCl[ci]?).map (fun q => q.1) = some y.cls) {o : Option (Int64 × St)} {K : Int64 → St → Option (α × St)} (hM : CtL Γ y bytes maxL yret dy (.ref (gX Γ c) :: As) S o) (hdd : dy + 1 ≤ d) (hn : As.length = n) (hst : st0 = As.reverse ++ .ref (gX Γ c) :: st) (hr0 : (st.map fun v => v.category).sum ≤ 8)
    (hd : decode cc pc = .ok (.invokevirtual index, 3)) (kk : ∀ (r : Int64) (S1 : St), G Γ E Qf nL (pc + 3) lv (.long r :: st) S1 (K r S1)) : G Γ E Qf nL pc lv st0 S (bnd o K) := by
  intro H locs ls hP hS h a S' hr
  cases o with
  | none => cases hr
  | some q =>
    obtain ⟨r, S1⟩ := q
    exact g_callV C L hO hcl (hM r S1 rfl) hdd hn hst hr0 hd hP hS h (fun H1 locs1 hP1 hS1 => kk r S1 H1 locs1 ls hP1 hS1 h a S' hr)
theorem g_callSL (C : Cx Γ E own cc nL d ret) (L : LSt own index y bytes maxL yret n) {o : Option (Int64 × St)} {K : Int64 → St → Option (α × St)} (hM : CtL Γ y bytes maxL yret dy As S o) (hdd : dy + 1 ≤ d) (hn : As.length = n) (hst : st0 = As.reverse ++ st) (hr0 : (st.map fun v => v.category).sum ≤ 8)
    (hd : decode cc pc = .ok (.invokestatic index, 3)) (kk : ∀ (r : Int64) (S1 : St), G Γ E Qf nL (pc + 3) lv (.long r :: st) S1 (K r S1)) : G Γ E Qf nL pc lv st0 S (bnd o K) := by
  intro H locs ls hP hS h a S' hr
  cases o with
  | none => cases hr
  | some q =>
    obtain ⟨r, S1⟩ := q
    exact g_callS C L (hM r S1 rfl) hdd hn hst hr0 hd hP hS h (fun H1 locs1 hP1 hS1 => kk r S1 H1 locs1 ls hP1 hS1 h a S' hr)
theorem g_callVV (C : Cx Γ E own cc nL d ret) (L : LVi own index y bytes maxL yret n) (hO : FO c ci) (hcl : (vwCl[ci]?).map (fun q => q.1) = some y.cls) {o : Option (Unit × St)} {K : Unit → St → Option (α × St)} (hM : CtV Γ y bytes maxL yret dy (.ref (gX Γ c) :: As) S o) (hdd : dy + 1 ≤ d) (hn : As.length = n) (hst : st0 = As.reverse ++ .ref (gX Γ c) :: st) (hr0 : (st.map fun v => v.category).sum ≤ 8)
    (hd : decode cc pc = .ok (.invokevirtual index, 3)) (kk : ∀ (r : Unit) (S1 : St), G Γ E Qf nL (pc + 3) lv (st) S1 (K r S1)) : G Γ E Qf nL pc lv st0 S (bnd o K) := by
  intro H locs ls hP hS h a S' hr
  cases o with
  | none => cases hr
  | some q =>
    obtain ⟨r, S1⟩ := q
    exact g_callV C L hO hcl (hM r S1 rfl) hdd hn hst hr0 hd hP hS h (fun H1 locs1 hP1 hS1 => kk r S1 H1 locs1 ls hP1 hS1 h a S' hr)
theorem g_callSV (C : Cx Γ E own cc nL d ret) (L : LSt own index y bytes maxL yret n) {o : Option (Unit × St)} {K : Unit → St → Option (α × St)} (hM : CtV Γ y bytes maxL yret dy As S o) (hdd : dy + 1 ≤ d) (hn : As.length = n) (hst : st0 = As.reverse ++ st) (hr0 : (st.map fun v => v.category).sum ≤ 8)
    (hd : decode cc pc = .ok (.invokestatic index, 3)) (kk : ∀ (r : Unit) (S1 : St), G Γ E Qf nL (pc + 3) lv (st) S1 (K r S1)) : G Γ E Qf nL pc lv st0 S (bnd o K) := by
  intro H locs ls hP hS h a S' hr
  cases o with
  | none => cases hr
  | some q =>
    obtain ⟨r, S1⟩ := q
    exact g_callS C L (hM r S1 rfl) hdd hn hst hr0 hd hP hS h (fun H1 locs1 hP1 hS1 => kk r S1 H1 locs1 ls hP1 hS1 h a S' hr)
/-- tableswitch: a key more -/
theorem g_tsw {res A B : Option (α × St)} (C : Cx Γ E own cc nL d ret) {dflt lo hi off : Int} {offs : Array Int} {len : Nat} {x : Int32} (key : Int32) (tgt j : Nat) (hd : decode cc pc = .ok (.tableswitch dflt lo hi offs, len)) (hP0 : ¬ (lo ≤ x.toInt ∧ x.toInt < key.toInt)) (hk : lo ≤ key.toInt ∧ key.toInt ≤ hi ∧ (key.toInt - lo).toNat = j) (ho : offs[j]? = some off) (ht : (pc : Int) + off = (tgt : Int))
    (kA : G Γ E Qf nL tgt lv st S A) (kB : ¬ (lo ≤ x.toInt ∧ x.toInt < key.toInt + 1) → G Γ E Qf nL pc lv (.int x :: st) S B) : G Γ E Qf nL pc lv (.int x :: st) S (if x = key then A else B) := by
  by_cases hx : x = key
  · subst hx
    rw [if_pos rfl]
    intro H locs ls hP hS h a S' hr
    exact lv_tableIn C.hx C.hb hd (by omega) (by omega) (by rw [hk.2.2]; exact ho) ht (kA H locs ls hP hS h a S' hr)
  · rw [if_neg hx]
    refine kB (fun hh => ?_)
    have : x.toInt ≠ key.toInt := fun e => hx (Int32.toInt_inj.mp e)
    omega
theorem g_tsd {res : Option (α × St)} (C : Cx Γ E own cc nL d ret) {dflt lo hi : Int} {offs : Array Int} {len : Nat} {x : Int32} {k : Int} (tgt : Nat) (hd : decode cc pc = .ok (.tableswitch dflt lo hi offs, len)) (hP0 : ¬ (lo ≤ x.toInt ∧ x.toInt < k + 1)) (hk : hi = k) (ht : (pc : Int) + dflt = (tgt : Int))
    (kA : G Γ E Qf nL tgt lv st S res) : G Γ E Qf nL pc lv (.int x :: st) S res := by
  intro H locs ls hP hS h a S' hr
  exact lv_tableOut C.hx C.hb hd (by omega) ht (kA H locs ls hP hS h a S' hr)
/-- lookupswitch: a key more, with what was passed by -/
theorem g_lsw {A B : Option (α × St)} (C : Cx Γ E own cc nL d ret) {dflt off : Int} {ps : Array (Int × Int)} {len : Nat} {x : Int32} (key : Int32) (tgt : Nat) (hd : decode cc pc = .ok (.lookupswitch dflt ps, len)) (hp : (ps.toList.zip (ps.toList.drop 1)).all (fun (a, next) => a.1 < next.1) = true) (ho : Op.lookupswitch.offset ps.toList dflt key.toInt = off) (ht : (pc : Int) + off = (tgt : Int))
    (kA : G Γ E Qf nL tgt lv st S A) (kB : ¬ x = key → G Γ E Qf nL pc lv (.int x :: st) S B) : G Γ E Qf nL pc lv (.int x :: st) S (if x = key then A else B) := by
  by_cases hx : x = key
  · subst hx
    rw [if_pos rfl]
    intro H locs ls hP hS h a S' hr
    exact lv_lookup C.hx C.hb hd hp ho ht (kA H locs ls hP hS h a S' hr)
  · rw [if_neg hx]
    exact kB hx
theorem g_lsd {res : Option (α × St)} (C : Cx Γ E own cc nL d ret) {dflt : Int} {ps : Array (Int × Int)} {len : Nat} {x : Int32} (tgt : Nat) (hd : decode cc pc = .ok (.lookupswitch dflt ps, len)) (hp : (ps.toList.zip (ps.toList.drop 1)).all (fun (a, next) => a.1 < next.1) = true) (ho : Op.lookupswitch.offset ps.toList dflt x.toInt = dflt) (ht : (pc : Int) + dflt = (tgt : Int))
    (kA : G Γ E Qf nL tgt lv st S res) : G Γ E Qf nL pc lv (.int x :: st) S res := by
  intro H locs ls hP hS h a S' hr
  exact lv_lookup C.hx C.hb hd hp ho ht (kA H locs ls hP hS h a S' hr)
end GC
def FU : Nat := 100000
