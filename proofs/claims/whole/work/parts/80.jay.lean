-- ===== constructors: a world that grows, its cells one behind the other from b on =====
def cw (b : Nat) : List va_E → va_W
  | [] => []
  | e :: es => (b, e) :: cw (b + 1) es
theorem cw_get : ∀ (es : List va_E) (b k : Nat), (cw b es)[k]? = (es[k]?).map (fun e => (b + k, e))
  | [], b, k => by simp [cw]
  | e :: es, b, 0 => by simp [cw]
  | e :: es, b, k + 1 => by
    show (cw (b + 1) es)[k]? = _
    rw [cw_get es (b + 1) k]
    simp [Nat.add_assoc, Nat.add_comm 1 k]
theorem cw_at {es : List va_E} {b k : Nat} {e : va_E} (h : es[k]? = some e) : (cw b es)[k]? = some (b + k, e) := by rw [cw_get, h]; rfl
theorem cw_len : ∀ (es : List va_E) (b : Nat), (cw b es).length = es.length
  | [], b => rfl
  | e :: es, b => by simp [cw, cw_len es (b + 1)]
theorem cw_set (es : List va_E) (b k : Nat) (e : va_E) : (cw b es).set k (b + k, e) = cw b (es.set k e) := by
  apply List.ext_getElem?
  intro j
  rw [cw_get]
  by_cases hj : k = j
  · subst hj
    by_cases hl : k < es.length
    · rw [List.getElem?_set_self (by have := cw_get es b k; rw [List.getElem?_eq_getElem hl] at this; exact (List.getElem?_eq_some_iff.mp this).1), List.getElem?_set_self hl]
      rfl
    · rw [List.getElem?_eq_none (by rw [List.length_set, cw_len]; omega), List.getElem?_eq_none (by rw [List.length_set]; omega)]
      rfl
  · rw [List.getElem?_set_ne hj, List.getElem?_set_ne hj, cw_get]
theorem cw_app : ∀ (es fs : List va_E) (b : Nat), cw b (es ++ fs) = cw b es ++ cw (b + es.length) fs
  | [], fs, b => by simp [cw]
  | e :: es, fs, b => by
    show (b, e) :: cw (b + 1) (es ++ fs) = _
    rw [cw_app es fs (b + 1)]
    simp [cw, Nat.add_assoc, Nat.add_comm 1]
theorem cw_inv {es : List va_E} {b k : Nat} {q : Nat × va_E} (h : (cw b es)[k]? = some q) : es[k]? = some q.2 ∧ q.1 = b + k := by
  rw [cw_get] at h
  obtain ⟨e, h1, h2⟩ := Option.map_eq_some_iff.mp h
  subst h2
  exact ⟨h1, rfl⟩
theorem cw_D {A : Nat → Prop} {b : Nat} (hA : ∀ q, b ≤ q → A q) (es : List va_E) : va_D A (cw b es) :=
  ⟨fun i j p q hi hj e => by
    have h1 := (cw_inv hi).2
    have h2 := (cw_inv hj).2
    omega, fun k q hk => hA _ (by rw [(cw_inv hk).2]; omega)⟩
def JW (Γ : GA) (U : State) : Prop := va_K (gD Γ) vwCl (gT Γ) U ∧ (∀ w ∈ lw_tbl, isNest w = true → va_Nw w U) ∧ va_AO "CartsDownHill$Cart" U
theorem JW.calling {Γ : GA} {a : Array Value} {U : State} {g : JFrame} {mk : MethodId} (h : JW Γ U) : JW Γ (U.calling g mk a) :=
  ⟨va_K.moved (u := U) (U := U.calling g mk a) (Vm.Alike.refl U.vm) h.1, fun w hw hn => nest_same (s := U) (U := U.calling g mk a) hn rfl (h.2.1 w hw hn), va_AO.moved (u := U) (U := U.calling g mk a) (Vm.Alike.refl U.vm) h.2.2⟩
theorem JW.warm {Γ : GA} {s U : State} (hW : s.WarmedH U.vm) (h : JW Γ s) : JW Γ U :=
  ⟨va_K.moved hW.alike h.1, fun w hw hn => nest_warm hn hW (h.2.1 w hw hn), va_AO.moved hW.alike h.2.2⟩
def Cj (Γ : GA) (E : EV) (own : String) (cc : ByteArray) (nL d kc ks b o : Nat) (ret : Option FieldType) : Prop :=
  E.1.tables.exec = Jvm.exec ∧ (eC E).code = cc ∧ (eC E).maxLocals = nL ∧ (eS E).vm.findClass own = some (eM E).cls ∧ (∀ w ∈ WT, w.before (eA E) (eS E) = true) ∧ JW Γ (eS E) ∧ (∀ q, b ≤ q → (eG E) q) ∧ d ≤ (eR E).frames ∧ 38 * d ≤ (eR E).locals ∧ kc ≤ (eR E).cells ∧ ks ≤ (eR E).slots ∧ (eMt E).locks = false ∧ (eMt E).sig.returnType = ret ∧ (eS E).heap.size = b + o
abbrev WJ (Γ : GA) (E : EV) (H : Heap) (locs : List Loc) (nc ns : Nat) (Q : State → Prop) (g : JFrame) : Prop := W E.1 (gl Γ) E.2.1 (eR E) (eS E) (eM E) (eA E) (eB E) (eMt E) (eC E) H locs nc ns Q g
def J (Γ : GA) (E : EV) (b : Nat) (Q : State → Prop) (nL pc : Nat) (lv : List (Nat × Value)) (st : List Value) (es : List va_E) (nc ns : Nat) : Prop :=
  ∀ (H : Heap) (locs : List Loc) (ls : Array Slot), va_P (gD Γ) vwCl (cw b es) H → va_S (eG E) (eS E).heap H locs → lv_has ls nL lv → WJ Γ E H locs nc ns Q (F0 (eM E) pc ls st)
section JR
variable {Γ : GA} {E : EV} {own : String} {cc : ByteArray} {nL d kc ks b o : Nat} {ret : Option FieldType} {Q : State → Prop} {pc : Nat} {lv lv' : List (Nat × Value)} {st : List Value} {es : List va_E} {nc ns : Nat}
theorem Cj.hx (C : Cj Γ E own cc nL d kc ks b o ret) : E.1.tables.exec = Jvm.exec := C.1
theorem Cj.hb (C : Cj Γ E own cc nL d kc ks b o ret) : (eC E).code = cc := C.2.1
theorem Cj.hml (C : Cj Γ E own cc nL d kc ks b o ret) : (eC E).maxLocals = nL := C.2.2.1
theorem Cj.hown (C : Cj Γ E own cc nL d kc ks b o ret) : (eS E).vm.findClass own = some (eM E).cls := C.2.2.2.1
theorem Cj.hts (C : Cj Γ E own cc nL d kc ks b o ret) : ∀ w ∈ WT, w.before (eA E) (eS E) = true := C.2.2.2.2.1
theorem Cj.hJ (C : Cj Γ E own cc nL d kc ks b o ret) : JW Γ (eS E) := C.2.2.2.2.2.1
theorem Cj.hA (C : Cj Γ E own cc nL d kc ks b o ret) : ∀ q, b ≤ q → (eG E) q := C.2.2.2.2.2.2.1
theorem Cj.hfr (C : Cj Γ E own cc nL d kc ks b o ret) : d ≤ (eR E).frames := C.2.2.2.2.2.2.2.1
theorem Cj.hlo (C : Cj Γ E own cc nL d kc ks b o ret) : 38 * d ≤ (eR E).locals := C.2.2.2.2.2.2.2.2.1
theorem Cj.hce (C : Cj Γ E own cc nL d kc ks b o ret) : kc ≤ (eR E).cells := C.2.2.2.2.2.2.2.2.2.1
theorem Cj.hsl (C : Cj Γ E own cc nL d kc ks b o ret) : ks ≤ (eR E).slots := C.2.2.2.2.2.2.2.2.2.2.1
theorem Cj.hlk (C : Cj Γ E own cc nL d kc ks b o ret) : (eMt E).locks = false := C.2.2.2.2.2.2.2.2.2.2.2.1
theorem Cj.hr (C : Cj Γ E own cc nL d kc ks b o ret) : (eMt E).sig.returnType = ret := C.2.2.2.2.2.2.2.2.2.2.2.2.1
theorem Cj.hz (C : Cj Γ E own cc nL d kc ks b o ret) : (eS E).heap.size = b + o := C.2.2.2.2.2.2.2.2.2.2.2.2.2
theorem Cj.hK (C : Cj Γ E own cc nL d kc ks b o ret) : va_K (gD Γ) vwCl (gT Γ) (eS E) := C.hJ.1
theorem Cj.hD (C : Cj Γ E own cc nL d kc ks b o ret) (es : List va_E) : va_D (eG E) (cw b es) := cw_D C.hA es
theorem j_aload_n (C : Cj Γ E own cc nL d kc ks b o ret) {k : Fin 4} {i : Nat} {x : Nat} (hd : decode cc pc = .ok (.aload_n k, 1)) (j : Nat) (hi : (k : Nat) = i) (hj : lv[j]? = some (i, .ref x)) (kk : J Γ E b Q nL (pc + 1) lv (.ref x :: st) es nc ns) : J Γ E b Q nL pc lv st es nc ns :=
  fun H locs ls hP hS h => lv_aload_n C.hx C.hb hd hi (lv_at h j hj) (kk H locs ls hP hS h)
theorem j_astore_n (C : Cj Γ E own cc nL d kc ks b o ret) {k : Fin 4} {i : Nat} {x : Nat} (hd : decode cc pc = .ok (.astore_n k, 1)) (hi : (k : Nat) = i) (hn : i < nL) (hl : (i, Value.ref x) :: lv.filter (fun q => !(q.1 == i) && !(q.1 + 1 == i && q.2.category == 2)) = lv') (kk : J Γ E b Q nL (pc + 1) lv' st es nc ns) : J Γ E b Q nL pc lv (.ref x :: st) es nc ns :=
  fun H locs ls hP hS h => lv_astore_n C.hx C.hb hd hi h hn hl (fun ls' h' => kk H locs ls' hP hS h')
theorem j_iload_n (C : Cj Γ E own cc nL d kc ks b o ret) {k : Fin 4} {i : Nat} {x : Int32} (hd : decode cc pc = .ok (.iload_n k, 1)) (j : Nat) (hi : (k : Nat) = i) (hj : lv[j]? = some (i, .int x)) (kk : J Γ E b Q nL (pc + 1) lv (.int x :: st) es nc ns) : J Γ E b Q nL pc lv st es nc ns :=
  fun H locs ls hP hS h => lv_iload_n C.hx C.hb hd hi (lv_at h j hj) (kk H locs ls hP hS h)
theorem j_istore_n (C : Cj Γ E own cc nL d kc ks b o ret) {k : Fin 4} {i : Nat} {x : Int32} (hd : decode cc pc = .ok (.istore_n k, 1)) (hi : (k : Nat) = i) (hn : i < nL) (hl : (i, Value.int x) :: lv.filter (fun q => !(q.1 == i) && !(q.1 + 1 == i && q.2.category == 2)) = lv') (kk : J Γ E b Q nL (pc + 1) lv' st es nc ns) : J Γ E b Q nL pc lv (.int x :: st) es nc ns :=
  fun H locs ls hP hS h => lv_istore_n C.hx C.hb hd hi h hn hl (fun ls' h' => kk H locs ls' hP hS h')
theorem j_iinc (C : Cj Γ E own cc nL d kc ks b o ret) {i : Nat} {n : Int} {x v : Int32} (hd : decode cc pc = .ok (.iinc i n, 3)) (j : Nat) (hj : lv[j]? = some (i, .int x)) (hv : x + Int32.ofInt n = v) (hn : i < nL) (hl : (i, Value.int v) :: lv.filter (fun q => !(q.1 == i) && !(q.1 + 1 == i && q.2.category == 2)) = lv') (kk : J Γ E b Q nL (pc + 3) lv' st es nc ns) : J Γ E b Q nL pc lv st es nc ns :=
  fun H locs ls hP hS h => lv_iinc C.hx C.hb hd h hj hv hn hl (fun ls' h' => kk H locs ls' hP hS h')
theorem j_iconst (C : Cj Γ E own cc nL d kc ks b o ret) {n : Int} {v : Int32} (hd : decode cc pc = .ok (.iconst n, 1)) (hv : Int32.ofInt n = v) (kk : J Γ E b Q nL (pc + 1) lv (.int v :: st) es nc ns) : J Γ E b Q nL pc lv st es nc ns :=
  fun H locs ls hP hS h => lv_iconst C.hx C.hb hd hv (kk H locs ls hP hS h)
theorem j_bipush (C : Cj Γ E own cc nL d kc ks b o ret) {n : Int} {v : Int32} (hd : decode cc pc = .ok (.bipush n, 2)) (hv : (Int8.ofInt n).toInt32 = v) (kk : J Γ E b Q nL (pc + 2) lv (.int v :: st) es nc ns) : J Γ E b Q nL pc lv st es nc ns :=
  fun H locs ls hP hS h => lv_bipush C.hx C.hb hd hv (kk H locs ls hP hS h)
theorem j_dup (C : Cj Γ E own cc nL d kc ks b o ret) {va : Value} (hd : decode cc pc = .ok (.dup, 1)) (hc : va.category = 1) (kk : J Γ E b Q nL (pc + 1) lv (va :: va :: st) es nc ns) : J Γ E b Q nL pc lv (va :: st) es nc ns :=
  fun H locs ls hP hS h => lv_dup C.hx C.hb hd hc (kk H locs ls hP hS h)
theorem j_goto (C : Cj Γ E own cc nL d kc ks b o ret) {off : Int} (tgt : Nat) (hd : decode cc pc = .ok (.goto off, 3)) (ht : (pc : Int) + off = (tgt : Int)) (kk : J Γ E b Q nL tgt lv st es nc ns) : J Γ E b Q nL pc lv st es nc ns :=
  fun H locs ls hP hS h => lv_goto C.hx C.hb hd ht (kk H locs ls hP hS h)
theorem j_ge_no (C : Cj Γ E own cc nL d kc ks b o ret) {x y : Int32} {off : Int} (tgt : Nat) (hd : decode cc pc = .ok (.if_icmp .ge off, 3)) (ht : (pc : Int) + off = (tgt : Int)) (hc : ¬ y ≤ x) (kk : J Γ E b Q nL (pc + 3) lv st es nc ns) : J Γ E b Q nL pc lv (.int y :: .int x :: st) es nc ns :=
  fun H locs ls hP hS h => lv_icmp_ge C.hx C.hb hd ht (fun q => absurd q hc) (fun _ => kk H locs ls hP hS h)
theorem j_ge_yes (C : Cj Γ E own cc nL d kc ks b o ret) {x y : Int32} {off : Int} (tgt : Nat) (hd : decode cc pc = .ok (.if_icmp .ge off, 3)) (ht : (pc : Int) + off = (tgt : Int)) (hc : y ≤ x) (kk : J Γ E b Q nL tgt lv st es nc ns) : J Γ E b Q nL pc lv (.int y :: .int x :: st) es nc ns :=
  fun H locs ls hP hS h => lv_icmp_ge C.hx C.hb hd ht (fun _ => kk H locs ls hP hS h) (fun q => absurd hc q)
theorem j_get (C : Cj Γ E own cc nL d kc ks b o ret) {index ci k c : Nat} {v : Value} {fs : List Value} (hk : LK own index ci k) (he : es[c]? = some (.inr (ci, fs))) (hv : fs[k]? = some v) (hd : decode cc pc = .ok (.getfield index, 3)) (kk : J Γ E b Q nL (pc + 3) lv (v :: st) es nc ns) : J Γ E b Q nL pc lv (.ref (b + c) :: st) es nc ns := by
  intro H locs ls hP hS h
  obtain ⟨Cn, T, N, h1, h2, h3, h4⟩ := hk
  rcases h4 with h4 | ⟨host, h4⟩
  · exact va_get C.hx C.hb C.hts h3 C.hown C.hK hP c (cw_at he) h1 k h2 (C.hts _ h4) (fun _ h9 => h9) hv hd (kk H locs ls hP hS h)
  · exact va_getN C.hx C.hb C.hts h3 C.hown C.hK hP c (cw_at he) h1 k h2 (va_Nw.use rfl (C.hJ.2.1 _ h4 rfl)) (fun _ h9 => h9) hv hd (kk H locs ls hP hS h)
/-- a field in a constructor: final, or not -/
theorem j_put (C : Cj Γ E own cc nL d kc ks b o ret) {index ci k c : Nat} {v : Value} {fs : List Value} {es' : List va_E} {Cn : String} {T : u_T} {N : Nat} {ty : FieldType} (ty0 : Nat → FieldType) (h1 : vwCl[ci]? = some (Cn, T, N)) (h2 : k < N) (h3 : ∀ w ∈ u_ws Cn T N, w ∈ WT) (t1 : ∀ k, k < N → parseFieldDescriptor (T k).2.2.1 = some (ty0 k)) (t2 : ∀ a, a < N → ∀ b, b < N → a ≠ b → (T a).2.1 ≠ (T b).2.1) (t4 : parseFieldDescriptor (T k).2.2.1 = some ty) (h4 : Cond.fieldLink own index (T k).1 (T k).2.1 (T k).2.2.1 ∈ WT) (hdecl : (T k).1 = own) (hin : (eMt E).name = "<init>")
    (hnr : narrow ty v = v) (hft : fits ty v = true) (he : es[c]? = some (.inr (ci, fs))) (hl : k < fs.length) (hs : es.set c (.inr (ci, fs.set k v)) = es') (hd : decode cc pc = .ok (.putfield index, 3)) (kk : J Γ E b Q nL (pc + 3) lv st es' nc ns) : J Γ E b Q nL pc lv (v :: .ref (b + c) :: st) es nc ns := by
  intro H locs ls hP hS h
  by_cases hf : (T k).2.2.2 = true
  · refine va_putF C.hx C.hb C.hts h3 ty0 t1 t2 C.hown C.hK hP (C.hD es) hS c (cw_at he) h1 k h2 (C.hts _ h4) (fun _ h9 => h9) hf hin hdecl t4 hnr hft hl hd (fun H1 locs1 hP1 _ hS1 => ?_)
    rw [cw_set, hs] at hP1
    exact kk H1 locs1 ls hP1 hS1 h
  · refine va_put C.hx C.hb C.hts h3 ty0 t1 t2 C.hown C.hK hP (C.hD es) hS c (cw_at he) h1 k h2 (C.hts _ h4) (fun _ h9 => h9) (by simpa using hf) t4 hnr hft hl hd (fun H1 locs1 hP1 _ hS1 => ?_)
    rw [cw_set, hs] at hP1
    exact kk H1 locs1 ls hP1 hS1 h
/-- the heap's size, out of the room that is used -/
theorem j_size (C : Cj Γ E own cc nL d kc ks b o ret) {H : Heap} {locs : List Loc} {T : State} (hlen : es.length = o + nc) (hP : va_P (gD Γ) vwCl (cw b es) H) (hS : va_S (eG E) (eS E).heap H locs) (hT : T.heap = H) (X : Stand E.1 (gl Γ) E.2.1 (eR E) (eS E) (eM E) (eA E) (eB E) (eMt E) (eC E) T locs nc ns) : H.size = b + es.length := by
  have h1 := X.heapSize
  rw [hT, C.hz] at h1
  have h2 : b + es.length ≤ H.size := by
    rcases Nat.eq_zero_or_pos es.length with h0 | h0
    · have := hS.1
      rw [C.hz] at this
      omega
    · have h3 : es[es.length - 1]? = some (es[es.length - 1]) := List.getElem?_eq_getElem (by omega)
      have h4 := (hP _ _ (cw_at (b := b) h3)).lt
      have h5 : (b + (es.length - 1), es[es.length - 1]).1 = b + (es.length - 1) := rfl
      rw [h5] at h4
      omega
  omega
theorem j_newa (C : Cj Γ E own cc nL d kc ks b o ret) {n : Int32} {N : Nat} {es' : List va_E} (hw : Cond.arrayClass .int ∈ WT) (hlen : es.length = o + nc) (hn : ¬ n < 0) (hN : n.toNatClampNeg = N) (hby : N * 4 ≤ 536870912) (hc : nc + 1 ≤ kc) (hs : ns + N ≤ ks) (he : es ++ [.inl (gI Γ, N, .inl (fun _ => 0))] = es') (hd : decode cc pc = .ok (.newarray .int, 2))
    (kk : J Γ E b Q nL (pc + 2) lv (.ref (b + es.length) :: st) es' (nc + 1) (ns + N)) : J Γ E b Q nL pc lv (.int n :: st) es nc ns := by
  intro H locs ls hP hS h T hT X
  have hz := j_size C hlen hP hS hT X
  refine (show WJ Γ E H locs nc ns Q (F0 (eM E) pc ls (.int n :: st)) from ?_) T hT X
  refine va_newaK (atype := .int) C.hx C.hb (C.hts _ hw) rfl hd rfl hn hN hby (Nat.le_trans hc C.hce) (Nat.le_trans hs C.hsl) hz (fun H1 cA e1 z1 o1 hAr hNm => ?_)
  have hcA : cA = gI Γ := by
    have h9 : (eS E).vm.findClass ("[" ++ (FieldType.int).toString) = some (gI Γ) := (C.hK.2 0 (gI Γ, .int) rfl).2
    exact Option.some.inj (hNm.symm.trans h9)
  subst hcA
  have hk : ∀ (k : Nat) (x : Nat × va_E), (cw b es)[k]? = some x → H1[x.1]? = H[x.1]? := fun k x hx => o1 x.1 (by rw [← hz]; exact (hP k x hx).lt)
  refine kk H1 locs ls ?_ ⟨Nat.le_trans hS.1 (by omega), fun x h1 h2 => (o1 x (by rw [← hz]; exact Nat.lt_of_lt_of_le h1 hS.1)).trans (hS.2.1 x h1 h2), hS.2.2⟩ h
  rw [← he, cw_app]
  refine (hP.kept hk).app (fun k x hx => ?_)
  have hz1 : k < 1 := (List.getElem?_eq_some_iff.mp hx).1
  rw [show k = 0 by omega] at hx
  cases hx
  exact e1
theorem j_new (C : Cj Γ E own cc nL d kc ks b o ret) {index ci N : Nat} {Cn : String} {T0 : u_T} {fs : List Value} {es' : List va_E} (ty : Nat → FieldType) (h1 : vwCl[ci]? = some (Cn, T0, N)) (h3 : ∀ w ∈ u_ws Cn T0 N, w ∈ WT) (t1 : ∀ k, k < N → parseFieldDescriptor (T0 k).2.2.1 = some (ty k)) (w1 : Cond.classLink own index Cn ∈ WT) (w2 : Cond.instantiable Cn N ∈ WT) (w3 : Cond.initialized Cn ∈ WT)
    (hfs : ∀ j, j < N → defaultValue (ty j) = vp_V fs j) (hlen : es.length = o + nc) (hc : nc + 1 ≤ kc) (hs : ns + N ≤ ks) (he : es ++ [.inr (ci, fs)] = es') (hd : decode cc pc = .ok (.new index, 3)) (kk : J Γ E b Q nL (pc + 3) lv (.ref (b + es.length) :: st) es' (nc + 1) (ns + N)) : J Γ E b Q nL pc lv st es nc ns := by
  intro H locs ls hP hS h T hT X
  have hz := j_size C hlen hP hS hT X
  have hKn := C.hK.1 ci _ h1
  refine (show WJ Γ E H locs nc ns Q (F0 (eM E) pc ls st) from ?_) T hT X
  refine W.newcK C.hx C.hb C.hown (C.hts _ w1) (C.hts _ w2) (C.hts _ w3) rfl hd (Nat.le_trans hc C.hce) (Nat.le_trans hs C.hsl) hKn.2.1 hz (fun H1 kC hkC e1 z1 o1 => ?_)
  have hk : ∀ (k : Nat) (x : Nat × va_E), (cw b es)[k]? = some x → H1[x.1]? = H[x.1]? := fun k x hx => o1 x.1 (by rw [← hz]; exact (hP k x hx).lt)
  refine kk H1 locs ls ?_ ⟨Nat.le_trans hS.1 (by omega), fun x h1 h2 => (o1 x (by rw [← hz]; exact Nat.lt_of_lt_of_le h1 hS.1)).trans (hS.2.1 x h1 h2), hS.2.2⟩ h
  rw [← he, cw_app]
  refine (hP.kept hk).app (fun k x hx => ?_)
  have hz1 : k < 1 := (List.getElem?_eq_some_iff.mp hx).1
  rw [show k = 0 by omega] at hx
  cases hx
  exact ⟨_, h1, (u_born ty C.hts h3 hKn hkC e1 t1).to hfs⟩
theorem j_anew (C : Cj Γ E own cc nL d kc ks b o ret) {index : Nat} {n : Int32} {N : Nat} {es' : List va_E} (w1 : Cond.classLink own index "CartsDownHill$Cart" ∈ WT) (hlen : es.length = o + nc) (hn : ¬ n < 0) (hN : n.toNatClampNeg = N) (hby : N * 4 ≤ 536870912) (hc : nc + 1 ≤ kc) (hs : ns + N ≤ ks) (he : es ++ [.inl (gR Γ, N, .inr (.inr (.inr (.inr (fun _ => none)))))] = es') (hd : decode cc pc = .ok (.anewarray index, 3))
    (kk : J Γ E b Q nL (pc + 3) lv (.ref (b + es.length) :: st) es' (nc + 1) (ns + N)) : J Γ E b Q nL pc lv (.int n :: st) es nc ns := by
  intro H locs ls hP hS h T hT X
  have hz := j_size C hlen hP hS hT X
  subst hN
  refine (show WJ Γ E H locs nc ns Q (F0 (eM E) pc ls (.int n :: st)) from ?_) T hT X
  refine W.anew C.hx C.hb C.hown (C.hts _ w1) (va_AO.use C.hJ.2.2) rfl hd rfl hn hby (Nat.le_trans hc C.hce) (Nat.le_trans hs C.hsl) (fun cA kA comp f1 f2 f3 f4 => ?_)
  have hcA : cA = gR Γ := by
    obtain ⟨kA', comp', g1, g2, g3, g4⟩ := (C.hK.2 1 (gR Γ, .object "CartsDownHill$Cart") rfl).2
    exact Option.some.inj (f1.symm.trans g4)
  subst hcA
  generalize hH1 : H.push ({ cls := gR Γ, slots := Array.replicate n.toNatClampNeg .null, vm := .none } : Cell) = H1
  have z1 : H1.size = H.size + 1 := by rw [← hH1, Array.size_push]
  have e1 : H1[H.size]? = some (arrV (gR Γ) n.toNatClampNeg (fun _ => .null)) := by rw [← hH1, Array.getElem?_push_size, ← arrV_new]
  have o1 : ∀ q : Nat, q < H.size → H1[q]? = H[q]? := fun q hq => by rw [← hH1, Array.getElem?_push, if_neg (Nat.ne_of_lt hq)]
  have hk : ∀ (k : Nat) (x : Nat × va_E), (cw b es)[k]? = some x → H1[x.1]? = H[x.1]? := fun k x hx => o1 x.1 ((hP k x hx).lt)
  have kk' := kk H1 locs ls (by
    rw [← he, cw_app]
    refine (hP.kept hk).app (fun k x hx => ?_)
    have hz1 : k < 1 := (List.getElem?_eq_some_iff.mp hx).1
    rw [show k = 0 by omega] at hx
    cases hx
    show H1[b + es.length]? = some (vp_cell _ _)
    rw [vp_cell_q, ← hz]
    exact e1) ⟨Nat.le_trans hS.1 (by omega), fun x h1 h2 => (o1 x (Nat.lt_of_lt_of_le h1 hS.1)).trans (hS.2.1 x h1 h2), hS.2.2⟩ h
  rw [← hz] at kk'
  exact kk'
theorem j_aast (C : Cj Γ E own cc nL d kc ks b o ret) {c v n ci : Nat} {i : Int32} {f : Nat → Option Nat} {vs : List Value} {r : vw_C} {es' : List va_E} (ha : es[c]? = some (.inl (gR Γ, n, .inr (.inr (.inr (.inr f)))))) (hv : es[v]? = some (.inr (ci, vs))) (hc : vwCl[ci]? = some r) (hr : r.1 = "CartsDownHill$Cart") (hin : vp_in i n) (hs : es.set c (.inl (gR Γ, n, .inr (.inr (.inr (.inr (va_up f i.toNatClampNeg (some (b + v)))))))) = es') (hd : decode cc pc = .ok (.aastore, 1))
    (kk : J Γ E b Q nL (pc + 1) lv st es' nc ns) : J Γ E b Q nL pc lv (.ref (b + v) :: .int i :: .ref (b + c) :: st) es nc ns := by
  intro H locs ls hP hS h
  have ht : (gT Γ)[1]? = some (gR Γ, .object r.1) := by rw [hr]; rfl
  refine va_astq C.hx C.hb C.hK hP (C.hD es) hS c 1 v ci (cw_at ha) ht (cw_at hv) hc hin hd (fun H1 locs1 hP1 _ hS1 => ?_)
  rw [cw_set, hs] at hP1
  exact kk H1 locs1 ls hP1 hS1 h
theorem j_obj (C : Cj Γ E own cc nL (d + 1) kc ks b o ret) {index x : Nat} (w1 : Cond.methodLink own index Lib.objectInit ∈ WT) (w2 : Cond.instanceMethod Lib.objectInit ∈ WT) (w3 : Cond.code Lib.objectInit ⟨#[0xb1]⟩ 1 none ∈ WT) (hr0 : (st.map fun v => v.category).sum ≤ 8) (hd : decode cc pc = .ok (.invokespecial index, 3))
    (kk : J Γ E b Q nL (pc + 3) lv st es nc ns) : J Γ E b Q nL pc lv (.ref x :: st) es nc ns := by
  intro H locs ls hP hS h
  have hlo := C.hlo
  have hfr := C.hfr
  exact W.objInit C.hx C.hb C.hown (C.hts _ w1) (C.hts _ w2) (C.hts _ w3) rfl (h.1.trans C.hml.symm) rfl hd (by omega) (by show 2 * 0 + _ + 12 ≤ _; omega) (kk H locs ls hP hS h)
end JR
def Qj (Γ : GA) (b : Nat) (out : List va_E) : Array Value → State → Outcome → State → Prop := fun _ st o t => o = .returned none ∧ va_P (gD Γ) vwCl (cw b out) t.heap ∧ va_F (fun q => b ≤ q) st t
def rmj (d kc ks : Nat) : Room := { frames := d, cells := kc, slots := ks, locals := 38 * d }
def CJ (Γ : GA) (y : MethodName) (bytes : ByteArray) (maxL d kc ks : Nat) (av : List Value) (b : Nat) (e0 : va_E) (out : List va_E) : Prop :=
  Met (gl Γ) y (Cond.code y bytes maxL none :: WT) (rmj d kc ks) (va_Pc av (fun U => U.heap.size = b + 1 ∧ va_P (gD Γ) vwCl (cw b [e0]) U.heap ∧ JW Γ U)) (Qj Γ b out) kc ks (fun q => b ≤ q)
theorem cj_of {Γ : GA} {y : MethodName} {bytes : ByteArray} {maxL d kc ks : Nat} {av : List Value} {b : Nat} {e0 : va_E} {out : List va_E} (hp : plainName y.cls = true) (hnm : y.name = "<init>") (hlen : (lg_sl av).length ≤ maxL)
    (k : ∀ E : EV, Cj Γ E y.cls bytes maxL d kc ks b 1 none → (eMt E).name = "<init>" → eG E = (fun q => b ≤ q) → J Γ E b (MQ (eB E) (Qj Γ b out) (eA E) (eS E) kc ks (fun q => b ≤ q)) maxL 0 (lv_args 0 av) [] [e0] 0 0) : CJ Γ y bytes maxL d kc ks av b e0 out := by
  refine Met.ofW (cc := bytes) (maxL := maxL) (ret := none) hp rfl ?_
  intro p e s m args below meth c s₁ B hml hv
  obtain ⟨rfl, hz, hP, hJ⟩ := hv
  have hts := atoms_spec (ws := Cond.code y bytes maxL none :: WT) B.pre
  have hin : meth.name = "<init>" := by rw [(name_of_methodNamed B.named B.method).1]; exact hnm
  rw [lg_entry_eq]
  exact k (p, e, rmj d kc ks, s, m, av.toArray, below, meth, c, 0, 0, fun q => b ≤ q) ⟨B.exec, B.bytes, hml, findClass_of_methodNamed B.named, fun w hw => hts w (List.mem_cons_of_mem _ hw), hJ, fun q h => h, Nat.le_refl _, Nat.le_refl _, Nat.le_refl _, Nat.le_refl _, B.notSynchronized, B.returns, hz⟩ hin rfl _ _ _ hP va_S.rf (lv_entry av hlen)
theorem j_vret {Γ : GA} {E : EV} {own : String} {cc : ByteArray} {nL d kc ks b o : Nat} {pc : Nat} {lv : List (Nat × Value)} {es : List va_E} (C : Cj Γ E own cc nL d kc ks b o none) (hG : eG E = fun q => b ≤ q) (hd : decode cc pc = .ok (.return_, 1)) : J Γ E b (MQ (eB E) (Qj Γ b es) (eA E) (eS E) kc ks (fun q => b ≤ q)) nL pc lv [] es kc ks := by
  intro H locs ls hP hS h
  have hlk := C.hlk
  exact W.vret C.hx C.hb C.hr (fun t ht hW => ⟨rfl, by rw [ht]; exact hP, by have := hS.F ht; rw [hG] at this; exact this⟩) (fun q hq => by have := hS.2.2 q hq; rw [hG] at this; exact this) hd
theorem va_callj {p : Program} {l : Launch} {e : Env} {R : Room} {s : State} {m : MethodId} {args : Array Value} {below : List Frame} {meth : Method} {c : Code} {H : Heap} {locs : List Loc} {cells slots mc ms : Nat} {Q : State → Prop} {pc : Nat} {ls : Array Slot} {rest st0 : List Value} {a : Array Value} {A0 : Nat → Prop} {H0 : Heap} {Γ : GA} {b1 : Nat} {out : List va_E}
    (hr : va_Run p l e R s m args below meth c H locs cells slots mc ms (F0 m pc ls st0) rest (Qj Γ b1 out a) (fun q => b1 ≤ q)) (hS : va_S A0 H0 H locs) (hA : ∀ q, b1 ≤ q → A0 q)
    (kk : ∀ (H1 : Heap) (locs1 : List Loc), va_P (gD Γ) vwCl (cw b1 out) H1 → (∀ q, q < H.size → ¬ b1 ≤ q → H1[q]? = H[q]?) → va_S A0 H0 H1 locs1 → W p l e R s m args below meth c H1 locs1 (cells + mc) (slots + ms) Q (F0 m (pc + 3) ls rest)) : W p l e R s m args below meth c H locs cells slots Q (F0 m pc ls st0) := by
  intro T hT X
  obtain ⟨v, st₀, t, T', L, h0, X', hL, e1, e2, ⟨hv, hWd, hz, hk⟩, st⟩ := hr T hT X
  cases hv
  rw [h0] at hz hk
  obtain ⟨t2, a1, b1⟩ := kk T'.heap (locs ++ L) (by rw [e1]; exact hWd) (fun q h1 h2 => by rw [e1]; exact hk q h1 h2)
    ⟨Nat.le_trans hS.1 (by rw [e1]; exact hz), fun q h1 h2 => by rw [e1, hk q (Nat.lt_of_lt_of_le h1 hS.1) (fun z => h2 (hA q z))]; exact hS.2.1 q h1 h2, fun q hq => by
      rcases List.mem_append.mp hq with h | h
      · exact hS.2.2 q h
      · exact hA _ (hL q h)⟩ T' rfl X'
  exact ⟨t2, st t2 a1, b1⟩
def LIn (own : String) (idx : Nat) (y : MethodName) (bytes : ByteArray) (maxL n : Nat) : Prop := LM own idx y bytes maxL none n ∧ Cond.instanceMethod y ∈ WT ∧ y.name = "<init>"
theorem j_init {Γ : GA} {E : EV} {own : String} {cc : ByteArray} {nL d kc ks b o : Nat} {ret : Option FieldType} {Q : State → Prop} {pc : Nat} {lv : List (Nat × Value)} {st st0 : List Value} {es es' : List va_E} {nc ns : Nat} (C : Cj Γ E own cc nL d kc ks b o ret) {index n maxL dy kc' ks' i : Nat} {y : MethodName} {bytes : ByteArray} {As : List Value} {e0 : va_E} {out rest : List va_E} (L : LIn own index y bytes maxL n) (hM : CJ Γ y bytes maxL dy kc' ks' (.ref (b + i) :: As) (b + i) e0 out) (hdd : dy + 1 ≤ d) (hlen : es.length = o + nc) (hi : rest.length = i) (hes : es = rest ++ [e0]) (hes' : rest ++ out = es') (hn : As.length = n) (hst : st0 = As.reverse ++ .ref (b + i) :: st) (hr0 : (st.map fun v => v.category).sum ≤ 8) (hc : nc + kc' ≤ kc) (hs : ns + ks' ≤ ks)
    (hd : decode cc pc = .ok (.invokespecial index, 3)) (kk : J Γ E b Q nL (pc + 3) lv st es' (nc + kc') (ns + ks')) : J Γ E b Q nL pc lv st0 es nc ns := by
  intro H locs ls hP hS h T hT X
  have hz := j_size C hlen hP hS hT X
  refine (show WJ Γ E H locs nc ns Q (F0 (eM E) pc ls st0) from ?_) T hT X
  obtain ⟨⟨l1, l2, l3, l4, l5⟩, l6, l7⟩ := L
  have hlo := C.hlo
  have hfr := C.hfr
  have hel : es.length = i + 1 := by rw [hes, List.length_append, hi]; rfl
  have hPc : va_P (gD Γ) vwCl (cw (b + i) [e0]) H := by
    rw [hes, cw_app, hi] at hP
    intro k q hk
    refine hP (rest.length + k) q ?_
    rw [List.getElem?_append_right (by rw [cw_len]; omega), cw_len, Nat.add_sub_cancel_left]
    exact hk
  have hpre : PreS (eS E) H (va_Pc (.ref (b + i) :: As) (fun U => U.heap.size = b + i + 1 ∧ va_P (gD Γ) vwCl (cw (b + i) [e0]) U.heap ∧ JW Γ U)) (.ref (b + i) :: As) := ⟨fun a U g mk q => ⟨q.1, q.2.1, q.2.2.1, q.2.2.2.calling⟩, fun U hU hW => ⟨rfl, by rw [hU, hz]; omega, by rw [hU]; exact hPc, C.hJ.warm hW⟩⟩
  have hR : (rmj dy kc' ks').frames + 1 ≤ (eR E).frames ∧ 8 + (maxL + 11) + (rmj dy kc' ks').locals ≤ (eR E).locals := ⟨Nat.le_trans hdd hfr, by show 8 + (maxL + 11) + 38 * dy ≤ _; omega⟩
  have hcells : nc + kc' ≤ (eR E).cells ∧ ns + ks' ≤ (eR E).slots := ⟨Nat.le_trans hc C.hce, Nat.le_trans hs C.hsl⟩
  have fin : ∀ (H1 : Heap) (locs1 : List Loc), va_P (gD Γ) vwCl (cw (b + i) out) H1 → (∀ q, q < H.size → ¬ b + i ≤ q → H1[q]? = H[q]?) → va_S (eG E) (eS E).heap H1 locs1 → WJ Γ E H1 locs1 (nc + kc') (ns + ks') Q (F0 (eM E) (pc + 3) ls st) := by
    intro H1 locs1 hP1 hk1 hS1
    refine kk H1 locs1 ls ?_ hS1 h
    rw [← hes', cw_app, hi]
    refine va_P.app (fun k q hk => ?_) hP1
    have hq := cw_inv hk
    have hkl : k < rest.length := (List.getElem?_eq_some_iff.mp hq.1).1
    have h9 := hP k q (by rw [hes, cw_app]; rw [List.getElem?_append_left (by rw [cw_len]; exact hkl)]; exact hk)
    exact h9.kept (hk1 q.1 h9.lt (by rw [hq.2]; omega))
  rcases l5 with l5 | ⟨host, l5⟩
  · exact va_callj (va_runI (As := As) (rest := st) (n := n) ⟨C.hx, C.hb, C.hml, C.hown, C.hts⟩ hM ⟨callB_of n C.hts (good_all l1) rfl rfl rfl (C.hts _ l2) (C.hts _ l5) l3 hR, l7, C.hts _ l6⟩ hpre rfl hn h.1 hst (lv_room hr0) hd hcells) hS (fun q hq => C.hA q (by omega)) fin
  · exact va_callj (va_runIN (As := As) (rest := st) (n := n) ⟨C.hx, C.hb, C.hml, C.hown, C.hts⟩ hM ⟨va_cnB n C.hts (good_all l1) rfl rfl rfl (C.hJ.2.1 _ l5 rfl) (C.hts _ l2) l3 hR, l7, C.hts _ l6⟩ hpre rfl hn h.1 hst (lv_room hr0) hd hcells) hS (fun q hq => C.hA q (by omega)) fin
