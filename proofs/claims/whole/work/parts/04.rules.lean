-- ===== the rules of G: a row an instruction =====
theorem g_none {α : Type} {Γ : GA} {E : EV} {Qf : α → St → State → Prop} {nL pc : Nat} {lv : List (Nat × Value)} {st : List Value} {S : St} : G Γ E Qf nL pc lv st S none := by
  intro H locs ls _ _ _ a S' hr
  cases hr
section GR
variable {α : Type} {Γ : GA} {E : EV} {own : String} {cc : ByteArray} {nL d : Nat} {ret : Option FieldType} {Qf : α → St → State → Prop} {pc : Nat} {lv lv' : List (Nat × Value)} {st : List Value} {S : St} {res : Option (α × St)}
theorem Cx.hx (C : Cx Γ E own cc nL d ret) : E.1.tables.exec = Jvm.exec := C.1
theorem Cx.hb (C : Cx Γ E own cc nL d ret) : (eC E).code = cc := C.2.1
theorem Cx.hml (C : Cx Γ E own cc nL d ret) : (eC E).maxLocals = nL := C.2.2.1
theorem Cx.hown (C : Cx Γ E own cc nL d ret) : (eS E).vm.findClass own = some (eM E).cls := C.2.2.2.1
theorem Cx.hts (C : Cx Γ E own cc nL d ret) : ∀ w ∈ WT, w.before (eA E) (eS E) = true := C.2.2.2.2.1
theorem Cx.hnt (C : Cx Γ E own cc nL d ret) : ∀ w ∈ lw_tbl, isNest w = true → va_Nw w (eS E) := C.2.2.2.2.2.1
theorem Cx.hK (C : Cx Γ E own cc nL d ret) : va_K (gD Γ) vwCl (gT Γ) (eS E) := C.2.2.2.2.2.2.1
theorem Cx.hX (C : Cx Γ E own cc nL d ret) : XI Γ := C.2.2.2.2.2.2.2.1
theorem Cx.hSC (C : Cx Γ E own cc nL d ret) : SC Γ (eG E) (eS E) (eS E).heap := C.2.2.2.2.2.2.2.2.1
theorem Cx.hA (C : Cx Γ E own cc nL d ret) : ∀ c, c < nC → (eG E) (gX Γ c) := C.2.2.2.2.2.2.2.2.2.1
theorem Cx.hfr (C : Cx Γ E own cc nL d ret) : d ≤ (eR E).frames := C.2.2.2.2.2.2.2.2.2.2.1
theorem Cx.hlo (C : Cx Γ E own cc nL d ret) : 38 * d ≤ (eR E).locals := C.2.2.2.2.2.2.2.2.2.2.2.1
theorem Cx.hce (C : Cx Γ E own cc nL d ret) : eN E ≤ (eR E).cells := C.2.2.2.2.2.2.2.2.2.2.2.2.1
theorem Cx.hsl (C : Cx Γ E own cc nL d ret) : eL E ≤ (eR E).slots := C.2.2.2.2.2.2.2.2.2.2.2.2.2.1
theorem Cx.hlk (C : Cx Γ E own cc nL d ret) : (eMt E).locks = false := C.2.2.2.2.2.2.2.2.2.2.2.2.2.2.1
theorem Cx.hr (C : Cx Γ E own cc nL d ret) : (eMt E).sig.returnType = ret := C.2.2.2.2.2.2.2.2.2.2.2.2.2.2.2
theorem Cx.hD (C : Cx Γ E own cc nL d ret) (S : St) : va_D (eG E) (wsOf Γ S) := ws_D C.hX C.hA S
/-- fewer locals -/
theorem g_sub (ks : List Nat) (hl : lv_pick lv ks = lv') (k : G Γ E Qf nL pc lv' st S res) : G Γ E Qf nL pc lv st S res :=
  fun H locs ls hP hS h => k H locs ls hP hS (lv_sub h ks hl)
theorem g_pc {pc' : Nat} (hp : pc = pc') (k : G Γ E Qf nL pc' lv st S res) : G Γ E Qf nL pc lv st S res := hp ▸ k
theorem g_grd {b : Bool} (k : b = true → G Γ E Qf nL pc lv st S res) : G Γ E Qf nL pc lv st S (grd b res) := by
  cases b with
  | true => exact k rfl
  | false => exact g_none
theorem g_iconst (C : Cx Γ E own cc nL d ret) {n : Int} {v : Int32} (hd : decode cc pc = .ok (.iconst n, 1)) (hv : Int32.ofInt n = v) (k : G Γ E Qf nL (pc + 1) lv (.int v :: st) S res) : G Γ E Qf nL pc lv st S res :=
  fun H locs ls hP hS h a S' hr => lv_iconst C.hx C.hb hd hv (k H locs ls hP hS h a S' hr)
theorem g_bipush (C : Cx Γ E own cc nL d ret) {n : Int} {v : Int32} (hd : decode cc pc = .ok (.bipush n, 2)) (hv : (Int8.ofInt n).toInt32 = v) (k : G Γ E Qf nL (pc + 2) lv (.int v :: st) S res) : G Γ E Qf nL pc lv st S res :=
  fun H locs ls hP hS h a S' hr => lv_bipush C.hx C.hb hd hv (k H locs ls hP hS h a S' hr)
theorem g_sipush (C : Cx Γ E own cc nL d ret) {n : Int} {v : Int32} (hd : decode cc pc = .ok (.sipush n, 3)) (hv : (Int16.ofInt n).toInt32 = v) (k : G Γ E Qf nL (pc + 3) lv (.int v :: st) S res) : G Γ E Qf nL pc lv st S res :=
  fun H locs ls hP hS h a S' hr => lv_sipush C.hx C.hb hd hv (k H locs ls hP hS h a S' hr)
theorem g_lconst (C : Cx Γ E own cc nL d ret) {n : Fin 2} {v : Int64} (hd : decode cc pc = .ok (.lconst n, 1)) (hv : Int64.ofNat (n : Nat) = v) (k : G Γ E Qf nL (pc + 1) lv (.long v :: st) S res) : G Γ E Qf nL pc lv st S res :=
  fun H locs ls hP hS h a S' hr => lv_lconst C.hx C.hb hd hv (k H locs ls hP hS h a S' hr)
theorem g_ldc (C : Cx Γ E own cc nL d ret) {index : Nat} {v : Int32} (hw : Cond.constant own index v ∈ WT) (hd : decode cc pc = .ok (.ldc index, 2)) (k : G Γ E Qf nL (pc + 2) lv (.int v :: st) S res) : G Γ E Qf nL pc lv st S res :=
  fun H locs ls hP hS h a S' hr => lv_ldc C.hx C.hb C.hown (C.hts _ hw) hd (k H locs ls hP hS h a S' hr)
theorem g_ldcw (C : Cx Γ E own cc nL d ret) {index : Nat} {v : Int32} (hw : Cond.constant own index v ∈ WT) (hd : decode cc pc = .ok (.ldc_w index, 3)) (k : G Γ E Qf nL (pc + 3) lv (.int v :: st) S res) : G Γ E Qf nL pc lv st S res :=
  fun H locs ls hP hS h a S' hr => lv_ldcw C.hx C.hb C.hown (C.hts _ hw) hd (k H locs ls hP hS h a S' hr)
theorem g_ldc2 (C : Cx Γ E own cc nL d ret) {index : Nat} {v : Int64} (hw : Cond.constantLong own index v ∈ WT) (hd : decode cc pc = .ok (.ldc2_w index, 3)) (k : G Γ E Qf nL (pc + 3) lv (.long v :: st) S res) : G Γ E Qf nL pc lv st S res :=
  fun H locs ls hP hS h a S' hr => lv_ldc2 C.hx C.hb C.hown (C.hts _ hw) hd (k H locs ls hP hS h a S' hr)
theorem g_iload_n (C : Cx Γ E own cc nL d ret) {k : Fin 4} {i : Nat} {x : Int32} (hd : decode cc pc = .ok (.iload_n k, 1)) (j : Nat) (hi : (k : Nat) = i) (hj : lv[j]? = some (i, .int x)) (kk : G Γ E Qf nL (pc + 1) lv (.int x :: st) S res) : G Γ E Qf nL pc lv st S res :=
  fun H locs ls hP hS h a S' hr => lv_iload_n C.hx C.hb hd hi (lv_at h j hj) (kk H locs ls hP hS h a S' hr)
theorem g_iload (C : Cx Γ E own cc nL d ret) {i : Nat} {x : Int32} (hd : decode cc pc = .ok (.iload i, 2)) (j : Nat) (hj : lv[j]? = some (i, .int x)) (kk : G Γ E Qf nL (pc + 2) lv (.int x :: st) S res) : G Γ E Qf nL pc lv st S res :=
  fun H locs ls hP hS h a S' hr => lv_iload C.hx C.hb hd (lv_at h j hj) (kk H locs ls hP hS h a S' hr)
theorem g_lload_n (C : Cx Γ E own cc nL d ret) {k : Fin 4} {i : Nat} {x : Int64} (hd : decode cc pc = .ok (.lload_n k, 1)) (j : Nat) (hi : (k : Nat) = i) (hj : lv[j]? = some (i, .long x)) (kk : G Γ E Qf nL (pc + 1) lv (.long x :: st) S res) : G Γ E Qf nL pc lv st S res :=
  fun H locs ls hP hS h a S' hr => lv_lload_n C.hx C.hb hd hi (lv_at h j hj) (kk H locs ls hP hS h a S' hr)
theorem g_lload (C : Cx Γ E own cc nL d ret) {i : Nat} {x : Int64} (hd : decode cc pc = .ok (.lload i, 2)) (j : Nat) (hj : lv[j]? = some (i, .long x)) (kk : G Γ E Qf nL (pc + 2) lv (.long x :: st) S res) : G Γ E Qf nL pc lv st S res :=
  fun H locs ls hP hS h a S' hr => lv_lload C.hx C.hb hd (lv_at h j hj) (kk H locs ls hP hS h a S' hr)
theorem g_aload_n (C : Cx Γ E own cc nL d ret) {k : Fin 4} {i : Nat} {x : Nat} (hd : decode cc pc = .ok (.aload_n k, 1)) (j : Nat) (hi : (k : Nat) = i) (hj : lv[j]? = some (i, .ref x)) (kk : G Γ E Qf nL (pc + 1) lv (.ref x :: st) S res) : G Γ E Qf nL pc lv st S res :=
  fun H locs ls hP hS h a S' hr => lv_aload_n C.hx C.hb hd hi (lv_at h j hj) (kk H locs ls hP hS h a S' hr)
theorem g_istore_n (C : Cx Γ E own cc nL d ret) {k : Fin 4} {i : Nat} {x : Int32} {K : Int32 → Option (α × St)} (hd : decode cc pc = .ok (.istore_n k, 1)) (hi : (k : Nat) = i) (hn : i < nL) (lv' : Int32 → List (Nat × Value)) (hl : ∀ x : Int32, (i, Value.int x) :: lv.filter (fun q => !(q.1 == i) && !(q.1 + 1 == i && q.2.category == 2)) = lv' x) (kk : ∀ x1 : Int32, G Γ E Qf nL (pc + 1) (lv' x1) st S (K x1)) : G Γ E Qf nL pc lv (.int x :: st) S (lett x K) :=
  fun H locs ls hP hS h a S' hr => lv_istore_n C.hx C.hb hd hi h hn (hl x) (fun ls' h' => kk x H locs ls' hP hS h' a S' hr)
theorem g_istore (C : Cx Γ E own cc nL d ret) {i : Nat} {x : Int32} {K : Int32 → Option (α × St)} (hd : decode cc pc = .ok (.istore i, 2)) (hn : i < nL) (lv' : Int32 → List (Nat × Value)) (hl : ∀ x : Int32, (i, Value.int x) :: lv.filter (fun q => !(q.1 == i) && !(q.1 + 1 == i && q.2.category == 2)) = lv' x) (kk : ∀ x1 : Int32, G Γ E Qf nL (pc + 2) (lv' x1) st S (K x1)) : G Γ E Qf nL pc lv (.int x :: st) S (lett x K) :=
  fun H locs ls hP hS h a S' hr => lv_istore C.hx C.hb hd h hn (hl x) (fun ls' h' => kk x H locs ls' hP hS h' a S' hr)
theorem g_lstore_n (C : Cx Γ E own cc nL d ret) {k : Fin 4} {i : Nat} {x : Int64} {K : Int64 → Option (α × St)} (hd : decode cc pc = .ok (.lstore_n k, 1)) (hi : (k : Nat) = i) (hn : i + 1 < nL) (lv' : Int64 → List (Nat × Value)) (hl : ∀ x : Int64, (i, Value.long x) :: lv.filter (fun q => !(q.1 == i) && (!(q.1 == i + 1) && !(q.1 + 1 == i && q.2.category == 2))) = lv' x) (kk : ∀ x1 : Int64, G Γ E Qf nL (pc + 1) (lv' x1) st S (K x1)) : G Γ E Qf nL pc lv (.long x :: st) S (lett x K) :=
  fun H locs ls hP hS h a S' hr => lv_lstore_n C.hx C.hb hd hi h hn (hl x) (fun ls' h' => kk x H locs ls' hP hS h' a S' hr)
theorem g_lstore (C : Cx Γ E own cc nL d ret) {i : Nat} {x : Int64} {K : Int64 → Option (α × St)} (hd : decode cc pc = .ok (.lstore i, 2)) (hn : i + 1 < nL) (lv' : Int64 → List (Nat × Value)) (hl : ∀ x : Int64, (i, Value.long x) :: lv.filter (fun q => !(q.1 == i) && (!(q.1 == i + 1) && !(q.1 + 1 == i && q.2.category == 2))) = lv' x) (kk : ∀ x1 : Int64, G Γ E Qf nL (pc + 2) (lv' x1) st S (K x1)) : G Γ E Qf nL pc lv (.long x :: st) S (lett x K) :=
  fun H locs ls hP hS h a S' hr => lv_lstore C.hx C.hb hd h hn (hl x) (fun ls' h' => kk x H locs ls' hP hS h' a S' hr)
theorem g_iinc (C : Cx Γ E own cc nL d ret) {i : Nat} {n : Int} {x v : Int32} {K : Int32 → Option (α × St)} (hd : decode cc pc = .ok (.iinc i n, 3)) (j : Nat) (hj : lv[j]? = some (i, .int x)) (hv : Int32.ofInt n = v) (hn : i < nL) (lv' : Int32 → List (Nat × Value)) (hl : ∀ x : Int32, (i, Value.int x) :: lv.filter (fun q => !(q.1 == i) && !(q.1 + 1 == i && q.2.category == 2)) = lv' x) (kk : ∀ x1 : Int32, G Γ E Qf nL (pc + 3) (lv' x1) st S (K x1)) : G Γ E Qf nL pc lv st S (lett (x + v) K) :=
  fun H locs ls hP hS h a S' hr => lv_iinc C.hx C.hb hd h hj (by rw [hv]) hn (hl (x + v)) (fun ls' h' => kk (x + v) H locs ls' hP hS h' a S' hr)
theorem g_iadd (C : Cx Γ E own cc nL d ret) {x y : Int32} (hd : decode cc pc = .ok (.iadd, 1)) (k : G Γ E Qf nL (pc + 1) lv (.int (x + y) :: st) S res) : G Γ E Qf nL pc lv (.int y :: .int x :: st) S res :=
  fun H locs ls hP hS h a S' hr => lv_iadd C.hx C.hb hd (k H locs ls hP hS h a S' hr)
theorem g_isub (C : Cx Γ E own cc nL d ret) {x y : Int32} (hd : decode cc pc = .ok (.isub, 1)) (k : G Γ E Qf nL (pc + 1) lv (.int (x - y) :: st) S res) : G Γ E Qf nL pc lv (.int y :: .int x :: st) S res :=
  fun H locs ls hP hS h a S' hr => lv_isub C.hx C.hb hd (k H locs ls hP hS h a S' hr)
theorem g_imul (C : Cx Γ E own cc nL d ret) {x y : Int32} (hd : decode cc pc = .ok (.imul, 1)) (k : G Γ E Qf nL (pc + 1) lv (.int (x * y) :: st) S res) : G Γ E Qf nL pc lv (.int y :: .int x :: st) S res :=
  fun H locs ls hP hS h a S' hr => lv_imul C.hx C.hb hd (k H locs ls hP hS h a S' hr)
theorem g_iand (C : Cx Γ E own cc nL d ret) {x y : Int32} (hd : decode cc pc = .ok (.iand, 1)) (k : G Γ E Qf nL (pc + 1) lv (.int (x &&& y) :: st) S res) : G Γ E Qf nL pc lv (.int y :: .int x :: st) S res :=
  fun H locs ls hP hS h a S' hr => lv_iand C.hx C.hb hd (k H locs ls hP hS h a S' hr)
theorem g_ior (C : Cx Γ E own cc nL d ret) {x y : Int32} (hd : decode cc pc = .ok (.ior, 1)) (k : G Γ E Qf nL (pc + 1) lv (.int (x ||| y) :: st) S res) : G Γ E Qf nL pc lv (.int y :: .int x :: st) S res :=
  fun H locs ls hP hS h a S' hr => lv_ior C.hx C.hb hd (k H locs ls hP hS h a S' hr)
theorem g_ixor (C : Cx Γ E own cc nL d ret) {x y : Int32} (hd : decode cc pc = .ok (.ixor, 1)) (k : G Γ E Qf nL (pc + 1) lv (.int (x ^^^ y) :: st) S res) : G Γ E Qf nL pc lv (.int y :: .int x :: st) S res :=
  fun H locs ls hP hS h a S' hr => lv_ixor C.hx C.hb hd (k H locs ls hP hS h a S' hr)
theorem g_ishl (C : Cx Γ E own cc nL d ret) {x y : Int32} (hd : decode cc pc = .ok (.ishl, 1)) (k : G Γ E Qf nL (pc + 1) lv (.int (x <<< (y &&& 31)) :: st) S res) : G Γ E Qf nL pc lv (.int y :: .int x :: st) S res :=
  fun H locs ls hP hS h a S' hr => lv_ishl C.hx C.hb hd (k H locs ls hP hS h a S' hr)
theorem g_ishr (C : Cx Γ E own cc nL d ret) {x y : Int32} (hd : decode cc pc = .ok (.ishr, 1)) (k : G Γ E Qf nL (pc + 1) lv (.int (x >>> (y &&& 31)) :: st) S res) : G Γ E Qf nL pc lv (.int y :: .int x :: st) S res :=
  fun H locs ls hP hS h a S' hr => lv_ishr C.hx C.hb hd (k H locs ls hP hS h a S' hr)
theorem g_ladd (C : Cx Γ E own cc nL d ret) {x y : Int64} (hd : decode cc pc = .ok (.ladd, 1)) (k : G Γ E Qf nL (pc + 1) lv (.long (x + y) :: st) S res) : G Γ E Qf nL pc lv (.long y :: .long x :: st) S res :=
  fun H locs ls hP hS h a S' hr => lv_ladd C.hx C.hb hd (k H locs ls hP hS h a S' hr)
theorem g_lsub (C : Cx Γ E own cc nL d ret) {x y : Int64} (hd : decode cc pc = .ok (.lsub, 1)) (k : G Γ E Qf nL (pc + 1) lv (.long (x - y) :: st) S res) : G Γ E Qf nL pc lv (.long y :: .long x :: st) S res :=
  fun H locs ls hP hS h a S' hr => lv_lsub C.hx C.hb hd (k H locs ls hP hS h a S' hr)
theorem g_lmul (C : Cx Γ E own cc nL d ret) {x y : Int64} (hd : decode cc pc = .ok (.lmul, 1)) (k : G Γ E Qf nL (pc + 1) lv (.long (x * y) :: st) S res) : G Γ E Qf nL pc lv (.long y :: .long x :: st) S res :=
  fun H locs ls hP hS h a S' hr => lv_lmul C.hx C.hb hd (k H locs ls hP hS h a S' hr)
theorem g_land (C : Cx Γ E own cc nL d ret) {x y : Int64} (hd : decode cc pc = .ok (.land, 1)) (k : G Γ E Qf nL (pc + 1) lv (.long (x &&& y) :: st) S res) : G Γ E Qf nL pc lv (.long y :: .long x :: st) S res :=
  fun H locs ls hP hS h a S' hr => lv_land C.hx C.hb hd (k H locs ls hP hS h a S' hr)
theorem g_lor (C : Cx Γ E own cc nL d ret) {x y : Int64} (hd : decode cc pc = .ok (.lor, 1)) (k : G Γ E Qf nL (pc + 1) lv (.long (x ||| y) :: st) S res) : G Γ E Qf nL pc lv (.long y :: .long x :: st) S res :=
  fun H locs ls hP hS h a S' hr => lv_lor C.hx C.hb hd (k H locs ls hP hS h a S' hr)
theorem g_idiv (C : Cx Γ E own cc nL d ret) {x y : Int32} (hd : decode cc pc = .ok (.idiv, 1)) (k : G Γ E Qf nL (pc + 1) lv (.int (x / y) :: st) S res) : G Γ E Qf nL pc lv (.int y :: .int x :: st) S (grd (nz y) res) :=
  g_grd fun hz H locs ls hP hS h a S' hr => lv_idiv C.hx C.hb hd (nz_ne hz) (k H locs ls hP hS h a S' hr)
theorem g_irem (C : Cx Γ E own cc nL d ret) {x y : Int32} (hd : decode cc pc = .ok (.irem, 1)) (k : G Γ E Qf nL (pc + 1) lv (.int (x - x / y * y) :: st) S res) : G Γ E Qf nL pc lv (.int y :: .int x :: st) S (grd (nz y) res) :=
  g_grd fun hz H locs ls hP hS h a S' hr => lv_irem C.hx C.hb hd (nz_ne hz) (k H locs ls hP hS h a S' hr)
theorem g_ldiv (C : Cx Γ E own cc nL d ret) {x y : Int64} (hd : decode cc pc = .ok (.ldiv, 1)) (k : G Γ E Qf nL (pc + 1) lv (.long (x / y) :: st) S res) : G Γ E Qf nL pc lv (.long y :: .long x :: st) S (grd (nzL y) res) :=
  g_grd fun hz H locs ls hP hS h a S' hr => lv_ldiv C.hx C.hb hd (nzL_ne hz) (k H locs ls hP hS h a S' hr)
theorem g_lrem (C : Cx Γ E own cc nL d ret) {x y : Int64} (hd : decode cc pc = .ok (.lrem, 1)) (k : G Γ E Qf nL (pc + 1) lv (.long (x - x / y * y) :: st) S res) : G Γ E Qf nL pc lv (.long y :: .long x :: st) S (grd (nzL y) res) :=
  g_grd fun hz H locs ls hP hS h a S' hr => lv_lrem C.hx C.hb hd (nzL_ne hz) (k H locs ls hP hS h a S' hr)
theorem g_i2l (C : Cx Γ E own cc nL d ret) {x : Int32} (hd : decode cc pc = .ok (.i2l, 1)) (k : G Γ E Qf nL (pc + 1) lv (.long (x.toInt64) :: st) S res) : G Γ E Qf nL pc lv (.int x :: st) S res :=
  fun H locs ls hP hS h a S' hr => lv_i2l C.hx C.hb hd rfl (k H locs ls hP hS h a S' hr)
theorem g_l2i (C : Cx Γ E own cc nL d ret) {x : Int64} (hd : decode cc pc = .ok (.l2i, 1)) (k : G Γ E Qf nL (pc + 1) lv (.int (x.toInt32) :: st) S res) : G Γ E Qf nL pc lv (.long x :: st) S res :=
  fun H locs ls hP hS h a S' hr => lv_l2i C.hx C.hb hd rfl (k H locs ls hP hS h a S' hr)
theorem g_i2c (C : Cx Γ E own cc nL d ret) {x : Int32} (hd : decode cc pc = .ok (.i2c, 1)) (k : G Γ E Qf nL (pc + 1) lv (.int ((x.toUInt32 % 65536).toInt32) :: st) S res) : G Γ E Qf nL pc lv (.int x :: st) S res :=
  fun H locs ls hP hS h a S' hr => lv_i2c C.hx C.hb hd rfl (k H locs ls hP hS h a S' hr)
theorem g_i2b (C : Cx Γ E own cc nL d ret) {x : Int32} (hd : decode cc pc = .ok (.i2b, 1)) (k : G Γ E Qf nL (pc + 1) lv (.int (x.toInt8.toInt32) :: st) S res) : G Γ E Qf nL pc lv (.int x :: st) S res :=
  fun H locs ls hP hS h a S' hr => lv_i2b C.hx C.hb hd rfl (k H locs ls hP hS h a S' hr)
theorem g_iushr (C : Cx Γ E own cc nL d ret) {x y : Int32} (hd : decode cc pc = .ok (.iushr, 1)) (k : G Γ E Qf nL (pc + 1) lv (.int ((x.toUInt32 >>> (y.toUInt32 &&& Int32.toUInt32 31)).toInt32) :: st) S res) : G Γ E Qf nL pc lv (.int y :: .int x :: st) S res :=
  fun H locs ls hP hS h a S' hr => lv_iushr C.hx C.hb hd rfl (k H locs ls hP hS h a S' hr)
theorem g_lushr (C : Cx Γ E own cc nL d ret) {x : Int64} {y : Int32} (hd : decode cc pc = .ok (.lushr, 1)) (k : G Γ E Qf nL (pc + 1) lv (.long ((x.toUInt64 >>> (y.toInt64.toUInt64 &&& Int64.toUInt64 63)).toInt64) :: st) S res) : G Γ E Qf nL pc lv (.int y :: .long x :: st) S res :=
  fun H locs ls hP hS h a S' hr => lv_lushr C.hx C.hb hd rfl (k H locs ls hP hS h a S' hr)
theorem g_lshl (C : Cx Γ E own cc nL d ret) {x : Int64} {y : Int32} (hd : decode cc pc = .ok (.lshl, 1)) (k : G Γ E Qf nL (pc + 1) lv (.long (x <<< (y.toInt64 &&& 63)) :: st) S res) : G Γ E Qf nL pc lv (.int y :: .long x :: st) S res :=
  fun H locs ls hP hS h a S' hr => lv_lshl C.hx C.hb hd rfl (k H locs ls hP hS h a S' hr)
theorem g_lcmp (C : Cx Γ E own cc nL d ret) {x y : Int64} (hd : decode cc pc = .ok (.lcmp, 1)) (k : G Γ E Qf nL (pc + 1) lv (.int (lg_cmp x y) :: st) S res) : G Γ E Qf nL pc lv (.long y :: .long x :: st) S res :=
  fun H locs ls hP hS h a S' hr => W.lcmp C.hx C.hb hd (k H locs ls hP hS h a S' hr)
theorem g_dup (C : Cx Γ E own cc nL d ret) {va : Value} (hd : decode cc pc = .ok (.dup, 1)) (hc : va.category = 1) (k : G Γ E Qf nL (pc + 1) lv (va :: va :: st) S res) : G Γ E Qf nL pc lv (va :: st) S res :=
  fun H locs ls hP hS h a S' hr => lv_dup C.hx C.hb hd hc (k H locs ls hP hS h a S' hr)
theorem g_dup2 (C : Cx Γ E own cc nL d ret) {va vb : Value} (hd : decode cc pc = .ok (.dup2, 1)) (hc : va.category = 1) (hc2 : vb.category = 1) (k : G Γ E Qf nL (pc + 1) lv (va :: vb :: va :: vb :: st) S res) : G Γ E Qf nL pc lv (va :: vb :: st) S res :=
  fun H locs ls hP hS h a S' hr => lv_dup2_11 C.hx C.hb hd hc hc2 (k H locs ls hP hS h a S' hr)
theorem g_pop (C : Cx Γ E own cc nL d ret) {va : Value} (hd : decode cc pc = .ok (.pop, 1)) (hc : va.category = 1) (k : G Γ E Qf nL (pc + 1) lv st S res) : G Γ E Qf nL pc lv (va :: st) S res :=
  fun H locs ls hP hS h a S' hr => lv_pop C.hx C.hb hd hc (k H locs ls hP hS h a S' hr)
theorem g_goto (C : Cx Γ E own cc nL d ret) {off : Int} (tgt : Nat) (hd : decode cc pc = .ok (.goto off, 3)) (ht : (pc : Int) + off = (tgt : Int)) (k : G Γ E Qf nL tgt lv st S res) : G Γ E Qf nL pc lv st S res :=
  fun H locs ls hP hS h a S' hr => lv_goto C.hx C.hb hd ht (k H locs ls hP hS h a S' hr)
theorem g_icmp_eq (C : Cx Γ E own cc nL d ret) {x y : Int32} {off : Int} (tgt : Nat) {A B : Option (α × St)} (hd : decode cc pc = .ok (.if_icmp .eq off, 3)) (ht : (pc : Int) + off = (tgt : Int)) (kA : G Γ E Qf nL (tgt) lv st S A) (kB : G Γ E Qf nL (pc + 3) lv st S B) : G Γ E Qf nL pc lv (.int y :: .int x :: st) S (if x = y then A else B) :=
  fun H locs ls hP hS h a S' hr => lv_icmp_eq C.hx C.hb hd ht (fun hc => kA H locs ls hP hS h a S' (by rw [if_pos hc] at hr; exact hr)) (fun hc => kB H locs ls hP hS h a S' (by rw [if_neg hc] at hr; exact hr))
theorem g_if_eq (C : Cx Γ E own cc nL d ret) {x : Int32} {off : Int} (tgt : Nat) {A B : Option (α × St)} (hd : decode cc pc = .ok (.ifCond .eq off, 3)) (ht : (pc : Int) + off = (tgt : Int)) (kA : G Γ E Qf nL (tgt) lv st S A) (kB : G Γ E Qf nL (pc + 3) lv st S B) : G Γ E Qf nL pc lv (.int x :: st) S (if x = 0 then A else B) :=
  fun H locs ls hP hS h a S' hr => lv_if_eq C.hx C.hb hd ht (fun hc => kA H locs ls hP hS h a S' (by rw [if_pos hc] at hr; exact hr)) (fun hc => kB H locs ls hP hS h a S' (by rw [if_neg hc] at hr; exact hr))
theorem g_icmp_ne (C : Cx Γ E own cc nL d ret) {x y : Int32} {off : Int} (tgt : Nat) {A B : Option (α × St)} (hd : decode cc pc = .ok (.if_icmp .ne off, 3)) (ht : (pc : Int) + off = (tgt : Int)) (kA : G Γ E Qf nL (pc + 3) lv st S A) (kB : G Γ E Qf nL (tgt) lv st S B) : G Γ E Qf nL pc lv (.int y :: .int x :: st) S (if x = y then A else B) :=
  fun H locs ls hP hS h a S' hr => lv_icmp_ne C.hx C.hb hd ht (fun hc => kB H locs ls hP hS h a S' (by rw [if_neg hc] at hr; exact hr)) (fun hc => kA H locs ls hP hS h a S' (by rw [if_pos hc] at hr; exact hr))
theorem g_if_ne (C : Cx Γ E own cc nL d ret) {x : Int32} {off : Int} (tgt : Nat) {A B : Option (α × St)} (hd : decode cc pc = .ok (.ifCond .ne off, 3)) (ht : (pc : Int) + off = (tgt : Int)) (kA : G Γ E Qf nL (pc + 3) lv st S A) (kB : G Γ E Qf nL (tgt) lv st S B) : G Γ E Qf nL pc lv (.int x :: st) S (if x = 0 then A else B) :=
  fun H locs ls hP hS h a S' hr => lv_if_ne C.hx C.hb hd ht (fun hc => kB H locs ls hP hS h a S' (by rw [if_neg hc] at hr; exact hr)) (fun hc => kA H locs ls hP hS h a S' (by rw [if_pos hc] at hr; exact hr))
theorem g_icmp_lt (C : Cx Γ E own cc nL d ret) {x y : Int32} {off : Int} (tgt : Nat) {A B : Option (α × St)} (hd : decode cc pc = .ok (.if_icmp .lt off, 3)) (ht : (pc : Int) + off = (tgt : Int)) (kA : G Γ E Qf nL (tgt) lv st S A) (kB : G Γ E Qf nL (pc + 3) lv st S B) : G Γ E Qf nL pc lv (.int y :: .int x :: st) S (if x < y then A else B) :=
  fun H locs ls hP hS h a S' hr => lv_icmp_lt C.hx C.hb hd ht (fun hc => kA H locs ls hP hS h a S' (by rw [if_pos hc] at hr; exact hr)) (fun hc => kB H locs ls hP hS h a S' (by rw [if_neg hc] at hr; exact hr))
theorem g_if_lt (C : Cx Γ E own cc nL d ret) {x : Int32} {off : Int} (tgt : Nat) {A B : Option (α × St)} (hd : decode cc pc = .ok (.ifCond .lt off, 3)) (ht : (pc : Int) + off = (tgt : Int)) (kA : G Γ E Qf nL (tgt) lv st S A) (kB : G Γ E Qf nL (pc + 3) lv st S B) : G Γ E Qf nL pc lv (.int x :: st) S (if x < 0 then A else B) :=
  fun H locs ls hP hS h a S' hr => lv_if_lt C.hx C.hb hd ht (fun hc => kA H locs ls hP hS h a S' (by rw [if_pos hc] at hr; exact hr)) (fun hc => kB H locs ls hP hS h a S' (by rw [if_neg hc] at hr; exact hr))
theorem g_icmp_ge (C : Cx Γ E own cc nL d ret) {x y : Int32} {off : Int} (tgt : Nat) {A B : Option (α × St)} (hd : decode cc pc = .ok (.if_icmp .ge off, 3)) (ht : (pc : Int) + off = (tgt : Int)) (kA : G Γ E Qf nL (tgt) lv st S A) (kB : G Γ E Qf nL (pc + 3) lv st S B) : G Γ E Qf nL pc lv (.int y :: .int x :: st) S (if y ≤ x then A else B) :=
  fun H locs ls hP hS h a S' hr => lv_icmp_ge C.hx C.hb hd ht (fun hc => kA H locs ls hP hS h a S' (by rw [if_pos hc] at hr; exact hr)) (fun hc => kB H locs ls hP hS h a S' (by rw [if_neg hc] at hr; exact hr))
theorem g_if_ge (C : Cx Γ E own cc nL d ret) {x : Int32} {off : Int} (tgt : Nat) {A B : Option (α × St)} (hd : decode cc pc = .ok (.ifCond .ge off, 3)) (ht : (pc : Int) + off = (tgt : Int)) (kA : G Γ E Qf nL (tgt) lv st S A) (kB : G Γ E Qf nL (pc + 3) lv st S B) : G Γ E Qf nL pc lv (.int x :: st) S (if 0 ≤ x then A else B) :=
  fun H locs ls hP hS h a S' hr => lv_if_ge C.hx C.hb hd ht (fun hc => kA H locs ls hP hS h a S' (by rw [if_pos hc] at hr; exact hr)) (fun hc => kB H locs ls hP hS h a S' (by rw [if_neg hc] at hr; exact hr))
theorem g_icmp_gt (C : Cx Γ E own cc nL d ret) {x y : Int32} {off : Int} (tgt : Nat) {A B : Option (α × St)} (hd : decode cc pc = .ok (.if_icmp .gt off, 3)) (ht : (pc : Int) + off = (tgt : Int)) (kA : G Γ E Qf nL (tgt) lv st S A) (kB : G Γ E Qf nL (pc + 3) lv st S B) : G Γ E Qf nL pc lv (.int y :: .int x :: st) S (if y < x then A else B) :=
  fun H locs ls hP hS h a S' hr => lv_icmp_gt C.hx C.hb hd ht (fun hc => kA H locs ls hP hS h a S' (by rw [if_pos hc] at hr; exact hr)) (fun hc => kB H locs ls hP hS h a S' (by rw [if_neg hc] at hr; exact hr))
theorem g_if_gt (C : Cx Γ E own cc nL d ret) {x : Int32} {off : Int} (tgt : Nat) {A B : Option (α × St)} (hd : decode cc pc = .ok (.ifCond .gt off, 3)) (ht : (pc : Int) + off = (tgt : Int)) (kA : G Γ E Qf nL (tgt) lv st S A) (kB : G Γ E Qf nL (pc + 3) lv st S B) : G Γ E Qf nL pc lv (.int x :: st) S (if 0 < x then A else B) :=
  fun H locs ls hP hS h a S' hr => lv_if_gt C.hx C.hb hd ht (fun hc => kA H locs ls hP hS h a S' (by rw [if_pos hc] at hr; exact hr)) (fun hc => kB H locs ls hP hS h a S' (by rw [if_neg hc] at hr; exact hr))
theorem g_icmp_le (C : Cx Γ E own cc nL d ret) {x y : Int32} {off : Int} (tgt : Nat) {A B : Option (α × St)} (hd : decode cc pc = .ok (.if_icmp .le off, 3)) (ht : (pc : Int) + off = (tgt : Int)) (kA : G Γ E Qf nL (tgt) lv st S A) (kB : G Γ E Qf nL (pc + 3) lv st S B) : G Γ E Qf nL pc lv (.int y :: .int x :: st) S (if x ≤ y then A else B) :=
  fun H locs ls hP hS h a S' hr => lv_icmp_le C.hx C.hb hd ht (fun hc => kA H locs ls hP hS h a S' (by rw [if_pos hc] at hr; exact hr)) (fun hc => kB H locs ls hP hS h a S' (by rw [if_neg hc] at hr; exact hr))
theorem g_if_le (C : Cx Γ E own cc nL d ret) {x : Int32} {off : Int} (tgt : Nat) {A B : Option (α × St)} (hd : decode cc pc = .ok (.ifCond .le off, 3)) (ht : (pc : Int) + off = (tgt : Int)) (kA : G Γ E Qf nL (tgt) lv st S A) (kB : G Γ E Qf nL (pc + 3) lv st S B) : G Γ E Qf nL pc lv (.int x :: st) S (if x ≤ 0 then A else B) :=
  fun H locs ls hP hS h a S' hr => lv_if_le C.hx C.hb hd ht (fun hc => kA H locs ls hP hS h a S' (by rw [if_pos hc] at hr; exact hr)) (fun hc => kB H locs ls hP hS h a S' (by rw [if_neg hc] at hr; exact hr))
theorem g_getI (C : Cx Γ E own cc nL d ret) {index ci k c : Nat} (hk : LK own index ci k) (hf : FI c ci k) (hd : decode cc pc = .ok (.getfield index, 3)) (kk : G Γ E Qf nL (pc + 3) lv (.int (S c k) :: st) S res) : G Γ E Qf nL pc lv (.ref (gX Γ c) :: st) S res := by
  intro H locs ls hP hS h a S' hr
  obtain ⟨Cn, T, N, h1, h2, h3, h4⟩ := hk
  obtain ⟨hc, hf⟩ := hf
  obtain ⟨fs, f1, f2, -, -⟩ := hf Γ (S c)
  have he := ws_get Γ S hc
  rw [f1] at he
  rcases h4 with h4 | ⟨host, h4⟩
  · exact va_get C.hx C.hb C.hts h3 C.hown C.hK hP c he h1 k h2 (C.hts _ h4) (fun _ h9 => h9) f2 hd (kk H locs ls hP hS h a S' hr)
  · exact va_getN C.hx C.hb C.hts h3 C.hown C.hK hP c he h1 k h2 (va_Nw.use rfl (C.hnt _ h4 rfl)) (fun _ h9 => h9) f2 hd (kk H locs ls hP hS h a S' hr)
theorem g_getL (C : Cx Γ E own cc nL d ret) {index ci k c : Nat} (hk : LK own index ci k) (hf : FL c ci k) (hd : decode cc pc = .ok (.getfield index, 3)) (kk : G Γ E Qf nL (pc + 3) lv (.long (getL (S c)) :: st) S res) : G Γ E Qf nL pc lv (.ref (gX Γ c) :: st) S res := by
  intro H locs ls hP hS h a S' hr
  obtain ⟨Cn, T, N, h1, h2, h3, h4⟩ := hk
  obtain ⟨hc, hf⟩ := hf
  obtain ⟨fs, f1, f2, -, -⟩ := hf Γ (S c)
  have he := ws_get Γ S hc
  rw [f1] at he
  rcases h4 with h4 | ⟨host, h4⟩
  · exact va_get C.hx C.hb C.hts h3 C.hown C.hK hP c he h1 k h2 (C.hts _ h4) (fun _ h9 => h9) f2 hd (kk H locs ls hP hS h a S' hr)
  · exact va_getN C.hx C.hb C.hts h3 C.hown C.hK hP c he h1 k h2 (va_Nw.use rfl (C.hnt _ h4 rfl)) (fun _ h9 => h9) f2 hd (kk H locs ls hP hS h a S' hr)
theorem g_getR (C : Cx Γ E own cc nL d ret) {index ci k c r : Nat} (hk : LK own index ci k) (hf : FR c ci k r) (hd : decode cc pc = .ok (.getfield index, 3)) (kk : G Γ E Qf nL (pc + 3) lv (.ref (gX Γ r) :: st) S res) : G Γ E Qf nL pc lv (.ref (gX Γ c) :: st) S res := by
  intro H locs ls hP hS h a S' hr
  obtain ⟨Cn, T, N, h1, h2, h3, h4⟩ := hk
  obtain ⟨hc, hf⟩ := hf
  obtain ⟨fs, f1, f2⟩ := hf Γ (S c)
  have he := ws_get Γ S hc
  rw [f1] at he
  rcases h4 with h4 | ⟨host, h4⟩
  · exact va_get C.hx C.hb C.hts h3 C.hown C.hK hP c he h1 k h2 (C.hts _ h4) (fun _ h9 => h9) f2 hd (kk H locs ls hP hS h a S' hr)
  · exact va_getN C.hx C.hb C.hts h3 C.hown C.hK hP c he h1 k h2 (va_Nw.use rfl (C.hnt _ h4 rfl)) (fun _ h9 => h9) f2 hd (kk H locs ls hP hS h a S' hr)
theorem g_putI (C : Cx Γ E own cc nL d ret) {index ci k c : Nat} {v : Int32} {K : St → Option (α × St)} (hk : LPu own index ci k .int) (hf : FI c ci k) (hd : decode cc pc = .ok (.putfield index, 3)) (kk : ∀ S1 : St, G Γ E Qf nL (pc + 3) lv st S1 (K S1)) : G Γ E Qf nL pc lv (.int v :: .ref (gX Γ c) :: st) S (lett (su S c k v) K) := by
  intro H locs ls hP hS h a S' hr
  obtain ⟨Cn, T, N, ty0, h1, h2, h3, t1, t2, t3, t4, h4⟩ := hk
  obtain ⟨hc, hf⟩ := hf
  obtain ⟨fs, f1, f2, f3, f4⟩ := hf Γ (S c)
  have he := ws_get Γ S hc
  rw [f1] at he
  have hset : (wsOf Γ S).set c (gX Γ c, .inr (ci, fs.set k (.int v))) = wsOf Γ (su S c k v) := by
    rw [← f4 v, ws_set Γ S hc]; rfl
  rcases h4 with h4 | ⟨host, h4⟩
  · exact va_put C.hx C.hb C.hts h3 ty0 t1 t2 C.hown C.hK hP (C.hD S) hS c he h1 k h2 (C.hts _ h4) (fun _ h9 => h9) t3 t4 rfl rfl f3 hd (fun H1 locs1 hP1 _ hS1 => kk _ H1 locs1 ls (hset ▸ hP1) hS1 h a S' hr)
  · exact va_putN C.hx C.hb C.hts h3 ty0 t1 t2 C.hown C.hK hP (C.hD S) hS c he h1 k h2 (va_Nw.use rfl (C.hnt _ h4 rfl)) (fun _ h9 => h9) t3 t4 rfl rfl f3 hd (fun H1 locs1 hP1 _ hS1 => kk _ H1 locs1 ls (hset ▸ hP1) hS1 h a S' hr)
theorem g_putL (C : Cx Γ E own cc nL d ret) {index ci k c : Nat} {v : Int64} {K : St → Option (α × St)} (hk : LPu own index ci k .long) (hf : FL c ci k) (hd : decode cc pc = .ok (.putfield index, 3)) (kk : ∀ S1 : St, G Γ E Qf nL (pc + 3) lv st S1 (K S1)) : G Γ E Qf nL pc lv (.long v :: .ref (gX Γ c) :: st) S (lett (sr S c (setL (S c) v)) K) := by
  intro H locs ls hP hS h a S' hr
  obtain ⟨Cn, T, N, ty0, h1, h2, h3, t1, t2, t3, t4, h4⟩ := hk
  obtain ⟨hc, hf⟩ := hf
  obtain ⟨fs, f1, f2, f3, f4⟩ := hf Γ (S c)
  have he := ws_get Γ S hc
  rw [f1] at he
  have hset : (wsOf Γ S).set c (gX Γ c, .inr (ci, fs.set k (.long v))) = wsOf Γ (sr S c (setL (S c) v)) := by
    rw [← f4 v, ws_set Γ S hc]
  rcases h4 with h4 | ⟨host, h4⟩
  · exact va_put C.hx C.hb C.hts h3 ty0 t1 t2 C.hown C.hK hP (C.hD S) hS c he h1 k h2 (C.hts _ h4) (fun _ h9 => h9) t3 t4 rfl rfl f3 hd (fun H1 locs1 hP1 _ hS1 => kk _ H1 locs1 ls (hset ▸ hP1) hS1 h a S' hr)
  · exact va_putN C.hx C.hb C.hts h3 ty0 t1 t2 C.hown C.hK hP (C.hD S) hS c he h1 k h2 (va_Nw.use rfl (C.hnt _ h4 rfl)) (fun _ h9 => h9) t3 t4 rfl rfl f3 hd (fun H1 locs1 hP1 _ hS1 => kk _ H1 locs1 ls (hset ▸ hP1) hS1 h a S' hr)
theorem g_iald (C : Cx Γ E own cc nL d ret) {c n : Nat} {i : Int32} (hf : AI c n) (hd : decode cc pc = .ok (.iaload, 1)) (kk : G Γ E Qf nL (pc + 1) lv (.int (S c i.toNatClampNeg) :: st) S res) : G Γ E Qf nL pc lv (.int i :: .ref (gX Γ c) :: st) S (grd (inb i n) res) := by
  refine g_grd fun hi => ?_
  intro H locs ls hP hS h a S' hr
  have he := ws_get Γ S hf.1
  rw [hf.2.2 Γ (S c)] at he
  exact va_iald C.hx C.hb C.hK hP c 0 he rfl (inb_in hi) hd (kk H locs ls hP hS h a S' hr)
theorem g_iast (C : Cx Γ E own cc nL d ret) {c n : Nat} {i x : Int32} {K : St → Option (α × St)} (hf : AI c n) (hd : decode cc pc = .ok (.iastore, 1)) (kk : ∀ S1 : St, G Γ E Qf nL (pc + 1) lv st S1 (K S1)) : G Γ E Qf nL pc lv (.int x :: .int i :: .ref (gX Γ c) :: st) S (grd (inb i n) (lett (su S c i.toNatClampNeg x) K)) := by
  refine g_grd fun hi => ?_
  intro H locs ls hP hS h a S' hr
  have he := ws_get Γ S hf.1
  rw [hf.2.2 Γ (S c)] at he
  have hset : (wsOf Γ S).set c (gX Γ c, .inl (gI Γ, n, .inl (upd (S c) i.toNatClampNeg x))) = wsOf Γ (su S c i.toNatClampNeg x) := by
    rw [← hf.2.2 Γ (upd (S c) i.toNatClampNeg x), ws_set Γ S hf.1]; rfl
  exact va_iast C.hx C.hb C.hK hP (C.hD S) hS c 0 he rfl (inb_in hi) hd (fun H1 locs1 hP1 _ hS1 => kk _ H1 locs1 ls (hset ▸ hP1) hS1 h a S' hr)
theorem g_alen (C : Cx Γ E own cc nL d ret) {c n : Nat} (hf : AI c n) (hd : decode cc pc = .ok (.arraylength, 1)) (kk : G Γ E Qf nL (pc + 1) lv (.int (nI n) :: st) S res) : G Γ E Qf nL pc lv (.ref (gX Γ c) :: st) S res := by
  intro H locs ls hP hS h a S' hr
  have he := ws_get Γ S hf.1
  rw [hf.2.2 Γ (S c)] at he
  exact va_alen C.hx C.hb C.hK hP c 0 he rfl rfl hd (kk H locs ls hP hS h a S' hr)
theorem g_aald (C : Cx Γ E own cc nL d ret) {c n : Nat} {gf : Nat → Nat} {i : Int32} (hf : AQ c n gf) (hd : decode cc pc = .ok (.aaload, 1)) (kk : i.toNatClampNeg < n → G Γ E Qf nL (pc + 1) lv (.ref (gX Γ (gf i.toNatClampNeg)) :: st) S res) : G Γ E Qf nL pc lv (.int i :: .ref (gX Γ c) :: st) S (grd (inb i n) res) := by
  refine g_grd fun hi => ?_
  intro H locs ls hP hS h a S' hr
  have he := ws_get Γ S hf.1
  rw [hf.2 Γ (S c)] at he
  exact va_aldq C.hx C.hb C.hK hP c 1 he rfl (inb_in hi) hd (kk (inb_lt hi) H locs ls hP hS h a S' hr)
/-- System.arraycopy of ints -/
theorem g_copy (C : Cx Γ E own cc nL (d + 1) ret) {c0 n0 c1 n1 index : Nat} {sp dp n : Int32} {K : St → Option (α × St)} (h0 : AI c0 n0) (h1 : AI c1 n1) (hw : Cond.methodLink own index arraycopyName ∈ WT) (hw1 : Cond.native arraycopyName ∈ WT) (hw2 : Cond.static arraycopyName ∈ WT) (hw3 : Cond.initialized "java/lang/System" ∈ WT)
    (q1 : ¬ sp < 0) (q2 : ¬ dp < 0) (q3 : ¬ n < 0) (q4 : sp.toNatClampNeg + n.toNatClampNeg ≤ n0) (q5 : dp.toNatClampNeg + n.toNatClampNeg ≤ n1) (hr0 : (st.map fun v => v.category).sum ≤ 8) (hd : decode cc pc = .ok (.invokestatic index, 3)) (kk : ∀ S1 : St, G Γ E Qf nL (pc + 3) lv st S1 (K S1)) :
    G Γ E Qf nL pc lv (.int n :: .int dp :: .ref (gX Γ c1) :: .int sp :: .ref (gX Γ c0) :: st) S (lett (sr S c1 (va_cpy (S c0) (S c1) sp.toNatClampNeg dp.toNatClampNeg n.toNatClampNeg)) K) := by
  intro H locs ls hP hS h a S' hr
  have he0 := ws_get Γ S h0.1
  rw [h0.2.2 Γ (S c0)] at he0
  have he1 := ws_get Γ S h1.1
  rw [h1.2.2 Γ (S c1)] at he1
  have hset : (wsOf Γ S).set c1 (gX Γ c1, .inl (gI Γ, n1, .inl (va_cpy (S c0) (S c1) sp.toNatClampNeg dp.toNatClampNeg n.toNatClampNeg))) = wsOf Γ (sr S c1 (va_cpy (S c0) (S c1) sp.toNatClampNeg dp.toNatClampNeg n.toNatClampNeg)) := by
    rw [← h1.2.2 Γ, ws_set Γ S h1.1]
  have hlo := C.hlo
  have hfr := C.hfr
  refine va_copyi C.hx C.hb (C.hml.trans h.1.symm) C.hown (C.hts _ hw) (C.hts _ hw1) (C.hts _ hw2) (C.hts _ hw3) C.hK hP (C.hD S) hS c0 c1 0 0 (ty := .int) he0 he1 rfl rfl rfl q1 q2 q3 q4 q5 (fun _ _ => rfl) (by omega) ?_ hd (fun H1 locs1 hP1 _ hS1 => kk _ H1 locs1 ls (hset ▸ hP1) hS1 h a S' hr)
  have : nativeFrameWords "java/lang/System" "arraycopy" 5 + 11 ≤ 30 := by decide +kernel
  omega
theorem g_mmin (C : Cx Γ E own cc nL (d + 1) ret) {index : Nat} {x y : Int32} (hw : Cond.methodLink own index Lib.Math.min.name ∈ WT) (hw1 : Cond.static Lib.Math.min.name ∈ WT) (hw2 : Cond.initialized "java/lang/Math" ∈ WT) (hw3 : Cond.code Lib.Math.min.name Lib.Math.min.code 2 (some .int) ∈ WT) (hr0 : (st.map fun v => v.category).sum ≤ 8) (hd : decode cc pc = .ok (.invokestatic index, 3))
    (kk : G Γ E Qf nL (pc + 3) lv (.int (if y < x then y else x) :: st) S res) : G Γ E Qf nL pc lv (.int y :: .int x :: st) S res := by
  intro H locs ls hP hS h a S' hr
  have hlo := C.hlo
  have hfr := C.hfr
  exact va_mmin C.hx C.hb (C.hml.trans h.1.symm) C.hown (C.hts _ hw) (C.hts _ hw1) (C.hts _ hw2) (C.hts _ hw3) (by omega) (by omega) C.hce C.hsl hd (kk H locs ls hP hS h a S' hr)
theorem g_mmax (C : Cx Γ E own cc nL (d + 1) ret) {index : Nat} {x y : Int32} (hw : Cond.methodLink own index Lib.Math.max.name ∈ WT) (hw1 : Cond.static Lib.Math.max.name ∈ WT) (hw2 : Cond.initialized "java/lang/Math" ∈ WT) (hw3 : Cond.code Lib.Math.max.name Lib.Math.max.code 2 (some .int) ∈ WT) (hr0 : (st.map fun v => v.category).sum ≤ 8) (hd : decode cc pc = .ok (.invokestatic index, 3))
    (kk : G Γ E Qf nL (pc + 3) lv (.int (if x < y then y else x) :: st) S res) : G Γ E Qf nL pc lv (.int y :: .int x :: st) S res := by
  intro H locs ls hP hS h a S' hr
  have hlo := C.hlo
  have hfr := C.hfr
  exact va_mmax C.hx C.hb (C.hml.trans h.1.symm) C.hown (C.hts _ hw) (C.hts _ hw1) (C.hts _ hw2) (C.hts _ hw3) (by omega) (by omega) C.hce C.hsl hd (kk H locs ls hP hS h a S' hr)
theorem g_mabs (C : Cx Γ E own cc nL (d + 1) ret) {index : Nat} {x : Int32} (hw : Cond.methodLink own index Lib.Math.abs.name ∈ WT) (hw1 : Cond.static Lib.Math.abs.name ∈ WT) (hw2 : Cond.initialized "java/lang/Math" ∈ WT) (hw3 : Cond.code Lib.Math.abs.name Lib.Math.abs.code 1 (some .int) ∈ WT) (hr0 : (st.map fun v => v.category).sum ≤ 8) (hd : decode cc pc = .ok (.invokestatic index, 3))
    (kk : G Γ E Qf nL (pc + 3) lv (.int (if 0 ≤ x then x else 0 - x) :: st) S res) : G Γ E Qf nL pc lv (.int x :: st) S res := by
  intro H locs ls hP hS h a S' hr
  have hlo := C.hlo
  have hfr := C.hfr
  exact va_mabs C.hx C.hb (C.hml.trans h.1.symm) C.hown (C.hts _ hw) (C.hts _ hw1) (C.hts _ hw2) (C.hts _ hw3) (by omega) (by omega) C.hce C.hsl hd (kk H locs ls hP hS h a S' hr)
end GR
