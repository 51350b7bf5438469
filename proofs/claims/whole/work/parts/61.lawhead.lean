/-! THE CLAIM OUT OF ONE WALK OF THE LAW'S BODY. Your part is whole_start (and what it stands on); all else here is the same for every law, but numbers. -/
def R_law : String := "CartsDownHillLaw"
def lw_P (b : Addr) (xs : List Int32) (args : Array Value) (s : State) : Prop := args = #[.ref b] ∧ s.IntsAt b xs ∧ xs.length ≤ 4608 ∧ (Jvm.Cond.and given_1 narrow_1).before args s = true
def lw_Q (_ : Array Value) (s : State) (o : Outcome) (t : State) : Prop := o = .returned (some (.int 1)) ∧ Framed s o t [] 600000 7302250
def lw_Z (below : List Frame) (a : Array Value) (s : State) : State → Prop := fun t => ∃ o, t.status = .running ∧ Ended t below o ∧ lw_Q a s o t
/-- the law's own end, with 1 on the stack, nothing written that was there before, its room as the claim has it -/
theorem lw_ret {p : Program} {l : Launch} {e : Env} {s : State} {m : MethodId} {below : List Frame} {meth : Method} {c : Code} {b : Nat} (hx : p.tables.exec = Jvm.exec) (hb : c.code = code) (hr : meth.sig.returnType = ret) (hlocks : meth.locks = false) {pc : Nat} {H : Heap} {ls : Array Slot} (hdg : decode code pc = .ok (.ireturn, 1)) : W p l e room_1 s m #[Value.ref b] below meth c H [] 600000 7302250 (lw_Z below #[Value.ref b] s) (F0 m pc ls [.int 1]) := by
  intro T hT X
  obtain ⟨fs, hret, hrun, hended, hW, hframe⟩ := X.leave (v := some (.int 1)) (hlocks := hlocks) (fun h => by rw [hr] at h; cases h)
  have hmeth' : T.vm.method? m = some meth := X.method'
  refine ⟨T.setFrames fs, ?_, .returned (some (.int 1)), hrun, hended, rfl, ⟨_, rfl⟩, hW, hframe⟩
  jvm_step X.here [X.here.top, hx, hb, hdg, hmeth', hr, ret, narrow_b1]
  (try refine ⟨rfl, ?_⟩); (try refine ⟨rfl, ?_⟩)
  first | (intro acts; rw [hret _ acts rfl rfl rfl]) | rw [hret _ _ rfl rfl rfl]
  exact Steps.refl _
/-- what holds at the law's entry: the machine, the code, the tables' words (any of lw_tbl by 'hts w (by decide +kernel)'), the script of L ints xs at the cell b, what the Statement gives of the start (any of its parts by flat_of_before) -/
def lw_At (p : Program) (s : State) (m : MethodId) (meth : Method) (c : Code) (b L : Nat) (xs : Nat → Int32) : Prop :=
  p.tables.exec = Jvm.exec ∧ c.code = code ∧ meth.sig.returnType = ret ∧ c.maxLocals = 4 ∧ s.vm.findClass R_law = some m.cls ∧ (∀ w ∈ lw_tbl, w.before #[Value.ref b] s = true) ∧ va_X b L xs s s.heap ∧ b < s.heap.size ∧ meth.locks = false ∧ (Jvm.Cond.and given_1 narrow_1).before #[Value.ref b] s = true
-- ===== the law's own rules: its script, its end =====
def Zx (E : EV) (b L : Nat) (xs : Nat → Int32) : Prop := va_X b L xs (eS E) (eS E).heap ∧ b < (eS E).heap.size ∧ ¬ (eG E) b
def Lx (E : EV) (b : Nat) : Prop := eA E = #[Value.ref b] ∧ eR E = room_1 ∧ eN E = 600000 ∧ eL E = 7302250 ∧ eG E = (fun q => (eS E).heap.size ≤ q)
def QW (E : EV) (b : Nat) : Int32 → St → State → Prop := fun v _ t => v = 1 → lw_Z (eB E) #[Value.ref b] (eS E) t
theorem g_sld {Γ : GA} {E : EV} {own : String} {cc : ByteArray} {nL d : Nat} {rt : Option FieldType} {α : Type} {Qf : α → St → State → Prop} {pc : Nat} {lv : List (Nat × Value)} {st : List Value} {S : St} {res : Option (α × St)} {b L : Nat} {xs : Nat → Int32} {i : Int32} (C : Cx Γ E own cc nL d rt) (Z : Zx E b L xs) (hd : decode cc pc = .ok (.iaload, 1)) (kk : G Γ E Qf nL (pc + 1) lv (.int (xs i.toNatClampNeg) :: st) S res) : G Γ E Qf nL pc lv (.int i :: .ref b :: st) S (grd (inb i L) res) := by
  refine g_grd fun hi => ?_
  intro H locs ls hP hS h a S' hr
  exact va_sld C.hx C.hb Z.1 Z.2.1 Z.2.2 hS (inb_in hi) hd (kk H locs ls hP hS h a S' hr)
theorem g_slen {Γ : GA} {E : EV} {own : String} {cc : ByteArray} {nL d : Nat} {rt : Option FieldType} {α : Type} {Qf : α → St → State → Prop} {pc : Nat} {lv : List (Nat × Value)} {st : List Value} {S : St} {res : Option (α × St)} {b L : Nat} {xs : Nat → Int32} (C : Cx Γ E own cc nL d rt) (Z : Zx E b L xs) (hd : decode cc pc = .ok (.arraylength, 1)) (kk : G Γ E Qf nL (pc + 1) lv (.int (nI L) :: st) S res) : G Γ E Qf nL pc lv (.ref b :: st) S res := by
  intro H locs ls hP hS h a S' hr
  exact va_slen C.hx C.hb Z.1 Z.2.1 Z.2.2 hS hd (kk H locs ls hP hS h a S' hr)
theorem g_lawret {Γ : GA} {E : EV} {d : Nat} {pc : Nat} {lv : List (Nat × Value)} {S : St} {b : Nat} (C : Cx Γ E RL cL_law 4 d ret) (M : Lx E b) (v : Int32) (hd : decode cL_law pc = .ok (.ireturn, 1)) : G Γ E (QW E b) 4 pc lv [.int v] S (some (v, S)) := by
  intro H locs ls hP hS h a S' hr
  cases hr
  by_cases hv : v = 1
  · subst hv
    obtain ⟨m1, m2, m3, m4, m5⟩ := M
    have hl : ∀ q ∈ locs, (eS E).heap.size ≤ q.base := fun q hq => by have := hS.2.2 q hq; rw [m5] at this; exact this
    refine va_forget hl ?_
    show W _ _ _ (eR E) _ _ (eA E) _ _ _ _ _ (eN E) (eL E) _ _
    rw [m1, m2, m3, m4]
    have h9 := lw_ret (l := gl Γ) (e := E.2.1) (s := eS E) (m := eM E) (below := eB E) (b := b) C.hx C.hb C.hr C.hlk (H := H) (ls := ls) hd
    intro T hT X
    obtain ⟨t, h1, h2⟩ := h9 T hT X
    exact ⟨t, h1, fun _ => h2⟩
  · intro T hT X
    exact ⟨_, Steps.refl _, fun e => absurd e hv⟩
