-- ===== the light layer over the kit: a world of 75 cells with fixed references, all numbers in one table S (cell, slot) =====
abbrev St : Type := Nat → Nat → Int32
def sr (S : St) (c : Nat) (f : Nat → Int32) : St := fun d => if d = c then f else S d
def su (S : St) (c k : Nat) (v : Int32) : St := sr S c (upd (S c) k v)
/-- launch, class ids, slots, addresses, int[]'s class, Cart[]'s class, the text's address, its row's address -/
abbrev GA : Type := Launch × (Nat → ClassId) × (Nat → Nat → Nat) × (Nat → Nat) × ClassId × ClassId × Nat × Nat
def gl (Γ : GA) : Launch := Γ.1
def gD (Γ : GA) : va_G := (Γ.2.1, Γ.2.2.1)
def gX (Γ : GA) : Nat → Nat := Γ.2.2.2.1
def gI (Γ : GA) : ClassId := Γ.2.2.2.2.1
def gR (Γ : GA) : ClassId := Γ.2.2.2.2.2.1
def gK (Γ : GA) : Nat := Γ.2.2.2.2.2.2.1
def gV (Γ : GA) : Nat := Γ.2.2.2.2.2.2.2
def gT (Γ : GA) : List (ClassId × FieldType) := [(gI Γ, .int), (gR Γ, .object "CartsDownHill$Cart")]
/-- a long in two slots -/
def hiL (v : Int64) : Int32 := Int32.ofBitVec (v.toBitVec.extractLsb' 32 32)
def loL (v : Int64) : Int32 := Int32.ofBitVec (v.toBitVec.extractLsb' 0 32)
def mkL (a b : Int32) : Int64 := Int64.ofBitVec (a.toBitVec ++ b.toBitVec)
theorem mkL_bv (x : BitVec 64) : (x.extractLsb' 32 32 ++ x.extractLsb' 0 32 : BitVec 64) = x := by
  apply BitVec.eq_of_getLsbD_eq
  intro i hi
  rw [BitVec.getLsbD_append]
  by_cases h : i < 32
  · simp [h, BitVec.getLsbD_extractLsb']
  · have h2 : i - 32 < 32 := by omega
    have h3 : 32 + (i - 32) = i := by omega
    simp [h, BitVec.getLsbD_extractLsb', h2, h3]
theorem mkL_hl (v : Int64) : mkL (hiL v) (loL v) = v := by
  show Int64.ofBitVec (v.toBitVec.extractLsb' 32 32 ++ v.toBitVec.extractLsb' 0 32 : BitVec 64) = v
  rw [mkL_bv]
  rfl
def setL (f : Nat → Int32) (v : Int64) : Nat → Int32 := upd (upd f 100 (hiL v)) 101 (loL v)
def getL (f : Nat → Int32) : Int64 := mkL (f 100) (f 101)
theorem getL_setL (f : Nat → Int32) (v : Int64) : getL (setL f v) = v := by
  unfold getL setL upd
  simp [mkL_hl]
def cellE (Γ : GA) (c : Nat) (f : Nat → Int32) : va_E := match c with
  | 0 => .inr (7, [.ref (gX Γ 1), .ref (gX Γ 3), .ref (gX Γ 8), .ref (gX Γ 33), .ref (gX Γ 37), .ref (gX Γ 44), .ref (gX Γ 51), .ref (gX Γ 53), .ref (gX Γ 54), .int (f 9), .int (f 10)])
  | 1 => .inr (5, [.ref (gX Γ 2), .int (f 1)])
  | 2 => .inl (gI Γ, 50, .inl f)
  | 3 => .inr (3, [.ref (gX Γ 4), .ref (gX Γ 5), .ref (gX Γ 6), .ref (gX Γ 7), .int (f 4), .int (f 5)])
  | 4 => .inl (gI Γ, 12, .inl f)
  | 5 => .inl (gI Γ, 12, .inl f)
  | 6 => .inl (gI Γ, 12, .inl f)
  | 7 => .inl (gI Γ, 12, .inl f)
  | 8 => .inl (gR Γ, 8, .inr (.inr (.inr (.inr (fun i => some (gX Γ (9 + 3 * i)))))))
  | 9 => .inr (1, [.ref (gX Γ 10), .ref (gX Γ 11), .int (f 2), .int (f 3)])
  | 10 => .inl (gI Γ, 5, .inl f)
  | 11 => .inl (gI Γ, 5, .inl f)
  | 12 => .inr (1, [.ref (gX Γ 13), .ref (gX Γ 14), .int (f 2), .int (f 3)])
  | 13 => .inl (gI Γ, 5, .inl f)
  | 14 => .inl (gI Γ, 5, .inl f)
  | 15 => .inr (1, [.ref (gX Γ 16), .ref (gX Γ 17), .int (f 2), .int (f 3)])
  | 16 => .inl (gI Γ, 5, .inl f)
  | 17 => .inl (gI Γ, 5, .inl f)
  | 18 => .inr (1, [.ref (gX Γ 19), .ref (gX Γ 20), .int (f 2), .int (f 3)])
  | 19 => .inl (gI Γ, 5, .inl f)
  | 20 => .inl (gI Γ, 5, .inl f)
  | 21 => .inr (1, [.ref (gX Γ 22), .ref (gX Γ 23), .int (f 2), .int (f 3)])
  | 22 => .inl (gI Γ, 5, .inl f)
  | 23 => .inl (gI Γ, 5, .inl f)
  | 24 => .inr (1, [.ref (gX Γ 25), .ref (gX Γ 26), .int (f 2), .int (f 3)])
  | 25 => .inl (gI Γ, 5, .inl f)
  | 26 => .inl (gI Γ, 5, .inl f)
  | 27 => .inr (1, [.ref (gX Γ 28), .ref (gX Γ 29), .int (f 2), .int (f 3)])
  | 28 => .inl (gI Γ, 5, .inl f)
  | 29 => .inl (gI Γ, 5, .inl f)
  | 30 => .inr (1, [.ref (gX Γ 31), .ref (gX Γ 32), .int (f 2), .int (f 3)])
  | 31 => .inl (gI Γ, 5, .inl f)
  | 32 => .inl (gI Γ, 5, .inl f)
  | 33 => .inr (2, [.ref (gX Γ 34), .ref (gX Γ 35), .ref (gX Γ 36), .int (f 3)])
  | 34 => .inl (gI Γ, 8, .inl f)
  | 35 => .inl (gI Γ, 8, .inl f)
  | 36 => .inl (gI Γ, 8, .inl f)
  | 37 => .inr (4, [.ref (gX Γ 38), .ref (gX Γ 39), .ref (gX Γ 40), .int (f 3), .int (f 4), .int (f 5)])
  | 38 => .inl (gI Γ, 8, .inl f)
  | 39 => .inl (gI Γ, 12, .inl f)
  | 40 => .inr (2, [.ref (gX Γ 41), .ref (gX Γ 42), .ref (gX Γ 43), .int (f 3)])
  | 41 => .inl (gI Γ, 8, .inl f)
  | 42 => .inl (gI Γ, 8, .inl f)
  | 43 => .inl (gI Γ, 8, .inl f)
  | 44 => .inr (6, [.ref (gX Γ 3), .ref (gX Γ 45), .ref (gX Γ 46), .ref (gX Γ 47), .ref (gX Γ 48), .int (f 5), .int (f 6), .int (f 7), .int (f 8), .int (f 9), .int (f 10), .int (f 11), .int (f 12), .ref (gX Γ 49), .ref (gX Γ 50)])
  | 45 => .inl (gI Γ, 5, .inl f)
  | 46 => .inl (gI Γ, 5, .inl f)
  | 47 => .inl (gI Γ, 5, .inl f)
  | 48 => .inl (gI Γ, 12, .inl f)
  | 49 => .inl (gI Γ, 5, .inl f)
  | 50 => .inl (gI Γ, 12, .inl f)
  | 51 => .inr (0, [.int (f 0), .int (f 1), .ref (gX Γ 52)])
  | 52 => .inl (gI Γ, 5, .inl f)
  | 53 => .inl (gI Γ, 4, .inl f)
  | 54 => .inl (gI Γ, 4, .inl f)
  | 55 => .inr (8, [.ref (gX Γ 56), .int (f 1), .int (f 2), .int (f 3), .int (f 4), .ref (gX Γ 57), .int (f 6), .int (f 7), .ref (gX Γ 58), .ref (gX Γ 59), .ref (gX Γ 60), .ref (gX Γ 61), .int (f 12), .ref (gX Γ 62), .ref (gX Γ 63), .ref (gX Γ 64), .int (f 16), .int (f 17), .int (f 18), .ref (gX Γ 65), .ref (gX Γ 66), .ref (gX Γ 67), .int (f 22), .int (f 23), .int (f 24), .int (f 25), .ref (gX Γ 68), .ref (gX Γ 69), .int (f 28), .int (f 29), .ref (gX Γ 70), .ref (gX Γ 71), .int (f 32), .int (f 33), .int (f 34), .int (f 35), .ref (gX Γ 72), .ref (gX Γ 73), .ref (gX Γ 74), .long (getL f)])
  | 56 => .inl (gI Γ, 50, .inl f)
  | 57 => .inl (gI Γ, 36, .inl f)
  | 58 => .inl (gI Γ, 12, .inl f)
  | 59 => .inl (gI Γ, 12, .inl f)
  | 60 => .inl (gI Γ, 12, .inl f)
  | 61 => .inl (gI Γ, 12, .inl f)
  | 62 => .inl (gI Γ, 8, .inl f)
  | 63 => .inl (gI Γ, 8, .inl f)
  | 64 => .inl (gI Γ, 80, .inl f)
  | 65 => .inl (gI Γ, 6, .inl f)
  | 66 => .inl (gI Γ, 6, .inl f)
  | 67 => .inl (gI Γ, 12, .inl f)
  | 68 => .inl (gI Γ, 12, .inl f)
  | 69 => .inl (gI Γ, 6, .inl f)
  | 70 => .inl (gI Γ, 24, .inl f)
  | 71 => .inl (gI Γ, 4, .inl f)
  | 72 => .inl (gI Γ, 12, .inl f)
  | 73 => .inl (gI Γ, 8, .inl f)
  | 74 => .inl (gI Γ, 24, .inl f)
  | _ => .inl (gI Γ, 0, .inl f)
def nC : Nat := 75
def wsOf (Γ : GA) (S : St) : va_W := (List.range nC).map (fun c => (gX Γ c, cellE Γ c (S c)))
theorem ws_get (Γ : GA) (S : St) {c : Nat} (h : c < nC) : (wsOf Γ S)[c]? = some (gX Γ c, cellE Γ c (S c)) := by
  unfold wsOf
  rw [List.getElem?_map, List.getElem?_range h]
  rfl
theorem ws_len (Γ : GA) (S : St) : (wsOf Γ S).length = nC := by simp [wsOf]
theorem ws_inv {Γ : GA} {S : St} {k : Nat} {q : Nat × va_E} (h : (wsOf Γ S)[k]? = some q) : k < nC ∧ q = (gX Γ k, cellE Γ k (S k)) := by
  have hk : k < nC := by
    have := (List.getElem?_eq_some_iff.mp h).1
    rwa [ws_len] at this
  rw [ws_get Γ S hk] at h
  exact ⟨hk, (Option.some.inj h).symm⟩
theorem ws_set (Γ : GA) (S : St) {c : Nat} (_h : c < nC) (f : Nat → Int32) : (wsOf Γ S).set c (gX Γ c, cellE Γ c f) = wsOf Γ (sr S c f) := by
  apply List.ext_getElem?
  intro k
  by_cases hk : k < nC
  · rw [ws_get Γ _ hk]
    by_cases hc : c = k
    · subst hc
      rw [List.getElem?_set_self (by rw [ws_len]; exact hk)]
      simp [sr]
    · rw [List.getElem?_set_ne hc, ws_get Γ S hk]
      simp [sr, Ne.symm hc]
  · rw [List.getElem?_eq_none (by rw [List.length_set, ws_len]; omega), List.getElem?_eq_none (by rw [ws_len]; omega)]
def XI (Γ : GA) : Prop := ∀ i j : Nat, i < nC → j < nC → gX Γ i = gX Γ j → i = j
def AW (Γ : GA) : Nat → Prop := fun q => ∃ c : Nat, c < nC ∧ q = gX Γ c
theorem ws_D {Γ : GA} {A : Nat → Prop} (hX : XI Γ) (hA : ∀ c, c < nC → A (gX Γ c)) (S : St) : va_D A (wsOf Γ S) := by
  refine ⟨fun i j p q hi hj e => ?_, fun k q hk => ?_⟩
  · obtain ⟨h1, rfl⟩ := ws_inv hi
    obtain ⟨h2, rfl⟩ := ws_inv hj
    exact hX i j h1 h2 e
  · obtain ⟨h1, rfl⟩ := ws_inv hk
    exact hA k h1
def isNest : Cond → Bool
  | .fieldLinkNest .. => true
  | .methodLinkNest .. => true
  | _ => false
theorem nest_warm {w : Cond} {s U : State} (h : isNest w = true) (hW : s.WarmedH U.vm) (hZ : va_Nw w s) : va_Nw w U := by
  cases w <;> first | exact va_Nw.warmF hW hZ | exact va_Nw.warmM hW hZ | cases h
theorem nest_same {w : Cond} {s U : State} (h : isNest w = true) (hv : s.vm = U.vm) (hZ : va_Nw w s) : va_Nw w U := by
  cases w <;> first | exact va_Nw.same rfl hv hZ | cases h
/-- the text "lrtaus", and the one static that its methods read -/
def SC (Γ : GA) (A : Nat → Prop) (U : State) (H : Heap) : Prop :=
  vk_R RX5 51 "lrtaus" (gK Γ) U ∧ vk_S 1 [6] [[108, 114, 116, 97, 117, 115]] (fun _ => gK Γ) (fun _ => gV Γ) A U H ∧ va_Z "java/lang/String" "COMPACT_STRINGS" "Z" (.int 1) A U H
theorem SC.warm {Γ : GA} {A : Nat → Prop} {s U : State} {H : Heap} (hW : s.WarmedH U.vm) (h : SC Γ A s H) : SC Γ A U H :=
  ⟨h.1.warm hW, h.2.1.moved hW.alike, h.2.2.moved hW.alike⟩
theorem SC.same {Γ : GA} {A : Nat → Prop} {s U : State} {H : Heap} (hv : U.vm = s.vm) (h : SC Γ A s H) : SC Γ A U H := by
  have ha : s.vm.Alike U.vm := by rw [hv]; exact Vm.Alike.refl _
  exact ⟨h.1.same hv, h.2.1.moved ha, h.2.2.moved ha⟩
theorem SC.kept {Γ : GA} {A : Nat → Prop} {U : State} {H H1 : Heap} (h : SC Γ A U H) (hq : ∀ a : Nat, a < H.size → ¬ A a → H1[a]? = H[a]?) : SC Γ A U H1 :=
  ⟨h.1, h.2.1.kept hq, h.2.2.kept hq⟩
theorem SC.narrow {Γ : GA} {A B : Nat → Prop} {U : State} {H : Heap} (h : SC Γ A U H) (hAB : ∀ q, B q → A q) : SC Γ B U H :=
  ⟨h.1, h.2.1.narrow hAB, h.2.2.narrow hAB⟩
def World (Γ : GA) (S : St) (U : State) : Prop :=
  va_P (gD Γ) vwCl (wsOf Γ S) U.heap ∧ va_K (gD Γ) vwCl (gT Γ) U ∧ XI Γ ∧ SC Γ (AW Γ) U U.heap ∧ ∀ w ∈ lw_tbl, isNest w = true → va_Nw w U
theorem World.calling {Γ : GA} {S : St} {a : Array Value} {U : State} {g : JFrame} {mk : MethodId} (h : World Γ S U) : World Γ S (U.calling g mk a) := by
  obtain ⟨h1, h2, h3, h4, h5⟩ := h
  exact ⟨h1, va_K.moved (u := U) (U := U.calling g mk a) (Vm.Alike.refl U.vm) h2, h3, SC.same (s := U) (U := U.calling g mk a) rfl h4, fun w hw hn => nest_same (s := U) (U := U.calling g mk a) hn rfl (h5 w hw hn)⟩
def WT : List Cond := lw_tbl.filter goodWord
theorem mem_WT {w : Cond} (h : w ∈ lw_tbl) (hg : goodWord w = true) : w ∈ WT := List.mem_filter.mpr ⟨h, hg⟩
def rmd (d : Nat) : Room := { frames := d, cells := 0, slots := 0, locals := 38 * d }
def Qw (Γ : GA) (ov : Option Value) (S' : St) : Array Value → State → Outcome → State → Prop := fun _ st o t => o = .returned ov ∧ World Γ S' t ∧ va_F (AW Γ) st t
def Ct (Γ : GA) (y : MethodName) (bytes : ByteArray) (maxL : Nat) (ret : Option FieldType) (d : Nat) (av : List Value) (S : St) (ov : Option Value) (S' : St) : Prop :=
  Met (gl Γ) y (Cond.code y bytes maxL ret :: WT) (rmd d) (va_Pc av (World Γ S)) (Qw Γ ov S') 0 0 (AW Γ)
/-- contracts: what the pure answer says, the method does -/
def CtI (Γ : GA) (y : MethodName) (bytes : ByteArray) (maxL : Nat) (ret : Option FieldType) (d : Nat) (av : List Value) (S : St) (o : Option (Int32 × St)) : Prop := ∀ r S', o = some (r, S') → Ct Γ y bytes maxL ret d av S (some (.int r)) S'
def CtL (Γ : GA) (y : MethodName) (bytes : ByteArray) (maxL : Nat) (ret : Option FieldType) (d : Nat) (av : List Value) (S : St) (o : Option (Int64 × St)) : Prop := ∀ r S', o = some (r, S') → Ct Γ y bytes maxL ret d av S (some (.long r)) S'
def CtV (Γ : GA) (y : MethodName) (bytes : ByteArray) (maxL : Nat) (ret : Option FieldType) (d : Nat) (av : List Value) (S : St) (o : Option (Unit × St)) : Prop := ∀ r S', o = some (r, S') → Ct Γ y bytes maxL ret d av S none S'
/-- program, env, room, state, method, args, below, meth, code, cells, slots, region -/
abbrev EV : Type := Program × Env × Room × State × MethodId × Array Value × List Frame × Method × Code × Nat × Nat × (Nat → Prop)
def eR (E : EV) : Room := E.2.2.1
def eS (E : EV) : State := E.2.2.2.1
def eM (E : EV) : MethodId := E.2.2.2.2.1
def eA (E : EV) : Array Value := E.2.2.2.2.2.1
def eB (E : EV) : List Frame := E.2.2.2.2.2.2.1
def eMt (E : EV) : Method := E.2.2.2.2.2.2.2.1
def eC (E : EV) : Code := E.2.2.2.2.2.2.2.2.1
def eN (E : EV) : Nat := E.2.2.2.2.2.2.2.2.2.1
def eL (E : EV) : Nat := E.2.2.2.2.2.2.2.2.2.2.1
def eG (E : EV) : Nat → Prop := E.2.2.2.2.2.2.2.2.2.2.2
abbrev WW (Γ : GA) (E : EV) (H : Heap) (locs : List Loc) (Q : State → Prop) (g : JFrame) : Prop := W E.1 (gl Γ) E.2.1 (eR E) (eS E) (eM E) (eA E) (eB E) (eMt E) (eC E) H locs (eN E) (eL E) Q g
/-- what stands throughout a method's body -/
def Cx (Γ : GA) (E : EV) (own : String) (cc : ByteArray) (nL d : Nat) (ret : Option FieldType) : Prop :=
  E.1.tables.exec = Jvm.exec ∧ (eC E).code = cc ∧ (eC E).maxLocals = nL ∧ (eS E).vm.findClass own = some (eM E).cls ∧ (∀ w ∈ WT, w.before (eA E) (eS E) = true) ∧ (∀ w ∈ lw_tbl, isNest w = true → va_Nw w (eS E)) ∧
  va_K (gD Γ) vwCl (gT Γ) (eS E) ∧ XI Γ ∧ SC Γ (eG E) (eS E) (eS E).heap ∧ (∀ c, c < nC → (eG E) (gX Γ c)) ∧ d ≤ (eR E).frames ∧ 38 * d ≤ (eR E).locals ∧ eN E ≤ (eR E).cells ∧ eL E ≤ (eR E).slots ∧ (eMt E).locks = false ∧ (eMt E).sig.returnType = ret
def Mx (Γ : GA) (E : EV) : Prop := eN E = 0 ∧ eL E = 0 ∧ eG E = AW Γ
def G {α : Type} (Γ : GA) (E : EV) (Qf : α → St → State → Prop) (nL pc : Nat) (lv : List (Nat × Value)) (st : List Value) (S : St) (res : Option (α × St)) : Prop :=
  ∀ (H : Heap) (locs : List Loc) (ls : Array Slot), va_P (gD Γ) vwCl (wsOf Γ S) H → va_S (eG E) (eS E).heap H locs → lv_has ls nL lv → ∀ (a : α) (S' : St), res = some (a, S') → WW Γ E H locs (Qf a S') (F0 (eM E) pc ls st)
def QI (Γ : GA) (E : EV) : Int32 → St → State → Prop := fun r S' => MQ (eB E) (Qw Γ (some (.int r)) S') (eA E) (eS E) 0 0 (AW Γ)
def QL (Γ : GA) (E : EV) : Int64 → St → State → Prop := fun r S' => MQ (eB E) (Qw Γ (some (.long r)) S') (eA E) (eS E) 0 0 (AW Γ)
def QV (Γ : GA) (E : EV) : Unit → St → State → Prop := fun _ S' => MQ (eB E) (Qw Γ none S') (eA E) (eS E) 0 0 (AW Γ)
-- the pure words
def grd {β : Type} (b : Bool) (r : Option β) : Option β := if b = true then r else none
def lett {β γ : Type} (v : β) (K : β → Option γ) : Option γ := K v
def bnd {α β : Type} (o : Option (α × St)) (K : α → St → Option β) : Option β := match o with
  | none => none
  | some (r, S) => K r S
def inb (i : Int32) (n : Nat) : Bool := decide (0 ≤ i) && decide (i.toNatClampNeg < n)
def nz (y : Int32) : Bool := !decide (y = 0)
def nzL (y : Int64) : Bool := !decide (y = 0)
def isB (y : Int32) : Bool := decide (y = 0) || decide (y = 1)
theorem inb_in {i : Int32} {n : Nat} (h : inb i n = true) : vp_in i n := by
  unfold inb at h
  simp only [Bool.and_eq_true, decide_eq_true_eq] at h
  rintro (q | q)
  · exact absurd q (Int32.not_lt.mpr h.1)
  · omega
theorem inb_lt {i : Int32} {n : Nat} (h : inb i n = true) : i.toNatClampNeg < n := by
  unfold inb at h
  simp only [Bool.and_eq_true, decide_eq_true_eq] at h
  exact h.2
theorem nz_ne {y : Int32} (h : nz y = true) : ¬ y = 0 := by simpa [nz] using h
theorem nzL_ne {y : Int64} (h : nzL y = true) : ¬ y = 0 := by simpa [nzL] using h
-- facts of cells
def FI (c ci k : Nat) : Prop := c < nC ∧ ∀ (Γ : GA) (f : Nat → Int32), ∃ fs : List Value, cellE Γ c f = .inr (ci, fs) ∧ fs[k]? = some (.int (f k)) ∧ k < fs.length ∧ ∀ v : Int32, cellE Γ c (upd f k v) = .inr (ci, fs.set k (.int v))
def FR (c ci k r : Nat) : Prop := c < nC ∧ ∀ (Γ : GA) (f : Nat → Int32), ∃ fs : List Value, cellE Γ c f = .inr (ci, fs) ∧ fs[k]? = some (.ref (gX Γ r))
def FL (c ci k : Nat) : Prop := c < nC ∧ ∀ (Γ : GA) (f : Nat → Int32), ∃ fs : List Value, cellE Γ c f = .inr (ci, fs) ∧ fs[k]? = some (.long (getL f)) ∧ k < fs.length ∧ ∀ v : Int64, cellE Γ c (setL f v) = .inr (ci, fs.set k (.long v))
def FO (c ci : Nat) : Prop := c < nC ∧ ∀ (Γ : GA) (f : Nat → Int32), ∃ fs : List Value, cellE Γ c f = .inr (ci, fs)
def AI (c n : Nat) : Prop := c < nC ∧ n < 100000 ∧ ∀ (Γ : GA) (f : Nat → Int32), cellE Γ c f = .inl (gI Γ, n, .inl f)
def AQ (c n : Nat) (g : Nat → Nat) : Prop := c < nC ∧ ∀ (Γ : GA) (f : Nat → Int32), cellE Γ c f = .inl (gR Γ, n, .inr (.inr (.inr (.inr (fun i => some (gX Γ (g i)))))))
-- facts of links
def LK (own : String) (idx ci k : Nat) : Prop := ∃ (C : String) (T : u_T) (N : Nat), vwCl[ci]? = some (C, T, N) ∧ k < N ∧ (∀ w ∈ u_ws C T N, w ∈ WT) ∧
  ((Cond.fieldLink own idx (T k).1 (T k).2.1 (T k).2.2.1 ∈ WT) ∨ ∃ host : String, Cond.fieldLinkNest own idx (T k).1 (T k).2.1 (T k).2.2.1 host ∈ lw_tbl)
def LPu (own : String) (idx ci k : Nat) (ty : FieldType) : Prop := ∃ (C : String) (T : u_T) (N : Nat) (ty0 : Nat → FieldType), vwCl[ci]? = some (C, T, N) ∧ k < N ∧ (∀ w ∈ u_ws C T N, w ∈ WT) ∧
  (∀ k, k < N → parseFieldDescriptor (T k).2.2.1 = some (ty0 k)) ∧ (∀ a, a < N → ∀ b, b < N → a ≠ b → (T a).2.1 ≠ (T b).2.1) ∧ (T k).2.2.2 = false ∧ parseFieldDescriptor (T k).2.2.1 = some ty ∧
  ((Cond.fieldLink own idx (T k).1 (T k).2.1 (T k).2.2.1 ∈ WT) ∨ ∃ host : String, Cond.fieldLinkNest own idx (T k).1 (T k).2.1 (T k).2.2.1 host ∈ lw_tbl)
def LM (own : String) (idx : Nat) (y : MethodName) (bytes : ByteArray) (maxL : Nat) (ret : Option FieldType) (n : Nat) : Prop :=
  Cond.code y bytes maxL ret ∈ WT ∧ Cond.initialized y.cls ∈ WT ∧ (y.cls ≠ "java/lang/invoke/MethodHandle" ∧ y.cls ≠ "java/lang/invoke/VarHandle" ∧ (parseMethodDescriptor y.desc).map (fun d => d.parameters.length) = some n) ∧ maxL ≤ 19 ∧
  (Cond.methodLink own idx y ∈ WT ∨ ∃ host : String, Cond.methodLinkNest own idx y host ∈ lw_tbl)
def LVi (own : String) (idx : Nat) (y : MethodName) (bytes : ByteArray) (maxL : Nat) (ret : Option FieldType) (n : Nat) : Prop := LM own idx y bytes maxL ret n ∧ Cond.instanceMethod y ∈ WT ∧ Cond.selects y.cls y y ∈ WT
def LSt (own : String) (idx : Nat) (y : MethodName) (bytes : ByteArray) (maxL : Nat) (ret : Option FieldType) (n : Nat) : Prop := LM own idx y bytes maxL ret n ∧ Cond.static y ∈ WT
