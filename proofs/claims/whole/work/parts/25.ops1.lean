-- ===== calls: the class and the reference answer alike, and show the same numbers again =====
theorem RC.lo {P : Dt} {S S1 : St} (h : RC P S) (h8 : P 20 3 ≤ 8) (hK : ∀ c, c < 44 → S1 c = S c) : RC P S1 := by
  obtain ⟨a1, a2, a3, a4, a5, a6, a7, a8, a9, a10, a11, a12⟩ := h
  unfold RC
  rw [hK 1 (by decide), hK 2 (by decide), hK 3 (by decide), hK 4 (by decide), hK 5 (by decide), hK 6 (by decide), hK 7 (by decide), hK 0 (by decide), hK 33 (by decide), hK 34 (by decide), hK 35 (by decide), hK 36 (by decide), hK 37 (by decide), hK 38 (by decide), hK 39 (by decide), hK 40 (by decide), hK 41 (by decide), hK 42 (by decide), hK 43 (by decide)]
  refine ⟨a1, a2, a3, a4, a5, a6, fun j hj => ?_, a8, a9, a10, a11, a12⟩
  rw [hK (9 + 3 * j) (by omega), hK (9 + 3 * j + 1) (by omega), hK (9 + 3 * j + 2) (by omega)]
  exact a7 j hj
theorem RM.up {P : Dt} {T T1 : St} (h : RM P T) (hK : ∀ c, 55 ≤ c → T1 c = T c) : RM P T1 := by
  obtain ⟨a1, a2, a3, a4, a5, a6, a7, a8, a9, a10, a11, a12⟩ := h
  unfold RM
  rw [hK 55 (by decide), hK 56 (by decide), hK 58 (by decide), hK 59 (by decide), hK 60 (by decide), hK 61 (by decide), hK 62 (by decide), hK 63 (by decide), hK 64 (by decide), hK 70 (by decide), hK 72 (by decide), hK 73 (by decide), hK 74 (by decide)]
  exact ⟨a1, a2, a3, a4, a5, a6, a7, a8, a9, a10, a11, a12⟩
theorem RM.sr71 {P : Dt} {T : St} (h : RM P T) (q : Nat → Int32) : RM P (sr T 71 q) := by
  unfold RM
  rw [sr_o (show (55 : Nat) ≠ 71 by decide), sr_o (show (56 : Nat) ≠ 71 by decide), sr_o (show (58 : Nat) ≠ 71 by decide), sr_o (show (59 : Nat) ≠ 71 by decide), sr_o (show (60 : Nat) ≠ 71 by decide), sr_o (show (61 : Nat) ≠ 71 by decide), sr_o (show (62 : Nat) ≠ 71 by decide), sr_o (show (63 : Nat) ≠ 71 by decide), sr_o (show (64 : Nat) ≠ 71 by decide), sr_o (show (70 : Nat) ≠ 71 by decide), sr_o (show (72 : Nat) ≠ 71 by decide), sr_o (show (73 : Nat) ≠ 71 by decide), sr_o (show (74 : Nat) ≠ 71 by decide)]
  exact h
def Cls {α : Type} (f : St → Option (α × St)) (P P' : Dt) (r : α) : Prop := ∀ S, RC P S → ∃ S1, f S = some (r, S1) ∧ RC P' S1 ∧ ∀ c, 55 ≤ c → S1 c = S c
def Mdl {α : Type} (f : St → Option (α × St)) (P P' : Dt) (r : α) : Prop := ∀ T, RM P T → ∃ T1, f T = some (r, T1) ∧ RM P' T1 ∧ ∀ c, c < 55 → T1 c = T c
def Op {α : Type} (f g : St → Option (α × St)) : Prop := ∀ (t : Nat) (P : Dt), OK P t → t < 600 → ∃ (r : α) (P' : Dt), OK P' (t + 1) ∧ Cls f P P' r ∧ Mdl g P P' r
def Inv (t : Nat) (S : St) : Prop := ∃ P, OK P t ∧ RC P S ∧ RM P S
theorem Op.use {α : Type} {f g : St → Option (α × St)} (h : Op f g) {t : Nat} {S : St} (hI : Inv t S) (ht : t < 600) : ∃ r S1 S2, f S = some (r, S1) ∧ g S1 = some (r, S2) ∧ Inv (t + 1) S2 := by
  obtain ⟨P, hO, hC, hM⟩ := hI
  obtain ⟨r, P', hO', hc, hm⟩ := h t P hO ht
  obtain ⟨S1, e1, r1, k1⟩ := hc S hC
  obtain ⟨S2, e2, r2, k2⟩ := hm S1 (hM.up k1)
  exact ⟨r, S1, S2, e1, e2, P', hO', r1.lo (hO'.2.2.2.2.2.1) (fun c h => k2 c (by omega)), r2⟩
theorem OK.next {P : Dt} {t : Nat} (h : OK P t) (ht : t < 600) : OK P (t + 1) := by
  obtain ⟨b1, b2, b3, b4, b5, b6, b7, b8, b9, b10, b11, b12, b13⟩ := h
  exact ⟨b1, b2, b3, b4, ⟨by omega, b5.2⟩, b6, b7, b8, b9, b10, b11, b12, by omega⟩
/-- a question: nothing of what is told changes -/
theorem Op.ask {α : Type} {f g : St → Option (α × St)} (h : ∀ (t : Nat) (P : Dt), OK P t → ∃ r : α, (∀ S, RC P S → ∃ S1, f S = some (r, S1) ∧ KC S S1) ∧ (∀ T, RM P T → ∃ T1, g T = some (r, T1) ∧ KM T T1)) : Op f g := by
  intro t P hO ht
  obtain ⟨r, h1, h2⟩ := h t P hO
  have h8 : P 20 3 ≤ 8 := hO.2.2.2.2.2.1
  refine ⟨r, P, hO.next ht, fun S hR => ?_, fun T hR => ?_⟩
  · obtain ⟨S1, e1, k1⟩ := h1 S hR
    exact ⟨S1, e1, hR.kc h8 k1, fun c hc => k1 c (Or.inr hc)⟩
  · obtain ⟨T1, e1, k1⟩ := h2 T hR
    refine ⟨T1, e1, hR.km h8 k1, fun c hc => ?_⟩
    funext k
    exact k1 c k (Or.inl hc)
/-- the same, with the reference's four let go -/
theorem Op.ask2 {α : Type} {f g : St → Option (α × St)} (h : ∀ (t : Nat) (P : Dt), OK P t → ∃ r : α, (∀ S, RC P S → ∃ S1, f S = some (r, S1) ∧ KC S S1) ∧ (∀ T, RM P T → ∃ T1, g T = some (r, T1) ∧ ∃ q : Nat → Int32, KM (sr T 71 q) T1)) : Op f g := by
  intro t P hO ht
  obtain ⟨r, h1, h2⟩ := h t P hO
  have h8 : P 20 3 ≤ 8 := hO.2.2.2.2.2.1
  refine ⟨r, P, hO.next ht, fun S hR => ?_, fun T hR => ?_⟩
  · obtain ⟨S1, e1, k1⟩ := h1 S hR
    exact ⟨S1, e1, hR.kc h8 k1, fun c hc => k1 c (Or.inr hc)⟩
  · obtain ⟨T1, e1, q, k1⟩ := h2 T hR
    refine ⟨T1, e1, RM.km (hR.sr71 q) h8 k1, fun c hc => ?_⟩
    funext k
    rw [k1 c k (Or.inl hc), sr_o (by omega)]
theorem setL_lo (f : Nat → Int32) (v : Int64) {k : Nat} (h : k < 100) : setL f v k = f k := by
  unfold setL upd
  rw [if_neg (by omega), if_neg (by omega)]
theorem RM.sL {P : Dt} {T : St} (h : RM P T) (v : Int64) : RM P (sr T 55 (setL (T 55) v)) := by
  unfold RM
  rw [sr_o (show (56 : Nat) ≠ 55 by decide), sr_o (show (58 : Nat) ≠ 55 by decide), sr_o (show (59 : Nat) ≠ 55 by decide), sr_o (show (60 : Nat) ≠ 55 by decide), sr_o (show (61 : Nat) ≠ 55 by decide), sr_o (show (62 : Nat) ≠ 55 by decide), sr_o (show (63 : Nat) ≠ 55 by decide), sr_o (show (64 : Nat) ≠ 55 by decide), sr_o (show (70 : Nat) ≠ 55 by decide), sr_o (show (72 : Nat) ≠ 55 by decide), sr_o (show (73 : Nat) ≠ 55 by decide), sr_o (show (74 : Nat) ≠ 55 by decide), sr_s, setL_lo _ _ (show 1 < 100 by decide), setL_lo _ _ (show 6 < 100 by decide), setL_lo _ _ (show 7 < 100 by decide), setL_lo _ _ (show 12 < 100 by decide), setL_lo _ _ (show 16 < 100 by decide), setL_lo _ _ (show 29 < 100 by decide), setL_lo _ _ (show 32 < 100 by decide), setL_lo _ _ (show 33 < 100 by decide), setL_lo _ _ (show 34 < 100 by decide), setL_lo _ _ (show 35 < 100 by decide)]
  exact h
/-- what is told stays, and below 55 all; the sum may change -/
def KH (T T1 : St) : Prop := ∀ c k, pmB c k → (c ≠ 55 ∨ k < 100) → T1 c k = T c k
theorem KH.rf (S : St) : KH S S := fun _ _ _ _ => rfl
theorem KH.tr {S S1 S2 : St} (h1 : KH S S1) (h2 : KH S1 S2) : KH S S2 := fun c k h g => (h2 c k h g).trans (h1 c k h g)
theorem KM.kh {S S1 : St} (h : KM S S1) : KH S S1 := fun c k hp _ => h c k hp
theorem KH.sL (S : St) (v : Int64) : KH S (sr S 55 (setL (S 55) v)) := fun c k _ hq => by
  by_cases h : c = 55
  · subst h
    rw [sr_s, setL_lo _ _ (by omega)]
  · rw [sr_o h]
theorem RM.kh {P : Dt} {T T1 : St} (h : RM P T) (h8 : P 20 3 ≤ 8) (hK : KH T T1) : RM P T1 := by
  have h2 := h.sL (getL (T1 55))
  have e : KM (sr T 55 (setL (T 55) (getL (T1 55)))) (sr T1 55 (fun k => if k < 100 then T1 55 k else setL (T 55) (getL (T1 55)) k)) := fun c k hp => by
    by_cases hc : c = 55
    · subst hc
      rw [sr_s, sr_s]
      by_cases hk : k < 100
      · rw [if_pos hk, setL_lo _ _ hk]; exact hK 55 k hp (Or.inr hk)
      · rw [if_neg hk]
    · rw [sr_o hc, sr_o hc]; exact hK c k hp (Or.inl hc)
  have h3 := h2.km h8 e
  unfold RM at h3 ⊢
  rw [sr_o (show (56 : Nat) ≠ 55 by decide), sr_o (show (58 : Nat) ≠ 55 by decide), sr_o (show (59 : Nat) ≠ 55 by decide), sr_o (show (60 : Nat) ≠ 55 by decide), sr_o (show (61 : Nat) ≠ 55 by decide), sr_o (show (62 : Nat) ≠ 55 by decide), sr_o (show (63 : Nat) ≠ 55 by decide), sr_o (show (64 : Nat) ≠ 55 by decide), sr_o (show (70 : Nat) ≠ 55 by decide), sr_o (show (72 : Nat) ≠ 55 by decide), sr_o (show (73 : Nat) ≠ 55 by decide), sr_o (show (74 : Nat) ≠ 55 by decide), sr_s, if_pos (show 1 < 100 by decide), if_pos (show 6 < 100 by decide), if_pos (show 7 < 100 by decide), if_pos (show 12 < 100 by decide), if_pos (show 16 < 100 by decide), if_pos (show 29 < 100 by decide), if_pos (show 32 < 100 by decide), if_pos (show 33 < 100 by decide), if_pos (show 34 < 100 by decide), if_pos (show 35 < 100 by decide)] at h3
  exact h3
theorem Op.ask3 {α : Type} {f g : St → Option (α × St)} (h : ∀ (t : Nat) (P : Dt), OK P t → ∃ r : α, (∀ S, RC P S → ∃ S1, f S = some (r, S1) ∧ KC S S1) ∧ (∀ T, RM P T → ∃ T1, g T = some (r, T1) ∧ KH T T1)) : Op f g := by
  intro t P hO ht
  obtain ⟨r, h1, h2⟩ := h t P hO
  have h8 : P 20 3 ≤ 8 := hO.2.2.2.2.2.1
  refine ⟨r, P, hO.next ht, fun S hR => ?_, fun T hR => ?_⟩
  · obtain ⟨S1, e1, k1⟩ := h1 S hR
    exact ⟨S1, e1, hR.kc h8 k1, fun c hc => k1 c (Or.inr hc)⟩
  · obtain ⟨T1, e1, k1⟩ := h2 T hR
    refine ⟨T1, e1, hR.kh h8 k1, fun c hc => ?_⟩
    funext k
    exact k1 c k (Or.inl hc) (Or.inl (by omega))
theorem i10 : ¬ (1 : Int32) = 0 := by decide
theorem i00 : (0 : Int32) = 0 := rfl
theorem OK.h8 {P : Dt} {t : Nat} (h : OK P t) : P 20 3 ≤ 8 := h.2.2.2.2.2.1
theorem OK.h12 {P : Dt} {t : Nat} (h : OK P t) : P 20 1 ≤ 12 := h.2.2.1
def isC (P : Dt) (x : Int32) : Prop := 0 ≤ x ∧ x < nI (P 20 3)
def isH (P : Dt) (x : Int32) : Prop := 0 ≤ x ∧ x < nI (P 20 1)
theorem c7y {P : Dt} {S : St} (hR : RC P S) {x : Int32} (h : isC P x) : f_X7_isCart x S = some (1, S) := by
  rw [f_isCart7, hR.2.2.2.2.2.1]; exact congrArg (fun v => some (v, S)) (if_pos h)
theorem c7n {P : Dt} {S : St} (hR : RC P S) {x : Int32} (h : ¬ isC P x) : f_X7_isCart x S = some (0, S) := by
  rw [f_isCart7, hR.2.2.2.2.2.1]; exact congrArg (fun v => some (v, S)) (if_neg h)
theorem c8y {P : Dt} {S : St} {t : Nat} (hO : OK P t) (hR : RM P S) {x : Int32} (h : isC P x) : f_X8_isCart x S = some (1, S) := by
  rw [f_isCart8 x S (n := P 20 3) (by have := hO.h8; omega) hR.2.2.2.2.2.1]; exact congrArg (fun v => some (v, S)) (if_pos h)
theorem c8n {P : Dt} {S : St} {t : Nat} (hO : OK P t) (hR : RM P S) {x : Int32} (h : ¬ isC P x) : f_X8_isCart x S = some (0, S) := by
  rw [f_isCart8 x S (n := P 20 3) (by have := hO.h8; omega) hR.2.2.2.2.2.1]; exact congrArg (fun v => some (v, S)) (if_neg h)
theorem h7y {P : Dt} {S : St} (hR : RC P S) {x : Int32} (h : isH P x) : f_X7_isCell x S = some (1, S) := by
  rw [f_isCell7, hR.2.2.1]; exact congrArg (fun v => some (v, S)) (if_pos h)
theorem h7n {P : Dt} {S : St} (hR : RC P S) {x : Int32} (h : ¬ isH P x) : f_X7_isCell x S = some (0, S) := by
  rw [f_isCell7, hR.2.2.1]; exact congrArg (fun v => some (v, S)) (if_neg h)
theorem h8y {P : Dt} {S : St} {t : Nat} (hO : OK P t) (hR : RM P S) {x : Int32} (h : isH P x) : f_X8_isCell x S = some (1, S) := by
  rw [f_isCell8 x S (n := P 20 1) (by have := hO.h12; omega) hR.2.2.1]; exact congrArg (fun v => some (v, S)) (if_pos h)
theorem h8n {P : Dt} {S : St} {t : Nat} (hO : OK P t) (hR : RM P S) {x : Int32} (h : ¬ isH P x) : f_X8_isCell x S = some (0, S) := by
  rw [f_isCell8 x S (n := P 20 1) (by have := hO.h12; omega) hR.2.2.1]; exact congrArg (fun v => some (v, S)) (if_neg h)
theorem w7y {x a b : Int32} {S : St} (h : a ≤ x ∧ x ≤ b) : f_X7_isWithin x a b S = some (1, S) := by rw [f_isWithin, if_pos h]
theorem w7n {x a b : Int32} {S : St} (h : ¬ (a ≤ x ∧ x ≤ b)) : f_X7_isWithin x a b S = some (0, S) := by rw [f_isWithin, if_neg h]
theorem w8y {x a b : Int32} {la lb : Int64} {S : St} (h : a ≤ x ∧ x ≤ b) (ha : a.toInt64 = la := by decide) (hb : b.toInt64 = lb := by decide) : f_X8_in x.toInt64 la lb S = some (1, S) := by rw [f_in x a b la lb ha hb, if_pos h]
theorem w8n {x a b : Int32} {la lb : Int64} {S : St} (h : ¬ (a ≤ x ∧ x ≤ b)) (ha : a.toInt64 = la := by decide) (hb : b.toInt64 = lb := by decide) : f_X8_in x.toInt64 la lb S = some (0, S) := by rw [f_in x a b la lb ha hb, if_neg h]
def isSw (x : Int32) : Prop := 0 ≤ x ∧ x ≤ 9999
theorem s7y {x : Int32} {S : St} (h : isSw x) : f_X7_isSwing x S = some (1, S) := by rw [f_isSwing7]; exact congrArg (fun v => some (v, S)) (if_pos h)
theorem s7n {x : Int32} {S : St} (h : ¬ isSw x) : f_X7_isSwing x S = some (0, S) := by rw [f_isSwing7]; exact congrArg (fun v => some (v, S)) (if_neg h)
theorem s8y {x : Int32} {S : St} (h : isSw x) : f_X8_isSwing x S = some (1, S) := by rw [f_isSwing8]; exact congrArg (fun v => some (v, S)) (if_pos h)
theorem s8n {x : Int32} {S : St} (h : ¬ isSw x) : f_X8_isSwing x S = some (0, S) := by rw [f_isSwing8]; exact congrArg (fun v => some (v, S)) (if_neg h)
theorem isSw_nI {x : Int32} (h : isSw x) : ∃ v : Nat, v ≤ 9999 ∧ x = nI v := rngle (n := 9999) (by decide) h.1 h.2
theorem nI0 {n : Nat} (hn : n < 2 ^ 31) : (nI n = 0) ↔ n = 0 := nI_eq (b := 0) hn (by decide)
theorem l8y {P : Dt} {S : St} {t : Nat} (hO : OK P t) (hR : RM P S) (h : P 20 1 ≠ 0) : f_X8_lacks S = some (0, S) := by
  unfold f_X8_lacks
  rw [hR.2.2.1, if_neg (fun q => h ((nI0 (by have := hO.h12; omega)).mp q))]
theorem l8n {P : Dt} {S : St} (hR : RM P S) (h : P 20 1 = 0) : f_X8_lacks S = some (1, S) := by
  unfold f_X8_lacks
  rw [hR.2.2.1, h, if_pos (by decide)]
/-- the refusals of a run, the class's -/
theorem r7c {P : Dt} {S : St} (hR : RC P S) {x1 x2 x3 : Int32} (h : ¬ isC P x1) : f_X7_refusalOfRun x1 x2 x3 S = some (-101, S) := by
  unfold f_X7_refusalOfRun
  rw [c7n hR h, bnd_some, if_pos i00]
theorem r7h {P : Dt} {S : St} (hR : RC P S) {x1 x2 x3 : Int32} (h : isC P x1) (h1 : P 20 1 = 0) : f_X7_refusalOfRun x1 x2 x3 S = some (-103, S) := by
  unfold f_X7_refusalOfRun
  rw [c7y hR h, bnd_some, if_neg i10, hR.2.2.1, h1, if_pos (by decide)]
theorem r7s {P : Dt} {S : St} {t : Nat} (hO : OK P t) (hR : RC P S) {x1 x2 x3 : Int32} (h : isC P x1) (h1 : P 20 1 ≠ 0) (h2 : ¬ isSw x2) : f_X7_refusalOfRun x1 x2 x3 S = some (-102, S) := by
  unfold f_X7_refusalOfRun
  rw [c7y hR h, bnd_some, if_neg i10, hR.2.2.1, if_neg (fun q => h1 ((nI0 (by have := hO.h12; omega)).mp q)), s7n h2, bnd_some, if_pos i00]
theorem r7w {P : Dt} {S : St} {t : Nat} (hO : OK P t) (hR : RC P S) {x1 x2 : Int32} (h : isC P x1) (h1 : P 20 1 ≠ 0) (h2 : isSw x2) : f_X7_refusalOfRun x1 x2 0 S = some (-102, S) := by
  unfold f_X7_refusalOfRun
  rw [c7y hR h, bnd_some, if_neg i10, hR.2.2.1, if_neg (fun q => h1 ((nI0 (by have := hO.h12; omega)).mp q)), s7y h2, bnd_some, if_neg i10, if_pos i00]
theorem r7y {P : Dt} {S : St} {t : Nat} (hO : OK P t) (hR : RC P S) {x1 x2 : Int32} (h : isC P x1) (h1 : P 20 1 ≠ 0) (h2 : isSw x2) : f_X7_refusalOfRun x1 x2 1 S = some (0, S) := by
  unfold f_X7_refusalOfRun
  rw [c7y hR h, bnd_some, if_neg i10, hR.2.2.1, if_neg (fun q => h1 ((nI0 (by have := hO.h12; omega)).mp q)), s7y h2, bnd_some, if_neg i10, if_neg i10]
theorem wi {x a b : Int32} {S : St} : ∃ v : Int32, f_X7_isWithin x a b S = some (v, S) ∧ ((a ≤ x ∧ x ≤ b) → v = 1) ∧ (¬ (a ≤ x ∧ x ≤ b) → v = 0) := ⟨_, f_isWithin x a b S, fun h => if_pos h, fun h => if_neg h⟩
theorem n101 : ¬ (-101 : Int32) = 0 := by decide
theorem n102 : ¬ (-102 : Int32) = 0 := by decide
theorem n103 : ¬ (-103 : Int32) = 0 := by decide
-- run
theorem op_run (x1 x2 x3 : Int32) : Op (f_X7_run x1 x2 x3) (f_X8_run x1 x2 x3) := by
  refine Op.ask (fun t P hO => ?_)
  by_cases hc : isC P x1
  · by_cases hh : P 20 1 = 0
    · refine ⟨-103, fun S hR => ⟨S, ?_, KC.rf S⟩, fun T hR => ⟨T, ?_, KM.rf T⟩⟩
      · unfold f_X7_run
        rw [f_isWithin, bnd_some, r7h hR hc hh, bnd_some, if_neg n103]
      · unfold f_X8_run
        rw [c8y hO hR hc, bnd_some, if_neg i10, l8n hR hh, bnd_some, if_neg i10]
    · by_cases hs : isSw x2
      · by_cases hw : 0 ≤ x3 ∧ x3 ≤ 3
        · obtain ⟨j, hj, rfl⟩ := rng (by have := hO.h8; omega) hc
          obtain ⟨x, hx, rfl⟩ := isSw_nI hs
          obtain ⟨w, hw', rfl⟩ := rngle (n := 3) (by decide) hw.1 hw.2
          refine ⟨nI (goN (dtOf P j) x 0 w), fun S hR => ?_, fun T hR => ?_⟩
          · obtain ⟨S1, e1, k1, r1, -⟩ := f_goDown hR hO hj hh (show x ≤ 17000 by omega)
            refine ⟨S1, ?_, k1.kc⟩
            unfold f_X7_run
            rw [w7y hw, bnd_some, r7y hO hR hc hh hs, bnd_some, if_pos i00, e1, bnd_some]
            unfold f_X6_tell
            rcases (show w = 0 ∨ w = 1 ∨ w = 2 ∨ w = 3 by omega) with rfl | rfl | rfl | rfl
            · rw [if_pos (by decide), bnd_some, r1.1]
            · rw [if_neg (by decide), if_pos (by decide), bnd_some, r1.2.1]
            · rw [if_neg (by decide), if_neg (by decide), if_pos (by decide), bnd_some, r1.2.2.1]
            · rw [if_neg (by decide), if_neg (by decide), if_neg (by decide), bnd_some, r1.2.2.2.1]
          · unfold f_X8_run
            rw [c8y hO hR hc, bnd_some, if_neg i10, l8y hO hR hh, bnd_some, if_pos i00, s8y hs, bnd_some, if_neg i10, w8y hw, bnd_some, if_neg i10]
            obtain ⟨T1, e1, k1, r1, -⟩ := f_takeGo (fun S_11 => if nI w = 0 then some (S_11 55 22, S_11) else if nI w = 1 then some (S_11 55 23, S_11) else if nI w = 2 then some (S_11 55 24, S_11) else some (S_11 55 25, S_11)) hR hO hj hh (show x ≤ 17000 by omega)
            refine ⟨T1, ?_, k1⟩
            rw [e1]
            rcases (show w = 0 ∨ w = 1 ∨ w = 2 ∨ w = 3 by omega) with rfl | rfl | rfl | rfl
            · rw [if_pos (by decide), r1.1]
            · rw [if_neg (by decide), if_pos (by decide), r1.2.1]
            · rw [if_neg (by decide), if_neg (by decide), if_pos (by decide), r1.2.2.1]
            · rw [if_neg (by decide), if_neg (by decide), if_neg (by decide), r1.2.2.2.1]
        · refine ⟨-102, fun S hR => ⟨S, ?_, KC.rf S⟩, fun T hR => ⟨T, ?_, KM.rf T⟩⟩
          · unfold f_X7_run
            rw [w7n hw, bnd_some, r7w hO hR hc hh hs, bnd_some, if_neg n102]
          · unfold f_X8_run
            rw [c8y hO hR hc, bnd_some, if_neg i10, l8y hO hR hh, bnd_some, if_pos i00, s8y hs, bnd_some, if_neg i10, w8n hw, bnd_some, if_pos i00]
      · refine ⟨-102, fun S hR => ⟨S, ?_, KC.rf S⟩, fun T hR => ⟨T, ?_, KM.rf T⟩⟩
        · unfold f_X7_run
          rw [f_isWithin, bnd_some, r7s hO hR hc hh hs, bnd_some, if_neg n102]
        · unfold f_X8_run
          rw [c8y hO hR hc, bnd_some, if_neg i10, l8y hO hR hh, bnd_some, if_pos i00, s8n hs, bnd_some, if_pos i00]
  · refine ⟨-101, fun S hR => ⟨S, ?_, KC.rf S⟩, fun T hR => ⟨T, ?_, KM.rf T⟩⟩
    · unfold f_X7_run
      rw [f_isWithin, bnd_some, r7c hR hc, bnd_some, if_neg n101]
    · unfold f_X8_run
      rw [c8n hO hR hc, bnd_some, if_pos i00]
