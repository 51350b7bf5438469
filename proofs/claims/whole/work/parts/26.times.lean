-- ===== times =====
theorem goR_b (D : Dt) : ∀ (d c x tm bk : Nat) (tk en : Nat → Nat), goR D d c x tm bk tk en 0 0 ≤ 2 ∧ goR D d c x tm bk tk en 0 2 ≤ tm + 1000 * d := by
  intro d
  induction d with
  | zero => intro c x tm bk tk en; exact ⟨by show 0 ≤ 2; omega, by show tm ≤ _; omega⟩
  | succ d ih =>
    intro c x tm bk tk en
    rw [goR]
    by_cases h1 : leftN D c (x + 20 * D 0 c) = 0
    · rw [if_pos h1]; exact ⟨by show 1 ≤ 2; omega, by show tm ≤ _; omega⟩
    · rw [if_neg h1]
      have hq : 1000 / rootN (leftN D c (x + 20 * D 0 c)) ≤ 1000 := Nat.div_le_self _ _
      by_cases h2 : 0 < D 1 c ∧ 100 * D 6 3 / D 1 c < leftN D c (x + 20 * D 0 c)
      · rw [if_pos h2]; exact ⟨by show 2 ≤ 2; omega, by show tm + _ ≤ _; omega⟩
      · rw [if_neg h2]
        have := ih (c + 1) (leftN D c (x + 20 * D 0 c)) (tm + 1000 / rootN (leftN D c (x + 20 * D 0 c))) (bk + brkN D c (x + 20 * D 0 c)) (addT D c (x + 20 * D 0 c) tk) (upN en c (leftN D c (x + 20 * D 0 c)))
        exact ⟨this.1, by omega⟩
/-- time + 1 of a run that is down, else 0 -/
def tN (D : Dt) (x : Nat) : Nat := if goN D x 0 0 = 0 then goN D x 0 2 + 1 else 0
def encT (t : Nat) : Int32 := if t = 0 then -1 else nI (t - 1)
theorem tN_le {D : Dt} (hB : MB D) (x : Nat) : tN D x ≤ 12001 := by
  unfold tN
  have h := (goR_b D (D 6 0) 0 x 0 0 (fun _ => 0) (fun _ => 0)).2
  have h12 := hB.1
  have : goN D x 0 2 ≤ 0 + 1000 * D 6 0 := h
  split <;> omega
def dW (D : Dt) (w : Nat) : Dt := fun i k => if i = 6 ∧ k = 2 then w else D i k
theorem dW_self (P : Dt) (j : Nat) : dW (dtOf P j) (P 5 j) = dtOf P j := by
  funext i k
  unfold dW
  by_cases h : i = 6 ∧ k = 2
  · obtain ⟨rfl, rfl⟩ := h
    rfl
  · rw [if_neg h]
theorem dW_MB {D : Dt} (h : MB D) {w : Nat} (hw : 10 ≤ w ∧ w ≤ 99) : MB (dW D w) := by
  obtain ⟨h1, h2, h3, h4, h5, h6, h7, h8⟩ := h
  exact ⟨h1, h2, hw.1, hw.2, h5, h6, h7, h8⟩
theorem dW_MC {D : Dt} {S : St} (h : MC D S) (w : Nat) : MC (dW D w) (su S 44 6 (nI w)) := by
  obtain ⟨h1, h2, h3, h4, h5, h6⟩ := h
  refine ⟨?_, ?_, su_s, ?_, fun c hc => ?_, fun k hk => ?_⟩
  · rw [su_o (by decide)]; exact h1
  · rw [su_k (by decide)]; exact h2
  · rw [su_k (by decide)]; exact h4
  · rw [su_o (by decide), su_o (by decide), su_o (by decide), su_o (by decide)]; exact h5 c hc
  · rw [su_o (by decide), su_o (by decide)]; exact h6 k hk
theorem dW_MM {D : Dt} {S : St} (h : MM D S) (w : Nat) : MM (dW D w) (su S 55 17 (nI w)) := by
  obtain ⟨h1, h2, h3, h4, h5, h6⟩ := h
  refine ⟨?_, ?_, su_s, ?_, fun c hc => ?_, fun k hk => ?_⟩
  · rw [su_k (by decide)]; exact h1
  · rw [su_k (by decide)]; exact h2
  · rw [su_k (by decide)]; exact h4
  · rw [su_o (by decide), su_o (by decide), su_o (by decide), su_o (by decide)]; exact h5 c hc
  · rw [su_o (by decide), su_o (by decide)]; exact h6 k hk
theorem f_ifDown {D : Dt} {S : St} {x : Nat} (hB : MB D) (h : RCo D S (goN D x)) : f_X6_timeIfDown S = some (encT (tN D x), S) := by
  unfold f_X6_timeIfDown tN encT
  have hb := (goR_b D (D 6 0) 0 x 0 0 (fun _ => 0) (fun _ => 0)).1
  have hb' : goN D x 0 0 ≤ 2 := hb
  rw [h.1, h.2.2.1]
  by_cases h0 : goN D x 0 0 = 0
  · rw [if_pos h0, h0, if_pos (by decide), if_neg (by omega), Nat.add_sub_cancel]
  · rw [if_neg h0, if_neg (fun q => h0 ((nI0 (by omega)).mp q)), if_pos rfl]
theorem f_timeAt {P : Dt} {t j x w : Nat} {S : St} (hR : RC P S) (hO : OK P t) (hj : j < P 20 3) (h0 : P 20 1 ≠ 0) (hx : x ≤ 17000) (hw : 10 ≤ w ∧ w ≤ 99) : ∃ S1, f_X7_timeAt (nI j) (nI x) (nI w) S = some (encT (tN (dW (dtOf P j) w) x), S1) ∧ KR S S1 := by
  have h8 : P 20 3 ≤ 8 := hO.h8
  unfold f_X7_timeAt
  rw [inb_nI (show j < 8 by omega) (by decide), grd_t, cl_nI (by omega), hR.2.2.2.2.2.2.2.1]
  obtain ⟨S1, e1, k1, m1, -⟩ := f_mount hR hO hj
  rw [e1, bnd_some, lett_e]
  have hB := dW_MB (MB_of hO hj) hw
  obtain ⟨S2, e2, k2, r2⟩ := f_go7 hB (show 0 < dtOf P j 6 0 from Nat.pos_of_ne_zero h0) hx (dW_MC m1 w)
  rw [e2, bnd_some, f_ifDown hB r2, bnd_some]
  exact ⟨S2, rfl, (k1.su 44 6 _ (by omega)).tr k2.kr⟩
theorem f_timeOf {P : Dt} {t j x : Nat} {S : St} (hR : RC P S) (hO : OK P t) (hj : j < P 20 3) (h0 : P 20 1 ≠ 0) (hx : x ≤ 17000) : ∃ S1, f_X7_timeOf (nI j) (nI x) S = some (encT (tN (dtOf P j) x), S1) ∧ KR S S1 := by
  have h8 : P 20 3 ≤ 8 := hO.h8
  unfold f_X7_timeOf
  rw [inb_nI (show j < 8 by omega) (by decide), grd_t, cl_nI (by omega), hR.2.2.2.2.2.2.2.1]
  obtain ⟨S1, e1, k1, m1, -⟩ := f_mount hR hO hj
  rw [e1, bnd_some]
  have hB := MB_of hO hj
  obtain ⟨S2, e2, k2, r2⟩ := f_go7 hB (show 0 < dtOf P j 6 0 from Nat.pos_of_ne_zero h0) hx m1
  rw [e2, bnd_some, f_ifDown hB r2, bnd_some]
  exact ⟨S2, rfl, k1.tr k2.kr⟩
theorem f_timeBy {P : Dt} {t j x w : Nat} {T : St} (hR : RM P T) (hO : OK P t) (hj : j < P 20 3) (h0 : P 20 1 ≠ 0) (hx : x ≤ 17000) (hw : 10 ≤ w ∧ w ≤ 99) : ∃ T1, f_X8_timeBy (nI j) (nI x) (nI w) T = some (encT (tN (dW (dtOf P j) w) x), T1) ∧ KM T T1 := by
  unfold f_X8_timeBy
  obtain ⟨T1, e1, k1, m1⟩ := f_take hR hO hj
  have hB := dW_MB (MB_of hO hj) hw
  obtain ⟨T2, e2, k2, r2⟩ := f_go8 hB (show 0 < dtOf P j 6 0 from Nat.pos_of_ne_zero h0) hx (dW_MM m1 w)
  rw [e1, bnd_some, lett_e, e2, bnd_some]
  refine ⟨T2, ?_, (k1.su 55 17 _ (by unfold pmB; omega)).tr k2.km⟩
  have hb' : goN (dW (dtOf P j) w) x 0 0 ≤ 2 := (goR_b _ _ 0 x 0 0 (fun _ => 0) (fun _ => 0)).1
  unfold tN encT
  rw [r2.1, r2.2.2.1]
  by_cases h1 : goN (dW (dtOf P j) w) x 0 0 = 0
  · rw [if_pos h1, h1, if_pos (by decide), if_neg (by omega), Nat.add_sub_cancel]
  · rw [if_neg h1, if_neg (fun q => h1 ((nI0 (by omega)).mp q)), if_pos rfl]
theorem f_downTime {P : Dt} {t j x : Nat} {T : St} (hR : RM P T) (hO : OK P t) (hj : j < P 20 3) (h0 : P 20 1 ≠ 0) (hx : x ≤ 17000) : ∃ T1, f_X8_downTime (nI j) (nI x) T = some (encT (tN (dtOf P j) x), T1) ∧ KM T T1 := by
  have h8 : P 20 3 ≤ 8 := hO.h8
  unfold f_X8_downTime
  obtain ⟨c1, c2, -⟩ := hO.2.2.2.2.2.2.1 j hj
  rw [inb_nI (show j < 8 by omega) (by decide), grd_t, cl_nI (by omega), (hR.2.2.2.2.2.2.1 j hj).1]
  obtain ⟨T1, e1, k1⟩ := f_timeBy hR hO hj h0 hx ⟨c1, c2⟩
  rw [dW_self] at e1
  rw [e1, bnd_some]
  exact ⟨T1, rfl, k1⟩
-- pace
theorem op_pace (x1 x2 x3 : Int32) : Op (f_X7_pace x1 x2 x3) (f_X8_pace x1 x2 x3) := by
  refine Op.ask (fun t P hO => ?_)
  by_cases hc : isC P x1
  · by_cases hh : isH P x3
    · by_cases hs : isSw x2
      · obtain ⟨j, hj, rfl⟩ := rng (by have := hO.h8; omega) hc
        obtain ⟨x, hx, rfl⟩ := isSw_nI hs
        obtain ⟨c, hc3, rfl⟩ := rng (by have := hO.h12; omega) hh
        have h0 : P 20 1 ≠ 0 := by omega
        have h12 := hO.h12
        refine ⟨enc (goN (dtOf P j) x 2 c), fun S hR => ?_, fun T hR => ?_⟩
        · obtain ⟨S1, e1, k1, r1, -⟩ := f_goDown hR hO hj h0 (show x ≤ 17000 by omega)
          refine ⟨S1, ?_, k1.kc⟩
          unfold f_X7_pace
          rw [c7y hR hc, bnd_some, if_neg i10, h7y hR hh, bnd_some, if_neg i10, s7y hs, bnd_some, if_neg i10, e1, bnd_some, inb_nI (show c < 12 by omega) (by decide), grd_t, cl_nI (by omega), r1.2.2.2.2.2.2 c (by omega)]
        · unfold f_X8_pace
          rw [c8y hO hR hc, bnd_some, if_neg i10, h8y hO hR hh, bnd_some, if_neg i10, s8y hs, bnd_some, if_neg i10]
          obtain ⟨T1, e1, k1, r1, -⟩ := f_takeGo (fun S_9 => grd (inb (nI c) 12) <| some (S_9 68 (nI c).toNatClampNeg, S_9)) hR hO hj h0 (show x ≤ 17000 by omega)
          refine ⟨T1, ?_, k1⟩
          rw [e1, inb_nI (show c < 12 by omega) (by decide), grd_t, cl_nI (by omega), r1.2.2.2.2.2.2 c (by omega)]
      · refine ⟨-102, fun S hR => ⟨S, ?_, KC.rf S⟩, fun T hR => ⟨T, ?_, KM.rf T⟩⟩
        · unfold f_X7_pace
          rw [c7y hR hc, bnd_some, if_neg i10, h7y hR hh, bnd_some, if_neg i10, s7n hs, bnd_some, if_pos i00]
        · unfold f_X8_pace
          rw [c8y hO hR hc, bnd_some, if_neg i10, h8y hO hR hh, bnd_some, if_neg i10, s8n hs, bnd_some, if_pos i00]
    · refine ⟨-101, fun S hR => ⟨S, ?_, KC.rf S⟩, fun T hR => ⟨T, ?_, KM.rf T⟩⟩
      · unfold f_X7_pace
        rw [c7y hR hc, bnd_some, if_neg i10, h7n hR hh, bnd_some, if_pos i00]
      · unfold f_X8_pace
        rw [c8y hO hR hc, bnd_some, if_neg i10, h8n hO hR hh, bnd_some, if_pos i00]
  · refine ⟨-101, fun S hR => ⟨S, ?_, KC.rf S⟩, fun T hR => ⟨T, ?_, KM.rf T⟩⟩
    · unfold f_X7_pace
      rw [c7n hR hc, bnd_some, if_pos i00]
    · unfold f_X8_pace
      rw [c8n hO hR hc, bnd_some, if_pos i00]
/-- a loss that is there -/
def isL (P : Dt) (x1 x2 : Int32) : Prop := isC P x1 ∧ 0 ≤ x2 ∧ x2 < nI (P 6 x1.toNatClampNeg)
theorem ls7 {P : Dt} {t : Nat} {S : St} (hO : OK P t) (hR : RC P S) (x1 x2 : Int32) : (isL P x1 x2 → f_X7_isLoss x1 x2 S = some (1, S)) ∧ (¬ isL P x1 x2 → f_X7_isLoss x1 x2 S = some (0, S)) := by
  unfold f_X7_isLoss
  by_cases hc : isC P x1
  · rw [c7y hR hc, bnd_some, if_neg i10]
    obtain ⟨j, hj, rfl⟩ := rng (by have := hO.h8; omega) hc
    have h8 := hO.h8
    unfold isL
    rw [inb_nI (show j < 8 by omega) (by decide), cl_nI (by omega), grd_t, (hR.2.2.2.2.2.2.1 j hj).2.1]
    by_cases h1 : x2 < 0
    · rw [if_pos h1]
      exact ⟨fun h => absurd h1 (Int32.not_lt.mpr h.2.1), fun _ => rfl⟩
    · rw [if_neg h1]
      by_cases h2 : nI (P 6 j) ≤ x2
      · rw [if_pos h2]
        exact ⟨fun h => absurd h2 (Int32.not_le.mpr h.2.2), fun _ => rfl⟩
      · rw [if_neg h2]
        exact ⟨fun _ => rfl, fun h => absurd ⟨hc, Int32.not_lt.mp h1, Int32.not_le.mp h2⟩ h⟩
  · rw [c7n hR hc, bnd_some, if_pos i00]
    exact ⟨fun h => absurd h.1 hc, fun _ => rfl⟩
theorem ls8 {P : Dt} {t : Nat} {S : St} (hO : OK P t) (hR : RM P S) (x1 x2 : Int32) : (isL P x1 x2 → f_X8_isLoss x1 x2 S = some (1, S)) ∧ (¬ isL P x1 x2 → f_X8_isLoss x1 x2 S = some (0, S)) := by
  unfold f_X8_isLoss
  by_cases hc : isC P x1
  · rw [c8y hO hR hc, bnd_some, if_neg i10]
    obtain ⟨j, hj, rfl⟩ := rng (by have := hO.h8; omega) hc
    have h8 := hO.h8
    have h5 := (hO.2.2.2.2.2.2.1 j hj).2.2.1
    unfold isL
    rw [inb_nI (show j < 8 by omega) (by decide), cl_nI (by omega), grd_t, (hR.2.2.2.2.2.2.1 j hj).2.1]
    by_cases h1 : 0 ≤ x2
    · by_cases h2 : x2 < nI (P 6 j)
      · rw [w8y (x := x2) (a := 0) (b := nI (P 6 j) - 1) ⟨h1, (le_pred (by omega) h1).mpr h2⟩ (by decide) rfl, bnd_some, if_neg i10]
        exact ⟨fun _ => rfl, fun h => absurd ⟨hc, h1, h2⟩ h⟩
      · rw [w8n (x := x2) (a := 0) (b := nI (P 6 j) - 1) (fun q => h2 ((le_pred (by omega) h1).mp q.2)) (by decide) rfl, bnd_some, if_pos i00]
        exact ⟨fun h => absurd h.2.2 h2, fun _ => rfl⟩
    · rw [w8n (x := x2) (a := 0) (b := nI (P 6 j) - 1) (fun q => h1 q.1) (by decide) rfl, bnd_some, if_pos i00]
      exact ⟨fun h => absurd h.2.1 h1, fun _ => rfl⟩
  · rw [c8n hO hR hc, bnd_some, if_pos i00]
    exact ⟨fun h => absurd h.1 hc, fun _ => rfl⟩
-- lost
theorem op_lost (x1 x2 x3 : Int32) : Op (f_X7_lost x1 x2 x3) (f_X8_lost x1 x2 x3) := by
  refine Op.ask (fun t P hO => ?_)
  have h8 := hO.h8
  by_cases hc : isC P x1
  · by_cases hl : x3 = -1 ∨ isL P x1 x3
    · have e7 : ∀ S, RC P S → f_X7_lost x1 x2 x3 S = f_X7_lost_b17 x1 x2 x3 S := by
        intro S hR
        unfold f_X7_lost
        by_cases h1 : x3 = -1
        · rw [if_pos h1]
        · rw [if_neg h1, (ls7 hO hR x1 x3).1 (hl.resolve_left h1), bnd_some, if_neg i10]
      have e8 : ∀ S, RM P S → f_X8_lost x1 x2 x3 S = f_X8_lost_b25 x1 x2 x3 S := by
        intro S hR
        unfold f_X8_lost
        rw [c8y hO hR hc, bnd_some, if_neg i10]
        by_cases h1 : x3 = -1
        · rw [if_pos h1]
        · rw [if_neg h1, (ls8 hO hR x1 x3).1 (hl.resolve_left h1), bnd_some, if_neg i10]
      by_cases hh : P 20 1 = 0
      · refine ⟨-103, fun S hR => ⟨S, ?_, KC.rf S⟩, fun T hR => ⟨T, ?_, KM.rf T⟩⟩
        · rw [e7 S hR]
          unfold f_X7_lost_b17
          rw [r7h hR hc hh, bnd_some, if_neg n103]
        · rw [e8 T hR]
          unfold f_X8_lost_b25
          rw [l8n hR hh, bnd_some, if_neg i10]
      · by_cases hs : isSw x2
        · obtain ⟨j, hj, rfl⟩ := rng (by omega) hc
          obtain ⟨x, hx, rfl⟩ := isSw_nI hs
          have h5 := (hO.2.2.2.2.2.2.1 j hj).2.2.1
          by_cases h1 : x3 = -1
          · refine ⟨nI (goN (dtOf P j) x 0 4), fun S hR => ?_, fun T hR => ?_⟩
            · obtain ⟨S1, e1, k1, r1, -⟩ := f_goDown hR hO hj hh (show x ≤ 17000 by omega)
              refine ⟨S1, ?_, k1.kc⟩
              rw [e7 S hR]
              unfold f_X7_lost_b17
              rw [r7y hO hR hc hh hs, bnd_some, if_pos i00, e1, bnd_some, if_pos h1, r1.2.2.2.2.1]
            · rw [e8 T hR]
              unfold f_X8_lost_b25
              rw [l8y hO hR hh, bnd_some, if_pos i00, s8y hs, bnd_some, if_neg i10]
              obtain ⟨T1, e1, k1, r1, -⟩ := f_takeGo (fun S_9 => if x3 = (-1) then some ((S_9 55 28), S_9) else grd (inb x3 6) <| some ((S_9 69 (x3 : Int32).toNatClampNeg), S_9)) hR hO hj hh (show x ≤ 17000 by omega)
              refine ⟨T1, ?_, k1⟩
              rw [e1, if_pos h1, r1.2.2.2.2.1]
          · have hl2 := hl.resolve_left h1
            obtain ⟨k, hk, rfl⟩ := rng (x := x3) (n := P 6 j) (by omega) (by have := hl2.2; rw [cl_nI (by omega)] at this; exact this)
            refine ⟨nI (goN (dtOf P j) x 1 k), fun S hR => ?_, fun T hR => ?_⟩
            · obtain ⟨S1, e1, k1, r1, -⟩ := f_goDown hR hO hj hh (show x ≤ 17000 by omega)
              refine ⟨S1, ?_, k1.kc⟩
              rw [e7 S hR]
              unfold f_X7_lost_b17
              rw [r7y hO hR hc hh hs, bnd_some, if_pos i00, e1, bnd_some, if_neg h1, inb_nI (show k < 5 by omega) (by decide), grd_t, cl_nI (by omega), r1.2.2.2.2.2.1 k hk]
            · rw [e8 T hR]
              unfold f_X8_lost_b25
              rw [l8y hO hR hh, bnd_some, if_pos i00, s8y hs, bnd_some, if_neg i10]
              obtain ⟨T1, e1, k1, r1, -⟩ := f_takeGo (fun S_9 => if nI k = (-1) then some ((S_9 55 28), S_9) else grd (inb (nI k) 6) <| some ((S_9 69 (nI k : Int32).toNatClampNeg), S_9)) hR hO hj hh (show x ≤ 17000 by omega)
              refine ⟨T1, ?_, k1⟩
              rw [e1, if_neg h1, inb_nI (show k < 6 by omega) (by decide), grd_t, cl_nI (by omega), r1.2.2.2.2.2.1 k hk]
        · refine ⟨-102, fun S hR => ⟨S, ?_, KC.rf S⟩, fun T hR => ⟨T, ?_, KM.rf T⟩⟩
          · rw [e7 S hR]
            unfold f_X7_lost_b17
            rw [r7s hO hR hc hh hs, bnd_some, if_neg n102]
          · rw [e8 T hR]
            unfold f_X8_lost_b25
            rw [l8y hO hR hh, bnd_some, if_pos i00, s8n hs, bnd_some, if_pos i00]
    · have h1 : ¬ x3 = -1 := fun h => hl (Or.inl h)
      have h2 : ¬ isL P x1 x3 := fun h => hl (Or.inr h)
      refine ⟨-101, fun S hR => ⟨S, ?_, KC.rf S⟩, fun T hR => ⟨T, ?_, KM.rf T⟩⟩
      · unfold f_X7_lost
        rw [if_neg h1, (ls7 hO hR x1 x3).2 h2, bnd_some, if_pos i00]
      · unfold f_X8_lost
        rw [c8y hO hR hc, bnd_some, if_neg i10, if_neg h1, (ls8 hO hR x1 x3).2 h2, bnd_some, if_pos i00]
  · refine ⟨-101, fun S hR => ⟨S, ?_, KC.rf S⟩, fun T hR => ⟨T, ?_, KM.rf T⟩⟩
    · unfold f_X7_lost
      by_cases h1 : x3 = -1
      · rw [if_pos h1]
        unfold f_X7_lost_b17
        rw [r7c hR hc, bnd_some, if_neg n101]
      · rw [if_neg h1, (ls7 hO hR x1 x3).2 (fun h => hc h.1), bnd_some, if_pos i00]
    · unfold f_X8_lost
      rw [c8n hO hR hc, bnd_some, if_pos i00]
-- weighed
theorem op_weighed (x1 x2 x3 : Int32) : Op (f_X7_weighed x1 x2 x3) (f_X8_weighed x1 x2 x3) := by
  refine Op.ask (fun t P hO => ?_)
  by_cases hc : isC P x1
  · by_cases hh : P 20 1 = 0
    · refine ⟨-103, fun S hR => ⟨S, ?_, KC.rf S⟩, fun T hR => ⟨T, ?_, KM.rf T⟩⟩
      · unfold f_X7_weighed
        rw [f_isWithin, bnd_some, r7h hR hc hh, bnd_some, if_neg n103]
      · unfold f_X8_weighed
        rw [c8y hO hR hc, bnd_some, if_neg i10, l8n hR hh, bnd_some, if_neg i10]
    · by_cases hs : isSw x2
      · by_cases hw : 10 ≤ x3 ∧ x3 ≤ 99
        · obtain ⟨j, hj, rfl⟩ := rng (by have := hO.h8; omega) hc
          obtain ⟨x, hx, rfl⟩ := isSw_nI hs
          obtain ⟨w, hw', rfl⟩ := rngle (n := 99) (by decide) (Int32.le_trans (by decide) hw.1) hw.2
          have hw1 : 10 ≤ w := (nI_leI (a := 10) (by decide) (by omega)).mp hw.1
          refine ⟨encT (tN (dW (dtOf P j) w) x), fun S hR => ?_, fun T hR => ?_⟩
          · obtain ⟨S1, e1, k1⟩ := f_timeAt hR hO hj hh (show x ≤ 17000 by omega) ⟨hw1, hw'⟩
            refine ⟨S1, ?_, k1.kc⟩
            unfold f_X7_weighed
            rw [w7y hw, bnd_some, r7y hO hR hc hh hs, bnd_some, if_pos i00, e1, bnd_some]
          · obtain ⟨T1, e1, k1⟩ := f_timeBy hR hO hj hh (show x ≤ 17000 by omega) ⟨hw1, hw'⟩
            refine ⟨T1, ?_, k1⟩
            unfold f_X8_weighed
            rw [c8y hO hR hc, bnd_some, if_neg i10, l8y hO hR hh, bnd_some, if_pos i00, s8y hs, bnd_some, if_neg i10, w8y hw, bnd_some, if_neg i10, e1, bnd_some]
        · refine ⟨-102, fun S hR => ⟨S, ?_, KC.rf S⟩, fun T hR => ⟨T, ?_, KM.rf T⟩⟩
          · unfold f_X7_weighed
            rw [w7n hw, bnd_some, r7w hO hR hc hh hs, bnd_some, if_neg n102]
          · unfold f_X8_weighed
            rw [c8y hO hR hc, bnd_some, if_neg i10, l8y hO hR hh, bnd_some, if_pos i00, s8y hs, bnd_some, if_neg i10, w8n hw, bnd_some, if_pos i00]
      · refine ⟨-102, fun S hR => ⟨S, ?_, KC.rf S⟩, fun T hR => ⟨T, ?_, KM.rf T⟩⟩
        · unfold f_X7_weighed
          rw [f_isWithin, bnd_some, r7s hO hR hc hh hs, bnd_some, if_neg n102]
        · unfold f_X8_weighed
          rw [c8y hO hR hc, bnd_some, if_neg i10, l8y hO hR hh, bnd_some, if_pos i00, s8n hs, bnd_some, if_pos i00]
  · refine ⟨-101, fun S hR => ⟨S, ?_, KC.rf S⟩, fun T hR => ⟨T, ?_, KM.rf T⟩⟩
    · unfold f_X7_weighed
      rw [f_isWithin, bnd_some, r7c hR hc, bnd_some, if_neg n101]
    · unfold f_X8_weighed
      rw [c8n hO hR hc, bnd_some, if_pos i00]
