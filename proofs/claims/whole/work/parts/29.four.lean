-- ===== wins and plan =====
theorem in3y {x : Int32} {S : St} (h : 0 ≤ x ∧ x ≤ 3) : f_X8_in x.toInt64 0 3 S = some (1, S) := w8y h
theorem in3n {x : Int32} {S : St} (h : ¬ (0 ≤ x ∧ x ≤ 3)) : f_X8_in x.toInt64 0 3 S = some (0, S) := w8n h
theorem in1y {x : Int32} {S : St} (h : 0 ≤ x ∧ x ≤ 1) : f_X8_in x.toInt64 0 1 S = some (1, S) := w8y h
theorem in1n {x : Int32} {S : St} (h : ¬ (0 ≤ x ∧ x ≤ 1)) : f_X8_in x.toInt64 0 1 S = some (0, S) := w8n h
def isF (P : Dt) (x1 x2 x3 x4 : Int32) : Prop := isC P x1 ∧ isC P x2 ∧ isC P x3 ∧ isC P x4
def unl (x1 x2 x3 x4 : Int32) : Prop := x1 ≠ x2 ∧ x1 ≠ x3 ∧ x1 ≠ x4 ∧ x2 ≠ x3 ∧ x2 ≠ x4 ∧ x3 ≠ x4
theorem f7n {P : Dt} {S : St} (hR : RC P S) {x1 x2 x3 x4 : Int32} (h : ¬ isF P x1 x2 x3 x4) : f_X7_refusalOfFour x1 x2 x3 x4 S = some (-101, S) := by
  unfold f_X7_refusalOfFour
  by_cases h1 : isC P x1
  · by_cases h2 : isC P x2
    · by_cases h3 : isC P x3
      · have h4 : ¬ isC P x4 := fun q => h ⟨h1, h2, h3, q⟩
        simp only [c7y hR h1, c7y hR h2, c7y hR h3, c7n hR h4, bnd_some, i10, ↓reduceIte]
      · simp only [c7y hR h1, c7y hR h2, c7n hR h3, bnd_some, i10, ↓reduceIte]
    · simp only [c7y hR h1, c7n hR h2, bnd_some, i10, ↓reduceIte]
  · simp only [c7n hR h1, bnd_some, ↓reduceIte]
theorem f7h {P : Dt} {t : Nat} {S : St} (hO : OK P t) (hR : RC P S) {x1 x2 x3 x4 : Int32} (h : isF P x1 x2 x3 x4) (hu : P 20 1 = 0 ∨ ¬ unl x1 x2 x3 x4) : f_X7_refusalOfFour x1 x2 x3 x4 S = some (-103, S) := by
  have b74 : ∀ s : Int32, (s = 0 → P 20 1 = 0) → f_X7_refusalOfFour_b74 s S = some (-103, S) := by
    intro s hs
    unfold f_X7_refusalOfFour_b74 f_X7_refusalOfFour_b91
    rw [hR.2.2.1]
    by_cases h0 : P 20 1 = 0
    · rw [h0, if_pos (by decide)]
    · rw [if_neg (fun q => h0 ((nI0 (by have := hO.h12; omega)).mp q)), if_neg (fun q => h0 (hs q))]
  have b69 : f_X7_refusalOfFour_b69 S = some (-103, S) := b74 1 (fun q => absurd q i10)
  unfold f_X7_refusalOfFour
  simp only [c7y hR h.1, c7y hR h.2.1, c7y hR h.2.2.1, c7y hR h.2.2.2, bnd_some, i10, ↓reduceIte, b69]
  by_cases e1 : x1 = x2
  · rw [if_pos e1]
  by_cases e2 : x1 = x3
  · rw [if_neg e1, if_pos e2]
  by_cases e3 : x1 = x4
  · rw [if_neg e1, if_neg e2, if_pos e3]
  by_cases e4 : x2 = x3
  · rw [if_neg e1, if_neg e2, if_neg e3, if_pos e4]
  by_cases e5 : x2 = x4
  · rw [if_neg e1, if_neg e2, if_neg e3, if_neg e4, if_pos e5]
  by_cases e6 : x3 = x4
  · rw [if_neg e1, if_neg e2, if_neg e3, if_neg e4, if_neg e5, if_pos e6]
  rw [if_neg e1, if_neg e2, if_neg e3, if_neg e4, if_neg e5, if_neg e6]
  exact b74 0 (fun _ => hu.resolve_right (fun q => q ⟨e1, e2, e3, e4, e5, e6⟩))
theorem f7y {P : Dt} {t : Nat} {S : St} (hO : OK P t) (hR : RC P S) {x1 x2 x3 x4 : Int32} (h : isF P x1 x2 x3 x4) (h0 : P 20 1 ≠ 0) (hu : unl x1 x2 x3 x4) : f_X7_refusalOfFour x1 x2 x3 x4 S = some (0, S) := by
  unfold f_X7_refusalOfFour
  simp only [c7y hR h.1, c7y hR h.2.1, c7y hR h.2.2.1, c7y hR h.2.2.2, bnd_some, i10, ↓reduceIte]
  rw [if_neg hu.1, if_neg hu.2.1, if_neg hu.2.2.1, if_neg hu.2.2.2.1, if_neg hu.2.2.2.2.1, if_neg hu.2.2.2.2.2]
  unfold f_X7_refusalOfFour_b74
  rw [hR.2.2.1, if_neg (fun q => h0 ((nI0 (by have := hO.h12; omega)).mp q)), if_pos rfl]
theorem f8n {P : Dt} {t : Nat} {S : St} (hO : OK P t) (hR : RM P S) {x1 x2 x3 x4 : Int32} (h : ¬ isF P x1 x2 x3 x4) : f_X8_areFour x1 x2 x3 x4 S = some (0, S) := by
  unfold f_X8_areFour
  by_cases h1 : isC P x1
  · by_cases h2 : isC P x2
    · by_cases h3 : isC P x3
      · have h4 : ¬ isC P x4 := fun q => h ⟨h1, h2, h3, q⟩
        simp only [c8y hO hR h1, c8y hO hR h2, c8y hO hR h3, c8n hO hR h4, bnd_some, i10, ↓reduceIte]
      · simp only [c8y hO hR h1, c8y hO hR h2, c8n hO hR h3, bnd_some, i10, ↓reduceIte]
    · simp only [c8y hO hR h1, c8n hO hR h2, bnd_some, i10, ↓reduceIte]
  · simp only [c8n hO hR h1, bnd_some, ↓reduceIte]
theorem f8y {P : Dt} {t : Nat} {S : St} (hO : OK P t) (hR : RM P S) {x1 x2 x3 x4 : Int32} (h : isF P x1 x2 x3 x4) : f_X8_areFour x1 x2 x3 x4 S = some (1, S) := by
  unfold f_X8_areFour
  simp only [c8y hO hR h.1, c8y hO hR h.2.1, c8y hO hR h.2.2.1, c8y hO hR h.2.2.2, bnd_some, i10, ↓reduceIte]
theorem u8y {x1 x2 x3 x4 : Int32} {S : St} (hu : unl x1 x2 x3 x4) : f_X8_areUnlike x1 x2 x3 x4 S = some (1, S) := by
  unfold f_X8_areUnlike
  rw [if_neg hu.1, if_neg hu.2.1, if_neg hu.2.2.1, if_neg hu.2.2.2.1, if_neg hu.2.2.2.2.1, if_neg hu.2.2.2.2.2]
theorem u8n {x1 x2 x3 x4 : Int32} {S : St} (hu : ¬ unl x1 x2 x3 x4) : f_X8_areUnlike x1 x2 x3 x4 S = some (0, S) := by
  unfold f_X8_areUnlike
  by_cases e1 : x1 = x2
  · rw [if_pos e1]
  by_cases e2 : x1 = x3
  · rw [if_neg e1, if_pos e2]
  by_cases e3 : x1 = x4
  · rw [if_neg e1, if_neg e2, if_pos e3]
  by_cases e4 : x2 = x3
  · rw [if_neg e1, if_neg e2, if_neg e3, if_pos e4]
  by_cases e5 : x2 = x4
  · rw [if_neg e1, if_neg e2, if_neg e3, if_neg e4, if_pos e5]
  by_cases e6 : x3 = x4
  · rw [if_neg e1, if_neg e2, if_neg e3, if_neg e4, if_neg e5, if_pos e6]
  exact absurd ⟨e1, e2, e3, e4, e5, e6⟩ hu
def j4 (a b c d : Nat) : Nat → Nat := fun i => if i = 0 then a else if i = 1 then b else if i = 2 then c else d
theorem tf_j4 (P : Dt) (x a b c d : Nat) : tf P x a b c d = fun i => tN (dtOf P (j4 a b c d i)) x := by
  funext i
  unfold tf j4
  by_cases h0 : i = 0
  · rw [if_pos h0, if_pos h0]
  by_cases h1 : i = 1
  · rw [if_neg h0, if_pos h1, if_neg h0, if_pos h1]
  by_cases h2 : i = 2
  · rw [if_neg h0, if_neg h1, if_pos h2, if_neg h0, if_neg h1, if_pos h2]
  rw [if_neg h0, if_neg h1, if_neg h2, if_neg h0, if_neg h1, if_neg h2]
theorem lowN_le {v part : Nat} (hv : v ≤ 2000) : lowN v 1000 part ≤ 2000 := by
  unfold lowN
  have h1 := Nat.div_le_self v (Nat.gcd v 1000)
  have h2 := Nat.div_le_self 1000 (Nat.gcd v 1000)
  split <;> omega
-- wins
theorem op_wins (x1 x2 x3 x4 x5 x6 x7 x8 : Int32) : Op (f_X7_wins x1 x2 x3 x4 x5 x6 x7 x8) (f_X8_wins x1 x2 x3 x4 x5 x6 x7 x8) := by
  refine Op.ask (fun t P hO => ?_)
  have h8 := hO.h8
  by_cases hF : isF P x1 x2 x3 x4
  · by_cases hu : P 20 1 = 0 ∨ ¬ unl x1 x2 x3 x4
    · refine ⟨-103, fun S hR => ⟨S, ?_, KC.rf S⟩, fun T hR => ⟨T, ?_, KM.rf T⟩⟩
      · simp only [f_X7_wins, f7h hO hR hF hu, bnd_some, n103, ↓reduceIte]
      · by_cases hh : P 20 1 = 0
        · simp only [f_X8_wins, f8y hO hR hF, l8n hR hh, bnd_some, i10, ↓reduceIte]
        · simp only [f_X8_wins, f8y hO hR hF, l8y hO hR hh, u8n (hu.resolve_left hh), bnd_some, i10, ↓reduceIte]
    · have hh : P 20 1 ≠ 0 := fun q => hu (Or.inl q)
      have hun : unl x1 x2 x3 x4 := Classical.not_not.mp (fun q => hu (Or.inr q))
      by_cases hs : isSw x5
      · by_cases hw : 1 ≤ x6 ∧ x6 ≤ 99
        · by_cases h7 : 0 ≤ x7 ∧ x7 ≤ 3
          · by_cases hp : 0 ≤ x8 ∧ x8 ≤ 1
            · obtain ⟨a, ha, rfl⟩ := rng (by omega) hF.1
              obtain ⟨b, hb, rfl⟩ := rng (by omega) hF.2.1
              obtain ⟨c, hc, rfl⟩ := rng (by omega) hF.2.2.1
              obtain ⟨d, hd, rfl⟩ := rng (by omega) hF.2.2.2
              obtain ⟨x, hx, rfl⟩ := isSw_nI hs
              obtain ⟨s, hsl, rfl⟩ := isSl_nI hw
              obtain ⟨w, hw', rfl⟩ := rngle (n := 3) (by decide) h7.1 h7.2
              obtain ⟨p, hp', rfl⟩ := rngle (n := 1) (by decide) hp.1 hp.2
              have hV := winN_le (tf P x a b c d) s w (mate w 1) (mate w 2) (mate w 3)
              refine ⟨nI (lowN (winN (tf P x a b c d) s w (mate w 1) (mate w 2) (mate w 3)) 1000 p), fun S hR => ?_, fun T hR => ?_⟩
              · obtain ⟨S1, e1, k1, t1⟩ := f_takeTimes hR hO ha hb hc hd hh (show x ≤ 17000 by omega)
                refine ⟨S1, ?_, k1⟩
                have e2 := f_thousandths t1 (w := w) (s := 1) (by omega) (by omega) hsl
                rw [show (1 : Nat) % 3 + 1 = 2 from rfl, show ((1 : Nat) + 1) % 3 + 1 = 3 from rfl, show nI 1 = (1 : Int32) from rfl] at e2
                have hL := lowN_le (part := p) hV
                have e3 := f_lowest (v := winN (tf P x a b c d) s w (mate w 1) (mate w 2) (mate w 3)) (B := 1000) (by omega) (by omega) hp' S1
                rw [show lN 1000 = (1000 : Int64) from rfl] at e3
                simp only [f_X7_wins, f7y hO hR hF hh hun, s7y hs, w7y hw, w7y h7, w7y hp, bnd_some, i10, ↓reduceIte, e1, e2, nI_l (show winN (tf P x a b c d) s w (mate w 1) (mate w 2) (mate w 3) < 2 ^ 31 by omega), e3, lN_i]
              · simp only [f_X8_wins, f8y hO hR hF, l8y hO hR hh, u8y hun, s8y hs, sl8y hw, in3y h7, in1y hp, bnd_some, i10, ↓reduceIte]
                rw [tf_j4] at hV ⊢
                have hj : ∀ i, i < 4 → j4 a b c d i < P 20 3 := by
                  intro i hi
                  unfold j4
                  split
                  · exact ha
                  split
                  · exact hb
                  split
                  · exact hc
                  exact hd
                have go := @f_winsOf P t x s (j4 a b c d) T hR hO hj hh (by omega) hsl
                rcases (show w = 0 ∨ w = 1 ∨ w = 2 ∨ w = 3 by omega) with rfl | rfl | rfl | rfl
                · obtain ⟨T1, e1, k1⟩ := go (a := 0) (b := 1) (c := 2) (d := 3) (by decide) (by decide) (by decide) (by decide)
                  refine ⟨T1, ?_, k1⟩
                  have e1' : f_X8_winsOf (nI a) (nI b) (nI c) (nI d) (nI x) (nI s) T = _ := e1
                  rw [if_pos (by decide), e1', bnd_some, f_wins157 (winN_le _ _ _ _ _ _) hp']
                  rfl
                · obtain ⟨T1, e1, k1⟩ := go (a := 1) (b := 0) (c := 2) (d := 3) (by decide) (by decide) (by decide) (by decide)
                  refine ⟨T1, ?_, k1⟩
                  have e1' : f_X8_winsOf (nI b) (nI a) (nI c) (nI d) (nI x) (nI s) T = _ := e1
                  rw [if_neg (by decide), if_pos (by decide), e1', bnd_some, f_wins157 (winN_le _ _ _ _ _ _) hp', winN_sw]
                  rfl
                · obtain ⟨T1, e1, k1⟩ := go (a := 2) (b := 3) (c := 0) (d := 1) (by decide) (by decide) (by decide) (by decide)
                  refine ⟨T1, ?_, k1⟩
                  have e1' : f_X8_winsOf (nI c) (nI d) (nI a) (nI b) (nI x) (nI s) T = _ := e1
                  rw [if_neg (by decide), if_neg (by decide), if_pos (by decide), e1', bnd_some, f_wins157 (winN_le _ _ _ _ _ _) hp']
                  rfl
                · obtain ⟨T1, e1, k1⟩ := go (a := 3) (b := 2) (c := 0) (d := 1) (by decide) (by decide) (by decide) (by decide)
                  refine ⟨T1, ?_, k1⟩
                  have e1' : f_X8_winsOf (nI d) (nI c) (nI a) (nI b) (nI x) (nI s) T = _ := e1
                  rw [if_neg (by decide), if_neg (by decide), if_neg (by decide), e1', bnd_some, f_wins157 (winN_le _ _ _ _ _ _) hp', winN_sw]
                  rfl
            · refine ⟨-102, fun S hR => ⟨S, ?_, KC.rf S⟩, fun T hR => ⟨T, ?_, KM.rf T⟩⟩
              · simp only [f_X7_wins, f7y hO hR hF hh hun, s7y hs, w7y hw, w7y h7, w7n hp, bnd_some, i10, ↓reduceIte]
              · simp only [f_X8_wins, f8y hO hR hF, l8y hO hR hh, u8y hun, s8y hs, sl8y hw, in3y h7, in1n hp, bnd_some, i10, ↓reduceIte]
          · refine ⟨-102, fun S hR => ⟨S, ?_, KC.rf S⟩, fun T hR => ⟨T, ?_, KM.rf T⟩⟩
            · simp only [f_X7_wins, f7y hO hR hF hh hun, s7y hs, w7y hw, w7n h7, bnd_some, i10, ↓reduceIte]
            · simp only [f_X8_wins, f8y hO hR hF, l8y hO hR hh, u8y hun, s8y hs, sl8y hw, in3n h7, bnd_some, i10, ↓reduceIte]
        · refine ⟨-102, fun S hR => ⟨S, ?_, KC.rf S⟩, fun T hR => ⟨T, ?_, KM.rf T⟩⟩
          · simp only [f_X7_wins, f7y hO hR hF hh hun, s7y hs, w7n hw, bnd_some, i10, ↓reduceIte]
          · simp only [f_X8_wins, f8y hO hR hF, l8y hO hR hh, u8y hun, s8y hs, sl8n hw, bnd_some, i10, ↓reduceIte]
      · refine ⟨-102, fun S hR => ⟨S, ?_, KC.rf S⟩, fun T hR => ⟨T, ?_, KM.rf T⟩⟩
        · simp only [f_X7_wins, f7y hO hR hF hh hun, s7n hs, bnd_some, i10, ↓reduceIte]
        · simp only [f_X8_wins, f8y hO hR hF, l8y hO hR hh, u8y hun, s8n hs, bnd_some, i10, ↓reduceIte]
  · refine ⟨-101, fun S hR => ⟨S, ?_, KC.rf S⟩, fun T hR => ⟨T, ?_, KM.rf T⟩⟩
    · simp only [f_X7_wins, f7n hR hF, bnd_some, n101, ↓reduceIte]
    · simp only [f_X8_wins, f8n hO hR hF, bnd_some, ↓reduceIte]
