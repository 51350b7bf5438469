-- ===== the letters read as a hill =====
-- letter i, and 0 beyond
def PG (P : Dt) (S : St) : Prop := S 1 1 = nI (P 20 0) ∧ ∀ j, j < P 20 0 → S 2 j = nI (P 0 j)
theorem RC.pg {P : Dt} {S : St} (h : RC P S) : PG P S := ⟨h.1, h.2.1⟩
def pt (P : Dt) (i : Nat) : Nat := if i < P 20 0 then P 0 i else 0
theorem f_at {P : Dt} {t i : Nat} {S : St} (hR : PG P S) (hO : OK P t) (hi : i < 1000) : f_X5_at (nI i) S = some (nI (pt P i), S) := by
  have h50 : P 20 0 ≤ 50 := hO.1
  unfold f_X5_at pt
  rw [if_neg (nI_pos (by omega)), hR.1]
  by_cases h : i < P 20 0
  · rw [if_neg (nI_ge h (by omega)), if_pos h, inb_nI (show i < 50 by omega) (by decide), grd_t, cl_nI (by omega), hR.2 i h]
  · rw [if_pos (nI_le (by omega) (by omega)), if_neg h]; rfl
theorem f_atN {x : Int32} {S : St} (h : x < 0) : f_X5_at x S = some (0, S) := by
  unfold f_X5_at
  rw [if_pos h]
theorem pt_b {P : Dt} {t : Nat} (hO : OK P t) (i : Nat) : pt P i ≤ 126 := by
  unfold pt
  by_cases h : i < P 20 0
  · rw [if_pos h]; exact (hO.2.1 i h).2
  · rw [if_neg h]; omega
theorem pt_in {P : Dt} {t : Nat} (hO : OK P t) {i : Nat} (h : i < P 20 0) : pt P i = P 0 i ∧ 1 ≤ pt P i := by
  unfold pt
  rw [if_pos h]
  exact ⟨rfl, (hO.2.1 i h).1⟩
theorem f_isDig {P : Dt} {t i lo : Nat} {S : St} (hR : PG P S) (hO : OK P t) (hi : i < 1000) (hlo : lo ≤ 1) : f_X5_isDigit (nI i) (nI lo) S = some (if 48 + lo ≤ pt P i ∧ pt P i ≤ 57 then 1 else 0, S) := by
  have hb := pt_b hO i
  unfold f_X5_isDigit f_X5_digitAt
  rw [f_at hR hO hi, bnd_some, bnd_some]
  have hv : (nI (pt P i) - 48).toInt = (pt P i : Int) - 48 := pk_sub_toInt (b := 48) (by omega) (by decide)
  have h1 : (nI (pt P i) - 48 < nI lo) ↔ pt P i < 48 + lo := by
    rw [Int32.lt_iff_toInt_lt, hv, nI_toInt (by omega)]; omega
  have h2 : ((9 : Int32) < nI (pt P i) - 48) ↔ 57 < pt P i := by
    rw [Int32.lt_iff_toInt_lt, hv, show (9 : Int32).toInt = 9 from by decide]; omega
  by_cases q1 : pt P i < 48 + lo
  · rw [if_pos (h1.mpr q1), if_neg (by omega)]
  · rw [if_neg (fun z => q1 (h1.mp z)), f_at hR hO hi, bnd_some, bnd_some]
    by_cases q2 : 57 < pt P i
    · rw [if_pos (h2.mpr q2), if_neg (by omega)]
    · rw [if_neg (fun z => q2 (h2.mp z)), if_pos (by omega)]
def cm (p : Nat → Nat) : Nat → Nat
  | 0 => 0
  | i + 1 => cm p i + (if p i = 44 then 1 else 0)
def hs (p : Nat → Nat) (i : Nat) : Nat := if i = 0 then 0 else if p (i - 1) = 44 then 0 else if p (i - 1) = 98 then 2 else if p (i - 1) = 117 then 3 else if 2 ≤ i ∧ p (i - 2) = 98 then 3 else 1
def fitH (p : Nat → Nat) (i : Nat) : Bool := if hs p i = 0 then decide (48 ≤ p i ∧ p i ≤ 57) else if hs p i = 2 then decide (49 ≤ p i ∧ p i ≤ 57) else if p i = 44 then decide (cm p i < 11) else decide (hs p i = 1 ∧ (p i = 98 ∨ p i = 117))
theorem cm_le (p : Nat → Nat) : ∀ i, cm p i ≤ i := by
  intro i
  induction i with
  | zero => exact Nat.le_refl _
  | succ i ih => rw [cm]; split <;> omega
theorem nIe {a : Nat} (ha : a ≤ 126) (b : Nat) (hb : b ≤ 126) : (nI a = nI b) ↔ a = b := nI_eq (by omega) (by omega)
def b2 (b : Bool) : Int32 := if b = true then 1 else 0
theorem b2d (q : Prop) [Decidable q] : b2 (decide q) = if q then 1 else 0 := by
  unfold b2
  by_cases h : q
  · rw [if_pos h, if_pos (decide_eq_true h)]
  · rw [if_neg h, if_neg (by simp [h])]
theorem b2B (b : Bool) : isB (b2 b) = true := by cases b <;> decide
theorem f_fits {P : Dt} {t i : Nat} {S : St} (hR : PG P S) (hO : OK P t) (hi : i < P 20 0) : f_X5_fitsHill (nI i) (b2 (decide (cm (pt P) i < 11))) S = some (b2 (fitH (pt P) i), S) := by
  have h50 : P 20 0 ≤ 50 := hO.1
  have hb := pt_b hO i
  have dig0 : f_X5_fitsHill_b18 (nI i) S = some (b2 (decide (48 ≤ pt P i ∧ pt P i ≤ 57)), S) := by
    unfold f_X5_fitsHill_b18
    have := f_isDig hR hO (show i < 1000 by omega) (show 0 ≤ 1 by omega)
    have this' : f_X5_isDigit (nI i) 0 S = _ := this
    rw [this', bnd_some, b2d]
    by_cases q : 48 ≤ pt P i ∧ pt P i ≤ 57
    · rw [if_pos q]; rfl
    · rw [if_neg q]; rfl
  unfold f_X5_fitsHill
  by_cases h0 : i = 0
  · subst h0
    rw [f_atN (by decide), bnd_some, if_pos i00, dig0]
    rfl
  · have hp := pt_in hO (show i - 1 < P 20 0 by omega)
    have hbp := pt_b hO (i - 1)
    rw [nI_km (by omega), f_at hR hO (show i - 1 < 1000 by omega), bnd_some, if_neg (fun z => by have := (nI0 (by omega)).mp z; omega)]
    unfold fitH
    by_cases q1 : pt P (i - 1) = 44
    · have e : hs (pt P) i = 0 := by unfold hs; rw [if_neg h0, if_pos q1]
      rw [if_pos (show nI (pt P (i - 1)) = 44 from congrArg nI q1), dig0, e, if_pos rfl]
    · rw [if_neg (show ¬ nI (pt P (i - 1)) = 44 from fun z => q1 ((nIe hbp 44 (by omega)).mp z))]
      by_cases q2 : pt P (i - 1) = 98
      · have e : hs (pt P) i = 2 := by unfold hs; rw [if_neg h0, if_neg q1, if_pos q2]
        have := f_isDig hR hO (show i < 1000 by omega) (show 1 ≤ 1 by omega)
        have this' : f_X5_isDigit (nI i) 1 S = _ := this
        rw [if_pos (show nI (pt P (i - 1)) = 98 from congrArg nI q2), e, if_neg (by decide), if_pos rfl, this', bnd_some, b2d]
        by_cases q : 49 ≤ pt P i ∧ pt P i ≤ 57
        · rw [if_pos q]; rfl
        · rw [if_neg q]; rfl
      · rw [if_neg (show ¬ nI (pt P (i - 1)) = 98 from fun z => q2 ((nIe hbp 98 (by omega)).mp z)), f_at hR hO (show i < 1000 by omega), bnd_some]
        have e13 : hs (pt P) i = 1 ∨ hs (pt P) i = 3 := by
          unfold hs
          rw [if_neg h0, if_neg q1, if_neg q2]
          by_cases q3 : pt P (i - 1) = 117
          · rw [if_pos q3]; exact Or.inr rfl
          · rw [if_neg q3]
            by_cases q4 : 2 ≤ i ∧ pt P (i - 2) = 98
            · rw [if_pos q4]; exact Or.inr rfl
            · rw [if_neg q4]; exact Or.inl rfl
        rw [if_neg (show ¬ hs (pt P) i = 0 by omega), if_neg (show ¬ hs (pt P) i = 2 by omega)]
        by_cases q5 : pt P i = 44
        · rw [if_pos (show nI (pt P i) = 44 from congrArg nI q5), if_pos q5, b2B, grd_t]
        · rw [if_neg (show ¬ nI (pt P i) = 44 from fun z => q5 ((nIe hb 44 (by omega)).mp z)), if_neg q5]
          unfold f_X5_fitsHill_b72 f_X5_fitsHill_b73 f_X5_fitsHill_b100
          by_cases q3 : pt P (i - 1) = 117
          · have e : hs (pt P) i = 3 := by unfold hs; rw [if_neg h0, if_neg q1, if_neg q2, if_pos q3]
            rw [if_pos (show nI (pt P (i - 1)) = 117 from congrArg nI q3), if_pos i00, e, b2d, if_neg (fun z => absurd z.1 (by decide))]
          · rw [if_neg (show ¬ nI (pt P (i - 1)) = 117 from fun z => q3 ((nIe hbp 117 (by omega)).mp z))]
            have fin : ∀ S' : St, hs (pt P) i = 1 → (if nI (pt P i) = 98 then some ((1 : Int32), S') else if nI (pt P i) = 117 then some (1, S') else some (0, S')) = some (b2 (decide (hs (pt P) i = 1 ∧ (pt P i = 98 ∨ pt P i = 117))), S') := by
              intro S' e
              rw [b2d, e]
              by_cases r1 : pt P i = 98
              · rw [if_pos (show nI (pt P i) = 98 from congrArg nI r1), if_pos ⟨rfl, Or.inl r1⟩]
              · rw [if_neg (show ¬ nI (pt P i) = 98 from fun z => r1 ((nIe hb 98 (by omega)).mp z))]
                by_cases r2 : pt P i = 117
                · rw [if_pos (show nI (pt P i) = 117 from congrArg nI r2), if_pos ⟨rfl, Or.inr r2⟩]
                · rw [if_neg (show ¬ nI (pt P i) = 117 from fun z => r2 ((nIe hb 117 (by omega)).mp z)), if_neg (fun z => z.2.elim r1 r2)]
            by_cases hi2 : 2 ≤ i
            · rw [show nI i - 2 = nI (i - 2) from pk_sub (a := i) (b := 2) hi2, f_at hR hO (show i - 2 < 1000 by omega), bnd_some]
              by_cases q4 : pt P (i - 2) = 98
              · have e : hs (pt P) i = 3 := by unfold hs; rw [if_neg h0, if_neg q1, if_neg q2, if_neg q3, if_pos ⟨hi2, q4⟩]
                rw [if_pos (show nI (pt P (i - 2)) = 98 from congrArg nI q4), if_pos i00, e, b2d, if_neg (fun z => absurd z.1 (by decide))]
              · have e : hs (pt P) i = 1 := by unfold hs; rw [if_neg h0, if_neg q1, if_neg q2, if_neg q3, if_neg (fun z => q4 z.2)]
                rw [if_neg (show ¬ nI (pt P (i - 2)) = 98 from fun z => q4 ((nIe (pt_b hO _) 98 (by omega)).mp z)), if_neg i10, f_at hR hO (show i < 1000 by omega), bnd_some, f_at hR hO (show i < 1000 by omega), bnd_some]
                exact fin S e
            · have e : hs (pt P) i = 1 := by unfold hs; rw [if_neg h0, if_neg q1, if_neg q2, if_neg q3, if_neg (fun z => hi2 z.1)]
              obtain rfl : i = 1 := by omega
              rw [f_atN (by decide), bnd_some, if_neg (by decide), if_neg i10, f_at hR hO (show 1 < 1000 by omega), bnd_some, f_at hR hO (show 1 < 1000 by omega), bnd_some]
              exact fin S e
