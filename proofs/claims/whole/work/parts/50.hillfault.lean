-- ===== fault of a hill =====
def fa (f : Nat → Bool) : Nat → Nat → Nat
  | 0, i => i
  | d + 1, i => if f i = true then fa f d (i + 1) else i
theorem fa_le (f : Nat → Bool) : ∀ d i, i ≤ fa f d i ∧ fa f d i ≤ i + d := by
  intro d
  induction d with
  | zero => intro i; exact ⟨Nat.le_refl _, Nat.le_refl _⟩
  | succ d ih =>
    intro i
    rw [fa]
    by_cases h : f i = true
    · rw [if_pos h]
      have := ih (i + 1)
      omega
    · rw [if_neg h]; omega
theorem fa_all (f : Nat → Bool) : ∀ d i, fa f d i = i + d → ∀ k, i ≤ k → k < i + d → f k = true := by
  intro d
  induction d with
  | zero => intro i _ k h1 h2; omega
  | succ d ih =>
    intro i h k h1 h2
    rw [fa] at h
    by_cases q : f i = true
    · rw [if_pos q] at h
      by_cases hk : k = i
      · rw [hk]; exact q
      · exact ih (i + 1) (by omega) k (by omega) (by omega)
    · rw [if_neg q] at h; omega
theorem b2t : ¬ b2 true = 0 := by decide
theorem b2f : b2 false = 0 := by decide
theorem hf7 {P : Dt} {t : Nat} {S : St} (hR : PG P S) (hO : OK P t) : ∀ (d n i : Nat), i + d = P 20 0 → d < n → f_X5_hillFault_l4 n (nI (cm (pt P) i + 1)) (nI i) S = some (nI (fa (fitH (pt P)) d i), S) := by
  have h50 : P 20 0 ≤ 50 := hO.1
  intro d
  induction d with
  | zero =>
    intro n i hi hd
    obtain ⟨n, rfl⟩ : ∃ k, n = k + 1 := ⟨n - 1, by omega⟩
    obtain rfl : i = P 20 0 := by omega
    rw [f_X5_hillFault_l4, hR.1, if_pos (nI_le (Nat.le_refl _) (by omega)), fa]
  | succ d ih =>
    intro n i hi hd
    obtain ⟨n, rfl⟩ : ∃ k, n = k + 1 := ⟨n - 1, by omega⟩
    have hc := cm_le (pt P) i
    have hb := pt_b hO i
    have e : (if (12 : Int32) ≤ nI (cm (pt P) i + 1) then f_X5_hillFault_b25 (f_X5_hillFault_l4 n) (nI (cm (pt P) i + 1)) (nI i) 0 (nI i) S else f_X5_hillFault_b25 (f_X5_hillFault_l4 n) (nI (cm (pt P) i + 1)) (nI i) 1 (nI i) S) = f_X5_hillFault_b25 (f_X5_hillFault_l4 n) (nI (cm (pt P) i + 1)) (nI i) (b2 (decide (cm (pt P) i < 11))) (nI i) S := by
      rw [b2d]
      by_cases q : cm (pt P) i < 11
      · rw [if_pos q, if_neg (show ¬ (12 : Int32) ≤ nI (cm (pt P) i + 1) from nI_ge (b := 12) (by omega) (by decide))]
      · rw [if_neg q, if_pos (show (12 : Int32) ≤ nI (cm (pt P) i + 1) from nI_le (a := 12) (by omega) (by omega))]
    rw [f_X5_hillFault_l4, hR.1, if_neg (nI_ge (by omega) (by omega)), e]
    unfold f_X5_hillFault_b25 f_X5_hillFault_b46
    rw [f_fits hR hO (by omega), bnd_some, fa]
    by_cases q : fitH (pt P) i = true
    · rw [if_pos q, q, if_neg b2t, f_at hR hO (by omega), bnd_some, lett_e, lett_e, lett_e, nI_1, nI_1]
      have s1 : cm (pt P) (i + 1) = cm (pt P) i + (if pt P i = 44 then 1 else 0) := rfl
      have := ih n (i + 1) (by omega) (by omega)
      by_cases q4 : pt P i = 44
      · rw [if_pos (show nI (pt P i) = (44 : Int32) from congrArg nI q4)]
        rw [s1, if_pos q4] at this
        exact this
      · rw [if_neg (show ¬ nI (pt P i) = (44 : Int32) from fun z => q4 ((nIe hb 44 (by omega)).mp z))]
        rw [s1, if_neg q4, Nat.add_zero] at this
        exact this
    · rw [if_neg q, show fitH (pt P) i = false from Bool.eq_false_iff.mpr q, if_pos b2f]
theorem f_hillFault {P : Dt} {t : Nat} {S : St} (hR : PG P S) (hO : OK P t) : f_X5_hillFault S = some (nI (fa (fitH (pt P)) (P 20 0) 0), S) := by
  have h50 : P 20 0 ≤ 50 := hO.1
  have h := hf7 hR hO (P 20 0) FU 0 (by omega) (by unfold FU; omega)
  unfold f_X5_hillFault
  rw [show nI (cm (pt P) 0 + 1) = 1 from rfl, show nI 0 = 0 from rfl] at h
  exact h
theorem hs_2 (p : Nat → Nat) (i : Nat) : hs p i = 2 ↔ (i ≠ 0 ∧ p (i - 1) = 98) := by
  unfold hs
  repeat' split
  all_goals omega
theorem hs_0 (p : Nat → Nat) (i : Nat) : hs p i = 0 ↔ (i = 0 ∨ p (i - 1) = 44) := by
  unfold hs
  repeat' split
  all_goals omega
theorem hs_le (p : Nat → Nat) (i : Nat) : hs p i ≤ 3 := by
  unfold hs
  repeat' split
  all_goals omega
theorem hs_s (p : Nat → Nat) (i : Nat) : hs p (i + 1) = if p i = 44 then 0 else if p i = 98 then 2 else if p i = 117 then 3 else if hs p i = 2 then 3 else 1 := by
  have h2 := hs_2 p i
  have e : hs p (i + 1) = if i + 1 = 0 then 0 else if p i = 44 then 0 else if p i = 98 then 2 else if p i = 117 then 3 else if 2 ≤ i + 1 ∧ p (i - 1) = 98 then 3 else 1 := by
    unfold hs
    rw [Nat.add_sub_cancel, show i + 1 - 2 = i - 1 by omega]
  rw [e, if_neg (Nat.succ_ne_zero i)]
  by_cases q : hs p i = 2
  · rw [if_pos q, if_pos (show 2 ≤ i + 1 ∧ p (i - 1) = 98 from ⟨by omega, (h2.mp q).2⟩)]
  · rw [if_neg q, if_neg (show ¬ (2 ≤ i + 1 ∧ p (i - 1) = 98) from fun z => q (h2.mpr ⟨by omega, z.2⟩))]
theorem cm_s (p : Nat → Nat) (i : Nat) : cm p (i + 1) = cm p i + (if p i = 44 then 1 else 0) := rfl
theorem fit_t (p : Nat → Nat) (i : Nat) : fitH p i = true ↔ ((hs p i = 0 ∧ 48 ≤ p i ∧ p i ≤ 57) ∨ (hs p i = 2 ∧ 49 ≤ p i ∧ p i ≤ 57) ∨ ((hs p i = 1 ∨ hs p i = 3) ∧ p i = 44 ∧ cm p i < 11) ∨ (hs p i = 1 ∧ (p i = 98 ∨ p i = 117))) := by
  have h3 := hs_le p i
  unfold fitH
  repeat' split
  all_goals simp only [decide_eq_true_eq]
  all_goals omega
theorem fit_n {p : Nat → Nat} {i : Nat} (h : (hs p i = 1 ∧ p i ≠ 98 ∧ p i ≠ 117) ∨ hs p i = 3) : fitH p i = decide (p i = 44 ∧ cm p i < 11) := by
  rw [Bool.eq_iff_iff, fit_t, decide_eq_true_eq]
  omega
theorem cm_11 {p : Nat → Nat} : ∀ i, (∀ k, k < i → fitH p k = true) → cm p i ≤ 11 := by
  intro i
  induction i with
  | zero => intro _; exact Nat.zero_le _
  | succ i ih =>
    intro h
    have h1 := ih (fun k hk => h k (by omega))
    have h2 := (fit_t p i).mp (h i (by omega))
    rw [cm_s]
    split <;> omega
-- what is read of a hill
def h_dr (p : Nat → Nat) : Nat → Nat → Nat
  | 0, _ => 0
  | i + 1, c => if hs p i = 0 ∧ c = cm p i then p i - 48 else h_dr p i c
def h_sh (p : Nat → Nat) : Nat → Nat → Nat
  | 0, _ => 0
  | i + 1, c => if hs p i = 2 ∧ c = cm p i then p i - 48 else h_sh p i c
def h_bu (p : Nat → Nat) : Nat → Nat → Nat
  | 0, _ => 0
  | i + 1, c => if (hs p i = 1 ∧ p i = 117) ∧ c = cm p i then 1 else h_bu p i c
theorem h_drs (p : Nat → Nat) (i c : Nat) : h_dr p (i + 1) c = if hs p i = 0 ∧ c = cm p i then p i - 48 else h_dr p i c := rfl
theorem h_shs (p : Nat → Nat) (i c : Nat) : h_sh p (i + 1) c = if hs p i = 2 ∧ c = cm p i then p i - 48 else h_sh p i c := rfl
theorem h_bus (p : Nat → Nat) (i c : Nat) : h_bu p (i + 1) c = if (hs p i = 1 ∧ p i = 117) ∧ c = cm p i then 1 else h_bu p i c := rfl
theorem h_drn {p : Nat → Nat} {i c : Nat} (h : ¬ (hs p i = 0 ∧ c = cm p i)) : h_dr p (i + 1) c = h_dr p i c := by rw [h_drs, if_neg h]
theorem h_shn {p : Nat → Nat} {i c : Nat} (h : ¬ (hs p i = 2 ∧ c = cm p i)) : h_sh p (i + 1) c = h_sh p i c := by rw [h_shs, if_neg h]
theorem h_bun {p : Nat → Nat} {i c : Nat} (h : ¬ ((hs p i = 1 ∧ p i = 117) ∧ c = cm p i)) : h_bu p (i + 1) c = h_bu p i c := by rw [h_bus, if_neg h]
theorem h_z (p : Nat → Nat) : ∀ i, (∀ c, cm p i < c → h_sh p i c = 0 ∧ h_bu p i c = 0) ∧ (hs p i = 0 → h_sh p i (cm p i) = 0 ∧ h_bu p i (cm p i) = 0) := by
  intro i
  induction i with
  | zero => exact ⟨fun c _ => ⟨rfl, rfl⟩, fun _ => ⟨rfl, rfl⟩⟩
  | succ i ih =>
    have key : ∀ c, cm p i < c → h_sh p (i + 1) c = 0 ∧ h_bu p (i + 1) c = 0 := by
      intro c hc
      rw [h_shn (fun z => by omega), h_bun (fun z => by omega)]
      exact ih.1 c hc
    refine ⟨fun c hc => key c ?_, fun h => key _ ?_⟩
    · rw [cm_s] at hc; omega
    · have h4 : p i = 44 := by
        rcases (hs_0 p (i + 1)).mp h with h | h
        · omega
        · exact h
      rw [cm_s, if_pos h4]; omega
theorem h_b {p : Nat → Nat} : ∀ i, (∀ k, k < i → fitH p k = true) → ∀ c, h_dr p i c ≤ 9 ∧ h_sh p i c ≤ 9 ∧ h_bu p i c ≤ 1 := by
  intro i
  induction i with
  | zero => intro _ c; exact ⟨Nat.zero_le _, Nat.zero_le _, Nat.zero_le _⟩
  | succ i ih =>
    intro h c
    have h1 := ih (fun k hk => h k (by omega)) c
    have h2 := (fit_t p i).mp (h i (by omega))
    rw [h_drs, h_shs, h_bus]
    refine ⟨?_, ?_, ?_⟩
    · split <;> omega
    · split <;> omega
    · split <;> omega
