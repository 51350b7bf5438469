-- ===== the class reads a hill =====
theorem PG.fr {P : Dt} {S S1 : St} (h : PG P S) (e1 : S1 1 = S 1) (e2 : S1 2 = S 2) : PG P S1 := by
  unfold PG
  rw [e1, e2]
  exact h
theorem com7 {P : Dt} {t : Nat} {S : St} (hR : PG P S) (hO : OK P t) : ∀ (d n i : Nat), i + d = P 20 0 → d < n → f_X5_commas_l4 n (nI (cm (pt P) i)) (nI i) S = some (nI (cm (pt P) (P 20 0)), S) := by
  have h50 : P 20 0 ≤ 50 := hO.1
  intro d
  induction d with
  | zero =>
    intro n i hi hd
    obtain ⟨n, rfl⟩ : ∃ k, n = k + 1 := ⟨n - 1, by omega⟩
    obtain rfl : i = P 20 0 := by omega
    rw [f_X5_commas_l4, hR.1, if_pos (nI_le (Nat.le_refl _) (by omega))]
  | succ d ih =>
    intro n i hi hd
    obtain ⟨n, rfl⟩ : ∃ k, n = k + 1 := ⟨n - 1, by omega⟩
    have hb := pt_b hO i
    rw [f_X5_commas_l4, hR.1, if_neg (nI_ge (by omega) (by omega)), f_at hR hO (by omega), bnd_some]
    unfold f_X5_commas_b25
    rw [lett_e, lett_e, lett_e, nI_1, nI_1]
    have := ih n (i + 1) (by omega) (by omega)
    by_cases q4 : pt P i = 44
    · rw [if_pos (show nI (pt P i) = (44 : Int32) from congrArg nI q4)]
      rw [cm_s, if_pos q4] at this
      exact this
    · rw [if_neg (show ¬ nI (pt P i) = (44 : Int32) from fun z => q4 ((nIe hb 44 (by omega)).mp z))]
      rw [cm_s, if_neg q4, Nat.add_zero] at this
      exact this
theorem f_atP {P : Dt} {t i : Nat} {S : St} (hR : PG P S) (hO : OK P t) (hi : i < 1000) : f_X5_at (nI i - 1) S = some (nI (if i = 0 then 0 else pt P (i - 1)), S) := by
  by_cases h : i = 0
  · subst h
    rw [if_pos rfl]
    exact f_atN (by decide)
  · rw [if_neg h, nI_km (by omega), f_at hR hO (by omega)]
def okH (P : Dt) : Prop := fa (fitH (pt P)) (P 20 0) 0 = P 20 0 ∧ (hs (pt P) (P 20 0) = 1 ∨ hs (pt P) (P 20 0) = 3) ∧ 1 ≤ cm (pt P) (P 20 0)
theorem isH7 {P : Dt} {t : Nat} {S : St} (hR : PG P S) (hO : OK P t) : (okH P → f_X5_isHill S = some (1, S)) ∧ (¬ okH P → f_X5_isHill S = some (0, S)) := by
  have h50 : P 20 0 ≤ 50 := hO.1
  have hle := fa_le (fitH (pt P)) (P 20 0) 0
  have e0 := hs_0 (pt P) (P 20 0)
  have e2 := hs_2 (pt P) (P 20 0)
  have e3 := hs_le (pt P) (P 20 0)
  have hcl := cm_le (pt P) (P 20 0)
  have ec : f_X5_commas S = some (nI (cm (pt P) (P 20 0)), S) := by
    have h := com7 hR hO (P 20 0) FU 0 (by omega) (by unfold FU; omega)
    unfold f_X5_commas
    exact h
  obtain ⟨L, hLd⟩ : ∃ L, L = if P 20 0 = 0 then 0 else pt P (P 20 0 - 1) := ⟨_, rfl⟩
  have hL : L ≤ 126 := by
    rw [hLd]
    split
    · omega
    · exact pt_b hO _
  have l44 : L = 44 ↔ (P 20 0 ≠ 0 ∧ pt P (P 20 0 - 1) = 44) := by
    rw [hLd]
    split <;> omega
  have l98 : L = 98 ↔ (P 20 0 ≠ 0 ∧ pt P (P 20 0 - 1) = 98) := by
    rw [hLd]
    split <;> omega
  unfold f_X5_isHill okH
  rw [hR.1, f_atP hR hO (by omega), bnd_some, f_hillFault hR hO, bnd_some, hR.1, ec, bnd_some, ← hLd]
  by_cases q : fa (fitH (pt P)) (P 20 0) 0 = P 20 0
  · rw [if_pos (show nI (fa (fitH (pt P)) (P 20 0) 0) = nI (P 20 0) from congrArg nI q)]
    by_cases q1 : L = 44
    · rw [if_pos (show nI L = (44 : Int32) from congrArg nI q1)]
      exact ⟨fun h => absurd h (by omega), fun _ => rfl⟩
    · rw [if_neg (show ¬ nI L = (44 : Int32) from fun z => q1 ((nIe hL 44 (by omega)).mp z))]
      by_cases q2 : L = 98
      · rw [if_pos (show nI L = (98 : Int32) from congrArg nI q2)]
        exact ⟨fun h => absurd h (by omega), fun _ => rfl⟩
      · rw [if_neg (show ¬ nI L = (98 : Int32) from fun z => q2 ((nIe hL 98 (by omega)).mp z))]
        by_cases q3 : cm (pt P) (P 20 0) = 0
        · rw [if_pos (show nI (cm (pt P) (P 20 0)) ≤ (0 : Int32) from nI_le (b := 0) (by omega) (by decide))]
          exact ⟨fun h => absurd h (by omega), fun _ => rfl⟩
        · rw [if_neg (show ¬ nI (cm (pt P) (P 20 0)) ≤ (0 : Int32) from nI_nle (by omega) (by omega))]
          exact ⟨fun _ => rfl, fun h => absurd (by omega) h⟩
  · rw [if_neg (show ¬ nI (fa (fitH (pt P)) (P 20 0) 0) = nI (P 20 0) from nI_ne (by omega) (by omega) q)]
    exact ⟨fun h => absurd h.1 q, fun _ => rfl⟩
theorem f_rdD {P : Dt} {t i c : Nat} {S : St} (hR : PG P S) (hO : OK P t) (hi : i < 1000) (hc : c < 12) : f_X3_readDrop (nI i) (nI c) S = if (if i = 0 then 0 else pt P (i - 1)) = 98 then some ((), S) else some ((), su S 4 c (nI (pt P i) - 48)) := by
  unfold f_X3_readDrop f_X5_digitAt
  rw [f_atP hR hO hi, bnd_some, f_at hR hO hi, bnd_some, bnd_some, inb_nI hc (by decide), grd_t, lett_e, cl_nI (by omega)]
  obtain ⟨L, hLd⟩ : ∃ L, L = if i = 0 then 0 else pt P (i - 1) := ⟨_, rfl⟩
  have hL : L ≤ 126 := by
    rw [hLd]
    split
    · omega
    · exact pt_b hO _
  rw [← hLd]
  by_cases h : L = 98
  · rw [if_pos h, if_pos (show nI L = (98 : Int32) from congrArg nI h)]
  · rw [if_neg h, if_neg (show ¬ nI L = (98 : Int32) from fun z => h ((nIe hL 98 (by omega)).mp z))]
def q_HC (p : Nat → Nat) (S : St) (i : Nat) : Prop := (∀ c, (c < cm p i ∨ (c = cm p i ∧ hs p i ≠ 0)) → S 4 c = nI (h_dr p i c)) ∧ (∀ c, c < 12 → S 5 c = nI (if hs p i = 2 ∧ c = cm p i then p i - 48 else h_sh p i c) ∧ S 6 c = nI (h_bu p i c))
theorem q_HC.fr {p : Nat → Nat} {S S1 : St} {i : Nat} (h : q_HC p S i) (e4 : S1 4 = S 4) (e5 : S1 5 = S 5) (e6 : S1 6 = S 6) : q_HC p S1 i := by
  unfold q_HC
  rw [e4, e5, e6]
  exact h
theorem rd28 {P : Dt} {t : Nat} (hO : OK P t) (hf : ∀ k, k < P 20 0 → fitH (pt P) k = true) (hE : hs (pt P) (P 20 0) = 1 ∨ hs (pt P) (P 20 0) = 3) : ∀ (d n i : Nat) (S : St), i + d = P 20 0 → d < n → PG P S → q_HC (pt P) S i → ∃ S1, f_X3_read_l28 n (nI (cm (pt P) i)) (nI i) S = some ((), S1) ∧ (∀ a, a ≠ 3 → a ≠ 4 → a ≠ 5 → a ≠ 6 → S1 a = S a) ∧ S1 3 4 = nI (cm (pt P) (P 20 0) + 1) ∧ S1 3 5 = S 3 5 + 1 ∧ q_HC (pt P) S1 (P 20 0) := by
  have h50 : P 20 0 ≤ 50 := hO.1
  intro d
  induction d with
  | zero =>
    intro n i S hi hd hR hH
    obtain ⟨n, rfl⟩ : ∃ k, n = k + 1 := ⟨n - 1, by omega⟩
    obtain rfl : i = P 20 0 := by omega
    have hc := cm_11 (P 20 0) hf
    rw [f_X3_read_l28, hR.1, if_pos (nI_le (Nat.le_refl _) (by omega))]
    unfold f_X3_read_b125
    rw [lett_e, lett_e, nI_1, if_neg (show ¬ (12 : Int32) < nI (cm (pt P) (P 20 0) + 1) from nI_nlt (a := 12) (by omega) (by decide))]
    exact ⟨_, rfl, fun a h3 _ _ _ => by rw [su_o h3, su_o h3], by rw [su_k (by decide), su_s], by rw [su_s, su_k (by decide)], hH.fr (by rw [su_o (by decide), su_o (by decide)]) (by rw [su_o (by decide), su_o (by decide)]) (by rw [su_o (by decide), su_o (by decide)])⟩
  | succ d ih =>
    intro n i S hi hd hR hH
    obtain ⟨n, rfl⟩ : ∃ k, n = k + 1 := ⟨n - 1, by omega⟩
    have hft := (fit_t (pt P) i).mp (hf i (by omega))
    have hc := cm_11 i (fun k hk => hf k (by omega))
    have hb := pt_b hO i
    have hs' := hs_s (pt P) i
    have hcm := cm_s (pt P) i
    have ne : ∀ b, b ≤ 126 → pt P i ≠ b → ¬ nI (pt P i) = nI b := fun b h1 h2 z => h2 ((nIe hb b h1).mp z)
    rw [f_X3_read_l28, hR.1, if_neg (nI_ge (by omega) (by omega)), if_neg (show ¬ (12 : Int32) ≤ nI (cm (pt P) i) from nI_ge (b := 12) (by omega) (by decide)), f_at hR hO (by omega), bnd_some]
    unfold f_X3_read_b119
    rcases hft with ⟨a1, a2, a3⟩ | ⟨a1, a2, a3⟩ | ⟨a1, a2, a3⟩ | ⟨a1, a2⟩
    · have hs1 : hs (pt P) (i + 1) = 1 := by rw [hs', if_neg (by omega), if_neg (by omega), if_neg (by omega), if_neg (by omega)]
      have cm1 : cm (pt P) (i + 1) = cm (pt P) i := by rw [hcm, if_neg (by omega), Nat.add_zero]
      rw [if_neg (show ¬ nI (pt P i) = (44 : Int32) from ne 44 (by omega) (by omega)), if_neg (show ¬ nI (pt P i) = (98 : Int32) from ne 98 (by omega) (by omega)), if_neg (show ¬ nI (pt P i) = (117 : Int32) from ne 117 (by omega) (by omega)), f_rdD hR hO (by omega) (by omega), if_neg (show ¬ (if i = 0 then 0 else pt P (i - 1)) = 98 from by
        have := (hs_0 (pt P) i).mp a1
        split <;> omega), bnd_some, lett_e, nI_1, s48 a2]
      have ih' := ih n (i + 1) (su S 4 (cm (pt P) i) (nI (pt P i - 48))) (by omega) (by omega) (hR.fr (su_o (by decide)) (su_o (by decide))) ⟨fun c hc' => by
        rw [hs1, cm1] at hc'
        by_cases e : c = cm (pt P) i
        · rw [e, su_s, h_drs, if_pos ⟨a1, rfl⟩]
        · rw [su_k e, h_drn (by omega)]; exact hH.1 c (by omega), fun c hc' => by
        have m2 := hH.2 c hc'
        rw [if_neg (by omega)] at m2
        rw [su_o (show (5 : Nat) ≠ 4 by decide), su_o (show (6 : Nat) ≠ 4 by decide), if_neg (by omega), h_shn (by omega), h_bun (by omega)]
        exact m2⟩
      rw [cm1] at ih'
      obtain ⟨S1, e1, f1, f2, f3, f4⟩ := ih'
      exact ⟨S1, e1, fun a h3 h4 h5 h6 => by rw [f1 a h3 h4 h5 h6, su_o h4], f2, by rw [f3, su_o (by decide)], f4⟩
    · have hs1 : hs (pt P) (i + 1) = 3 := by rw [hs', if_neg (by omega), if_neg (by omega), if_neg (by omega), if_pos a1]
      have cm1 : cm (pt P) (i + 1) = cm (pt P) i := by rw [hcm, if_neg (by omega), Nat.add_zero]
      rw [if_neg (show ¬ nI (pt P i) = (44 : Int32) from ne 44 (by omega) (by omega)), if_neg (show ¬ nI (pt P i) = (98 : Int32) from ne 98 (by omega) (by omega)), if_neg (show ¬ nI (pt P i) = (117 : Int32) from ne 117 (by omega) (by omega)), f_rdD hR hO (by omega) (by omega), if_pos (show (if i = 0 then 0 else pt P (i - 1)) = 98 from by
        have := (hs_2 (pt P) i).mp a1
        split <;> omega), bnd_some, lett_e, nI_1]
      have ih' := ih n (i + 1) S (by omega) (by omega) hR ⟨fun c hc' => by
        rw [hs1, cm1] at hc'
        rw [h_drn (by omega)]; exact hH.1 c (by omega), fun c hc' => by
        have m2 := hH.2 c hc'
        rw [if_neg (by omega), h_shs, h_bun (by omega)]
        exact m2⟩
      rw [cm1] at ih'
      exact ih'
    · have hs1 : hs (pt P) (i + 1) = 0 := by rw [hs', if_pos a2]
      have cm1 : cm (pt P) (i + 1) = cm (pt P) i + 1 := by rw [hcm, if_pos a2]
      rw [if_pos (show nI (pt P i) = (44 : Int32) from congrArg nI a2), lett_e, lett_e, nI_1, nI_1]
      have ih' := ih n (i + 1) S (by omega) (by omega) hR ⟨fun c hc' => by
        rw [hs1, cm1] at hc'
        rw [h_drn (by omega)]; exact hH.1 c (by omega), fun c hc' => by
        have m2 := hH.2 c hc'
        rw [if_neg (by omega)] at m2
        rw [if_neg (by omega), h_shn (by omega), h_bun (by omega)]
        exact m2⟩
      rw [cm1] at ih'
      exact ih'
    · rcases a2 with a2 | a2
      · have hs1 : hs (pt P) (i + 1) = 2 := by rw [hs', if_neg (by omega), if_pos a2]
        have cm1 : cm (pt P) (i + 1) = cm (pt P) i := by rw [hcm, if_neg (by omega), Nat.add_zero]
        have hlt : i + 1 ≠ P 20 0 := fun z => by
          rw [z] at hs1
          omega
        have hfn := (fit_t (pt P) (i + 1)).mp (hf (i + 1) (by omega))
        unfold f_X5_digitAt
        rw [if_neg (show ¬ nI (pt P i) = (44 : Int32) from ne 44 (by omega) (by omega)), if_pos (show nI (pt P i) = (98 : Int32) from congrArg nI a2), nI_1 i, f_at hR hO (by omega), bnd_some, bnd_some, inb_nI (show cm (pt P) i < 12 by omega) (by decide), grd_t, lett_e, lett_e, cl_nI (by omega), s48 (by omega)]
        have ih' := ih n (i + 1) (su S 5 (cm (pt P) i) (nI (pt P (i + 1) - 48))) (by omega) (by omega) (hR.fr (su_o (by decide)) (su_o (by decide))) ⟨fun c hc' => by
          rw [hs1, cm1] at hc'
          rw [su_o (show (4 : Nat) ≠ 5 by decide), h_drn (by omega)]; exact hH.1 c (by omega), fun c hc' => by
          have m2 := hH.2 c hc'
          rw [if_neg (by omega)] at m2
          rw [su_o (show (6 : Nat) ≠ 5 by decide), h_bun (by omega)]
          refine ⟨?_, m2.2⟩
          by_cases e : c = cm (pt P) i
          · rw [e, su_s, if_pos ⟨hs1, cm1.symm⟩]
          · rw [su_k e, if_neg (by omega), h_shn (by omega)]; exact m2.1⟩
        rw [cm1] at ih'
        obtain ⟨S1, e1, f1, f2, f3, f4⟩ := ih'
        exact ⟨S1, e1, fun a h3 h4 h5 h6 => by rw [f1 a h3 h4 h5 h6, su_o h5], f2, by rw [f3, su_o (by decide)], f4⟩
      · have hs1 : hs (pt P) (i + 1) = 3 := by rw [hs', if_neg (by omega), if_neg (by omega), if_pos a2]
        have cm1 : cm (pt P) (i + 1) = cm (pt P) i := by rw [hcm, if_neg (by omega), Nat.add_zero]
        rw [if_neg (show ¬ nI (pt P i) = (44 : Int32) from ne 44 (by omega) (by omega)), if_neg (show ¬ nI (pt P i) = (98 : Int32) from ne 98 (by omega) (by omega)), if_pos (show nI (pt P i) = (117 : Int32) from congrArg nI a2), inb_nI (show cm (pt P) i < 12 by omega) (by decide), grd_t, lett_e, lett_e, nI_1, cl_nI (by omega)]
        have ih' := ih n (i + 1) (su S 6 (cm (pt P) i) 1) (by omega) (by omega) (hR.fr (su_o (by decide)) (su_o (by decide))) ⟨fun c hc' => by
          rw [hs1, cm1] at hc'
          rw [su_o (show (4 : Nat) ≠ 6 by decide), h_drn (by omega)]; exact hH.1 c (by omega), fun c hc' => by
          have m2 := hH.2 c hc'
          rw [if_neg (by omega)] at m2
          rw [su_o (show (5 : Nat) ≠ 6 by decide), if_neg (by omega), h_shn (by omega)]
          refine ⟨m2.1, ?_⟩
          by_cases e : c = cm (pt P) i
          · rw [e, su_s, h_bus, if_pos ⟨⟨a1, a2⟩, rfl⟩]; rfl
          · rw [su_k e, h_bun (by omega)]; exact m2.2⟩
        rw [cm1] at ih'
        obtain ⟨S1, e1, f1, f2, f3, f4⟩ := ih'
        exact ⟨S1, e1, fun a h3 h4 h5 h6 => by rw [f1 a h3 h4 h5 h6, su_o h6], f2, by rw [f3, su_o (by decide)], f4⟩
theorem okH.fits {P : Dt} (h : okH P) : ∀ k, k < P 20 0 → fitH (pt P) k = true := fun k hk => fa_all (fitH (pt P)) (P 20 0) 0 (by have := h.1; omega) k (by omega) (by omega)
theorem f_read3 {P : Dt} {t : Nat} {S : St} (hR : PG P S) (hO : OK P t) (hk : okH P) : ∃ S1, f_X3_read S = some ((), S1) ∧ (∀ a, a ≠ 3 → a ≠ 4 → a ≠ 5 → a ≠ 6 → a ≠ 7 → S1 a = S a) ∧ S1 3 4 = nI (cm (pt P) (P 20 0) + 1) ∧ S1 3 5 = S 3 5 + 1 ∧ (∀ c, c < cm (pt P) (P 20 0) + 1 → S1 4 c = nI (h_dr (pt P) (P 20 0) c) ∧ S1 5 c = nI (h_sh (pt P) (P 20 0) c) ∧ S1 6 c = nI (h_bu (pt P) (P 20 0) c) ∧ S1 7 c = 0) := by
  have h50 : P 20 0 ≤ 50 := hO.1
  have hc := cm_11 (P 20 0) hk.fits
  have c0 : cm (pt P) 0 = 0 := rfl
  have s0 : hs (pt P) 0 = 0 := rfl
  have hE := hk.2.1
  have g : ∀ a, a ≠ 5 → a ≠ 6 → a ≠ 7 → fillS (fillS (fillS S 5 0 12 0) 6 0 12 0) 7 0 12 0 a = S a := fun a h5 h6 h7 => by rw [fillS_o h7, fillS_o h6, fillS_o h5]
  obtain ⟨S1, e1, f1, f2, f3, f4⟩ := rd28 hO hk.fits hE (P 20 0) FU 0 (fillS (fillS (fillS S 5 0 12 0) 6 0 12 0) 7 0 12 0) (by omega) (by unfold FU; omega) (hR.fr (g 1 (by decide) (by decide) (by decide)) (g 2 (by decide) (by decide) (by decide))) ⟨fun c hc' => absurd hc' (by omega), fun c hc' => by
    rw [fillS_o (show (5 : Nat) ≠ 7 by decide), fillS_o (show (5 : Nat) ≠ 6 by decide), fillS_in (by omega), fillS_o (show (6 : Nat) ≠ 7 by decide), fillS_in (by omega), if_neg (by omega)]
    exact ⟨rfl, rfl⟩⟩
  unfold f_X3_read
  rw [f_fill_eq 5 12 (by decide), bnd_some, f_fill_eq 6 12 (by decide), bnd_some, f_fill_eq 7 12 (by decide), bnd_some]
  refine ⟨S1, e1, fun a h3 h4 h5 h6 h7 => ?_, f2, ?_, fun c hc' => ?_⟩
  · rw [f1 a h3 h4 h5 h6, g a h5 h6 h7]
  · rw [f3, g 3 (by decide) (by decide) (by decide)]
  · have m2 := f4.2 c (by omega)
    rw [if_neg (by omega)] at m2
    refine ⟨f4.1 c (by omega), m2.1, m2.2, ?_⟩
    rw [f1 7 (by decide) (by decide) (by decide) (by decide), fillS_in (by omega)]
