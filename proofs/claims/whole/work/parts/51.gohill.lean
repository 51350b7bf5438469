-- ===== the reference reads a hill =====
def KP (T T1 : St) : Prop := ∀ c k, c ≠ 57 → (c ≠ 55 ∨ (k ≠ 2 ∧ k ≠ 3 ∧ k ≠ 4)) → T1 c k = T c k
theorem KP.rf (T : St) : KP T T := fun _ _ _ _ => rfl
theorem KP.tr {S S1 S2 : St} (h1 : KP S S1) (h2 : KP S1 S2) : KP S S2 := fun c k h g => (h2 c k h g).trans (h1 c k h g)
theorem KP.s57 {S S1 : St} (h : KP S S1) (k : Nat) (v : Int32) : KP S (su S1 57 k v) := fun c j h1 h2 => by
  rw [su_o h1]; exact h c j h1 h2
theorem KP.s55 {S S1 : St} (h : KP S S1) (k : Nat) (v : Int32) (hk : k = 2 ∨ k = 3 ∨ k = 4) : KP S (su S1 55 k v) := fun c j h1 h2 => by
  rw [su_g (by omega)]; exact h c j h1 h2
theorem KP.km {S S1 : St} (h : KP S S1) : KM S S1 := fun c k hp => by
  unfold pmB at hp
  exact h c k (by omega) (by omega)
theorem goNext8 {T : St} {x c : Nat} (hx : x ≤ 126) (hc : c ≤ 40) (m2 : T 55 3 = nI c) : f_X8_goNext (nI x) 11 T = some (b2 (decide (x = 44 ∧ c < 11)), su (su T 55 3 (nI (c + 1))) 55 2 0) := by
  unfold f_X8_goNext
  rw [lett_e, lett_e, m2, nI_1, b2d, su_k (show (3 : Nat) ≠ 2 by decide), su_s]
  by_cases q : x = 44
  · rw [if_pos (show nI x = (44 : Int32) from congrArg nI q)]
    by_cases q1 : c < 11
    · rw [if_neg (show ¬ (11 : Int32) < nI (c + 1) from nI_nlt (a := 11) (by omega) (by decide)), if_pos (show x = 44 ∧ c < 11 from ⟨q, q1⟩)]
    · rw [if_pos (show (11 : Int32) < nI (c + 1) from (nI_ltI (a := 11) (by decide) (by omega)).mpr (by omega)), if_neg (show ¬ (x = 44 ∧ c < 11) from fun z => q1 z.2)]
  · rw [if_neg (show ¬ nI x = (44 : Int32) from fun z => q ((nIe hx 44 (by omega)).mp z)), if_neg (show ¬ (x = 44 ∧ c < 11) from fun z => q z.1)]
theorem in8 {x : Nat} (lo hi : Nat) (la lb : Int64) (hx : x ≤ 126) (hlo : lo ≤ 126) (hhi : hi ≤ 126) (ha : (nI lo).toInt64 = la) (hb : (nI hi).toInt64 = lb) (S : St) : f_X8_in ((nI x).toInt64) la lb S = some (b2 (decide (lo ≤ x ∧ x ≤ hi)), S) := by
  rw [f_in (nI x) (nI lo) (nI hi) la lb ha hb, b2d]
  by_cases h : lo ≤ x ∧ x ≤ hi
  · rw [if_pos h, if_pos (show nI lo ≤ nI x ∧ nI x ≤ nI hi from ⟨nI_le h.1 (by omega), nI_le h.2 (by omega)⟩)]
  · rw [if_neg h, if_neg (show ¬ (nI lo ≤ nI x ∧ nI x ≤ nI hi) from fun z => h ⟨(nI_leI (by omega) (by omega)).mp z.1, (nI_leI (by omega) (by omega)).mp z.2⟩)]
theorem in48 {x : Nat} (hx : x ≤ 126) (S : St) : f_X8_in ((nI x).toInt64) 48 57 S = some (b2 (decide (48 ≤ x ∧ x ≤ 57)), S) := in8 48 57 48 57 hx (by decide) (by decide) (by decide) (by decide) S
theorem in49 {x : Nat} (hx : x ≤ 126) (S : St) : f_X8_in ((nI x).toInt64) 49 57 S = some (b2 (decide (49 ≤ x ∧ x ≤ 57)), S) := in8 49 57 49 57 hx (by decide) (by decide) (by decide) (by decide) S
theorem nI_2 (a : Nat) : nI a + 2 = nI (a + 2) := nI_add a 2
theorem m3nI (a : Nat) : (3 : Int32) * nI a = nI (3 * a) := pk_mul 3 a
theorem s48 {a : Nat} (h : 48 ≤ a) : nI a - 48 = nI (a - 48) := pk_sub (a := a) (b := 48) h
def q_HM (p : Nat → Nat) (T : St) (i : Nat) : Prop := T 55 2 = nI (hs p i) ∧ T 55 3 = nI (cm p i) ∧ ∀ c, (c < cm p i ∨ (c = cm p i ∧ hs p i ≠ 0)) → T 57 (3 * c) = nI (h_dr p i c) ∧ T 57 (3 * c + 1) = nI (h_sh p i c) ∧ T 57 (3 * c + 2) = nI (h_bu p i c)
theorem goHill8 {p : Nat → Nat} {T : St} {i : Nat} (hb : p i ≤ 126) (hc : cm p i ≤ 11) (hM : q_HM p T i) : ∃ T1, f_X8_goHill (nI (p i)) T = some (b2 (fitH p i), T1) ∧ KP T T1 ∧ (fitH p i = true → q_HM p T1 (i + 1)) := by
  obtain ⟨m1, m2, m3⟩ := hM
  have h3 := hs_le p i
  have hs' := hs_s p i
  have hcm := cm_s p i
  have ne : ∀ b, b ≤ 126 → p i ≠ b → ¬ nI (p i) = nI b := fun b h1 h2 z => h2 ((nIe hb b h1).mp z)
  have n0 : hs p i ≠ 0 → ¬ nI (hs p i) = (0 : Int32) := fun h z => h ((nIe (by omega) 0 (by omega)).mp z)
  have n1 : hs p i ≠ 1 → ¬ nI (hs p i) = (1 : Int32) := fun h z => h ((nIe (by omega) 1 (by omega)).mp z)
  have n2 : hs p i ≠ 2 → ¬ nI (hs p i) = (2 : Int32) := fun h z => h ((nIe (by omega) 2 (by omega)).mp z)
  unfold f_X8_goHill
  rw [lett_e, m1, m2, m3nI, nI_1 (3 * cm p i), nI_2 (3 * cm p i)]
  rcases (show hs p i = 0 ∨ hs p i = 1 ∨ hs p i = 2 ∨ hs p i = 3 by omega) with q | q | q | q
  · have ef : fitH p i = decide (48 ≤ p i ∧ p i ≤ 57) := by unfold fitH; rw [if_pos q]
    rw [if_pos (show nI (hs p i) = (0 : Int32) from congrArg nI q), inb_nI (show 3 * cm p i < 36 by omega) (by decide), grd_t, lett_e, inb_nI (show 3 * cm p i + 1 < 36 by omega) (by decide), grd_t, lett_e, inb_nI (show 3 * cm p i + 2 < 36 by omega) (by decide), grd_t, lett_e, lett_e, in48 hb, bnd_some, b2B, grd_t, cl_nI (by omega), cl_nI (by omega), cl_nI (by omega), ef]
    refine ⟨_, rfl, ((((KP.rf T).s57 _ _).s57 _ _).s57 _ _).s55 _ _ (by omega), fun hf => ?_⟩
    have hf' := of_decide_eq_true hf
    have hs1 : hs p (i + 1) = 1 := by rw [hs', if_neg (by omega), if_neg (by omega), if_neg (by omega), if_neg (by omega)]
    have cm1 : cm p (i + 1) = cm p i := by rw [hcm, if_neg (by omega), Nat.add_zero]
    refine ⟨?_, ?_, fun c hc' => ?_⟩
    · rw [su_s, hs1]; rfl
    · rw [su_k (by decide), su_o (by decide), su_o (by decide), su_o (by decide), cm1]; exact m2
    · rw [hs1, cm1] at hc'
      rw [su_o (show (57 : Nat) ≠ 55 by decide)]
      by_cases e : c = cm p i
      · obtain ⟨z1, z2⟩ := (h_z p i).2 q
        rw [e]
        refine ⟨?_, ?_, ?_⟩
        · rw [su_k (by omega), su_k (by omega), su_s, h_drs, if_pos ⟨q, rfl⟩, s48 hf'.1]
        · rw [su_k (by omega), su_s, h_shn (by omega), z1]; rfl
        · rw [su_s, h_bun (by omega), z2]; rfl
      · have := m3 c (by omega)
        rw [su_k (by omega), su_k (by omega), su_k (by omega), su_k (by omega), su_k (by omega), su_k (by omega), su_k (by omega), su_k (by omega), su_k (by omega), h_drn (by omega), h_shn (by omega), h_bun (by omega)]
        exact this
  · rw [if_neg (n0 (by omega)), if_pos (show nI (hs p i) = (1 : Int32) from congrArg nI q)]
    by_cases q1 : p i = 98
    · have ef : fitH p i = true := (fit_t p i).mpr (by omega)
      rw [if_pos (show nI (p i) = (98 : Int32) from congrArg nI q1), lett_e, ef]
      refine ⟨_, rfl, (KP.rf T).s55 _ _ (by omega), fun _ => ?_⟩
      have hs1 : hs p (i + 1) = 2 := by rw [hs', if_neg (by omega), if_pos q1]
      have cm1 : cm p (i + 1) = cm p i := by rw [hcm, if_neg (by omega), Nat.add_zero]
      refine ⟨?_, ?_, fun c hc' => ?_⟩
      · rw [su_s, hs1]; rfl
      · rw [su_k (by decide), cm1]; exact m2
      · rw [hs1, cm1] at hc'
        rw [su_o (show (57 : Nat) ≠ 55 by decide), h_drn (by omega), h_shn (by omega), h_bun (by omega)]
        exact m3 c (by omega)
    · rw [if_neg (show ¬ nI (p i) = (98 : Int32) from ne 98 (by omega) q1)]
      by_cases q2 : p i = 117
      · have ef : fitH p i = true := (fit_t p i).mpr (by omega)
        rw [if_pos (show nI (p i) = (117 : Int32) from congrArg nI q2), inb_nI (show 3 * cm p i + 2 < 36 by omega) (by decide), grd_t, lett_e, lett_e, ef, cl_nI (by omega)]
        refine ⟨_, rfl, ((KP.rf T).s57 _ _).s55 _ _ (by omega), fun _ => ?_⟩
        have hs1 : hs p (i + 1) = 3 := by rw [hs', if_neg (by omega), if_neg (by omega), if_pos q2]
        have cm1 : cm p (i + 1) = cm p i := by rw [hcm, if_neg (by omega), Nat.add_zero]
        refine ⟨?_, ?_, fun c hc' => ?_⟩
        · rw [su_s, hs1]; rfl
        · rw [su_k (by decide), su_o (by decide), cm1]; exact m2
        · rw [hs1, cm1] at hc'
          have := m3 c (by omega)
          rw [su_o (show (57 : Nat) ≠ 55 by decide), h_drn (by omega), h_shn (by omega), su_k (by omega), su_k (by omega)]
          refine ⟨this.1, this.2.1, ?_⟩
          by_cases e : c = cm p i
          · rw [e, su_s, h_bus, if_pos ⟨⟨q, q2⟩, rfl⟩]; rfl
          · rw [su_k (by omega), h_bun (by omega)]; exact this.2.2
      · rw [if_neg (show ¬ nI (p i) = (117 : Int32) from ne 117 (by omega) q2), goNext8 hb (by omega) m2, bnd_some, b2B, grd_t, fit_n (Or.inl ⟨q, q1, q2⟩)]
        refine ⟨_, rfl, ((KP.rf T).s55 _ _ (by omega)).s55 _ _ (by omega), fun hf => ?_⟩
        have hf' := of_decide_eq_true hf
        have hs1 : hs p (i + 1) = 0 := by rw [hs', if_pos hf'.1]
        have cm1 : cm p (i + 1) = cm p i + 1 := by rw [hcm, if_pos hf'.1]
        refine ⟨?_, ?_, fun c hc' => ?_⟩
        · rw [su_s, hs1]; rfl
        · rw [su_k (by decide), su_s, cm1]
        · rw [hs1, cm1] at hc'
          rw [su_o (show (57 : Nat) ≠ 55 by decide), su_o (show (57 : Nat) ≠ 55 by decide), h_drn (by omega), h_shn (by omega), h_bun (by omega)]
          exact m3 c (by omega)
  · have ef : fitH p i = decide (49 ≤ p i ∧ p i ≤ 57) := by unfold fitH; rw [if_neg (by omega), if_pos q]
    rw [if_neg (n0 (by omega)), if_neg (n1 (by omega)), if_pos (show nI (hs p i) = (2 : Int32) from congrArg nI q), inb_nI (show 3 * cm p i + 1 < 36 by omega) (by decide), grd_t, lett_e, lett_e, in49 hb, bnd_some, b2B, grd_t, cl_nI (by omega), ef]
    refine ⟨_, rfl, ((KP.rf T).s57 _ _).s55 _ _ (by omega), fun hf => ?_⟩
    have hf' := of_decide_eq_true hf
    have hs1 : hs p (i + 1) = 3 := by rw [hs', if_neg (by omega), if_neg (by omega), if_neg (by omega), if_pos q]
    have cm1 : cm p (i + 1) = cm p i := by rw [hcm, if_neg (by omega), Nat.add_zero]
    refine ⟨?_, ?_, fun c hc' => ?_⟩
    · rw [su_s, hs1]; rfl
    · rw [su_k (by decide), su_o (by decide), cm1]; exact m2
    · rw [hs1, cm1] at hc'
      have := m3 c (by omega)
      rw [su_o (show (57 : Nat) ≠ 55 by decide), h_drn (by omega), h_bun (by omega), su_k (show 3 * c ≠ 3 * cm p i + 1 by omega), su_k (show 3 * c + 2 ≠ 3 * cm p i + 1 by omega)]
      refine ⟨this.1, ?_, this.2.2⟩
      by_cases e : c = cm p i
      · rw [e, su_s, h_shs, if_pos ⟨q, rfl⟩, s48 (by omega)]
      · rw [su_k (by omega), h_shn (by omega)]; exact this.2.1
  · rw [if_neg (n0 (by omega)), if_neg (n1 (by omega)), if_neg (n2 (by omega)), goNext8 hb (by omega) m2, bnd_some, b2B, grd_t, fit_n (Or.inr q)]
    refine ⟨_, rfl, ((KP.rf T).s55 _ _ (by omega)).s55 _ _ (by omega), fun hf => ?_⟩
    have hf' := of_decide_eq_true hf
    have hs1 : hs p (i + 1) = 0 := by rw [hs', if_pos hf'.1]
    have cm1 : cm p (i + 1) = cm p i + 1 := by rw [hcm, if_pos hf'.1]
    refine ⟨?_, ?_, fun c hc' => ?_⟩
    · rw [su_s, hs1]; rfl
    · rw [su_k (by decide), su_s, cm1]
    · rw [hs1, cm1] at hc'
      rw [su_o (show (57 : Nat) ≠ 55 by decide), su_o (show (57 : Nat) ≠ 55 by decide), h_drn (by omega), h_shn (by omega), h_bun (by omega)]
      exact m3 c (by omega)
theorem fo8 {P : Dt} {t : Nat} (hO : OK P t) : ∀ (d n i : Nat) (T : St), i + d = P 20 0 → d < n → T 55 1 = nI (P 20 0) → (∀ j, j < P 20 0 → T 56 j = nI (P 0 j)) → cm (pt P) i ≤ 11 → q_HM (pt P) T i → ∃ T1, f_X8_faultOf_l12 n 0 (nI i) T = some (nI (fa (fitH (pt P)) d i), T1) ∧ KP T T1 ∧ (fa (fitH (pt P)) d i = P 20 0 → q_HM (pt P) T1 (P 20 0) ∧ cm (pt P) (P 20 0) ≤ 11) := by
  have h50 : P 20 0 ≤ 50 := hO.1
  intro d
  induction d with
  | zero =>
    intro n i T hi hd h1 h2 hc hM
    obtain ⟨n, rfl⟩ : ∃ k, n = k + 1 := ⟨n - 1, by omega⟩
    obtain rfl : i = P 20 0 := by omega
    rw [f_X8_faultOf_l12, h1, if_pos (nI_le (Nat.le_refl _) (by omega)), fa]
    exact ⟨T, rfl, KP.rf T, fun _ => ⟨hM, hc⟩⟩
  | succ d ih =>
    intro n i T hi hd h1 h2 hc hM
    obtain ⟨n, rfl⟩ : ∃ k, n = k + 1 := ⟨n - 1, by omega⟩
    have hp := pt_in hO (show i < P 20 0 by omega)
    obtain ⟨T1, e1, k1, m1⟩ := goHill8 (pt_b hO i) hc hM
    rw [f_X8_faultOf_l12, h1, if_neg (nI_ge (by omega) (by omega)), if_pos i00, inb_nI (show i < 50 by omega) (by decide), grd_t, cl_nI (by omega), h2 i (by omega), ← hp.1, e1, bnd_some, fa]
    by_cases q : fitH (pt P) i = true
    · unfold f_X8_faultOf_b53
      rw [if_pos q, q, if_neg b2t, lett_e, nI_1]
      have h2' := (fit_t (pt P) i).mp q
      have hc' : cm (pt P) (i + 1) ≤ 11 := by
        rw [cm_s]
        split <;> omega
      obtain ⟨T2, e2, k2, m2⟩ := ih n (i + 1) T1 (by omega) (by omega) (by rw [k1 55 1 (by decide) (by omega)]; exact h1) (fun j hj => by rw [k1 56 j (by decide) (by omega)]; exact h2 j hj) hc' (m1 q)
      exact ⟨T2, e2, k1.tr k2, m2⟩
    · rw [if_neg q, show fitH (pt P) i = false from Bool.eq_false_iff.mpr q, if_pos b2f]
      exact ⟨T1, rfl, k1, fun z => absurd z (by omega)⟩
theorem f_faultOf0 {P : Dt} {t : Nat} {T : St} (hR : RM P T) (hO : OK P t) : ∃ T1, f_X8_faultOf 0 T = some (nI (fa (fitH (pt P)) (P 20 0) 0), T1) ∧ KM T T1 ∧ (fa (fitH (pt P)) (P 20 0) 0 = P 20 0 → q_HM (pt P) T1 (P 20 0) ∧ cm (pt P) (P 20 0) ≤ 11) := by
  have h50 : P 20 0 ≤ 50 := hO.1
  have hM : q_HM (pt P) (su (su T 55 2 0) 55 3 0) 0 := ⟨by rw [su_k (by decide), su_s]; rfl, by rw [su_s]; rfl, fun c hc => absurd hc (by
    have : cm (pt P) 0 = 0 := rfl
    have : hs (pt P) 0 = 0 := rfl
    omega)⟩
  obtain ⟨T1, e1, k1, m1⟩ := fo8 hO (P 20 0) FU 0 (su (su T 55 2 0) 55 3 0) (by omega) (by unfold FU; omega) (by rw [su_k (by decide), su_k (by decide)]; exact hR.1) (fun j hj => by rw [su_o (by decide), su_o (by decide)]; exact hR.2.1 j hj) (Nat.zero_le _) hM
  unfold f_X8_faultOf
  rw [lett_e, lett_e]
  exact ⟨T1, e1, ((((KP.rf T).s55 2 0 (by omega)).s55 3 0 (by omega)).tr k1).km, m1⟩
