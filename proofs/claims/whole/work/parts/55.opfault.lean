-- ===== fault =====
theorem fitC_18 {p : Nat → Nat} {i : Nat} (h : fitC p i = true) : i < 18 := by
  by_cases q : 18 ≤ i
  · unfold fitC at h
    rw [if_pos q] at h
    exact absurd h (by decide)
  · omega
theorem fitC_1 {p : Nat → Nat} (h : fitC p 1 = true) : 49 ≤ p 1 ∧ p 1 ≤ 57 := by
  unfold fitC at h
  rw [if_neg (by decide), if_neg (by decide), if_pos (by decide), if_pos (by decide)] at h
  exact of_decide_eq_true h
theorem fitC_2 {p : Nat → Nat} (h : fitC p 2 = true) : 48 ≤ p 2 ∧ p 2 ≤ 57 := by
  unfold fitC at h
  rw [if_neg (by decide), if_neg (by decide), if_neg (by decide), if_pos (by decide)] at h
  exact of_decide_eq_true h
theorem fitC_4 {p : Nat → Nat} {m : Nat} (h : fitC p (3 * m + 4) = true) : kn (p (3 * m + 4)) ≠ 6 := by
  have h18 := fitC_18 h
  unfold fitC at h
  rw [if_neg (by omega), if_neg (by omega), if_pos (by omega), if_neg (by omega)] at h
  exact of_decide_eq_true h
theorem fitC_5 {p : Nat → Nat} {m : Nat} (h : fitC p (3 * m + 5) = true) : 49 ≤ p (3 * m + 5) ∧ p (3 * m + 5) ≤ 57 := by
  have h18 := fitC_18 h
  unfold fitC at h
  rw [if_neg (by omega), if_neg (by omega), if_neg (by omega), if_neg (by omega)] at h
  exact of_decide_eq_true h
theorem fo8c {P : Dt} {t : Nat} (hO : OK P t) : ∀ (d n i : Nat) (T : St), i + d = P 20 0 → d < n → T 55 1 = nI (P 20 0) → (∀ j, j < P 20 0 → T 56 j = nI (P 0 j)) → i ≤ 18 → (∀ k, k < i → fitC (pt P) k = true) → CM_ (pt P) T i → ∃ T1, f_X8_faultOf_l12 n 1 (nI i) T = some (nI (fa (fitC (pt P)) d i), T1) ∧ KP T T1 ∧ (fa (fitC (pt P)) d i = P 20 0 → CM_ (pt P) T1 (P 20 0) ∧ P 20 0 ≤ 18) := by
  have h50 : P 20 0 ≤ 50 := hO.1
  intro d
  induction d with
  | zero =>
    intro n i T hi hd h1 h2 hc hp hM
    obtain ⟨n, rfl⟩ : ∃ k, n = k + 1 := ⟨n - 1, by omega⟩
    obtain rfl : i = P 20 0 := by omega
    rw [f_X8_faultOf_l12, h1, if_pos (nI_le (Nat.le_refl _) (by omega)), fa]
    exact ⟨T, rfl, KP.rf T, fun _ => ⟨hM, hc⟩⟩
  | succ d ih =>
    intro n i T hi hd h1 h2 hc hp hM
    obtain ⟨n, rfl⟩ : ∃ k, n = k + 1 := ⟨n - 1, by omega⟩
    have hp' := pt_in hO (show i < P 20 0 by omega)
    obtain ⟨T1, e1, k1, m1⟩ := goCart8 (pt_b hO i) hc hp hM
    rw [f_X8_faultOf_l12, h1, if_neg (nI_ge (by omega) (by omega)), if_neg i10, inb_nI (show i < 50 by omega) (by decide), grd_t, cl_nI (by omega), h2 i (by omega), ← hp'.1, e1, bnd_some, fa]
    by_cases q : fitC (pt P) i = true
    · unfold f_X8_faultOf_b53
      rw [if_pos q, q, if_neg b2t, lett_e, nI_1]
      have h18 := fitC_18 q
      obtain ⟨T2, e2, k2, m2⟩ := ih n (i + 1) T1 (by omega) (by omega) (by rw [k1 55 1 (by decide) (by omega)]; exact h1) (fun j hj => by rw [k1 56 j (by decide) (by omega)]; exact h2 j hj) (by omega) (fun k hk => by
        by_cases e : k = i
        · rw [e]; exact q
        · exact hp k (by omega)) (m1 q)
      exact ⟨T2, e2, k1.tr k2, m2⟩
    · rw [if_neg q, show fitC (pt P) i = false from Bool.eq_false_iff.mpr q, if_pos b2f]
      exact ⟨T1, rfl, k1, fun z => absurd z (by omega)⟩
theorem f_faultOf1 {P : Dt} {t : Nat} {T : St} (hR : RM P T) (hO : OK P t) : ∃ T1, f_X8_faultOf 1 T = some (nI (fa (fitC (pt P)) (P 20 0) 0), T1) ∧ KM T T1 ∧ (fa (fitC (pt P)) (P 20 0) 0 = P 20 0 → CM_ (pt P) T1 (P 20 0) ∧ P 20 0 ≤ 18) := by
  have h50 : P 20 0 ≤ 50 := hO.1
  have hM : CM_ (pt P) (su (su T 55 2 0) 55 3 0) 0 := ⟨by rw [su_k (by decide), su_s]; rfl, by rw [su_s]; rfl, fun h => absurd h (by omega), fun m h => absurd h (by omega), fun m h => absurd h (by omega)⟩
  obtain ⟨T1, e1, k1, m1⟩ := fo8c hO (P 20 0) FU 0 (su (su T 55 2 0) 55 3 0) (by omega) (by unfold FU; omega) (by rw [su_k (by decide), su_k (by decide)]; exact hR.1) (fun j hj => by rw [su_o (by decide), su_o (by decide)]; exact hR.2.1 j hj) (Nat.zero_le _) (fun k hk => absurd hk (by omega)) hM
  unfold f_X8_faultOf
  rw [lett_e, lett_e]
  exact ⟨T1, e1, ((((KP.rf T).s55 2 0 (by omega)).s55 3 0 (by omega)).tr k1).km, m1⟩
theorem op_fault (x : Int32) : Op (f_X7_fault x) (f_X8_fault x) := by
  refine Op.ask (fun t P hO => ?_)
  by_cases h0 : x = 0
  · subst h0
    refine ⟨nI (fa (fitH (pt P)) (P 20 0) 0), fun S hR => ⟨S, ?_, KC.rf S⟩, fun T hR => ?_⟩
    · unfold f_X7_fault
      rw [if_pos i00, f_hillFault hR.pg hO, bnd_some]
    · obtain ⟨T1, e1, k1, -⟩ := f_faultOf0 hR hO
      refine ⟨T1, ?_, k1⟩
      unfold f_X8_fault
      rw [w8y (x := 0) (a := 0) (b := 1) (by decide), bnd_some, if_neg i10, e1, bnd_some]
  · by_cases h1 : x = 1
    · subst h1
      refine ⟨nI (fa (fitC (pt P)) (P 20 0) 0), fun S hR => ⟨S, ?_, KC.rf S⟩, fun T hR => ?_⟩
      · unfold f_X7_fault
        rw [if_neg i10, if_pos rfl, f_cartFault hR.pg hO, bnd_some]
      · obtain ⟨T1, e1, k1, -⟩ := f_faultOf1 hR hO
        refine ⟨T1, ?_, k1⟩
        unfold f_X8_fault
        rw [w8y (x := 1) (a := 0) (b := 1) (by decide), bnd_some, if_neg i10, e1, bnd_some]
    · refine ⟨-102, fun S hR => ⟨S, ?_, KC.rf S⟩, fun T hR => ⟨T, ?_, KM.rf T⟩⟩
      · unfold f_X7_fault
        rw [if_neg h0, if_neg h1]
      · have hn : ¬ ((0 : Int32) ≤ x ∧ x ≤ 1) := fun z => by
          obtain ⟨j, hj, rfl⟩ := rngle (n := 1) (by decide) z.1 z.2
          rcases (show j = 0 ∨ j = 1 by omega) with rfl | rfl
          · exact h0 rfl
          · exact h1 rfl
        unfold f_X8_fault
        rw [w8n (a := 0) (b := 1) hn, bnd_some, if_pos i00]
