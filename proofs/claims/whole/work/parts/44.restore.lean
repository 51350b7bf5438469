-- ===== restore =====
def pR (P : Dt) : Dt := fun a b => if a = 4 then P 12 b else if a = 5 then (if b < P 20 8 then P 11 b else P 5 b) else if a = 8 then P 13 b else if a = 9 then P 14 b else if a = 10 then P 15 b else if a = 20 then (if b = 4 then P 20 7 else if b = 5 then P 20 9 else P 20 b) else P a b
theorem pR_o {P : Dt} {a : Nat} (h : 20 < a) : pR P a = P a := by
  funext b
  unfold pR
  rw [if_neg (by omega), if_neg (by omega), if_neg (by omega), if_neg (by omega), if_neg (by omega), if_neg (by omega)]
theorem pR_OK {P : Dt} {t : Nat} (hO : OK P t) (h6 : P 20 6 ≠ 0) (he : P 20 6 = P 20 2) : OK (pR P) t := by
  obtain ⟨b1, b2, b3, b4, b5, b6, b7, b8, b9, b10, b11, b12, b13⟩ := hO
  obtain ⟨d1, d2, d3, d4, d5, d6, d7⟩ := b12 h6
  refine ⟨b1, b2, b3, fun c hc => ⟨(b4 c hc).1, (b4 c hc).2.1, (b4 c hc).2.2.1, d7 he c hc⟩, b5, b6, fun j hj => ?_, ⟨d1, d2⟩, d5, d6, b11, fun _ => ⟨d1, d2, d3, d4, d5, d6, d7⟩, b13⟩
  rw [pR_o (a := 30 + j) (by omega), pR_o (a := 40 + j) (by omega)]
  obtain ⟨c1, c2, c3⟩ := b7 j hj
  show 10 ≤ (if j < P 20 8 then P 11 j else P 5 j) ∧ (if j < P 20 8 then P 11 j else P 5 j) ≤ 99 ∧ _
  by_cases h : j < P 20 8
  · rw [if_pos h]; exact ⟨(d4 j h).1, (d4 j h).2, c3⟩
  · rw [if_neg h]; exact ⟨c1, c2, c3⟩
theorem rst43 {k : Nat} (hk : k ≤ 8) : ∀ (d n j : Nat) (S : St), j + d = k → d < n → S 37 3 = nI k → ∃ S1 n1, f_X7_restore_l43 n (nI j) S = f_X7_restore_l43 (n1 + 1) (nI k) S1 ∧ (∀ c s, ((c < 9 ∨ 33 ≤ c) ∨ s ≠ 3 ∨ c % 3 ≠ 0) → S1 c s = S c s) ∧ (∀ i, (i < j ∨ k ≤ i) → S1 (9 + 3 * i) 3 = S (9 + 3 * i) 3) ∧ (∀ i, j ≤ i → i < k → S1 (9 + 3 * i) 3 = S 38 i) := by
  intro d
  induction d with
  | zero =>
    intro n j S hj hn h9
    obtain ⟨n, rfl⟩ : ∃ a, n = a + 1 := ⟨n - 1, by omega⟩
    obtain rfl : j = k := by omega
    exact ⟨S, n, rfl, fun _ _ _ => rfl, fun _ _ => rfl, fun i h1 h2 => absurd h2 (by omega)⟩
  | succ d ih =>
    intro n j S hj hn h9
    obtain ⟨n, rfl⟩ : ∃ a, n = a + 1 := ⟨n - 1, by omega⟩
    rw [f_X7_restore_l43, h9, if_neg (nI_ge (by omega) (by omega)), inb_nI (show j < 8 by omega) (by decide), grd_t, grd_t, lett_e, lett_e, nI_1, cl_nI (by omega)]
    obtain ⟨S1, n1, e1, f1, f2, f3⟩ := ih n (j + 1) (su S (9 + 3 * j) 3 (S 38 j)) (by omega) (by omega) (by rw [su_o (by omega)]; exact h9)
    refine ⟨S1, n1, e1, fun c s h => ?_, fun i hi => ?_, fun i h1 h2 => ?_⟩
    · rw [f1 c s h, su_g (by omega)]
    · rw [f2 i (by omega), su_o (by omega)]
    · by_cases h : i = j
      · subst h; rw [f2 i (by omega), su_s]
      · rw [f3 i (by omega) h2, su_o (by omega)]
theorem restore7 {P : Dt} {t : Nat} {S : St} (hR : RC P S) (hO : OK P t) (h6 : P 20 6 ≠ 0) (he : P 20 6 = P 20 2) : ∃ S1, f_X7_restore S = some (nI (P 20 3), S1) ∧ RC (pR P) S1 ∧ ∀ c, 55 ≤ c → S1 c = S c := by
  have h8 := hO.h8
  have h12 := hO.h12
  obtain ⟨d1, d2, d3, d4, d5, d6, d7⟩ := hO.2.2.2.2.2.2.2.2.2.2.2.1 h6
  have hb6 : P 20 6 < 2 ^ 31 := by have := hO.2.2.2.2.2.2.2.2.2.2.1; have := hO.2.2.2.2.1.1; have := hO.2.2.2.2.2.2.2.2.2.2.2.2; omega
  obtain ⟨a1, a2, a3, a4, a5, a6, a7, a8, a9, a10, a11, a12⟩ := hR
  obtain ⟨q1, q2, q3, q4, q5, q6⟩ := a12 h6
  unfold f_X7_restore
  rw [a11, if_neg (fun z => h6 ((nI0 hb6).mp z)), a5, if_pos (congrArg nI he), lett_e, q1]
  obtain ⟨S1, n1, e1, f1, f2, f3⟩ := rst43 (k := P 20 8) (by omega) (P 20 8) FU 0 (su S 0 10 (nI (P 20 7))) (by omega) (by unfold FU; omega) (by rw [su_o (by decide)]; exact q2)
  have e1' : f_X7_restore_l43 FU 0 (su S 0 10 (nI (P 20 7))) = _ := e1
  have g : ∀ c, c ≠ 0 → (c < 9 ∨ 33 ≤ c) → S1 c = S c := fun c h1 h2 => by
    funext s
    rw [f1 c s (Or.inl h2), su_o h1]
  rw [e1', f_X7_restore_l43, g 37 (by decide) (by decide), q2, if_pos (nI_le (Nat.le_refl _) (by omega)), lett_e, cl0, cl12]
  unfold f_X2_copy33
  rw [lett_e, lett_e, lett_e, lett_e, bnd_some, cl0, cl8, su_o (show (0 : Nat) ≠ 33 by decide), sr_o (show (0 : Nat) ≠ 36 by decide), sr_o (show (0 : Nat) ≠ 35 by decide), sr_o (show (0 : Nat) ≠ 34 by decide), sr_o (show (0 : Nat) ≠ 7 by decide), f1 0 9 (Or.inl (Or.inl (by decide))), su_k (show (9 : Nat) ≠ 10 by decide), a6]
  refine ⟨_, rfl, ?_, fun c hc => ?_⟩
  · have G : ∀ c, c ≠ 0 → (c < 9 ∨ 33 ≤ c) → c ≠ 7 → c ≠ 33 → c ≠ 34 → c ≠ 35 → c ≠ 36 → ∀ f1 f2 f3 f4 v, su (sr (sr (sr (sr S1 7 f1) 34 f2) 35 f3) 36 f4) 33 3 v c = S c := fun c w0 w w1 w2 w3 w4 w5 f1 f2 f3 f4 v => by
      rw [su_o w2, sr_o w5, sr_o w4, sr_o w3, sr_o w1, g c w0 w]
    refine ⟨?_, fun j hj => ?_, ?_, fun c hc => ⟨?_, ?_, ?_, ?_⟩, ?_, ?_, fun j hj => ⟨?_, ?_, ?_⟩, ?_, ?_, fun i hi => ⟨?_, ?_, ?_⟩, ?_, fun _ => ?_⟩
    · rw [G 1 (by decide) (by decide) (by decide) (by decide) (by decide) (by decide) (by decide)]; exact a1
    · rw [G 2 (by decide) (by decide) (by decide) (by decide) (by decide) (by decide) (by decide)]; exact a2 j hj
    · rw [G 3 (by decide) (by decide) (by decide) (by decide) (by decide) (by decide) (by decide)]; exact a3
    · rw [G 4 (by decide) (by decide) (by decide) (by decide) (by decide) (by decide) (by decide)]; exact (a4 c hc).1
    · rw [G 5 (by decide) (by decide) (by decide) (by decide) (by decide) (by decide) (by decide)]; exact (a4 c hc).2.1
    · rw [G 6 (by decide) (by decide) (by decide) (by decide) (by decide) (by decide) (by decide)]; exact (a4 c hc).2.2.1
    · have hc' : c < P 20 1 := hc
      rw [su_o (by decide), sr_o (by decide), sr_o (by decide), sr_o (by decide), sr_s, cpy0 (by omega), g 39 (by decide) (by decide)]; exact q6 he c hc
    · rw [G 3 (by decide) (by decide) (by decide) (by decide) (by decide) (by decide) (by decide)]; exact a5
    · rw [su_o (by decide), sr_o (by decide), sr_o (by decide), sr_o (by decide), sr_o (by decide), f1 0 9 (Or.inl (Or.inl (by decide))), su_k (by decide)]; exact a6
    · have hj' : j < P 20 3 := hj
      rw [su_o (by omega), sr_o (by omega), sr_o (by omega), sr_o (by omega), sr_o (by omega)]
      show _ = nI (if j < P 20 8 then P 11 j else P 5 j)
      by_cases h : j < P 20 8
      · rw [if_pos h, f3 j (Nat.zero_le _) h, su_o (by decide)]; exact q3 j h
      · rw [if_neg h, f2 j (by omega), su_o (by omega)]; exact (a7 j hj).1
    · have hj' : j < P 20 3 := hj
      rw [su_o (by omega), sr_o (by omega), sr_o (by omega), sr_o (by omega), sr_o (by omega), f1 _ 2 (by omega), su_o (by omega)]; exact (a7 j hj).2.1
    · have hj' : j < P 20 3 := hj
      intro k hk
      rw [pR_o (a := 30 + j) (by omega), pR_o (a := 40 + j) (by omega), su_o (by omega), sr_o (by omega), sr_o (by omega), sr_o (by omega), sr_o (by omega), f1 (9 + 3 * j + 1) k (by omega), su_o (by omega), su_o (by omega), sr_o (by omega), sr_o (by omega), sr_o (by omega), sr_o (by omega), f1 (9 + 3 * j + 2) k (by omega), su_o (by omega)]
      exact (a7 j hj).2.2 k hk
    · rw [su_o (by decide), sr_o (by decide), sr_o (by decide), sr_o (by decide), sr_o (by decide), f1 0 10 (Or.inl (Or.inl (by decide))), su_s]; rfl
    · rw [su_s, sr_o (by decide), sr_o (by decide), sr_o (by decide), sr_o (by decide), g 40 (by decide) (by decide)]; exact q4
    · have hi' : i < P 20 9 := hi
      rw [su_o (by decide), sr_o (by decide), sr_o (by decide), sr_s, cpy0 (by omega), sr_o (by decide), g 41 (by decide) (by decide)]; exact (q5 i hi).1
    · have hi' : i < P 20 9 := hi
      rw [su_o (by decide), sr_o (by decide), sr_s, cpy0 (by omega), sr_o (by decide), sr_o (by decide), g 42 (by decide) (by decide)]; exact (q5 i hi).2.1
    · have hi' : i < P 20 9 := hi
      rw [su_o (by decide), sr_s, cpy0 (by omega), sr_o (by decide), sr_o (by decide), sr_o (by decide), g 43 (by decide) (by decide)]; exact (q5 i hi).2.2
    · rw [G 37 (by decide) (by decide) (by decide) (by decide) (by decide) (by decide) (by decide)]; exact a11
    · rw [G 37 (by decide) (by decide) (by decide) (by decide) (by decide) (by decide) (by decide), G 38 (by decide) (by decide) (by decide) (by decide) (by decide) (by decide) (by decide), G 39 (by decide) (by decide) (by decide) (by decide) (by decide) (by decide) (by decide), G 40 (by decide) (by decide) (by decide) (by decide) (by decide) (by decide) (by decide), G 41 (by decide) (by decide) (by decide) (by decide) (by decide) (by decide) (by decide), G 42 (by decide) (by decide) (by decide) (by decide) (by decide) (by decide) (by decide), G 43 (by decide) (by decide) (by decide) (by decide) (by decide) (by decide) (by decide)]
      exact a12 h6
  · rw [su_o (by omega), sr_o (by omega), sr_o (by omega), sr_o (by omega), sr_o (by omega), g c (by omega) (by omega)]
theorem rst16 : ∀ (d n i : Nat) (S : St), i + d = 12 → d < n → f_X8_restore_l16 n (nI i) S = f_X8_restore_l42 FU 0 (cpS S 72 61 i 12) := by
  intro d
  induction d with
  | zero =>
    intro n i S hi hd
    obtain ⟨n, rfl⟩ : ∃ k, n = k + 1 := ⟨n - 1, by omega⟩
    obtain rfl : i = 12 := by omega
    rw [f_X8_restore_l16, if_pos (by decide), cpS_0]
  | succ d ih =>
    intro n i S hi hd
    obtain ⟨n, rfl⟩ : ∃ k, n = k + 1 := ⟨n - 1, by omega⟩
    rw [f_X8_restore_l16, if_neg (show ¬ (12 : Int32) ≤ nI i from nI_ge (b := 12) (by omega) (by decide)), inb_nI (by omega) (by omega), grd_t, grd_t, lett_e, lett_e, nI_1, cl_nI (by omega), ih n (i + 1) _ (by omega) (by omega), cpS_1 S 72 61 i 12 (by omega) (by decide)]
theorem rst42 {k : Nat} (hk : k ≤ 8) : ∀ (d n i : Nat) (S : St), i + d = k → d < n → S 55 34 = nI k → f_X8_restore_l42 n (nI i) S = f_X8_restore_l70 FU 0 (cpS S 73 62 i k) := by
  intro d
  induction d with
  | zero =>
    intro n i S hi hd h34
    obtain ⟨n, rfl⟩ : ∃ k, n = k + 1 := ⟨n - 1, by omega⟩
    obtain rfl : i = k := by omega
    rw [f_X8_restore_l42, h34, if_pos (nI_le (Nat.le_refl _) (by omega)), cpS_0]
  | succ d ih =>
    intro n i S hi hd h34
    obtain ⟨n, rfl⟩ : ∃ k, n = k + 1 := ⟨n - 1, by omega⟩
    rw [f_X8_restore_l42, h34, if_neg (nI_ge (by omega) (by omega)), inb_nI (show i < 8 by omega) (by omega), grd_t, grd_t, lett_e, lett_e, nI_1, cl_nI (by omega), ih n (i + 1) _ (by omega) (by omega) (by rw [su_o (by decide)]; exact h34), cpS_1 S 73 62 i k (by omega) (by decide)]
theorem rst70 : ∀ (d n i : Nat) (S : St), i + d = 24 → d < n → ∃ n1, f_X8_restore_l70 n (nI i) S = f_X8_restore_l70 (n1 + 1) (nI 24) (cpS S 74 70 i 24) := by
  intro d
  induction d with
  | zero =>
    intro n i S hi hd
    obtain ⟨n, rfl⟩ : ∃ k, n = k + 1 := ⟨n - 1, by omega⟩
    obtain rfl : i = 24 := by omega
    exact ⟨n, by rw [cpS_0]⟩
  | succ d ih =>
    intro n i S hi hd
    obtain ⟨n, rfl⟩ : ∃ k, n = k + 1 := ⟨n - 1, by omega⟩
    rw [f_X8_restore_l70, if_neg (show ¬ (24 : Int32) ≤ nI i from nI_ge (b := 24) (by omega) (by decide)), inb_nI (by omega) (by omega), grd_t, grd_t, lett_e, lett_e, nI_1, cl_nI (by omega)]
    obtain ⟨n1, e1⟩ := ih n (i + 1) (su S 70 i (S 74 i)) (by omega) (by omega)
    exact ⟨n1, by rw [e1, cpS_1 S 74 70 i 24 (by omega) (by decide)]⟩
theorem restore8 {P : Dt} {t : Nat} {T : St} (hR : RM P T) (hO : OK P t) (h6 : P 20 6 ≠ 0) (he : P 20 6 = P 20 2) : ∃ T1, f_X8_restore T = some (nI (P 20 3), T1) ∧ RM (pR P) T1 ∧ ∀ c, c < 55 → T1 c = T c := by
  have h8 := hO.h8
  have h12 := hO.h12
  obtain ⟨d1, d2, d3, d4, d5, d6, d7⟩ := hO.2.2.2.2.2.2.2.2.2.2.2.1 h6
  obtain ⟨a1, a2, a3, a4, a5, a6, a7, a8, a9, a10, a11, a12⟩ := hR
  obtain ⟨q1, q2, q3, q4, q5, q6⟩ := a12 h6
  unfold f_X8_restore
  rw [a11, a5, if_pos (by rw [if_neg h6, he]), show (0 : Int32) = nI 0 from rfl, rst16 12 FU 0 T (by omega) (by unfold FU; omega), show (0 : Int32) = nI 0 from rfl, rst42 (k := P 20 8) (by omega) (P 20 8) FU 0 _ (by omega) (by unfold FU; omega) (by rw [cpS_o (by decide)]; exact q2)]
  obtain ⟨n1, e1⟩ := rst70 24 FU 0 (cpS (cpS T 72 61 0 12) 73 62 0 (P 20 8)) (by omega) (by unfold FU; omega)
  have e1' : f_X8_restore_l70 FU 0 (cpS (cpS T 72 61 0 12) 73 62 0 (P 20 8)) = _ := e1
  have g : ∀ c, c ≠ 61 → c ≠ 62 → c ≠ 70 → cpS (cpS (cpS T 72 61 0 12) 73 62 0 (P 20 8)) 74 70 0 24 c = T c := fun c w1 w2 w3 => by rw [cpS_o w3, cpS_o w2, cpS_o w1]
  have g55 := g 55 (by decide) (by decide) (by decide)
  rw [e1', f_X8_restore_l70, if_pos (by decide), lett_e, lett_e, su_k (show (35 : Nat) ≠ 16 by decide), g55, q1, q4, su_k (show (12 : Nat) ≠ 29 by decide), su_k (show (12 : Nat) ≠ 16 by decide), g55, a6]
  refine ⟨_, rfl, ?_, fun c hc => ?_⟩
  · refine ⟨?_, fun j hj => ?_, ?_, fun c hc => ⟨?_, ?_, ?_, ?_⟩, ?_, ?_, fun j hj => ⟨?_, ?_, ?_⟩, ?_, ?_, fun i hi => ?_, ?_, fun _ => ?_⟩
    · rw [su_k (by decide), su_k (by decide), g55]; exact a1
    · rw [su_o (by decide), su_o (by decide), g 56 (by decide) (by decide) (by decide)]; exact a2 j hj
    · rw [su_k (by decide), su_k (by decide), g55]; exact a3
    · rw [su_o (by decide), su_o (by decide), g 58 (by decide) (by decide) (by decide)]; exact (a4 c hc).1
    · rw [su_o (by decide), su_o (by decide), g 59 (by decide) (by decide) (by decide)]; exact (a4 c hc).2.1
    · rw [su_o (by decide), su_o (by decide), g 60 (by decide) (by decide) (by decide)]; exact (a4 c hc).2.2.1
    · have hc' : c < P 20 1 := hc
      rw [su_o (by decide), su_o (by decide), cpS_o (by decide), cpS_o (by decide), cpS_in (by omega)]; exact q6 he c hc
    · rw [su_k (by decide), su_k (by decide), g55]; exact a5
    · rw [su_k (by decide), su_k (by decide), g55]; exact a6
    · have hj' : j < P 20 3 := hj
      rw [su_o (by decide), su_o (by decide), cpS_o (by decide)]
      show _ = nI (if j < P 20 8 then P 11 j else P 5 j)
      by_cases h : j < P 20 8
      · rw [if_pos h, cpS_in (by omega), cpS_o (by decide)]; exact q3 j h
      · rw [if_neg h]
        have : cpS (cpS T 72 61 0 12) 73 62 0 (P 20 8) 62 j = cpS T 72 61 0 12 62 j := by
          show (if (62 : Nat) = 62 then (if 0 ≤ j ∧ j < P 20 8 then _ else _) else _) = _
          rw [if_pos rfl, if_neg (by omega)]
        rw [this, cpS_o (by decide)]; exact (a7 j hj).1
    · rw [su_o (by decide), su_o (by decide), g 63 (by decide) (by decide) (by decide)]; exact (a7 j hj).2.1
    · have hj' : j < P 20 3 := hj
      intro k hk
      rw [pR_o (a := 30 + j) (by omega), pR_o (a := 40 + j) (by omega), su_o (by decide), su_o (by decide), g 64 (by decide) (by decide) (by decide)]
      exact (a7 j hj).2.2 k hk
    · rw [su_k (by decide), su_s]; rfl
    · rw [su_s]; rfl
    · have hi' : i < P 20 9 := hi
      rw [su_o (by decide), su_o (by decide), cpS_in (by omega), cpS_in (by omega), cpS_in (by omega), cpS_o (by decide), cpS_o (by decide)]; exact q5 i hi
    · rw [su_k (by decide), su_k (by decide), g55]; exact a11
    · rw [su_k (show (33 : Nat) ≠ 29 by decide), su_k (show (33 : Nat) ≠ 16 by decide), su_k (show (34 : Nat) ≠ 29 by decide), su_k (show (34 : Nat) ≠ 16 by decide), su_k (show (35 : Nat) ≠ 29 by decide), su_k (show (35 : Nat) ≠ 16 by decide), su_o (show (72 : Nat) ≠ 55 by decide), su_o (show (72 : Nat) ≠ 55 by decide), su_o (show (73 : Nat) ≠ 55 by decide), su_o (show (73 : Nat) ≠ 55 by decide), su_o (show (74 : Nat) ≠ 55 by decide), su_o (show (74 : Nat) ≠ 55 by decide), g55, g 72 (by decide) (by decide) (by decide), g 73 (by decide) (by decide) (by decide), g 74 (by decide) (by decide) (by decide)]
      exact a12 h6
  · rw [su_o (by omega), su_o (by omega), g c (by omega) (by omega) (by omega)]
theorem op_restore : Op f_X7_restore f_X8_restore := by
  intro t P hO ht
  have hb : P 20 6 ≤ P 20 2 ∧ P 20 2 ≤ 1000 := ⟨hO.2.2.2.2.2.2.2.2.2.2.1, by have := hO.2.2.2.2.1.1; have := hO.2.2.2.2.2.2.2.2.2.2.2.2; omega⟩
  by_cases h6 : P 20 6 = 0
  · refine ⟨-103, P, hO.next ht, ClsR (fun S hR => ?_), MdlR (fun T hR => ?_)⟩
    · unfold f_X7_restore
      rw [hR.2.2.2.2.2.2.2.2.2.2.1, h6, if_pos (by decide)]
    · unfold f_X8_restore
      rw [hR.2.2.2.2.2.2.2.2.2.2.1, hR.2.2.2.2.1, if_pos h6, if_neg (fun q => by
        have := congrArg Int32.toInt q
        rw [nI_toInt (by omega), show ((-1 : Int32)).toInt = -1 from by decide] at this
        omega)]
  by_cases he : P 20 6 = P 20 2
  · exact ⟨nI (P 20 3), pR P, pR_OK (hO.next ht) h6 he, fun S hR => restore7 hR hO h6 he, fun T hR => restore8 hR hO h6 he⟩
  · refine ⟨-103, P, hO.next ht, ClsR (fun S hR => ?_), MdlR (fun T hR => ?_)⟩
    · unfold f_X7_restore
      rw [hR.2.2.2.2.2.2.2.2.2.2.1, hR.2.2.2.2.1, if_neg (fun z => h6 ((nI0 (by omega)).mp z)), if_neg (nI_ne (by omega) (by omega) he)]
    · unfold f_X8_restore
      rw [hR.2.2.2.2.2.2.2.2.2.2.1, hR.2.2.2.2.1, if_neg h6, if_neg (nI_ne (by omega) (by omega) he)]
