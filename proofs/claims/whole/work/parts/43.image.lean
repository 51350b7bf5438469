-- ===== image =====
def pI (P : Dt) : Dt := fun a b => if a = 11 then P 5 b else if a = 12 then P 4 b else if a = 13 then P 8 b else if a = 14 then P 9 b else if a = 15 then P 10 b else if a = 20 then (if b = 6 then P 20 2 else if b = 7 then P 20 4 else if b = 8 then P 20 3 else if b = 9 then P 20 5 else P 20 b) else P a b
theorem pI_o {P : Dt} {a : Nat} (h : a < 11 ∨ 20 < a) : pI P a = P a := by
  funext b
  unfold pI
  rw [if_neg (by omega), if_neg (by omega), if_neg (by omega), if_neg (by omega), if_neg (by omega), if_neg (by omega)]
theorem pI_OK {P : Dt} {t : Nat} (hO : OK P t) (h0 : P 20 1 ≠ 0) : OK (pI P) t := by
  obtain ⟨b1, b2, b3, b4, b5, b6, b7, b8, b9, b10, b11, b12, b13⟩ := hO
  refine ⟨b1, b2, b3, b4, b5, b6, fun j hj => ?_, b8, b9, b10, Nat.le_refl _, fun _ => ⟨b8.1, b8.2, Nat.le_refl _, fun j hj => ⟨(b7 j hj).1, (b7 j hj).2.1⟩, b9, b10, fun _ c hc => (b4 c hc).2.2.2⟩, b13⟩
  rw [pI_o (a := 30 + j) (by omega), pI_o (a := 40 + j) (by omega)]
  exact b7 j hj
theorem img51 {k : Nat} (hk : k ≤ 8) : ∀ (d n j : Nat) (S : St), j + d = k → d < n → S 0 9 = nI k → ∃ S1 n1, f_X7_image_l51 n (nI j) S = f_X7_image_l51 (n1 + 1) (nI k) S1 ∧ (∀ c, c ≠ 38 → S1 c = S c) ∧ (∀ i, i < j → S1 38 i = S 38 i) ∧ (∀ i, j ≤ i → i < k → S1 38 i = S (9 + 3 * i) 3) := by
  intro d
  induction d with
  | zero =>
    intro n j S hj hn h9
    obtain ⟨n, rfl⟩ : ∃ a, n = a + 1 := ⟨n - 1, by omega⟩
    obtain rfl : j = k := by omega
    exact ⟨S, n, rfl, fun _ _ => rfl, fun _ _ => rfl, fun i h1 h2 => absurd h2 (by omega)⟩
  | succ d ih =>
    intro n j S hj hn h9
    obtain ⟨n, rfl⟩ : ∃ a, n = a + 1 := ⟨n - 1, by omega⟩
    rw [f_X7_image_l51, h9, if_neg (nI_ge (by omega) (by omega)), inb_nI (show j < 8 by omega) (by decide), grd_t, grd_t, lett_e, lett_e, nI_1, cl_nI (by omega)]
    obtain ⟨S1, n1, e1, f1, f2, f3⟩ := ih n (j + 1) (su S 38 j (S (9 + 3 * j) 3)) (by omega) (by omega) (by rw [su_o (by decide)]; exact h9)
    refine ⟨S1, n1, e1, fun c hc => (f1 c hc).trans (su_o hc), fun i hi => (f2 i (by omega)).trans (su_k (by omega)), fun i h1 h2 => ?_⟩
    by_cases h : i = j
    · subst h; rw [f2 i (by omega), su_s]
    · rw [f3 i (by omega) h2, su_o (by omega)]
theorem cl0 : (0 : Int32).toNatClampNeg = 0 := by decide
theorem cl8 : (8 : Int32).toNatClampNeg = 8 := by decide
theorem cl12 : (12 : Int32).toNatClampNeg = 12 := by decide
theorem image7 {P : Dt} {t : Nat} {S : St} (hR : RC P S) (hO : OK P t) (h0 : P 20 1 ≠ 0) : ∃ S1, f_X7_image S = some (nI (P 20 3), S1) ∧ RC (pI P) S1 ∧ ∀ c, 55 ≤ c → S1 c = S c := by
  have h8 := hO.h8
  have h12 := hO.h12
  have h5 : P 20 5 ≤ 8 := hO.2.2.2.2.2.2.2.2.1
  obtain ⟨a1, a2, a3, a4, a5, a6, a7, a8, a9, a10, a11, a12⟩ := hR
  unfold f_X7_image
  rw [a3, if_neg (fun q => h0 ((nI0 (by omega)).mp q)), lett_e, lett_e, lett_e, su_o (show (0 : Nat) ≠ 37 by decide), su_o (show (0 : Nat) ≠ 37 by decide), a5, a8, su_o (show (0 : Nat) ≠ 37 by decide), a6]
  obtain ⟨S1, n1, e1, f1, -, f3⟩ := img51 h8 (P 20 3) FU 0 (su (su (su S 37 5 (nI (P 20 2))) 37 4 (nI (P 20 4))) 37 3 (nI (P 20 3))) (by omega) (by unfold FU; omega) (by rw [su_o (by decide), su_o (by decide), su_o (by decide)]; exact a6)
  have e1' : f_X7_image_l51 FU 0 (su (su (su S 37 5 (nI (P 20 2))) 37 4 (nI (P 20 4))) 37 3 (nI (P 20 3))) = _ := e1
  have g : ∀ c, c ≠ 37 → c ≠ 38 → S1 c = S c := fun c h1 h2 => by rw [f1 c h2, su_o h1, su_o h1, su_o h1]
  have g37 : S1 37 = su (su (su S 37 5 (nI (P 20 2))) 37 4 (nI (P 20 4))) 37 3 (nI (P 20 3)) 37 := f1 37 (by decide)
  rw [e1', f_X7_image_l51, g 0 (by decide) (by decide), a6, if_pos (nI_le (Nat.le_refl _) (by omega)), lett_e, cl0, cl12]
  unfold f_X2_copy40
  rw [lett_e, lett_e, lett_e, lett_e, bnd_some, cl0, cl8, su_o (show (0 : Nat) ≠ 40 by decide), sr_o (show (0 : Nat) ≠ 43 by decide), sr_o (show (0 : Nat) ≠ 42 by decide), sr_o (show (0 : Nat) ≠ 41 by decide), sr_o (show (0 : Nat) ≠ 39 by decide), g 0 (by decide) (by decide), a6]
  refine ⟨_, rfl, ?_, fun c hc => ?_⟩
  · have G : ∀ c, c ≠ 37 → c ≠ 38 → c ≠ 39 → c ≠ 40 → c ≠ 41 → c ≠ 42 → c ≠ 43 → ∀ f1 f2 f3 f4 v, su (sr (sr (sr (sr S1 39 f1) 41 f2) 42 f3) 43 f4) 40 3 v c = S c := fun c w1 w2 w3 w4 w5 w6 w7 f1 f2 f3 f4 v => by
      rw [su_o w4, sr_o w7, sr_o w6, sr_o w5, sr_o w3, g c w1 w2]
    refine ⟨?_, fun j hj => ?_, ?_, fun c hc => ?_, ?_, ?_, fun j hj => ?_, ?_, ?_, fun i hi => ?_, ?_, fun _ => ⟨?_, ?_, fun j hj => ?_, ?_, fun i hi => ⟨?_, ?_, ?_⟩, fun _ c hc => ?_⟩⟩
    · rw [G 1 (by decide) (by decide) (by decide) (by decide) (by decide) (by decide) (by decide)]; exact a1
    · rw [G 2 (by decide) (by decide) (by decide) (by decide) (by decide) (by decide) (by decide)]; exact a2 j hj
    · rw [G 3 (by decide) (by decide) (by decide) (by decide) (by decide) (by decide) (by decide)]; exact a3
    · rw [G 4 (by decide) (by decide) (by decide) (by decide) (by decide) (by decide) (by decide), G 5 (by decide) (by decide) (by decide) (by decide) (by decide) (by decide) (by decide), G 6 (by decide) (by decide) (by decide) (by decide) (by decide) (by decide) (by decide), G 7 (by decide) (by decide) (by decide) (by decide) (by decide) (by decide) (by decide)]; exact a4 c hc
    · rw [G 3 (by decide) (by decide) (by decide) (by decide) (by decide) (by decide) (by decide)]; exact a5
    · rw [G 0 (by decide) (by decide) (by decide) (by decide) (by decide) (by decide) (by decide)]; exact a6
    · have hj' : j < P 20 3 := hj
      rw [pI_o (a := 5) (by omega), pI_o (a := 6) (by omega), pI_o (a := 30 + j) (by omega), pI_o (a := 40 + j) (by omega), G (9 + 3 * j) (by omega) (by omega) (by omega) (by omega) (by omega) (by omega) (by omega), G (9 + 3 * j + 1) (by omega) (by omega) (by omega) (by omega) (by omega) (by omega) (by omega), G (9 + 3 * j + 2) (by omega) (by omega) (by omega) (by omega) (by omega) (by omega) (by omega)]
      exact a7 j hj
    · rw [G 0 (by decide) (by decide) (by decide) (by decide) (by decide) (by decide) (by decide)]; exact a8
    · rw [G 33 (by decide) (by decide) (by decide) (by decide) (by decide) (by decide) (by decide)]; exact a9
    · rw [G 34 (by decide) (by decide) (by decide) (by decide) (by decide) (by decide) (by decide), G 35 (by decide) (by decide) (by decide) (by decide) (by decide) (by decide) (by decide), G 36 (by decide) (by decide) (by decide) (by decide) (by decide) (by decide) (by decide)]; exact a10 i hi
    · rw [su_o (by decide), sr_o (by decide), sr_o (by decide), sr_o (by decide), sr_o (by decide), g37, su_k (by decide), su_k (by decide), su_s]; rfl
    · rw [su_o (by decide), sr_o (by decide), sr_o (by decide), sr_o (by decide), sr_o (by decide), g37, su_k (by decide), su_s]; rfl
    · rw [su_o (by decide), sr_o (by decide), sr_o (by decide), sr_o (by decide), sr_o (by decide), g37, su_s]; rfl
    · have hj' : j < P 20 3 := hj
      rw [su_o (by decide), sr_o (by decide), sr_o (by decide), sr_o (by decide), sr_o (by decide), f3 j (Nat.zero_le _) hj', su_o (by omega), su_o (by omega), su_o (by omega)]
      exact (a7 j hj').1
    · rw [su_s, sr_o (by decide), sr_o (by decide), sr_o (by decide), sr_o (by decide), g 33 (by decide) (by decide)]; exact a9
    · have hi' : i < P 20 5 := hi
      rw [su_o (by decide), sr_o (by decide), sr_o (by decide), sr_s, cpy0 (by omega), sr_o (by decide), g 34 (by decide) (by decide)]; exact (a10 i hi).1
    · have hi' : i < P 20 5 := hi
      rw [su_o (by decide), sr_o (by decide), sr_s, cpy0 (by omega), sr_o (by decide), sr_o (by decide), g 35 (by decide) (by decide)]; exact (a10 i hi).2.1
    · have hi' : i < P 20 5 := hi
      rw [su_o (by decide), sr_s, cpy0 (by omega), sr_o (by decide), sr_o (by decide), sr_o (by decide), g 36 (by decide) (by decide)]; exact (a10 i hi).2.2
    · have hc' : c < P 20 1 := hc
      rw [su_o (by decide), sr_o (by decide), sr_o (by decide), sr_o (by decide), sr_s, cpy0 (by omega), g 7 (by decide) (by decide)]; exact (a4 c hc).2.2.2
  · rw [su_o (by omega), sr_o (by omega), sr_o (by omega), sr_o (by omega), sr_o (by omega), g c (by omega) (by omega)]
theorem img12 : ∀ (d n i : Nat) (S : St), i + d = 12 → d < n → f_X8_image_l12 n (nI i) S = f_X8_image_l38 FU 0 (cpS S 61 72 i 12) := by
  intro d
  induction d with
  | zero =>
    intro n i S hi hd
    obtain ⟨n, rfl⟩ : ∃ k, n = k + 1 := ⟨n - 1, by omega⟩
    obtain rfl : i = 12 := by omega
    rw [f_X8_image_l12, if_pos (by decide), cpS_0]
  | succ d ih =>
    intro n i S hi hd
    obtain ⟨n, rfl⟩ : ∃ k, n = k + 1 := ⟨n - 1, by omega⟩
    rw [f_X8_image_l12, if_neg (show ¬ (12 : Int32) ≤ nI i from nI_ge (b := 12) (by omega) (by decide)), inb_nI (by omega) (by omega), grd_t, grd_t, lett_e, lett_e, nI_1, cl_nI (by omega), ih n (i + 1) _ (by omega) (by omega), cpS_1 S 61 72 i 12 (by omega) (by decide)]
theorem img38 : ∀ (d n i : Nat) (S : St), i + d = 8 → d < n → f_X8_image_l38 n (nI i) S = f_X8_image_l64 FU 0 (cpS S 62 73 i 8) := by
  intro d
  induction d with
  | zero =>
    intro n i S hi hd
    obtain ⟨n, rfl⟩ : ∃ k, n = k + 1 := ⟨n - 1, by omega⟩
    obtain rfl : i = 8 := by omega
    rw [f_X8_image_l38, if_pos (by decide), cpS_0]
  | succ d ih =>
    intro n i S hi hd
    obtain ⟨n, rfl⟩ : ∃ k, n = k + 1 := ⟨n - 1, by omega⟩
    rw [f_X8_image_l38, if_neg (show ¬ (8 : Int32) ≤ nI i from nI_ge (b := 8) (by omega) (by decide)), inb_nI (by omega) (by omega), grd_t, grd_t, lett_e, lett_e, nI_1, cl_nI (by omega), ih n (i + 1) _ (by omega) (by omega), cpS_1 S 62 73 i 8 (by omega) (by decide)]
theorem img64 : ∀ (d n i : Nat) (S : St), i + d = 24 → d < n → ∃ n1, f_X8_image_l64 n (nI i) S = f_X8_image_l64 (n1 + 1) (nI 24) (cpS S 70 74 i 24) := by
  intro d
  induction d with
  | zero =>
    intro n i S hi hd
    obtain ⟨n, rfl⟩ : ∃ k, n = k + 1 := ⟨n - 1, by omega⟩
    obtain rfl : i = 24 := by omega
    exact ⟨n, by rw [cpS_0]⟩
  | succ d ih =>
    intro n i S hi hd
    obtain ⟨n, rfl⟩ : ∃ k, n = k + 1 := ⟨n - 1, by omega⟩
    rw [f_X8_image_l64, if_neg (show ¬ (24 : Int32) ≤ nI i from nI_ge (b := 24) (by omega) (by decide)), inb_nI (by omega) (by omega), grd_t, grd_t, lett_e, lett_e, nI_1, cl_nI (by omega)]
    obtain ⟨n1, e1⟩ := ih n (i + 1) (su S 74 i (S 70 i)) (by omega) (by omega)
    exact ⟨n1, by rw [e1, cpS_1 S 70 74 i 24 (by omega) (by decide)]⟩
theorem image8 {P : Dt} {t : Nat} {T : St} (hR : RM P T) (hO : OK P t) (h0 : P 20 1 ≠ 0) : ∃ T1, f_X8_image T = some (nI (P 20 3), T1) ∧ RM (pI P) T1 ∧ ∀ c, c < 55 → T1 c = T c := by
  have h8 := hO.h8
  have h12 := hO.h12
  have h5 : P 20 5 ≤ 8 := hO.2.2.2.2.2.2.2.2.1
  have h02 : P 20 2 ≠ 0 := by have := hO.2.2.2.2.1.2 h0; omega
  unfold f_X8_image
  rw [l8y hO hR h0, bnd_some, if_pos i00, show (0 : Int32) = nI 0 from rfl, img12 12 FU 0 T (by omega) (by unfold FU; omega), show (0 : Int32) = nI 0 from rfl, img38 8 FU 0 _ (by omega) (by unfold FU; omega)]
  obtain ⟨n1, e1⟩ := img64 24 FU 0 (cpS (cpS T 61 72 0 12) 62 73 0 8) (by omega) (by unfold FU; omega)
  have e1' : f_X8_image_l64 FU 0 (cpS (cpS T 61 72 0 12) 62 73 0 8) = _ := e1
  rw [e1', f_X8_image_l64, if_pos (by decide), lett_e, lett_e, lett_e, lett_e]
  obtain ⟨a1, a2, a3, a4, a5, a6, a7, a8, a9, a10, a11, a12⟩ := hR
  have g : ∀ c, c ≠ 72 → c ≠ 73 → c ≠ 74 → cpS (cpS (cpS T 61 72 0 12) 62 73 0 8) 70 74 0 24 c = T c := fun c w1 w2 w3 => by rw [cpS_o w3, cpS_o w2, cpS_o w1]
  have g55 := g 55 (by decide) (by decide) (by decide)
  rw [su_k (show (12 : Nat) ≠ 33 by decide), su_k (show (29 : Nat) ≠ 34 by decide), su_k (show (29 : Nat) ≠ 33 by decide), su_k (show (7 : Nat) ≠ 35 by decide), su_k (show (7 : Nat) ≠ 34 by decide), su_k (show (7 : Nat) ≠ 33 by decide), g55, a8, a6, a9, a5, su_k (show (12 : Nat) ≠ 32 by decide), su_k (show (12 : Nat) ≠ 35 by decide), su_k (show (12 : Nat) ≠ 34 by decide), su_k (show (12 : Nat) ≠ 33 by decide), g55, a6]
  refine ⟨_, rfl, ?_, fun c hc => ?_⟩
  · refine ⟨?_, fun j hj => ?_, ?_, fun c hc => ?_, ?_, ?_, fun j hj => ?_, ?_, ?_, fun i hi => ?_, ?_, fun _ => ⟨?_, ?_, fun j hj => ?_, ?_, fun i hi => ?_, fun _ c hc => ?_⟩⟩
    · rw [su_k (by decide), su_k (by decide), su_k (by decide), su_k (by decide), g55]; exact a1
    · rw [su_o (by decide), su_o (by decide), su_o (by decide), su_o (by decide), g 56 (by decide) (by decide) (by decide)]; exact a2 j hj
    · rw [su_k (by decide), su_k (by decide), su_k (by decide), su_k (by decide), g55]; exact a3
    · rw [su_o (show (58 : Nat) ≠ 55 by decide), su_o (show (58 : Nat) ≠ 55 by decide), su_o (show (58 : Nat) ≠ 55 by decide), su_o (show (58 : Nat) ≠ 55 by decide), su_o (show (59 : Nat) ≠ 55 by decide), su_o (show (59 : Nat) ≠ 55 by decide), su_o (show (59 : Nat) ≠ 55 by decide), su_o (show (59 : Nat) ≠ 55 by decide), su_o (show (60 : Nat) ≠ 55 by decide), su_o (show (60 : Nat) ≠ 55 by decide), su_o (show (60 : Nat) ≠ 55 by decide), su_o (show (60 : Nat) ≠ 55 by decide), su_o (show (61 : Nat) ≠ 55 by decide), su_o (show (61 : Nat) ≠ 55 by decide), su_o (show (61 : Nat) ≠ 55 by decide), su_o (show (61 : Nat) ≠ 55 by decide), g 58 (by decide) (by decide) (by decide), g 59 (by decide) (by decide) (by decide), g 60 (by decide) (by decide) (by decide), g 61 (by decide) (by decide) (by decide)]; exact a4 c hc
    · rw [su_k (by decide), su_k (by decide), su_k (by decide), su_k (by decide), g55]; exact a5
    · rw [su_k (by decide), su_k (by decide), su_k (by decide), su_k (by decide), g55]; exact a6
    · have hj' : j < P 20 3 := hj
      rw [pI_o (a := 5) (by omega), pI_o (a := 6) (by omega), pI_o (a := 30 + j) (by omega), pI_o (a := 40 + j) (by omega), su_o (show (62 : Nat) ≠ 55 by decide), su_o (show (62 : Nat) ≠ 55 by decide), su_o (show (62 : Nat) ≠ 55 by decide), su_o (show (62 : Nat) ≠ 55 by decide), su_o (show (63 : Nat) ≠ 55 by decide), su_o (show (63 : Nat) ≠ 55 by decide), su_o (show (63 : Nat) ≠ 55 by decide), su_o (show (63 : Nat) ≠ 55 by decide), su_o (show (64 : Nat) ≠ 55 by decide), su_o (show (64 : Nat) ≠ 55 by decide), su_o (show (64 : Nat) ≠ 55 by decide), su_o (show (64 : Nat) ≠ 55 by decide), g 62 (by decide) (by decide) (by decide), g 63 (by decide) (by decide) (by decide), g 64 (by decide) (by decide) (by decide)]; exact a7 j hj
    · rw [su_k (by decide), su_k (by decide), su_k (by decide), su_k (by decide), g55]; exact a8
    · rw [su_k (by decide), su_k (by decide), su_k (by decide), su_k (by decide), g55]; exact a9
    · rw [su_o (show (70 : Nat) ≠ 55 by decide), su_o (show (70 : Nat) ≠ 55 by decide), su_o (show (70 : Nat) ≠ 55 by decide), su_o (show (70 : Nat) ≠ 55 by decide), g 70 (by decide) (by decide) (by decide)]; exact a10 i hi
    · rw [su_s]
      show _ = if P 20 2 = 0 then _ else nI (P 20 2)
      rw [if_neg h02]
    · rw [su_k (by decide), su_k (by decide), su_k (by decide), su_s]; rfl
    · rw [su_k (by decide), su_k (by decide), su_s]; rfl
    · have hj' : j < P 20 3 := hj
      rw [su_o (by decide), su_o (by decide), su_o (by decide), su_o (by decide), cpS_o (by decide), cpS_in (by omega), cpS_o (by decide)]; exact (a7 j hj').1
    · rw [su_k (by decide), su_s]; rfl
    · have hi' : i < P 20 5 := hi
      rw [su_o (by decide), su_o (by decide), su_o (by decide), su_o (by decide), cpS_in (by omega), cpS_in (by omega), cpS_in (by omega), cpS_o (by decide), cpS_o (by decide)]; exact a10 i hi
    · have hc' : c < P 20 1 := hc
      rw [su_o (by decide), su_o (by decide), su_o (by decide), su_o (by decide), cpS_o (by decide), cpS_o (by decide), cpS_in (by omega)]; exact (a4 c hc).2.2.2
  · rw [su_o (by omega), su_o (by omega), su_o (by omega), su_o (by omega), g c (by omega) (by omega) (by omega)]
theorem op_image : Op f_X7_image f_X8_image := by
  intro t P hO ht
  have h12 := hO.h12
  by_cases h0 : P 20 1 = 0
  · refine ⟨-103, P, hO.next ht, ClsR (fun S hR => ?_), MdlR (fun T hR => ?_)⟩
    · unfold f_X7_image
      rw [hR.2.2.1, h0, if_pos (by decide)]
    · unfold f_X8_image
      rw [l8n hR h0, bnd_some, if_neg i10]
  · exact ⟨nI (P 20 3), pI P, pI_OK (hO.next ht) h0, fun S hR => image7 hR hO h0, fun T hR => image8 hR hO h0⟩
