-- ===== hill =====
theorem MdlK {α : Type} {g : St → Option (α × St)} {P : Dt} {r : α} (h8 : P 20 3 ≤ 8) (h : ∀ T, RM P T → ∃ T1, g T = some (r, T1) ∧ KM T T1) : Mdl g P P r := fun T hR => by
  obtain ⟨T1, e1, k1⟩ := h T hR
  exact ⟨T1, e1, hR.km h8 k1, fun c hc => by
    funext k
    exact k1 c k (Or.inl hc)⟩
def pH (P : Dt) : Dt := fun a b => if a = 1 then h_dr (pt P) (P 20 0) b else if a = 2 then h_sh (pt P) (P 20 0) b else if a = 3 then h_bu (pt P) (P 20 0) b else if a = 4 then 0 else if a = 20 then (if b = 0 then 0 else if b = 1 then cm (pt P) (P 20 0) + 1 else if b = 2 then P 20 2 + 1 else P 20 b) else P a b
theorem pH_o {P : Dt} {a : Nat} (h : 20 < a) : pH P a = P a := by
  funext b
  unfold pH
  rw [if_neg (by omega), if_neg (by omega), if_neg (by omega), if_neg (by omega), if_neg (by omega)]
theorem pH_OK {P : Dt} {t : Nat} (hO : OK P t) (hk : okH P) (ht : t < 600) : OK (pH P) (t + 1) := by
  have hc := cm_11 (P 20 0) hk.fits
  obtain ⟨b1, b2, b3, b4, b5, b6, b7, b8, b9, b10, b11, b12, b13⟩ := hO
  refine ⟨Nat.zero_le _, fun j hj => absurd (show j < 0 from hj) (Nat.not_lt_zero _), ?_, fun c hc' => ?_, ⟨?_, fun _ => ?_⟩, b6, fun j hj => ?_, b8, b9, b10, ?_, fun hn => ?_, by omega⟩
  · show cm (pt P) (P 20 0) + 1 ≤ 12
    omega
  · have h := h_b (P 20 0) hk.fits c
    exact ⟨h.1, h.2.1, h.2.2, Nat.zero_le _⟩
  · show P 20 2 + 1 ≤ t + 1
    omega
  · show 1 ≤ P 20 2 + 1
    omega
  · rw [pH_o (a := 30 + j) (by omega), pH_o (a := 40 + j) (by omega)]
    exact b7 j hj
  · show P 20 6 ≤ P 20 2 + 1
    omega
  · obtain ⟨d1, d2, d3, d4, d5, d6, d7⟩ := b12 hn
    refine ⟨d1, d2, d3, d4, d5, d6, fun he => ?_⟩
    have he' : P 20 6 = P 20 2 + 1 := he
    omega
theorem hill7 {P : Dt} {t : Nat} {S : St} (hR : RC P S) (hO : OK P t) (hk : okH P) : ∃ S1, f_X7_hill S = some (nI (cm (pt P) (P 20 0) + 1), S1) ∧ RC (pH P) S1 ∧ ∀ c, 55 ≤ c → S1 c = S c := by
  have h8 := hO.h8
  obtain ⟨S1, e1, f1, f2, f3, f4⟩ := f_read3 hR.pg hO hk
  unfold f_X7_hill
  rw [(isH7 hR.pg hO).1 hk, bnd_some, if_neg i10, e1, bnd_some, lett_e, su_o (show (3 : Nat) ≠ 1 by decide), f2]
  obtain ⟨a1, a2, a3, a4, a5, a6, a7, a8, a9, a10, a11, a12⟩ := hR
  have G : ∀ a, a ≠ 1 → a ≠ 3 → a ≠ 4 → a ≠ 5 → a ≠ 6 → a ≠ 7 → su S1 1 1 0 a = S a := fun a w1 w3 w4 w5 w6 w7 => by rw [su_o w1, f1 a w3 w4 w5 w6 w7]
  refine ⟨_, rfl, ⟨?_, fun j hj => absurd (show j < 0 from hj) (Nat.not_lt_zero _), ?_, fun c hc => ?_, ?_, ?_, fun j hj => ?_, ?_, ?_, fun i hi => ?_, ?_, fun hn => ?_⟩, fun c hc => G c (by omega) (by omega) (by omega) (by omega) (by omega) (by omega)⟩
  · rw [su_s]; rfl
  · rw [su_o (by decide)]; exact f2
  · rw [su_o (by decide), su_o (by decide), su_o (by decide), su_o (by decide)]; exact f4 c hc
  · rw [su_o (by decide), f3, a5, nI_1]; rfl
  · rw [G 0 (by decide) (by decide) (by decide) (by decide) (by decide) (by decide)]; exact a6
  · have hj' : j < P 20 3 := hj
    rw [pH_o (a := 30 + j) (by omega), pH_o (a := 40 + j) (by omega), G (9 + 3 * j) (by omega) (by omega) (by omega) (by omega) (by omega) (by omega), G (9 + 3 * j + 1) (by omega) (by omega) (by omega) (by omega) (by omega) (by omega), G (9 + 3 * j + 2) (by omega) (by omega) (by omega) (by omega) (by omega) (by omega)]
    exact a7 j hj
  · rw [G 0 (by decide) (by decide) (by decide) (by decide) (by decide) (by decide)]; exact a8
  · rw [G 33 (by decide) (by decide) (by decide) (by decide) (by decide) (by decide)]; exact a9
  · rw [G 34 (by decide) (by decide) (by decide) (by decide) (by decide) (by decide), G 35 (by decide) (by decide) (by decide) (by decide) (by decide) (by decide), G 36 (by decide) (by decide) (by decide) (by decide) (by decide) (by decide)]; exact a10 i hi
  · rw [G 37 (by decide) (by decide) (by decide) (by decide) (by decide) (by decide)]; exact a11
  · obtain ⟨d1, d2, d3, d4, d5, d6⟩ := a12 hn
    rw [G 37 (by decide) (by decide) (by decide) (by decide) (by decide) (by decide), G 38 (by decide) (by decide) (by decide) (by decide) (by decide) (by decide), G 40 (by decide) (by decide) (by decide) (by decide) (by decide) (by decide), G 41 (by decide) (by decide) (by decide) (by decide) (by decide) (by decide), G 42 (by decide) (by decide) (by decide) (by decide) (by decide) (by decide), G 43 (by decide) (by decide) (by decide) (by decide) (by decide) (by decide)]
    refine ⟨d1, d2, d3, d4, d5, fun he => ?_⟩
    have he' : P 20 6 = P 20 2 + 1 := he
    have := hO.2.2.2.2.2.2.2.2.2.2.1
    omega
theorem hl51 {K : Nat} (hK : K ≤ 12) : ∀ (d n c : Nat) (T : St), c + d = K → d < n → T 55 6 = nI K → ∃ T1, f_X8_hill_l51 n (nI c) T = some (nI K, T1) ∧ (∀ a, a ≠ 55 → a ≠ 58 → a ≠ 59 → a ≠ 60 → a ≠ 61 → T1 a = T a) ∧ (∀ k, k ≠ 7 → k ≠ 1 → T1 55 k = T 55 k) ∧ T1 55 7 = T 55 7 + 1 ∧ T1 55 1 = 0 ∧ (∀ i, i < c → T1 58 i = T 58 i ∧ T1 59 i = T 59 i ∧ T1 60 i = T 60 i ∧ T1 61 i = T 61 i) ∧ (∀ i, c ≤ i → i < K → T1 58 i = T 57 (3 * i) ∧ T1 59 i = T 57 (3 * i + 1) ∧ T1 60 i = T 57 (3 * i + 2) ∧ T1 61 i = 0) := by
  intro d
  induction d with
  | zero =>
    intro n c T hc hd h6
    obtain ⟨n, rfl⟩ : ∃ k, n = k + 1 := ⟨n - 1, by omega⟩
    obtain rfl : c = K := by omega
    rw [f_X8_hill_l51, h6, if_pos (nI_le (Nat.le_refl _) (by omega)), lett_e, lett_e, su_k (show (6 : Nat) ≠ 1 by decide), su_k (show (6 : Nat) ≠ 7 by decide), h6]
    refine ⟨_, rfl, fun a h1 _ _ _ _ => by rw [su_o h1, su_o h1], fun k h1 h2 => by rw [su_k h2, su_k h1], by rw [su_k (by decide), su_s], by rw [su_s], fun i _ => ?_, fun i h1 h2 => absurd h2 (by omega)⟩
    rw [su_o (show (58 : Nat) ≠ 55 by decide), su_o (show (58 : Nat) ≠ 55 by decide), su_o (show (59 : Nat) ≠ 55 by decide), su_o (show (59 : Nat) ≠ 55 by decide), su_o (show (60 : Nat) ≠ 55 by decide), su_o (show (60 : Nat) ≠ 55 by decide), su_o (show (61 : Nat) ≠ 55 by decide), su_o (show (61 : Nat) ≠ 55 by decide)]
    exact ⟨rfl, rfl, rfl, rfl⟩
  | succ d ih =>
    intro n c T hc hd h6
    obtain ⟨n, rfl⟩ : ∃ k, n = k + 1 := ⟨n - 1, by omega⟩
    rw [f_X8_hill_l51, h6, if_neg (nI_ge (by omega) (by omega)), m3nI, nI_1 (3 * c), nI_2 (3 * c), nI_1 c, inb_nI (show 3 * c < 36 by omega) (by decide), grd_t, inb_nI (show c < 12 by omega) (by decide), grd_t, lett_e, inb_nI (show 3 * c + 1 < 36 by omega) (by decide), grd_t, grd_t, lett_e, inb_nI (show 3 * c + 2 < 36 by omega) (by decide), grd_t, grd_t, lett_e, grd_t, lett_e, lett_e, cl_nI (show c < 2 ^ 31 by omega), cl_nI (show 3 * c < 2 ^ 31 by omega), cl_nI (show 3 * c + 1 < 2 ^ 31 by omega), cl_nI (show 3 * c + 2 < 2 ^ 31 by omega), su_o (show (57 : Nat) ≠ 59 by decide), su_o (show (57 : Nat) ≠ 58 by decide)]
    obtain ⟨T1, e1, f1, f2, f3, f4, f5, f6⟩ := ih n (c + 1) (su (su (su (su T 58 c (T 57 (3 * c))) 59 c (T 57 (3 * c + 1))) 60 c (T 57 (3 * c + 2))) 61 c 0) (by omega) (by omega) (by rw [su_o (by decide), su_o (by decide), su_o (by decide), su_o (by decide)]; exact h6)
    have g : ∀ a, a ≠ 58 → a ≠ 59 → a ≠ 60 → a ≠ 61 → su (su (su (su T 58 c (T 57 (3 * c))) 59 c (T 57 (3 * c + 1))) 60 c (T 57 (3 * c + 2))) 61 c 0 a = T a := fun a w1 w2 w3 w4 => by rw [su_o w4, su_o w3, su_o w2, su_o w1]
    refine ⟨T1, e1, fun a h1 h2 h3 h4 h5 => ?_, fun k h1 h2 => ?_, ?_, f4, fun i hi => ?_, fun i h1 h2 => ?_⟩
    · rw [f1 a h1 h2 h3 h4 h5, g a h2 h3 h4 h5]
    · rw [f2 k h1 h2, g 55 (by decide) (by decide) (by decide) (by decide)]
    · rw [f3, g 55 (by decide) (by decide) (by decide) (by decide)]
    · obtain ⟨x1, x2, x3, x4⟩ := f5 i (by omega)
      rw [x1, x2, x3, x4]
      refine ⟨?_, ?_, ?_, ?_⟩
      · rw [su_o (by decide), su_o (by decide), su_o (by decide), su_k (by omega)]
      · rw [su_o (by decide), su_o (by decide), su_k (by omega), su_o (by decide)]
      · rw [su_o (by decide), su_k (by omega), su_o (by decide), su_o (by decide)]
      · rw [su_k (by omega), su_o (by decide), su_o (by decide), su_o (by decide)]
    · by_cases e : i = c
      · obtain ⟨x1, x2, x3, x4⟩ := f5 i (by omega)
        rw [x1, x2, x3, x4, e]
        refine ⟨?_, ?_, ?_, ?_⟩
        · rw [su_o (by decide), su_o (by decide), su_o (by decide), su_s]
        · rw [su_o (by decide), su_o (by decide), su_s]
        · rw [su_o (by decide), su_s]
        · rw [su_s]
      · have := f6 i (by omega) h2
        rw [g 57 (by decide) (by decide) (by decide) (by decide)] at this
        exact this
theorem hill8 {P : Dt} {t : Nat} {T : St} (hR : RM P T) (hO : OK P t) (hk : okH P) : ∃ T1, f_X8_hill T = some (nI (cm (pt P) (P 20 0) + 1), T1) ∧ RM (pH P) T1 ∧ ∀ c, c < 55 → T1 c = T c := by
  have h8 := hO.h8
  have h50 : P 20 0 ≤ 50 := hO.1
  obtain ⟨T1, e1, k1, m1⟩ := f_faultOf0 hR hO
  obtain ⟨⟨x1, x2, x3⟩, hc⟩ := m1 hk.1
  have hk2 := hk.2.1
  have hk3 := hk.2.2
  have hR1 := hR.km h8 k1
  have eb : f_X8_hill T = f_X8_hill_b28 T1 := by
    unfold f_X8_hill
    rw [e1, bnd_some, hR1.1, hk.1, if_neg (nI_nlt (Nat.le_refl _) (by omega)), x1]
    rcases hk2 with q | q
    · rw [if_pos (show nI (hs (pt P) (P 20 0)) = (1 : Int32) from congrArg nI q)]
    · rw [if_neg (show ¬ nI (hs (pt P) (P 20 0)) = (1 : Int32) from fun z => by
        have := (nIe (show hs (pt P) (P 20 0) ≤ 126 by omega) 1 (by omega)).mp z
        omega), if_pos (show nI (hs (pt P) (P 20 0)) = (3 : Int32) from congrArg nI q)]
  obtain ⟨T2, e2, f1, f2, f3, f4, -, f6⟩ := hl51 (K := cm (pt P) (P 20 0) + 1) (by omega) (cm (pt P) (P 20 0) + 1) FU 0 (su T1 55 6 (nI (cm (pt P) (P 20 0) + 1))) (by omega) (by unfold FU; omega) su_s
  have e2' : f_X8_hill_l51 FU 0 (su T1 55 6 (nI (cm (pt P) (P 20 0) + 1))) = _ := e2
  refine ⟨T2, ?_, ?_, fun c hc' => ?_⟩
  · rw [eb]
    unfold f_X8_hill_b28
    rw [x2, if_pos (show (1 : Int32) ≤ nI (cm (pt P) (P 20 0)) from nI_le (a := 1) hk3 (by omega)), lett_e, nI_1, e2']
  · obtain ⟨a1, a2, a3, a4, a5, a6, a7, a8, a9, a10, a11, a12⟩ := hR1
    have G : ∀ a, a ≠ 55 → a ≠ 58 → a ≠ 59 → a ≠ 60 → a ≠ 61 → T2 a = T1 a := fun a w1 w2 w3 w4 w5 => by rw [f1 a w1 w2 w3 w4 w5, su_o w1]
    have F : ∀ k, k ≠ 7 → k ≠ 1 → k ≠ 6 → T2 55 k = T1 55 k := fun k w1 w2 w3 => by rw [f2 k w1 w2, su_k w3]
    refine ⟨?_, fun j hj => absurd (show j < 0 from hj) (Nat.not_lt_zero _), ?_, fun c hc' => ?_, ?_, ?_, fun j hj => ?_, ?_, ?_, fun i hi => ?_, ?_, fun hn => ?_⟩
    · rw [f4]; rfl
    · rw [f2 6 (by decide) (by decide), su_s]; rfl
    · have hc'' : c < cm (pt P) (P 20 0) + 1 := hc'
      obtain ⟨y1, y2, y3, y4⟩ := f6 c (Nat.zero_le _) hc''
      rw [su_o (by decide)] at y1 y2 y3
      obtain ⟨z1, z2, z3⟩ := x3 c (by omega)
      exact ⟨y1.trans z1, y2.trans z2, y3.trans z3, y4⟩
    · rw [f3, su_k (by decide), a5, nI_1]; rfl
    · rw [F 12 (by decide) (by decide) (by decide)]; exact a6
    · have hj' : j < P 20 3 := hj
      rw [pH_o (a := 30 + j) (by omega), pH_o (a := 40 + j) (by omega), G 62 (by decide) (by decide) (by decide) (by decide) (by decide), G 63 (by decide) (by decide) (by decide) (by decide) (by decide), G 64 (by decide) (by decide) (by decide) (by decide) (by decide)]
      exact a7 j hj
    · rw [F 16 (by decide) (by decide) (by decide)]; exact a8
    · rw [F 29 (by decide) (by decide) (by decide)]; exact a9
    · rw [G 70 (by decide) (by decide) (by decide) (by decide) (by decide)]; exact a10 i hi
    · rw [F 32 (by decide) (by decide) (by decide)]; exact a11
    · obtain ⟨d1, d2, d3, d4, d5, d6⟩ := a12 hn
      rw [F 33 (by decide) (by decide) (by decide), F 34 (by decide) (by decide) (by decide), F 35 (by decide) (by decide) (by decide), G 73 (by decide) (by decide) (by decide) (by decide) (by decide), G 74 (by decide) (by decide) (by decide) (by decide) (by decide)]
      refine ⟨d1, d2, d3, d4, d5, fun he => ?_⟩
      have he' : P 20 6 = P 20 2 + 1 := he
      have := hO.2.2.2.2.2.2.2.2.2.2.1
      omega
  · rw [f1 c (by omega) (by omega) (by omega) (by omega) (by omega), su_o (by omega)]
    funext k
    exact k1 c k (Or.inl hc')
theorem op_hill : Op f_X7_hill f_X8_hill := by
  intro t P hO ht
  have h8 := hO.h8
  have h50 : P 20 0 ≤ 50 := hO.1
  by_cases hk : okH P
  · exact ⟨_, pH P, pH_OK hO hk ht, fun S hR => hill7 hR hO hk, fun T hR => hill8 hR hO hk⟩
  · refine ⟨-103, P, hO.next ht, ClsR (fun S hR => ?_), MdlK h8 (fun T hR => ?_)⟩
    · unfold f_X7_hill
      rw [(isH7 hR.pg hO).2 hk, bnd_some, if_pos i00]
    · obtain ⟨T1, e1, k1, m1⟩ := f_faultOf0 hR hO
      have hR1 := hR.km h8 k1
      have hle := fa_le (fitH (pt P)) (P 20 0) 0
      refine ⟨T1, ?_, k1⟩
      unfold f_X8_hill
      rw [e1, bnd_some, hR1.1]
      by_cases q : fa (fitH (pt P)) (P 20 0) 0 = P 20 0
      · obtain ⟨⟨x1, x2, x3⟩, hc⟩ := m1 q
        have h3 := hs_le (pt P) (P 20 0)
        have hb : 1 ≤ cm (pt P) (P 20 0) ∨ f_X8_hill_b28 T1 = some (-103, T1) := by
          by_cases w : 1 ≤ cm (pt P) (P 20 0)
          · exact Or.inl w
          · right
            unfold f_X8_hill_b28
            rw [x2, if_neg (show ¬ (1 : Int32) ≤ nI (cm (pt P) (P 20 0)) from nI_ge (b := 1) (by omega) (by decide))]
        rw [q, if_neg (nI_nlt (Nat.le_refl _) (by omega)), x1]
        by_cases w1 : hs (pt P) (P 20 0) = 1
        · rw [if_pos (show nI (hs (pt P) (P 20 0)) = (1 : Int32) from congrArg nI w1)]
          exact hb.resolve_left (fun w => hk ⟨q, Or.inl w1, w⟩)
        · rw [if_neg (show ¬ nI (hs (pt P) (P 20 0)) = (1 : Int32) from fun z => w1 ((nIe (by omega) 1 (by omega)).mp z))]
          by_cases w3 : hs (pt P) (P 20 0) = 3
          · rw [if_pos (show nI (hs (pt P) (P 20 0)) = (3 : Int32) from congrArg nI w3)]
            exact hb.resolve_left (fun w => hk ⟨q, Or.inr w3, w⟩)
          · rw [if_neg (show ¬ nI (hs (pt P) (P 20 0)) = (3 : Int32) from fun z => w3 ((nIe (by omega) 3 (by omega)).mp z))]
      · rw [if_pos (show nI (fa (fitH (pt P)) (P 20 0) 0) < nI (P 20 0) from (nI_ltI (by omega) (by omega)).mpr (by omega))]
