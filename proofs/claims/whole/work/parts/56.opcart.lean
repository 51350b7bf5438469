-- ===== cart =====
def okC (P : Dt) : Prop := fa (fitC (pt P)) (P 20 0) 0 = P 20 0 ∧ 3 ≤ P 20 0 ∧ P 20 0 % 3 = 0
theorem okC.fits {P : Dt} (h : okC P) : ∀ k, k < P 20 0 → fitC (pt P) k = true := fun k hk => fa_all (fitC (pt P)) (P 20 0) 0 (by have := h.1; omega) k (by omega) (by omega)
theorem okC.le {P : Dt} (h : okC P) : P 20 0 ≤ 18 := by
  have h3 := h.2.1
  have := fitC_18 (h.fits (P 20 0 - 1) (by omega))
  omega
theorem isC7 {P : Dt} {t : Nat} {S : St} (hR : PG P S) (hO : OK P t) : (okC P → f_X5_isCart S = some (1, S)) ∧ (¬ okC P → f_X5_isCart S = some (0, S)) := by
  have h50 : P 20 0 ≤ 50 := hO.1
  have hle := fa_le (fitC (pt P)) (P 20 0) 0
  have hr : nI (P 20 0) - nI (P 20 0) / 3 * 3 = nI (P 20 0 % 3) := pk_rem (d := 3) (by omega) (by decide) (by decide)
  unfold f_X5_isCart okC
  rw [hR.1, nz3, grd_t, hr, f_cartFault hR hO, bnd_some, hR.1]
  by_cases h0 : P 20 0 = 0
  · rw [if_pos (show nI (P 20 0) ≤ (0 : Int32) from nI_le (b := 0) (by omega) (by decide))]
    exact ⟨fun h => absurd h (by omega), fun _ => rfl⟩
  · rw [if_neg (show ¬ nI (P 20 0) ≤ (0 : Int32) from nI_nle (by omega) (by omega))]
    by_cases h3 : P 20 0 % 3 = 0
    · rw [if_pos (show nI (P 20 0 % 3) = (0 : Int32) from congrArg nI h3)]
      by_cases q : fa (fitC (pt P)) (P 20 0) 0 = P 20 0
      · rw [if_pos (show nI (fa (fitC (pt P)) (P 20 0) 0) = nI (P 20 0) from congrArg nI q)]
        exact ⟨fun _ => rfl, fun h => absurd (by omega) h⟩
      · rw [if_neg (show ¬ nI (fa (fitC (pt P)) (P 20 0) 0) = nI (P 20 0) from nI_ne (by omega) (by omega) q)]
        exact ⟨fun h => absurd h.1 q, fun _ => rfl⟩
    · rw [if_neg (show ¬ nI (P 20 0 % 3) = (0 : Int32) from fun z => h3 ((nI0 (by omega)).mp z))]
      exact ⟨fun h => absurd h (by omega), fun _ => rfl⟩
theorem nI_3 (a : Nat) : nI a + 3 = nI (a + 3) := nI_add a 3
theorem rd25 {P : Dt} {t : Nat} (hO : OK P t) {J M : Nat} (hJ : J < 8) (hM : M ≤ 5) (hN : P 20 0 = 3 * M + 3) (hf : ∀ k, k < P 20 0 → fitC (pt P) k = true) : ∀ (d n m : Nat) (S : St), m + d = M → d < n → PG P S → S (9 + 3 * J) 2 = nI m → ∃ S1, f_X1_read_l25 J n (nI (3 * m + 3)) S = some ((), S1) ∧ (∀ c, c ≠ 9 + 3 * J → c ≠ 9 + 3 * J + 1 → c ≠ 9 + 3 * J + 2 → S1 c = S c) ∧ S1 (9 + 3 * J) 3 = S (9 + 3 * J) 3 ∧ S1 (9 + 3 * J) 2 = nI M ∧ (∀ k, k < m → S1 (9 + 3 * J + 1) k = S (9 + 3 * J + 1) k ∧ S1 (9 + 3 * J + 2) k = S (9 + 3 * J + 2) k) ∧ (∀ k, m ≤ k → k < M → S1 (9 + 3 * J + 1) k = nI (kn (pt P (3 * k + 4))) ∧ S1 (9 + 3 * J + 2) k = nI (pt P (3 * k + 5) - 48)) := by
  intro d
  induction d with
  | zero =>
    intro n m S hm hd hR h2
    obtain ⟨n, rfl⟩ : ∃ k, n = k + 1 := ⟨n - 1, by omega⟩
    obtain rfl : m = M := by omega
    rw [f_X1_read_l25, hR.1, if_pos (nI_le (by omega) (by omega))]
    exact ⟨S, rfl, fun _ _ _ _ => rfl, rfl, h2, fun _ _ => ⟨rfl, rfl⟩, fun k h1 h3 => absurd h3 (by omega)⟩
  | succ d ih =>
    intro n m S hm hd hR h2
    obtain ⟨n, rfl⟩ : ∃ k, n = k + 1 := ⟨n - 1, by omega⟩
    have g4 := fitC_4 (hf (3 * m + 4) (by omega))
    have g5 := fitC_5 (hf (3 * m + 5) (by omega))
    have hb4 := pt_b hO (3 * m + 4)
    have hR9 : PG P (su S (9 + 3 * J + 1) m (nI (kn (pt P (3 * m + 4))))) := hR.fr (su_o (by omega)) (su_o (by omega))
    rw [f_X1_read_l25, hR.1, if_neg (nI_ge (by omega) (by omega)), h2, if_neg (show ¬ (5 : Int32) ≤ nI m from nI_ge (b := 5) (by omega) (by decide)), nI_1 (3 * m + 3), nI_2 (3 * m + 3), nI_3 (3 * m + 3), show 3 * m + 3 + 1 = 3 * m + 4 from rfl, show 3 * m + 3 + 2 = 3 * m + 5 from rfl, show 3 * m + 3 + 3 = 3 * (m + 1) + 3 by omega, f_kindAt hR hO (by omega), bnd_some, inb_nI (show m < 5 by omega) (by decide), grd_t, lett_e, cl_nI (by omega), kn_I hb4, if_neg g4]
    unfold f_X5_digitAt
    rw [f_at hR9 hO (by omega), bnd_some, bnd_some, su_o (show 9 + 3 * J ≠ 9 + 3 * J + 1 by omega), h2, inb_nI (show m < 5 by omega) (by decide), grd_t, lett_e, cl_nI (by omega), s48 (by omega), su_o (show 9 + 3 * J ≠ 9 + 3 * J + 2 by omega), su_o (show 9 + 3 * J ≠ 9 + 3 * J + 1 by omega), h2, nI_1 m, lett_e, lett_e]
    obtain ⟨S1, e1, f1, f2, f3, f4, f5⟩ := ih n (m + 1) (su (su (su S (9 + 3 * J + 1) m (nI (kn (pt P (3 * m + 4))))) (9 + 3 * J + 2) m (nI (pt P (3 * m + 5) - 48))) (9 + 3 * J) 2 (nI (m + 1))) (by omega) (by omega) (hR9.fr (by rw [su_o (by omega), su_o (by omega)]) (by rw [su_o (by omega), su_o (by omega)])) su_s
    refine ⟨S1, e1, fun c w0 w1 w2 => ?_, ?_, f3, fun k hk => ?_, fun k h1 h3 => ?_⟩
    · rw [f1 c w0 w1 w2, su_o w0, su_o w2, su_o w1]
    · rw [f2, su_k (by decide), su_o (by omega), su_o (by omega)]
    · rw [(f4 k (by omega)).1, (f4 k (by omega)).2]
      refine ⟨?_, ?_⟩
      · rw [su_o (by omega), su_o (by omega), su_k (by omega)]
      · rw [su_o (by omega), su_k (by omega), su_o (by omega)]
    · by_cases e : k = m
      · rw [(f4 k (by omega)).1, (f4 k (by omega)).2, e]
        refine ⟨?_, ?_⟩
        · rw [su_o (by omega), su_o (by omega), su_s]
        · rw [su_o (by omega), su_s]
      · exact f5 k (by omega) h3
theorem f_read1 {P : Dt} {t : Nat} {S : St} (hR : PG P S) (hO : OK P t) (hk : okC P) {J : Nat} (hJ : J < 8) : ∃ S1, f_X1_read J S = some ((), S1) ∧ (∀ c, c ≠ 9 + 3 * J → c ≠ 9 + 3 * J + 1 → c ≠ 9 + 3 * J + 2 → S1 c = S c) ∧ S1 (9 + 3 * J) 3 = nI (10 * (pt P 1 - 48) + (pt P 2 - 48)) ∧ S1 (9 + 3 * J) 2 = nI (P 20 0 / 3 - 1) ∧ (∀ k, k < P 20 0 / 3 - 1 → S1 (9 + 3 * J + 1) k = nI (kn (pt P (3 * k + 4))) ∧ S1 (9 + 3 * J + 2) k = nI (pt P (3 * k + 5) - 48)) := by
  have h18 := hk.le
  obtain ⟨q1, q2, q3⟩ := id hk
  have g1 := fitC_1 (hk.fits 1 (by omega))
  have g2 := fitC_2 (hk.fits 2 (by omega))
  have h1 : f_X5_at 1 S = some (nI (pt P 1), S) := f_at hR hO (show 1 < 1000 by omega)
  have h2 : f_X5_at 2 S = some (nI (pt P 2), S) := f_at hR hO (show 2 < 1000 by omega)
  unfold f_X1_read f_X5_digitAt
  rw [h1, bnd_some, bnd_some, h2, bnd_some, bnd_some, s48 (by omega), s48 (by omega), m10, nI_add, lett_e, lett_e]
  obtain ⟨S1, e1, f1, f2, f3, -, f5⟩ := rd25 hO hJ (M := P 20 0 / 3 - 1) (by omega) (by omega) hk.fits (P 20 0 / 3 - 1) FU 0 (su (su S (9 + 3 * J) 3 (nI (10 * (pt P 1 - 48) + (pt P 2 - 48)))) (9 + 3 * J) 2 0) (by omega) (by unfold FU; omega) (hR.fr (by rw [su_o (by omega), su_o (by omega)]) (by rw [su_o (by omega), su_o (by omega)])) su_s
  refine ⟨S1, e1, fun c w0 w1 w2 => ?_, ?_, f3, fun k hk' => f5 k (Nat.zero_le _) hk'⟩
  · rw [f1 c w0 w1 w2, su_o w0, su_o w0]
  · rw [f2, su_k (by decide), su_s]
def pCt (P : Dt) : Dt := fun a b => if a = 20 then (if b = 0 then 0 else if b = 3 then P 20 3 + 1 else P 20 b) else if a = 5 then (if b = P 20 3 then 10 * (pt P 1 - 48) + (pt P 2 - 48) else P 5 b) else if a = 6 then (if b = P 20 3 then P 20 0 / 3 - 1 else P 6 b) else if a = 30 + P 20 3 then kn (pt P (3 * b + 4)) else if a = 40 + P 20 3 then pt P (3 * b + 5) - 48 else P a b
theorem pCt_o {P : Dt} {a : Nat} (h1 : a ≠ 20) (h2 : a ≠ 5) (h3 : a ≠ 6) (h4 : a ≠ 30 + P 20 3) (h5 : a ≠ 40 + P 20 3) : pCt P a = P a := by
  funext b
  unfold pCt
  rw [if_neg h1, if_neg h2, if_neg h3, if_neg h4, if_neg h5]
theorem pCt_5 (P : Dt) (b : Nat) : pCt P 5 b = if b = P 20 3 then 10 * (pt P 1 - 48) + (pt P 2 - 48) else P 5 b := rfl
theorem pCt_6 (P : Dt) (b : Nat) : pCt P 6 b = if b = P 20 3 then P 20 0 / 3 - 1 else P 6 b := rfl
theorem pCt_30 {P : Dt} (h8 : P 20 3 < 8) (b : Nat) : pCt P (30 + P 20 3) b = kn (pt P (3 * b + 4)) := by
  unfold pCt
  rw [if_neg (by omega), if_neg (by omega), if_neg (by omega), if_pos rfl]
theorem pCt_40 {P : Dt} (h8 : P 20 3 < 8) (b : Nat) : pCt P (40 + P 20 3) b = pt P (3 * b + 5) - 48 := by
  unfold pCt
  rw [if_neg (by omega), if_neg (by omega), if_neg (by omega), if_neg (by omega), if_pos rfl]
theorem pCt_OK {P : Dt} {t : Nat} (hO : OK P t) (hk : okC P) (h8 : P 20 3 < 8) : OK (pCt P) t := by
  have h18 := hk.le
  obtain ⟨q1, q2, q3⟩ := id hk
  have g1 := fitC_1 (hk.fits 1 (by omega))
  have g2 := fitC_2 (hk.fits 2 (by omega))
  obtain ⟨b1, b2, b3, b4, b5, b6, b7, b8, b9, b10, b11, b12, b13⟩ := hO
  have e1 : pCt P 1 = P 1 := pCt_o (by omega) (by omega) (by omega) (by omega) (by omega)
  have e2 : pCt P 2 = P 2 := pCt_o (by omega) (by omega) (by omega) (by omega) (by omega)
  have e3 : pCt P 3 = P 3 := pCt_o (by omega) (by omega) (by omega) (by omega) (by omega)
  have e4 : pCt P 4 = P 4 := pCt_o (by omega) (by omega) (by omega) (by omega) (by omega)
  have e8 : pCt P 8 = P 8 := pCt_o (by omega) (by omega) (by omega) (by omega) (by omega)
  have e9 : pCt P 9 = P 9 := pCt_o (by omega) (by omega) (by omega) (by omega) (by omega)
  have e10 : pCt P 10 = P 10 := pCt_o (by omega) (by omega) (by omega) (by omega) (by omega)
  have e11 : pCt P 11 = P 11 := pCt_o (by omega) (by omega) (by omega) (by omega) (by omega)
  have e12 : pCt P 12 = P 12 := pCt_o (by omega) (by omega) (by omega) (by omega) (by omega)
  have e13 : pCt P 13 = P 13 := pCt_o (by omega) (by omega) (by omega) (by omega) (by omega)
  have e14 : pCt P 14 = P 14 := pCt_o (by omega) (by omega) (by omega) (by omega) (by omega)
  have e15 : pCt P 15 = P 15 := pCt_o (by omega) (by omega) (by omega) (by omega) (by omega)
  have x3 : pCt P 20 3 = P 20 3 + 1 := rfl
  refine ⟨Nat.zero_le _, fun j hj => absurd (show j < 0 from hj) (Nat.not_lt_zero _), b3, ?_, b5, ?_, fun j hj => ?_, b8, b9, fun i hi => ?_, b11, fun hn => ?_, b13⟩
  · rw [e1, e2, e3, e4]; exact b4
  · rw [x3]; omega
  · rw [x3] at hj
    by_cases e : j = P 20 3
    · rw [e, pCt_5, if_pos rfl, pCt_6, if_pos rfl]
      refine ⟨by omega, by omega, by omega, fun k hk' => ?_⟩
      have w4 := fitC_4 (hk.fits (3 * k + 4) (by omega))
      have w5 := fitC_5 (hk.fits (3 * k + 5) (by omega))
      have w6 := kn_le (pt P (3 * k + 4))
      rw [pCt_30 h8, pCt_40 h8]
      omega
    · rw [pCt_5, if_neg e, pCt_6, if_neg e, pCt_o (a := 30 + j) (by omega) (by omega) (by omega) (by omega) (by omega), pCt_o (a := 40 + j) (by omega) (by omega) (by omega) (by omega) (by omega)]
      exact b7 j (by omega)
  · rw [e8, e9, e10, x3]
    have := b10 i hi
    omega
  · obtain ⟨d1, d2, d3, d4, d5, d6, d7⟩ := b12 hn
    rw [e11, e12, e13, e14, e15, x3]
    refine ⟨d1, d2, ?_, d4, d5, fun i hi => ?_, d7⟩
    · show P 20 8 ≤ P 20 3 + 1
      omega
    · have := d6 i hi
      omega
theorem cart7 {P : Dt} {t : Nat} {S : St} (hR : RC P S) (hO : OK P t) (hk : okC P) (h8 : P 20 3 < 8) : ∃ S1, f_X7_cart S = some (nI (P 20 3), S1) ∧ RC (pCt P) S1 ∧ ∀ c, 55 ≤ c → S1 c = S c := by
  obtain ⟨S1, e1, f1, f2, f3, f4⟩ := f_read1 hR.pg hO hk h8
  have hpg := hR.pg
  obtain ⟨a1, a2, a3, a4, a5, a6, a7, a8, a9, a10, a11, a12⟩ := hR
  unfold f_X7_cart
  rw [(isC7 hpg hO).1 hk, bnd_some, if_neg i10, a6, if_pos (show nI (P 20 3) < (8 : Int32) from (nI_ltI (b := 8) (by omega) (by decide)).mpr h8), inb_nI h8 (by decide), grd_t, cl_nI (by omega), e1, bnd_some, lett_e, su_o (show (0 : Nat) ≠ 1 by decide), f1 0 (by omega) (by omega) (by omega), a6, nI_1, lett_e, su_s, nI_km (by omega), Nat.add_sub_cancel]
  have G : ∀ c, c ≠ 0 → c ≠ 1 → c ≠ 9 + 3 * P 20 3 → c ≠ 9 + 3 * P 20 3 + 1 → c ≠ 9 + 3 * P 20 3 + 2 → su (su S1 1 1 0) 0 9 (nI (P 20 3 + 1)) c = S c := fun c w0 w1 w2 w3 w4 => by rw [su_o w0, su_o w1, f1 c w2 w3 w4]
  have G' : ∀ c, c ≠ 0 → c ≠ 1 → su (su S1 1 1 0) 0 9 (nI (P 20 3 + 1)) c = S1 c := fun c w0 w1 => by rw [su_o w0, su_o w1]
  have L : ∀ c, 2 ≤ c → c ≤ 8 → su (su S1 1 1 0) 0 9 (nI (P 20 3 + 1)) c = S c := fun c w0 w1 => G c (by omega) (by omega) (by omega) (by omega) (by omega)
  have U : ∀ c, 33 ≤ c → su (su S1 1 1 0) 0 9 (nI (P 20 3 + 1)) c = S c := fun c w0 => G c (by omega) (by omega) (by omega) (by omega) (by omega)
  have ep : ∀ a, (a < 5 ∨ (6 < a ∧ a < 20)) → pCt P a = P a := fun a h => pCt_o (by omega) (by omega) (by omega) (by omega) (by omega)
  refine ⟨_, rfl, ⟨?_, fun j hj => absurd (show j < 0 from hj) (Nat.not_lt_zero _), ?_, fun c hc => ?_, ?_, ?_, fun j hj => ?_, ?_, ?_, fun i hi => ?_, ?_, fun hn => ?_⟩, fun c hc => U c (by omega)⟩
  · rw [su_o (by decide), su_s]; rfl
  · rw [L 3 (by omega) (by omega)]; exact a3
  · rw [ep 1 (by omega), ep 2 (by omega), ep 3 (by omega), ep 4 (by omega), L 4 (by omega) (by omega), L 5 (by omega) (by omega), L 6 (by omega) (by omega), L 7 (by omega) (by omega)]; exact a4 c hc
  · rw [L 3 (by omega) (by omega)]; exact a5
  · rw [su_s]; rfl
  · have hj' : j < P 20 3 + 1 := hj
    by_cases e : j = P 20 3
    · rw [e, pCt_5, if_pos rfl, pCt_6, if_pos rfl, G' (9 + 3 * P 20 3) (by omega) (by omega), G' (9 + 3 * P 20 3 + 1) (by omega) (by omega), G' (9 + 3 * P 20 3 + 2) (by omega) (by omega)]
      refine ⟨f2, f3, fun k hk' => ?_⟩
      rw [pCt_30 h8, pCt_40 h8]
      exact f4 k hk'
    · rw [pCt_5, if_neg e, pCt_6, if_neg e, pCt_o (a := 30 + j) (by omega) (by omega) (by omega) (by omega) (by omega), pCt_o (a := 40 + j) (by omega) (by omega) (by omega) (by omega) (by omega), G (9 + 3 * j) (by omega) (by omega) (by omega) (by omega) (by omega), G (9 + 3 * j + 1) (by omega) (by omega) (by omega) (by omega) (by omega), G (9 + 3 * j + 2) (by omega) (by omega) (by omega) (by omega) (by omega)]
      exact a7 j (by omega)
  · rw [su_k (by decide), su_o (by decide), f1 0 (by omega) (by omega) (by omega)]; exact a8
  · rw [U 33 (by omega)]; exact a9
  · rw [ep 8 (by omega), ep 9 (by omega), ep 10 (by omega), U 34 (by omega), U 35 (by omega), U 36 (by omega)]; exact a10 i hi
  · rw [U 37 (by omega)]; exact a11
  · rw [ep 11 (by omega), ep 12 (by omega), ep 13 (by omega), ep 14 (by omega), ep 15 (by omega), U 37 (by omega), U 38 (by omega), U 39 (by omega), U 40 (by omega), U 41 (by omega), U 42 (by omega), U 43 (by omega)]
    exact a12 hn
theorem crt63 {J : Nat} (hJ : J < 8) : ∀ (d n k : Nat) (T : St), k + d = 10 → d < n → T 55 12 = nI J → ∃ T1, f_X8_cart_l63 n (nI k) T = some (nI J, T1) ∧ (∀ a, a ≠ 55 → a ≠ 64 → T1 a = T a) ∧ (∀ s, s ≠ 12 → s ≠ 1 → T1 55 s = T 55 s) ∧ T1 55 12 = nI (J + 1) ∧ T1 55 1 = 0 ∧ (∀ i, (i < 10 * J + k ∨ 10 * J + 10 ≤ i) → T1 64 i = T 64 i) ∧ (∀ i, k ≤ i → i < 10 → T1 64 (10 * J + i) = T 57 i) := by
  intro d
  induction d with
  | zero =>
    intro n k T hk hd h
    obtain ⟨n, rfl⟩ : ∃ a, n = a + 1 := ⟨n - 1, by omega⟩
    obtain rfl : k = 10 := by omega
    rw [f_X8_cart_l63, if_pos (show (10 : Int32) ≤ nI 10 by decide), lett_e, lett_e, h, nI_1, su_k (show (12 : Nat) ≠ 1 by decide), su_s, nI_km (by omega), Nat.add_sub_cancel]
    refine ⟨_, rfl, fun a h1 _ => by rw [su_o h1, su_o h1], fun s h1 h2 => by rw [su_k h2, su_k h1], by rw [su_k (by decide), su_s], by rw [su_s], fun i _ => by rw [su_o (by decide), su_o (by decide)], fun i h1 h2 => absurd h2 (by omega)⟩
  | succ d ih =>
    intro n k T hk hd h
    obtain ⟨n, rfl⟩ : ∃ a, n = a + 1 := ⟨n - 1, by omega⟩
    rw [f_X8_cart_l63, if_neg (show ¬ (10 : Int32) ≤ nI k from nI_ge (b := 10) (by omega) (by decide)), h, m10, nI_add, inb_nI (show k < 36 by omega) (by decide), grd_t, inb_nI (show 10 * J + k < 80 by omega) (by decide), grd_t, lett_e, lett_e, nI_1, cl_nI (show 10 * J + k < 2 ^ 31 by omega), cl_nI (show k < 2 ^ 31 by omega)]
    obtain ⟨T1, e1, f1, f2, f3, f4, f5, f6⟩ := ih n (k + 1) (su T 64 (10 * J + k) (T 57 k)) (by omega) (by omega) (by rw [su_o (by decide)]; exact h)
    refine ⟨T1, e1, fun a h1 h2 => by rw [f1 a h1 h2, su_o h2], fun s h1 h2 => by rw [f2 s h1 h2, su_o (by decide)], f3, f4, fun i hi => by rw [f5 i (by omega), su_k (by omega)], fun i h1 h2 => ?_⟩
    by_cases e : i = k
    · rw [e, f5 (10 * J + k) (by omega), su_s]
    · rw [f6 i (by omega) h2, su_o (by decide)]
theorem cart8 {P : Dt} {t : Nat} {T : St} (hR : RM P T) (hO : OK P t) (hk : okC P) (h8 : P 20 3 < 8) : ∃ T1, f_X8_cart T = some (nI (P 20 3), T1) ∧ RM (pCt P) T1 ∧ ∀ c, c < 55 → T1 c = T c := by
  have h18 := hk.le
  have h12 := hO.h12
  obtain ⟨q1, q2, q3⟩ := id hk
  obtain ⟨T1, e1, k1, m1⟩ := f_faultOf1 hR hO
  obtain ⟨⟨x1, x2, x3, x4, x5⟩, -⟩ := m1 q1
  have hR1 := hR.km (by omega) k1
  have hsc : sc_ (P 20 0) = 3 := by unfold sc_; rw [if_neg (by omega)]; omega
  have x3' := x3 (by omega)
  rw [if_pos q2] at x3'
  obtain ⟨a1, a2, a3, a4, a5, a6, a7, a8, a9, a10, a11, a12⟩ := hR1
  obtain ⟨T2, e2, f1, f2, f3, f4, f5, f6⟩ := crt63 h8 10 FU 0 (su (su T1 62 (P 20 3) (nI (10 * (pt P 1 - 48) + (pt P 2 - 48)))) 63 (P 20 3) (nI (P 20 0 / 3 - 1))) (by omega) (by unfold FU; omega) (by rw [su_o (by decide), su_o (by decide)]; exact a6)
  have e2' : f_X8_cart_l63 FU 0 (su (su T1 62 (P 20 3) (nI (10 * (pt P 1 - 48) + (pt P 2 - 48)))) 63 (P 20 3) (nI (P 20 0 / 3 - 1))) = _ := e2
  have G : ∀ a, a ≠ 55 → a ≠ 62 → a ≠ 63 → a ≠ 64 → T2 a = T1 a := fun a w1 w2 w3 w4 => by rw [f1 a w1 w4, su_o w3, su_o w2]
  have F : ∀ s, s ≠ 12 → s ≠ 1 → T2 55 s = T1 55 s := fun s w1 w2 => by rw [f2 s w1 w2, su_o (by decide), su_o (by decide)]
  have ep : ∀ a, (a < 5 ∨ (6 < a ∧ a < 20)) → pCt P a = P a := fun a h => pCt_o (by omega) (by omega) (by omega) (by omega) (by omega)
  refine ⟨T2, ?_, ⟨?_, fun j hj => absurd (show j < 0 from hj) (Nat.not_lt_zero _), ?_, fun c hc => ?_, ?_, ?_, fun j hj => ?_, ?_, ?_, fun i hi => ?_, ?_, fun hn => ?_⟩, fun c hc => ?_⟩
  · unfold f_X8_cart
    rw [e1, bnd_some, a1, q1, if_neg (nI_nlt (Nat.le_refl _) (by omega)), x1, hsc, if_pos (show nI 3 = (3 : Int32) from rfl), a6, if_neg (show ¬ nI (P 20 3) = (8 : Int32) from fun z => by
      have := (nIe (show P 20 3 ≤ 126 by omega) 8 (by omega)).mp z
      omega), inb_nI h8 (by decide), grd_t, lett_e, su_o (show (55 : Nat) ≠ 62 by decide), a6, inb_nI h8 (by decide), grd_t, lett_e, x3', x2, cl_nI (by omega), e2']
  · rw [f4]; rfl
  · rw [F 6 (by decide) (by decide)]; exact a3
  · rw [ep 1 (by omega), ep 2 (by omega), ep 3 (by omega), ep 4 (by omega), G 58 (by decide) (by decide) (by decide) (by decide), G 59 (by decide) (by decide) (by decide) (by decide), G 60 (by decide) (by decide) (by decide) (by decide), G 61 (by decide) (by decide) (by decide) (by decide)]; exact a4 c hc
  · rw [F 7 (by decide) (by decide)]; exact a5
  · rw [f3]; rfl
  · have hj' : j < P 20 3 + 1 := hj
    rw [f1 62 (by decide) (by decide), f1 63 (by decide) (by decide), su_o (show (62 : Nat) ≠ 63 by decide)]
    by_cases e : j = P 20 3
    · rw [e, pCt_5, if_pos rfl, pCt_6, if_pos rfl, su_s, su_s]
      refine ⟨rfl, rfl, fun k hk' => ?_⟩
      have w1 := f6 (2 * k) (Nat.zero_le _) (by omega)
      have w2 := f6 (2 * k + 1) (Nat.zero_le _) (by omega)
      rw [su_o (by decide), su_o (by decide)] at w1 w2
      rw [pCt_30 h8, pCt_40 h8, w1, Nat.add_assoc, w2]
      exact ⟨x4 k (by omega), x5 k (by omega)⟩
    · have c5 := (hO.2.2.2.2.2.2.1 j (by omega)).2.2.1
      rw [pCt_5, if_neg e, pCt_6, if_neg e, pCt_o (a := 30 + j) (by omega) (by omega) (by omega) (by omega) (by omega), pCt_o (a := 40 + j) (by omega) (by omega) (by omega) (by omega) (by omega), su_k (show j ≠ P 20 3 from e), su_k (show j ≠ P 20 3 from e), su_o (show (63 : Nat) ≠ 62 by decide)]
      have w := a7 j (by omega)
      refine ⟨w.1, w.2.1, fun k hk' => ?_⟩
      rw [f5 (10 * j + 2 * k) (by omega), f5 (10 * j + 2 * k + 1) (by omega), su_o (by decide), su_o (by decide)]
      exact w.2.2 k hk'
  · rw [F 16 (by decide) (by decide)]; exact a8
  · rw [F 29 (by decide) (by decide)]; exact a9
  · rw [ep 8 (by omega), ep 9 (by omega), ep 10 (by omega), G 70 (by decide) (by decide) (by decide) (by decide)]; exact a10 i hi
  · rw [F 32 (by decide) (by decide)]; exact a11
  · rw [ep 11 (by omega), ep 12 (by omega), ep 13 (by omega), ep 14 (by omega), ep 15 (by omega), F 33 (by decide) (by decide), F 34 (by decide) (by decide), F 35 (by decide) (by decide), G 72 (by decide) (by decide) (by decide) (by decide), G 73 (by decide) (by decide) (by decide) (by decide), G 74 (by decide) (by decide) (by decide) (by decide)]
    exact a12 hn
  · rw [G c (by omega) (by omega) (by omega) (by omega)]
    funext k
    exact k1 c k (Or.inl hc)
theorem op_cart : Op f_X7_cart f_X8_cart := by
  intro t P hO ht
  have h8 := hO.h8
  have h50 : P 20 0 ≤ 50 := hO.1
  by_cases hk : okC P
  · by_cases hl : P 20 3 < 8
    · exact ⟨_, pCt P, pCt_OK (hO.next ht) hk hl, fun S hR => cart7 hR hO hk hl, fun T hR => cart8 hR hO hk hl⟩
    · have e8 : P 20 3 = 8 := by omega
      refine ⟨-104, P, hO.next ht, ClsR (fun S hR => ?_), MdlK h8 (fun T hR => ?_)⟩
      · unfold f_X7_cart
        rw [(isC7 hR.pg hO).1 hk, bnd_some, if_neg i10, hR.2.2.2.2.2.1, if_neg (show ¬ nI (P 20 3) < (8 : Int32) from nI_nlt (b := 8) (by omega) (by omega))]
      · obtain ⟨T1, e1, k1, m1⟩ := f_faultOf1 hR hO
        obtain ⟨⟨x1, -, -, -, -⟩, -⟩ := m1 hk.1
        have hR1 := hR.km h8 k1
        have hsc : sc_ (P 20 0) = 3 := by
          have := hk.2
          unfold sc_
          rw [if_neg (by omega)]
          omega
        refine ⟨T1, ?_, k1⟩
        unfold f_X8_cart
        rw [e1, bnd_some, hR1.1, hk.1, if_neg (nI_nlt (Nat.le_refl _) (by omega)), x1, hsc, if_pos (show nI 3 = (3 : Int32) from rfl), hR1.2.2.2.2.2.1, if_pos (show nI (P 20 3) = (8 : Int32) from congrArg nI e8)]
  · refine ⟨-103, P, hO.next ht, ClsR (fun S hR => ?_), MdlK h8 (fun T hR => ?_)⟩
    · unfold f_X7_cart
      rw [(isC7 hR.pg hO).2 hk, bnd_some, if_pos i00]
    · obtain ⟨T1, e1, k1, m1⟩ := f_faultOf1 hR hO
      have hR1 := hR.km h8 k1
      have hle := fa_le (fitC (pt P)) (P 20 0) 0
      refine ⟨T1, ?_, k1⟩
      unfold f_X8_cart
      rw [e1, bnd_some, hR1.1]
      by_cases q : fa (fitC (pt P)) (P 20 0) 0 = P 20 0
      · obtain ⟨⟨x1, -, -, -, -⟩, -⟩ := m1 q
        have hsc : sc_ (P 20 0) ≠ 3 := fun z => hk ⟨q, by
          unfold sc_ at z
          split at z <;> omega⟩
        have hsl : sc_ (P 20 0) ≤ 5 := by
          unfold sc_
          split <;> omega
        rw [q, if_neg (nI_nlt (Nat.le_refl _) (by omega)), x1, if_neg (show ¬ nI (sc_ (P 20 0)) = (3 : Int32) from fun z => hsc ((nIe (by omega) 3 (by omega)).mp z))]
      · rw [if_pos (show nI (fa (fitC (pt P)) (P 20 0) 0) < nI (P 20 0) from (nI_ltI (by omega) (by omega)).mpr (by omega))]
