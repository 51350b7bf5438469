-- ===== letters, written down =====
def pL (P : Dt) (l : Int64) (c : Nat) : Dt := fun a b => if a = 0 then (if b < P 20 0 then P 0 b else bt l (b - P 20 0)) else if a = 20 then (if b = 0 then P 20 0 + c else P 20 b) else P a b
theorem pL_o {P : Dt} {l : Int64} {c a : Nat} (h0 : a ≠ 0) (h : a ≠ 20) : pL P l c a = P a := by
  funext b
  unfold pL
  rw [if_neg h0, if_neg h]
theorem pL_OK {P : Dt} {t : Nat} {l : Int64} {c : Nat} (hO : OK P t) (h50 : P 20 0 + c ≤ 50) (hb : ∀ k, k < c → 1 ≤ bt l k ∧ bt l k ≤ 126) : OK (pL P l c) t := by
  obtain ⟨b1, b2, b3, b4, b5, b6, b7, b8, b9, b10, b11, b12, b13⟩ := hO
  refine ⟨h50, fun j hj => ?_, b3, b4, b5, b6, fun j hj => ?_, b8, b9, b10, b11, b12, b13⟩
  · have hj' : j < P 20 0 + c := hj
    show 1 ≤ (if j < P 20 0 then P 0 j else bt l (j - P 20 0)) ∧ (if j < P 20 0 then P 0 j else bt l (j - P 20 0)) ≤ 126
    by_cases h : j < P 20 0
    · rw [if_pos h]; exact b2 j h
    · rw [if_neg h]; exact hb (j - P 20 0) (by omega)
  · rw [pL_o (a := 30 + j) (by omega) (by omega), pL_o (a := 40 + j) (by omega) (by omega)]
    exact b7 j hj
theorem put7 {l : Int64} {s c : Nat} (h50 : s + c ≤ 50) (hc8 : c ≤ 8) : ∀ (d n k : Nat) (S : St), k + d = c → d < n → S 1 1 = nI (s + k) → ∃ S1, f_X7_letters_l83 n l (nI c) (nI k) S = some (nI (s + c), S1) ∧ (∀ a, a ≠ 1 → a ≠ 2 → S1 a = S a) ∧ S1 1 1 = nI (s + c) ∧ (∀ i, i < s + k → S1 2 i = S 2 i) ∧ (∀ i, k ≤ i → i < c → S1 2 (s + i) = nI (bt l i)) := by
  intro d
  induction d with
  | zero =>
    intro n k S hk hn h1
    obtain ⟨n, rfl⟩ : ∃ a, n = a + 1 := ⟨n - 1, by omega⟩
    obtain rfl : k = c := by omega
    refine ⟨S, ?_, fun _ _ _ => rfl, h1, fun _ _ => rfl, fun i h2 h3 => absurd h3 (by omega)⟩
    rw [f_X7_letters_l83, if_pos (nI_le (Nat.le_refl _) (by omega)), h1]
  | succ d ih =>
    intro n k S hk hn h1
    obtain ⟨n, rfl⟩ : ∃ a, n = a + 1 := ⟨n - 1, by omega⟩
    rw [f_X7_letters_l83, if_neg (nI_ge (by omega) (by omega)), f_code (by omega), bnd_some]
    unfold f_X5_put
    rw [h1, if_neg (show ¬ (50 : Int32) ≤ nI (s + k) from nI_ge (b := 50) (by omega) (by decide)), inb_nI (show s + k < 50 by omega) (by decide), grd_t, lett_e, cl_nI (by omega), lett_e, su_o (show (1 : Nat) ≠ 2 by decide), h1, nI_1, bnd_some, lett_e, nI_1]
    obtain ⟨S1, e1, f1, f2, f3, f4⟩ := ih n (k + 1) (su (su S 2 (s + k) (nI (bt l k))) 1 1 (nI (s + k + 1))) (by omega) (by omega) (by rw [su_s]; rfl)
    refine ⟨S1, e1, fun a h2 h3 => by rw [f1 a h2 h3, su_o h2, su_o h3], f2, fun i hi => by rw [f3 i (by omega), su_o (by decide), su_k (by omega)], fun i h2 h3 => ?_⟩
    by_cases h : i = k
    · subst h; rw [f3 (s + i) (by omega), su_o (by decide), su_s]
    · exact f4 i (by omega) h3
theorem put8 {l : Int64} {s c : Nat} (h50 : s + c ≤ 50) (hc8 : c ≤ 8) : ∀ (d n k : Nat) (T : St), k + d = c → d < n → T 55 1 = nI (s + k) → ∃ T1, f_X8_letters_l108 n l (nI c) (nI k) T = some (nI (s + c), T1) ∧ (∀ a, a ≠ 55 → a ≠ 56 → T1 a = T a) ∧ (∀ q, q ≠ 1 → T1 55 q = T 55 q) ∧ T1 55 1 = nI (s + c) ∧ (∀ i, i < s + k → T1 56 i = T 56 i) ∧ (∀ i, k ≤ i → i < c → T1 56 (s + i) = nI (bt l i)) := by
  intro d
  induction d with
  | zero =>
    intro n k T hk hn h1
    obtain ⟨n, rfl⟩ : ∃ a, n = a + 1 := ⟨n - 1, by omega⟩
    obtain rfl : k = c := by omega
    refine ⟨T, ?_, fun _ _ _ => rfl, fun _ _ => rfl, h1, fun _ _ => rfl, fun i h2 h3 => absurd h3 (by omega)⟩
    rw [f_X8_letters_l108, if_pos (nI_le (Nat.le_refl _) (by omega)), h1]
  | succ d ih =>
    intro n k T hk hn h1
    obtain ⟨n, rfl⟩ : ∃ a, n = a + 1 := ⟨n - 1, by omega⟩
    rw [f_X8_letters_l108, if_neg (nI_ge (by omega) (by omega)), h1, inb_nI (show s + k < 50 by omega) (by decide), grd_t, code8 (show k < 8 by omega), lett_e, cl_nI (by omega), lett_e, lett_e, su_o (show (55 : Nat) ≠ 56 by decide), h1, nI_1, nI_1]
    obtain ⟨T1, e1, f1, f5, f2, f3, f4⟩ := ih n (k + 1) (su (su T 56 (s + k) (nI (bt l k))) 55 1 (nI (s + k + 1))) (by omega) (by omega) (by rw [su_s]; rfl)
    refine ⟨T1, e1, fun a h2 h3 => by rw [f1 a h2 h3, su_o h2, su_o h3], fun q hq => by rw [f5 q hq, su_k hq, su_o (by decide)], f2, fun i hi => by rw [f3 i (by omega), su_o (by decide), su_k (by omega)], fun i h2 h3 => ?_⟩
    by_cases h : i = k
    · subst h; rw [f3 (s + i) (by omega), su_o (by decide), su_s]
    · exact f4 i (by omega) h3
theorem op_letters (l : Int64) : Op (f_X7_letters l) (f_X8_letters l) := by
  intro t P hO ht
  have h50 : P 20 0 ≤ 50 := hO.1
  have e7 : ∀ S, RC P S → f_X7_letters l S = _ := fun S hR => let7 (l := l) (S := S) h50 hR.1 8 FU 0 0 (by omega) (by unfold FU; omega) (by omega)
  have e8 : ∀ T, RM P T → f_X8_letters l T = _ := fun T hR => let8 (l := l) (T := T) h50 hR.1 8 FU 0 0 true l (by omega) (by unfold FU; omega) (by omega) (by rw [Nat.mul_zero, Nat.pow_zero, Nat.div_one])
  have hb := scN_b (b := bt l) 8 0 0 (by omega) (fun k hk => absurd hk (by omega))
  by_cases hz : scN (bt l) 8 0 0 = 0
  · refine ⟨-102, P, hO.next ht, ClsR (fun S hR => ?_), MdlR (fun T hR => ?_)⟩
    · rw [e7 S hR, if_pos hz]
    · rw [e8 T hR, if_pos (fun _ => hz)]
  · have hb := hb.resolve_left hz
    obtain ⟨c, hc⟩ : ∃ c, scN (bt l) 8 0 0 = c + 1 := ⟨scN (bt l) 8 0 0 - 1, by omega⟩
    rw [hc] at hb
    by_cases h5 : P 20 0 + c ≤ 50
    · refine ⟨nI (P 20 0 + c), pL P l c, pL_OK (hO.next ht) h5 (fun k hk => hb.2 k (by omega)), fun S hR => ?_, fun T hR => ?_⟩
      · obtain ⟨a1, a2, a3, a4, a5, a6, a7, a8, a9, a10, a11, a12⟩ := hR
        obtain ⟨S1, e1, f1, f2, f3, f4⟩ := put7 (l := l) h5 (by omega) c FU 0 S (by omega) (by unfold FU; omega) a1
        have e1' : f_X7_letters_l83 FU l (nI c) 0 S = _ := e1
        refine ⟨S1, ?_, ?_, fun a ha => f1 a (by omega) (by omega)⟩
        · rw [e7 S ⟨a1, a2, a3, a4, a5, a6, a7, a8, a9, a10, a11, a12⟩, hc, if_neg (by omega), Nat.add_sub_cancel, if_pos h5, e1']
        · have G : ∀ a, a ≠ 1 → a ≠ 2 → S1 a = S a := f1
          unfold RC
          rw [G 3 (by decide) (by decide), G 4 (by decide) (by decide), G 5 (by decide) (by decide), G 6 (by decide) (by decide), G 7 (by decide) (by decide), G 0 (by decide) (by decide), G 33 (by decide) (by decide), G 34 (by decide) (by decide), G 35 (by decide) (by decide), G 36 (by decide) (by decide), G 37 (by decide) (by decide), G 38 (by decide) (by decide), G 39 (by decide) (by decide), G 40 (by decide) (by decide), G 41 (by decide) (by decide), G 42 (by decide) (by decide), G 43 (by decide) (by decide)]
          refine ⟨f2, fun j hj => ?_, a3, a4, a5, a6, fun j hj => ?_, a8, a9, a10, a11, a12⟩
          · have hj' : j < P 20 0 + c := hj
            show S1 2 j = nI (if j < P 20 0 then P 0 j else bt l (j - P 20 0))
            by_cases h : j < P 20 0
            · rw [if_pos h, f3 j (by omega)]; exact a2 j h
            · rw [if_neg h]
              have := f4 (j - P 20 0) (Nat.zero_le _) (by omega)
              rw [show P 20 0 + (j - P 20 0) = j by omega] at this
              exact this
          · rw [pL_o (a := 5) (by decide) (by decide), pL_o (a := 6) (by decide) (by decide), pL_o (a := 30 + j) (by omega) (by omega), pL_o (a := 40 + j) (by omega) (by omega), G (9 + 3 * j) (by omega) (by omega), G (9 + 3 * j + 1) (by omega) (by omega), G (9 + 3 * j + 2) (by omega) (by omega)]
            exact a7 j hj
      · obtain ⟨a1, a2, a3, a4, a5, a6, a7, a8, a9, a10, a11, a12⟩ := hR
        obtain ⟨T1, e1, f1, f5, f2, f3, f4⟩ := put8 (l := l) h5 (by omega) c FU 0 T (by omega) (by unfold FU; omega) a1
        have e1' : f_X8_letters_l108 FU l (nI c) 0 T = _ := e1
        refine ⟨T1, ?_, ?_, fun a ha => f1 a (by omega) (by omega)⟩
        · rw [e8 T ⟨a1, a2, a3, a4, a5, a6, a7, a8, a9, a10, a11, a12⟩, hc, if_neg (show ¬ (true = true → c + 1 = 0) from fun z => absurd (z rfl) (by omega)), Nat.add_sub_cancel, if_pos h5, e1']
        · have G : ∀ a, a ≠ 55 → a ≠ 56 → T1 a = T a := f1
          unfold RM
          rw [G 58 (by decide) (by decide), G 59 (by decide) (by decide), G 60 (by decide) (by decide), G 61 (by decide) (by decide), G 62 (by decide) (by decide), G 63 (by decide) (by decide), G 64 (by decide) (by decide), G 70 (by decide) (by decide), G 72 (by decide) (by decide), G 73 (by decide) (by decide), G 74 (by decide) (by decide), f5 6 (by decide), f5 7 (by decide), f5 12 (by decide), f5 16 (by decide), f5 29 (by decide), f5 32 (by decide), f5 33 (by decide), f5 34 (by decide), f5 35 (by decide)]
          refine ⟨f2, fun j hj => ?_, a3, a4, a5, a6, fun j hj => ?_, a8, a9, a10, a11, a12⟩
          · have hj' : j < P 20 0 + c := hj
            show T1 56 j = nI (if j < P 20 0 then P 0 j else bt l (j - P 20 0))
            by_cases h : j < P 20 0
            · rw [if_pos h, f3 j (by omega)]; exact a2 j h
            · rw [if_neg h]
              have := f4 (j - P 20 0) (Nat.zero_le _) (by omega)
              rw [show P 20 0 + (j - P 20 0) = j by omega] at this
              exact this
          · rw [pL_o (a := 5) (by decide) (by decide), pL_o (a := 6) (by decide) (by decide), pL_o (a := 30 + j) (by omega) (by omega), pL_o (a := 40 + j) (by omega) (by omega)]
            exact a7 j hj
    · refine ⟨-104, P, hO.next ht, ClsR (fun S hR => ?_), MdlR (fun T hR => ?_)⟩
      · rw [e7 S hR, hc, if_neg (by omega), Nat.add_sub_cancel, if_neg h5]
      · rw [e8 T hR, hc, if_neg (show ¬ (true = true → c + 1 = 0) from fun z => absurd (z rfl) (by omega)), Nat.add_sub_cancel, if_neg h5]
