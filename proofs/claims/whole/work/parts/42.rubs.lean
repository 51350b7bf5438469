-- ===== rubs =====
def soN (P : Dt) (r i : Nat) : Prop := flR (dtOf P (P 8 i)) r 999 (P 9 i) 0 = P 10 i
def soB (P : Dt) (r : Nat) : Nat → Nat → Bool
  | 0, _ => true
  | d + 1, i => decide (flR (dtOf P (P 8 i)) r 999 (P 9 i) 0 = P 10 i) && soB P r d (i + 1)
theorem so_cut {P : Dt} {r i : Nat} (h : P 10 i ≤ 99) : (flR (dtOf P (P 8 i)) r (P 10 i + 1) (P 9 i) 0 = P 10 i) ↔ flR (dtOf P (P 8 i)) r 999 (P 9 i) 0 = P 10 i := by
  have h1 := flR_cut (dtOf P (P 8 i)) r (999 - (P 10 i + 1)) (P 10 i + 1) (P 9 i) 0
  rw [show P 10 i + 1 + (999 - (P 10 i + 1)) = 999 by omega] at h1
  rw [h1]
  split <;> omega
theorem all7 {P : Dt} {t r : Nat} (hO : OK P t) (hr : r ≤ 9) : ∀ (d n i : Nat) (S : St), i + d = P 20 5 → d < n → RC P S → ∃ S1, f_X7_allCoastsAreSo_l2 n (nI r) (nI i) S = some (if soB P r d i = true then 1 else 0, S1) ∧ KC S S1 := by
  have h8 := hO.h8
  have h5 : P 20 5 ≤ 8 := hO.2.2.2.2.2.2.2.2.1
  intro d
  induction d with
  | zero =>
    intro n i S hi hn hR
    obtain ⟨n, rfl⟩ : ∃ a, n = a + 1 := ⟨n - 1, by omega⟩
    refine ⟨S, ?_, KC.rf S⟩
    rw [f_X7_allCoastsAreSo_l2, hR.2.2.2.2.2.2.2.2.1, if_pos (nI_le (by omega) (by omega)), soB, if_pos rfl]
  | succ d ih =>
    intro n i S hi hn hR
    obtain ⟨n, rfl⟩ : ∃ a, n = a + 1 := ⟨n - 1, by omega⟩
    obtain ⟨b1, b2, b3⟩ := hO.2.2.2.2.2.2.2.2.2.1 i (by omega)
    obtain ⟨a1, a2, a3⟩ := hR.2.2.2.2.2.2.2.2.2.1 i (by omega)
    obtain ⟨S1, e1, k1, m1, -⟩ := f_mount hR hO b1
    have hR1 := hR.kc h8 k1.kc
    obtain ⟨c1, c2, c3⟩ := hR1.2.2.2.2.2.2.2.2.2.1 i (by omega)
    have e2 := f_flat (MB_of hO b1) hr (show P 10 i + 1 ≤ 999 by omega) (show P 9 i ≤ 20000 by omega) m1
    have hge := flR_ge (dtOf P (P 8 i)) r (P 10 i + 1) (P 9 i) 0
    rw [f_X7_allCoastsAreSo_l2, hR.2.2.2.2.2.2.2.2.1, if_neg (nI_ge (by omega) (by omega)), inb_nI (show i < 8 by omega) (by decide), grd_t, cl_nI (by omega), a1, inb_nI (show P 8 i < 8 by omega) (by decide), grd_t, cl_nI (by omega), hR.2.2.2.2.2.2.2.1, e1, bnd_some, grd_t, lett_e, grd_t, c2, c3, nI_1, e2, bnd_some, soB]
    by_cases h : flR (dtOf P (P 8 i)) r 999 (P 9 i) 0 = P 10 i
    · rw [if_pos (congrArg nI ((so_cut b3).mpr h)), lett_e, nI_1, decide_eq_true h, Bool.true_and]
      obtain ⟨S2, e3, k3⟩ := ih n (i + 1) S1 (by omega) (by omega) hR1
      exact ⟨S2, e3, k1.kc.tr k3⟩
    · rw [if_neg (nI_ne (by omega) (by omega) (fun q => h ((so_cut b3).mp q))), decide_eq_false h, Bool.false_and, if_neg (by decide)]
      exact ⟨S1, rfl, k1.kc⟩
def rbM (P : Dt) : Nat → Nat → Int32 → Int32
  | 0, _, msk => msk
  | d + 1, r, msk => if soB P r (P 20 5) 0 = true then rbM P d (r + 1) (msk ||| (1 <<< (nI r &&& 31))) else rbM P d (r + 1) msk
theorem rubs7 {P : Dt} {t : Nat} (hO : OK P t) : ∀ (d n r : Nat) (msk : Int32) (S : St), r + d = 10 → d < n → RC P S → ∃ S1, f_X7_rubs_l4 n msk (nI r) S = some (rbM P d r msk, S1) ∧ KC S S1 := by
  have h8 := hO.h8
  have h5 : P 20 5 ≤ 8 := hO.2.2.2.2.2.2.2.2.1
  intro d
  induction d with
  | zero =>
    intro n r msk S hr hn hR
    obtain ⟨n, rfl⟩ : ∃ a, n = a + 1 := ⟨n - 1, by omega⟩
    refine ⟨S, ?_, KC.rf S⟩
    rw [f_X7_rubs_l4, if_pos (show (9 : Int32) < nI r from (nI_ltI (a := 9) (by decide) (by omega)).mpr (by omega)), rbM]
  | succ d ih =>
    intro n r msk S hr hn hR
    obtain ⟨n, rfl⟩ : ∃ a, n = a + 1 := ⟨n - 1, by omega⟩
    obtain ⟨S1, e1, k1⟩ := all7 hO (show r ≤ 9 by omega) (P 20 5) FU 0 S (by omega) (by unfold FU; omega) hR
    have e1' : f_X7_allCoastsAreSo (nI r) S = _ := e1
    unfold f_X7_rubs_l4
    rw [if_neg (show ¬ (9 : Int32) < nI r from fun q => by have := (nI_ltI (a := 9) (by decide) (by omega)).mp q; omega), e1', bnd_some, rbM]
    unfold f_X7_rubs_b24
    rw [lett_e, lett_e, lett_e, nI_1]
    by_cases h : soB P r (P 20 5) 0 = true
    · rw [if_pos h, if_pos h, if_neg i10]
      obtain ⟨S2, e2, k2⟩ := ih n (r + 1) (msk ||| (1 <<< (nI r &&& 31))) S1 (by omega) (by omega) (hR.kc h8 k1)
      exact ⟨S2, e2, k1.tr k2⟩
    · rw [if_neg h, if_neg h, if_pos i00]
      obtain ⟨S2, e2, k2⟩ := ih n (r + 1) msk S1 (by omega) (by omega) (hR.kc h8 k1)
      exact ⟨S2, e2, k1.tr k2⟩
theorem i3 (i : Nat) : (3 : Int32) * nI i = nI (3 * i) ∧ (3 : Int32) * nI i + 1 = nI (3 * i + 1) ∧ (3 : Int32) * nI i + 2 = nI (3 * i + 2) := by
  have h : (3 : Int32) * nI i = nI (3 * i) := pk_mul 3 i
  refine ⟨h, ?_, ?_⟩
  · rw [h, nI_1]
  · rw [h, show (2 : Int32) = nI 2 from rfl, nI_add]
theorem all8 {P : Dt} {t r : Nat} (hO : OK P t) (hr : r ≤ 9) (K : Int32 → Int32 → St → Option (Int32 × St)) (msk : Int32) : ∀ (d n i : Nat) (f : Bool) (T : St), i + d = P 20 5 → d < n → RM P T → ∃ T1, f_X8_rubsNow_l15 K n msk (nI r) (if f = true then 1 else 0) (nI i) T = K (if (f && soB P r d i) = true then msk ||| (1 <<< (nI r &&& 31)) else msk) (nI (r + 1)) T1 ∧ KM T T1 := by
  have h8 := hO.h8
  have h5 : P 20 5 ≤ 8 := hO.2.2.2.2.2.2.2.2.1
  intro d
  induction d with
  | zero =>
    intro n i f T hi hn hR
    obtain ⟨n, rfl⟩ : ∃ a, n = a + 1 := ⟨n - 1, by omega⟩
    refine ⟨T, ?_, KM.rf T⟩
    rw [f_X8_rubsNow_l15, hR.2.2.2.2.2.2.2.2.1, if_pos (nI_le (by omega) (by omega)), soB, Bool.and_true]
    unfold f_X8_rubsNow_b91
    rw [lett_e, lett_e, lett_e, lett_e, nI_1]
    cases f with
    | true => rw [if_pos rfl, if_neg i10, if_pos rfl]
    | false => rw [if_neg (show ¬ (false = true) by decide), if_pos i00, if_neg (show ¬ (false = true) by decide), Int32.or_zero]
  | succ d ih =>
    intro n i f T hi hn hR
    obtain ⟨n, rfl⟩ : ∃ a, n = a + 1 := ⟨n - 1, by omega⟩
    obtain ⟨b1, b2, b3⟩ := hO.2.2.2.2.2.2.2.2.2.1 i (by omega)
    obtain ⟨a1, a2, a3⟩ := hR.2.2.2.2.2.2.2.2.2.1 i (by omega)
    obtain ⟨x1, x2, x3⟩ := i3 i
    have stop : ∀ T1, RM P T1 → ∃ T2, f_X8_rubsNow_b71 K (f_X8_rubsNow_l15 K n) msk (nI r) (nI i) T1 = K msk (nI (r + 1)) T2 ∧ KM T1 T2 := by
      intro T1 hR1
      unfold f_X8_rubsNow_b71 f_X8_rubsNow_b72
      rw [lett_e, nI_1]
      obtain ⟨T2, e2, k2⟩ := ih n (i + 1) false T1 (by omega) (by omega) hR1
      rw [if_neg (by decide), Bool.false_and, if_neg (by decide)] at e2
      exact ⟨T2, e2, k2⟩
    rw [f_X8_rubsNow_l15, hR.2.2.2.2.2.2.2.2.1, if_neg (nI_ge (by omega) (by omega)), soB]
    cases f with
    | false =>
      rw [if_neg (show ¬ (false = true) by decide), if_pos i00, Bool.false_and, if_neg (by decide)]
      exact stop T hR
    | true =>
      obtain ⟨T1, e1, k1⟩ := f_farBy (r := r) hR hO b1 hr (show P 9 i ≤ 20000 by omega)
      have hge := flR_ge (dtOf P (P 8 i)) r 999 (P 9 i) 0
      have hR1 := hR.km h8 k1
      obtain ⟨c1, c2, c3⟩ := hR1.2.2.2.2.2.2.2.2.2.1 i (by omega)
      rw [if_pos rfl, if_neg i10, x3, x2, x1, inb_nI (show 3 * i < 24 by omega) (by decide), inb_nI (show 3 * i + 1 < 24 by omega) (by decide), inb_nI (show 3 * i + 2 < 24 by omega) (by decide), grd_t, grd_t, cl_nI (by omega), cl_nI (by omega), cl_nI (by omega), a1, a2, e1, bnd_some, grd_t, c3, Bool.true_and]
      by_cases h : flR (dtOf P (P 8 i)) r 999 (P 9 i) 0 = P 10 i
      · rw [if_pos (congrArg nI h), decide_eq_true h, Bool.true_and]
        unfold f_X8_rubsNow_b72
        rw [lett_e, nI_1]
        obtain ⟨T2, e2, k2⟩ := ih n (i + 1) true T1 (by omega) (by omega) hR1
        rw [if_pos rfl, Bool.true_and] at e2
        exact ⟨T2, e2, k1.tr k2⟩
      · rw [if_neg (nI_ne (by omega) (by omega) h), decide_eq_false h, Bool.false_and, if_neg (by decide)]
        obtain ⟨T2, e2, k2⟩ := stop T1 hR1
        exact ⟨T2, e2, k1.tr k2⟩
theorem rubs8 {P : Dt} {t : Nat} (hO : OK P t) : ∀ (d n r : Nat) (msk : Int32) (T : St), r + d = 10 → d < n → RM P T → ∃ T1, f_X8_rubsNow_l4 n msk (nI r) T = some (rbM P d r msk, T1) ∧ KM T T1 := by
  have h8 := hO.h8
  have h5 : P 20 5 ≤ 8 := hO.2.2.2.2.2.2.2.2.1
  intro d
  induction d with
  | zero =>
    intro n r msk T hr hn hR
    obtain ⟨n, rfl⟩ : ∃ a, n = a + 1 := ⟨n - 1, by omega⟩
    refine ⟨T, ?_, KM.rf T⟩
    rw [f_X8_rubsNow_l4, if_pos (show (10 : Int32) ≤ nI r from nI_le (a := 10) (by omega) (by omega)), rbM]
  | succ d ih =>
    intro n r msk T hr hn hR
    obtain ⟨n, rfl⟩ : ∃ a, n = a + 1 := ⟨n - 1, by omega⟩
    obtain ⟨T1, e1, k1⟩ := all8 hO (show r ≤ 9 by omega) (f_X8_rubsNow_l4 n) msk (P 20 5) FU 0 true T (by omega) (by unfold FU; omega) hR
    rw [if_pos rfl, Bool.true_and] at e1
    have e1' : f_X8_rubsNow_l15 (f_X8_rubsNow_l4 n) FU msk (nI r) 1 0 T = _ := e1
    rw [f_X8_rubsNow_l4, if_neg (show ¬ (10 : Int32) ≤ nI r from nI_ge (b := 10) (by omega) (by decide)), e1', rbM]
    by_cases h : soB P r (P 20 5) 0 = true
    · rw [if_pos h, if_pos h]
      obtain ⟨T2, e2, k2⟩ := ih n (r + 1) (msk ||| (1 <<< (nI r &&& 31))) T1 (by omega) (by omega) (hR.km h8 k1)
      exact ⟨T2, e2, k1.tr k2⟩
    · rw [if_neg h, if_neg h]
      obtain ⟨T2, e2, k2⟩ := ih n (r + 1) msk T1 (by omega) (by omega) (hR.km h8 k1)
      exact ⟨T2, e2, k1.tr k2⟩
theorem f_rubs7 {P : Dt} {t : Nat} {S : St} (hR : RC P S) (hO : OK P t) : ∃ S1, f_X7_rubs S = some (rbM P 10 0 0, S1) ∧ KC S S1 := rubs7 hO 10 FU 0 0 S (by omega) (by unfold FU; omega) hR
theorem f_rubs8 {P : Dt} {t : Nat} {T : St} (hR : RM P T) (hO : OK P t) : ∃ T1, f_X8_rubsNow T = some (rbM P 10 0 0, T1) ∧ KM T T1 := rubs8 hO 10 FU 0 0 T (by omega) (by unfold FU; omega) hR
theorem op_rubs : Op f_X7_rubs f_X8_rubs := by
  refine Op.ask (fun t P hO => ⟨rbM P 10 0 0, fun S hR => f_rubs7 hR hO, fun T hR => ?_⟩)
  obtain ⟨T1, e1, k1⟩ := f_rubs8 hR hO
  refine ⟨T1, ?_, k1⟩
  unfold f_X8_rubs
  rw [e1, bnd_some]
-- ===== coast =====
def pC (P : Dt) (j x c : Nat) : Dt := pu (pu (pu (pu P 8 (P 20 5) j) 9 (P 20 5) x) 10 (P 20 5) c) 20 5 (P 20 5 + 1)
theorem pC_o {P : Dt} {j x c a : Nat} (h8 : a ≠ 8) (h9 : a ≠ 9) (h10 : a ≠ 10) (h20 : a ≠ 20) : pC P j x c a = P a := by
  unfold pC
  rw [pu_o h20, pu_o h10, pu_o h9, pu_o h8]
theorem pC_20 {P : Dt} {j x c k : Nat} (h : k ≠ 5) : pC P j x c 20 k = P 20 k := by
  unfold pC
  rw [pu_k h, pu_o (by decide), pu_o (by decide), pu_o (by decide)]
theorem pC_n {P : Dt} {j x c : Nat} : pC P j x c 20 5 = P 20 5 + 1 := by
  unfold pC
  rw [pu_s]
theorem pC_r {P : Dt} {j x c i : Nat} : pC P j x c 8 i = (if i = P 20 5 then j else P 8 i) ∧ pC P j x c 9 i = (if i = P 20 5 then x else P 9 i) ∧ pC P j x c 10 i = (if i = P 20 5 then c else P 10 i) := by
  unfold pC
  rw [pu_o (show (8 : Nat) ≠ 20 by decide), pu_o (show (9 : Nat) ≠ 20 by decide), pu_o (show (10 : Nat) ≠ 20 by decide), pu_o (show (8 : Nat) ≠ 10 by decide), pu_o (show (8 : Nat) ≠ 9 by decide), pu_o (show (9 : Nat) ≠ 10 by decide)]
  by_cases h : i = P 20 5
  · rw [h, pu_s, pu_s, pu_s, if_pos rfl, if_pos rfl, if_pos rfl]; exact ⟨rfl, rfl, rfl⟩
  · rw [pu_k h, pu_k h, pu_k h, pu_o (by decide), pu_o (by decide), pu_o (by decide), if_neg h, if_neg h, if_neg h]; exact ⟨rfl, rfl, rfl⟩
theorem pC_OK {P : Dt} {t j x c : Nat} (hO : OK P t) (h7 : P 20 5 < 8) (hj : j < P 20 3) (hx : x ≤ 9999) (hc : c ≤ 99) : OK (pC P j x c) t := by
  obtain ⟨b1, b2, b3, b4, b5, b6, b7, b8, b9, b10, b11, b12, b13⟩ := hO
  unfold OK
  rw [pC_20 (show (0 : Nat) ≠ 5 by decide), pC_20 (show (1 : Nat) ≠ 5 by decide), pC_20 (show (2 : Nat) ≠ 5 by decide), pC_20 (show (3 : Nat) ≠ 5 by decide), pC_20 (show (4 : Nat) ≠ 5 by decide), pC_n, pC_20 (show (6 : Nat) ≠ 5 by decide), pC_20 (show (7 : Nat) ≠ 5 by decide), pC_20 (show (8 : Nat) ≠ 5 by decide), pC_20 (show (9 : Nat) ≠ 5 by decide), pC_o (a := 0) (by decide) (by decide) (by decide) (by decide), pC_o (a := 1) (by decide) (by decide) (by decide) (by decide), pC_o (a := 2) (by decide) (by decide) (by decide) (by decide), pC_o (a := 3) (by decide) (by decide) (by decide) (by decide), pC_o (a := 4) (by decide) (by decide) (by decide) (by decide), pC_o (a := 5) (by decide) (by decide) (by decide) (by decide), pC_o (a := 6) (by decide) (by decide) (by decide) (by decide), pC_o (a := 11) (by decide) (by decide) (by decide) (by decide), pC_o (a := 12) (by decide) (by decide) (by decide) (by decide), pC_o (a := 13) (by decide) (by decide) (by decide) (by decide), pC_o (a := 14) (by decide) (by decide) (by decide) (by decide), pC_o (a := 15) (by decide) (by decide) (by decide) (by decide)]
  refine ⟨b1, b2, b3, b4, b5, b6, fun i hi => ?_, b8, by omega, fun i hi => ?_, b11, b12, b13⟩
  · rw [pC_o (a := 30 + i) (by omega) (by omega) (by omega) (by omega), pC_o (a := 40 + i) (by omega) (by omega) (by omega) (by omega)]
    exact b7 i hi
  · rw [pC_r.1, pC_r.2.1, pC_r.2.2]
    by_cases h : i = P 20 5
    · rw [if_pos h, if_pos h, if_pos h]; exact ⟨hj, hx, hc⟩
    · rw [if_neg h, if_neg h, if_neg h]; exact b10 i (by omega)
theorem pC_RC {P : Dt} {j x c : Nat} {S S1 : St} (hR : RC P S) (h8 : P 20 3 ≤ 8) (hK : ∀ a, a ≠ 33 → a ≠ 34 → a ≠ 35 → a ≠ 36 → S1 a = S a) (h33 : S1 33 3 = nI (P 20 5 + 1)) (hr : ∀ i, i < P 20 5 + 1 → S1 34 i = nI (if i = P 20 5 then j else P 8 i) ∧ S1 35 i = nI (if i = P 20 5 then x else P 9 i) ∧ S1 36 i = nI (if i = P 20 5 then c else P 10 i)) : RC (pC P j x c) S1 := by
  obtain ⟨a1, a2, a3, a4, a5, a6, a7, a8, a9, a10, a11, a12⟩ := hR
  unfold RC
  rw [pC_20 (show (0 : Nat) ≠ 5 by decide), pC_20 (show (1 : Nat) ≠ 5 by decide), pC_20 (show (2 : Nat) ≠ 5 by decide), pC_20 (show (3 : Nat) ≠ 5 by decide), pC_20 (show (4 : Nat) ≠ 5 by decide), pC_n, pC_20 (show (6 : Nat) ≠ 5 by decide), pC_20 (show (7 : Nat) ≠ 5 by decide), pC_20 (show (8 : Nat) ≠ 5 by decide), pC_20 (show (9 : Nat) ≠ 5 by decide), pC_o (a := 0) (by decide) (by decide) (by decide) (by decide), pC_o (a := 1) (by decide) (by decide) (by decide) (by decide), pC_o (a := 2) (by decide) (by decide) (by decide) (by decide), pC_o (a := 3) (by decide) (by decide) (by decide) (by decide), pC_o (a := 4) (by decide) (by decide) (by decide) (by decide), pC_o (a := 5) (by decide) (by decide) (by decide) (by decide), pC_o (a := 6) (by decide) (by decide) (by decide) (by decide), pC_o (a := 11) (by decide) (by decide) (by decide) (by decide), pC_o (a := 12) (by decide) (by decide) (by decide) (by decide), pC_o (a := 13) (by decide) (by decide) (by decide) (by decide), pC_o (a := 14) (by decide) (by decide) (by decide) (by decide), pC_o (a := 15) (by decide) (by decide) (by decide) (by decide)]
  rw [hK 1 (by decide) (by decide) (by decide) (by decide), hK 2 (by decide) (by decide) (by decide) (by decide), hK 3 (by decide) (by decide) (by decide) (by decide), hK 4 (by decide) (by decide) (by decide) (by decide), hK 5 (by decide) (by decide) (by decide) (by decide), hK 6 (by decide) (by decide) (by decide) (by decide), hK 7 (by decide) (by decide) (by decide) (by decide), hK 0 (by decide) (by decide) (by decide) (by decide), hK 37 (by decide) (by decide) (by decide) (by decide), hK 38 (by decide) (by decide) (by decide) (by decide), hK 39 (by decide) (by decide) (by decide) (by decide), hK 40 (by decide) (by decide) (by decide) (by decide), hK 41 (by decide) (by decide) (by decide) (by decide), hK 42 (by decide) (by decide) (by decide) (by decide), hK 43 (by decide) (by decide) (by decide) (by decide)]
  refine ⟨a1, a2, a3, a4, a5, a6, fun i hi => ?_, a8, h33, fun i hi => ?_, a11, a12⟩
  · rw [pC_o (a := 30 + i) (by omega) (by omega) (by omega) (by omega), pC_o (a := 40 + i) (by omega) (by omega) (by omega) (by omega), hK (9 + 3 * i) (by omega) (by omega) (by omega) (by omega), hK (9 + 3 * i + 1) (by omega) (by omega) (by omega) (by omega), hK (9 + 3 * i + 2) (by omega) (by omega) (by omega) (by omega)]
    exact a7 i hi
  · rw [pC_r.1, pC_r.2.1, pC_r.2.2]
    exact hr i hi
theorem pC_RM {P : Dt} {j x c : Nat} {T T1 : St} (hR : RM P T) (hK : ∀ a, a ≠ 70 → a ≠ 55 → T1 a = T a) (h55 : ∀ k, k ≠ 29 → T1 55 k = T 55 k) (h29 : T1 55 29 = nI (P 20 5 + 1)) (hr : ∀ i, i < P 20 5 + 1 → T1 70 (3 * i) = nI (if i = P 20 5 then j else P 8 i) ∧ T1 70 (3 * i + 1) = nI (if i = P 20 5 then x else P 9 i) ∧ T1 70 (3 * i + 2) = nI (if i = P 20 5 then c else P 10 i)) : RM (pC P j x c) T1 := by
  obtain ⟨a1, a2, a3, a4, a5, a6, a7, a8, a9, a10, a11, a12⟩ := hR
  unfold RM
  rw [pC_20 (show (0 : Nat) ≠ 5 by decide), pC_20 (show (1 : Nat) ≠ 5 by decide), pC_20 (show (2 : Nat) ≠ 5 by decide), pC_20 (show (3 : Nat) ≠ 5 by decide), pC_20 (show (4 : Nat) ≠ 5 by decide), pC_n, pC_20 (show (6 : Nat) ≠ 5 by decide), pC_20 (show (7 : Nat) ≠ 5 by decide), pC_20 (show (8 : Nat) ≠ 5 by decide), pC_20 (show (9 : Nat) ≠ 5 by decide), pC_o (a := 0) (by decide) (by decide) (by decide) (by decide), pC_o (a := 1) (by decide) (by decide) (by decide) (by decide), pC_o (a := 2) (by decide) (by decide) (by decide) (by decide), pC_o (a := 3) (by decide) (by decide) (by decide) (by decide), pC_o (a := 4) (by decide) (by decide) (by decide) (by decide), pC_o (a := 5) (by decide) (by decide) (by decide) (by decide), pC_o (a := 6) (by decide) (by decide) (by decide) (by decide), pC_o (a := 11) (by decide) (by decide) (by decide) (by decide), pC_o (a := 12) (by decide) (by decide) (by decide) (by decide), pC_o (a := 13) (by decide) (by decide) (by decide) (by decide), pC_o (a := 14) (by decide) (by decide) (by decide) (by decide), pC_o (a := 15) (by decide) (by decide) (by decide) (by decide)]
  rw [hK 56 (by decide) (by decide), hK 58 (by decide) (by decide), hK 59 (by decide) (by decide), hK 60 (by decide) (by decide), hK 61 (by decide) (by decide), hK 62 (by decide) (by decide), hK 63 (by decide) (by decide), hK 64 (by decide) (by decide), hK 72 (by decide) (by decide), hK 73 (by decide) (by decide), hK 74 (by decide) (by decide), h55 1 (by decide), h55 6 (by decide), h55 7 (by decide), h55 12 (by decide), h55 16 (by decide), h55 32 (by decide), h55 33 (by decide), h55 34 (by decide), h55 35 (by decide)]
  refine ⟨a1, a2, a3, a4, a5, a6, fun i hi => ?_, a8, h29, fun i hi => ?_, a11, a12⟩
  · rw [pC_o (a := 30 + i) (by omega) (by omega) (by omega) (by omega), pC_o (a := 40 + i) (by omega) (by omega) (by omega) (by omega)]
    exact a7 i hi
  · rw [pC_r.1, pC_r.2.1, pC_r.2.2]
    exact hr i hi
theorem op_coast (x1 x2 x3 : Int32) : Op (f_X7_coast x1 x2 x3) (f_X8_coast x1 x2 x3) := by
  intro t P hO ht
  have h8 := hO.h8
  have h5 : P 20 5 ≤ 8 := hO.2.2.2.2.2.2.2.2.1
  by_cases hc : isC P x1
  · by_cases hs : isSw x2
    · by_cases hw : 0 ≤ x3 ∧ x3 ≤ 99
      · by_cases h7 : P 20 5 < 8
        · obtain ⟨j, hj, rfl⟩ := rng (by omega) hc
          obtain ⟨x, hx, rfl⟩ := isSw_nI hs
          obtain ⟨c, hc9, rfl⟩ := rngle (n := 99) (by decide) hw.1 hw.2
          refine ⟨nI (P 20 5 + 1), pC P j x c, pC_OK (hO.next ht) h7 hj hx hc9, fun S hR => ?_, fun T hR => ?_⟩
          · have h33 := hR.2.2.2.2.2.2.2.2.1
            refine ⟨su (su (su (su S 34 (P 20 5) (nI j)) 35 (P 20 5) (nI x)) 36 (P 20 5) (nI c)) 33 3 (nI (P 20 5 + 1)), ?_, pC_RC hR h8 (fun a w1 w2 w3 w4 => by rw [su_o w1, su_o w4, su_o w3, su_o w2]) su_s (fun i hi => ?_), fun a ha => by rw [su_o (by omega), su_o (by omega), su_o (by omega), su_o (by omega)]⟩
            · unfold f_X7_coast f_X2_put
              rw [c7y hR hc, bnd_some, if_neg i10, s7y hs, bnd_some, if_neg i10, w7y hw, bnd_some, if_neg i10, h33, if_pos (show nI (P 20 5) < (8 : Int32) from (nI_ltI (b := 8) (by omega) (by decide)).mpr h7), if_neg (show ¬ (8 : Int32) ≤ nI (P 20 5) from nI_ge (b := 8) h7 (by decide)), inb_nI h7 (by decide), grd_t, lett_e, cl_nI (by omega), su_o (show (33 : Nat) ≠ 34 by decide), h33, inb_nI h7 (by decide), grd_t, lett_e, cl_nI (by omega), su_o (show (33 : Nat) ≠ 35 by decide), su_o (show (33 : Nat) ≠ 34 by decide), h33, inb_nI h7 (by decide), grd_t, lett_e, cl_nI (by omega), su_o (show (33 : Nat) ≠ 36 by decide), su_o (show (33 : Nat) ≠ 35 by decide), su_o (show (33 : Nat) ≠ 34 by decide), h33, nI_1, lett_e, bnd_some, su_s]
            · rw [su_o (show (34 : Nat) ≠ 33 by decide), su_o (show (35 : Nat) ≠ 33 by decide), su_o (show (36 : Nat) ≠ 33 by decide), su_o (show (34 : Nat) ≠ 36 by decide), su_o (show (34 : Nat) ≠ 35 by decide), su_o (show (35 : Nat) ≠ 36 by decide)]
              by_cases h : i = P 20 5
              · rw [h, su_s, su_s, su_s, if_pos rfl, if_pos rfl, if_pos rfl]; exact ⟨rfl, rfl, rfl⟩
              · rw [su_k h, su_k h, su_k h, su_o (show (35 : Nat) ≠ 34 by decide), su_o (show (36 : Nat) ≠ 35 by decide), su_o (show (36 : Nat) ≠ 34 by decide), if_neg h, if_neg h, if_neg h]
                exact hR.2.2.2.2.2.2.2.2.2.1 i (by omega)
          · have h29 := hR.2.2.2.2.2.2.2.2.1
            obtain ⟨y1, y2, y3⟩ := i3 (P 20 5)
            refine ⟨su (su (su (su T 70 (3 * P 20 5) (nI j)) 70 (3 * P 20 5 + 1) (nI x)) 70 (3 * P 20 5 + 2) (nI c)) 55 29 (nI (P 20 5 + 1)), ?_, pC_RM hR (fun a w1 w2 => by rw [su_o w2, su_o w1, su_o w1, su_o w1]) (fun k hk => by rw [su_k hk, su_o (by decide), su_o (by decide), su_o (by decide)]) su_s (fun i hi => ?_), fun a ha => by rw [su_o (by omega), su_o (by omega), su_o (by omega), su_o (by omega)]⟩
            · unfold f_X8_coast
              rw [c8y hO hR hc, bnd_some, if_neg i10, s8y hs, bnd_some, if_neg i10, w8y (a := 0) (b := 99) hw, bnd_some, if_neg i10, h29, if_neg (show ¬ nI (P 20 5) = (8 : Int32) from nI_ne (b := 8) (by omega) (by decide) (by omega)), y1, inb_nI (show 3 * P 20 5 < 24 by omega) (by decide), grd_t, lett_e, cl_nI (by omega), su_o (show (55 : Nat) ≠ 70 by decide), h29, y2, inb_nI (show 3 * P 20 5 + 1 < 24 by omega) (by decide), grd_t, lett_e, cl_nI (by omega), su_o (show (55 : Nat) ≠ 70 by decide), su_o (show (55 : Nat) ≠ 70 by decide), h29, y3, inb_nI (show 3 * P 20 5 + 2 < 24 by omega) (by decide), grd_t, lett_e, cl_nI (by omega), su_o (show (55 : Nat) ≠ 70 by decide), su_o (show (55 : Nat) ≠ 70 by decide), su_o (show (55 : Nat) ≠ 70 by decide), h29, nI_1, lett_e, su_s]
            · rw [su_o (show (70 : Nat) ≠ 55 by decide)]
              by_cases h : i = P 20 5
              · rw [h, su_k (show 3 * P 20 5 ≠ 3 * P 20 5 + 2 by omega), su_k (show 3 * P 20 5 ≠ 3 * P 20 5 + 1 by omega), su_s, su_k (show 3 * P 20 5 + 1 ≠ 3 * P 20 5 + 2 by omega), su_s, su_s, if_pos rfl, if_pos rfl, if_pos rfl]; exact ⟨rfl, rfl, rfl⟩
              · have hi' : i < P 20 5 := by omega
                rw [su_k (show 3 * i ≠ 3 * P 20 5 + 2 by omega), su_k (show 3 * i ≠ 3 * P 20 5 + 1 by omega), su_k (show 3 * i ≠ 3 * P 20 5 by omega), su_k (show 3 * i + 1 ≠ 3 * P 20 5 + 2 by omega), su_k (show 3 * i + 1 ≠ 3 * P 20 5 + 1 by omega), su_k (show 3 * i + 1 ≠ 3 * P 20 5 by omega), su_k (show 3 * i + 2 ≠ 3 * P 20 5 + 2 by omega), su_k (show 3 * i + 2 ≠ 3 * P 20 5 + 1 by omega), su_k (show 3 * i + 2 ≠ 3 * P 20 5 by omega), if_neg h, if_neg h, if_neg h]
                exact hR.2.2.2.2.2.2.2.2.2.1 i hi'
        · refine ⟨-104, P, hO.next ht, ClsR (fun S hR => ?_), MdlR (fun T hR => ?_)⟩
          · unfold f_X7_coast
            rw [c7y hR hc, bnd_some, if_neg i10, s7y hs, bnd_some, if_neg i10, w7y hw, bnd_some, if_neg i10, hR.2.2.2.2.2.2.2.2.1, if_neg (show ¬ nI (P 20 5) < (8 : Int32) from nI_nlt (b := 8) (by omega) (by omega))]
          · unfold f_X8_coast
            rw [c8y hO hR hc, bnd_some, if_neg i10, s8y hs, bnd_some, if_neg i10, w8y (a := 0) (b := 99) hw, bnd_some, if_neg i10, hR.2.2.2.2.2.2.2.2.1, show P 20 5 = 8 by omega, if_pos (by decide)]
      · refine ⟨-102, P, hO.next ht, ClsR (fun S hR => ?_), MdlR (fun T hR => ?_)⟩
        · unfold f_X7_coast
          rw [c7y hR hc, bnd_some, if_neg i10, s7y hs, bnd_some, if_neg i10, w7n hw, bnd_some, if_pos i00]
        · unfold f_X8_coast
          rw [c8y hO hR hc, bnd_some, if_neg i10, s8y hs, bnd_some, if_neg i10, w8n (a := 0) (b := 99) hw, bnd_some, if_pos i00]
    · refine ⟨-102, P, hO.next ht, ClsR (fun S hR => ?_), MdlR (fun T hR => ?_)⟩
      · unfold f_X7_coast
        rw [c7y hR hc, bnd_some, if_neg i10, s7n hs, bnd_some, if_pos i00]
      · unfold f_X8_coast
        rw [c8y hO hR hc, bnd_some, if_neg i10, s8n hs, bnd_some, if_pos i00]
  · refine ⟨-101, P, hO.next ht, ClsR (fun S hR => ?_), MdlR (fun T hR => ?_)⟩
    · unfold f_X7_coast
      rw [c7n hR hc, bnd_some, if_pos i00]
    · unfold f_X8_coast
      rw [c8n hO hR hc, bnd_some, if_pos i00]
