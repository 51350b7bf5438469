-- ===== digest =====
def mx (h : Int64) (v : Int32) : Int64 := 31 * h + v.toInt64
theorem f_mixed (h : Int64) (v : Int32) (S : St) : f_X7_mixed h v S = some (mx h v, S) := rfl
def HM (P : Dt) (h : Int64) (T : St) : Prop := RM P T ∧ getL (T 55) = h
theorem KM.gl {T T1 : St} (h : KM T T1) : getL (T1 55) = getL (T 55) := by
  unfold getL
  rw [h 55 100 (by unfold pmB; omega), h 55 101 (by unfold pmB; omega)]
theorem HM.km {P : Dt} {h : Int64} {T T1 : St} (hH : HM P h T) (h8 : P 20 3 ≤ 8) (hK : KM T T1) : HM P h T1 := ⟨hH.1.km h8 hK, hK.gl.trans hH.2⟩
theorem f_say {P : Dt} {h : Int64} {T : St} (hH : HM P h T) (v : Int32) : ∃ T1, f_X8_say v.toInt64 T = some ((), T1) ∧ KH T T1 ∧ HM P (mx h v) T1 ∧ ∀ c k, (c ≠ 55 ∨ k < 100) → T1 c k = T c k := by
  refine ⟨sr T 55 (setL (T 55) (31 * getL (T 55) + v.toInt64)), rfl, KH.sL T _, ⟨hH.1.sL _, ?_⟩, fun c k hq => ?_⟩
  · rw [sr_s, getL_setL, hH.2]; rfl
  · by_cases h : c = 55
    · subst h; rw [sr_s, setL_lo _ _ (by omega)]
    · rw [sr_o h]
def cv (P : Dt) (c w : Nat) : Int32 := nI (if w = 0 then P 1 c else if w = 1 then P 2 c else if w = 2 then P 3 c else P 4 c)
theorem f_cell7 {P : Dt} {t c w : Nat} {S : St} (hR : RC P S) (hO : OK P t) (hc : c < P 20 1) (hw : w < 4) : f_X7_cell (nI c) (nI w) S = some (cv P c w, S) := by
  have h12 := hO.h12
  obtain ⟨a1, a2, a3, a4⟩ := hR.2.2.2.1 c hc
  have hh : isH P (nI c) := ⟨nI_pos' (by omega), (nI_ltI (by omega) (by omega)).mpr hc⟩
  unfold f_X7_cell
  rw [h7y hR hh, bnd_some, if_neg i10, inb_nI (by omega) (by decide), grd_t, grd_t, grd_t, grd_t, cl_nI (by omega), a1, a2, a3, a4]
  rcases (show w = 0 ∨ w = 1 ∨ w = 2 ∨ w = 3 by omega) with rfl | rfl | rfl | rfl <;> rfl
theorem f_cellO8 {P : Dt} {t c w : Nat} {T : St} (hR : RM P T) (hO : OK P t) (hc : c < P 20 1) (hw : w < 4) : f_X8_cellOf (nI c) (nI w) T = some (cv P c w, T) := by
  have h12 := hO.h12
  obtain ⟨a1, a2, a3, a4⟩ := hR.2.2.2.1 c hc
  unfold f_X8_cellOf
  rw [inb_nI (show c < 12 by omega) (by decide), grd_t, grd_t, grd_t, grd_t, cl_nI (by omega), a1, a2, a3, a4]
  rcases (show w = 0 ∨ w = 1 ∨ w = 2 ∨ w = 3 by omega) with rfl | rfl | rfl | rfl <;> rfl
def dC (P : Dt) : Nat → Nat → Int64 → Int64
  | 0, _, h => h
  | d + 1, c, h => dC P d (c + 1) (mx (mx (mx (mx h (cv P c 0)) (cv P c 1)) (cv P c 2)) (cv P c 3))
def dK (P : Dt) (j : Nat) : Nat → Nat → Int64 → Int64
  | 0, _, h => h
  | d + 1, k, h => dK P j d (k + 1) (mx (mx h (nI (P (30 + j) k))) (nI (P (40 + j) k)))
def dJ3 (P : Dt) (j : Nat) (h : Int64) : Int64 := mx (dK P j (P 6 j) 0 (mx (mx h (nI (P 5 j))) (nI (P 6 j)))) (nI (flR (dtOf P j) 0 999 400 0))
def dJ (P : Dt) (j : Nat) (h : Int64) : Int64 := if P 20 1 = 0 then dJ3 P j h else mx (mx (mx (mx (dJ3 P j h) (nI (goN (dtOf P j) 100 0 0))) (nI (goN (dtOf P j) 100 0 1))) (nI (goN (dtOf P j) 100 0 2))) (nI (goN (dtOf P j) 100 0 3))
def dJs (P : Dt) : Nat → Nat → Int64 → Int64
  | 0, _, h => h
  | d + 1, j, h => dJs P d (j + 1) (dJ P j h)
def dO (P : Dt) : Nat → Nat → Int64 → Int64
  | 0, _, h => h
  | d + 1, i, h => dO P d (i + 1) (mx (mx (mx h (nI (P 8 i))) (nI (P 9 i))) (nI (P 10 i)))
def dL (P : Dt) : Nat → Nat → Int64 → Int64
  | 0, _, h => h
  | d + 1, i, h => dL P d (i + 1) (mx h (nI (P 0 i)))
def dQ (P : Dt) : Nat → Nat → Int64 → Int64
  | 0, _, h => h
  | d + 1, i, h => dQ P d (i + 1) (mx h (cntN P (nI i)))
def dgN (P : Dt) : Int64 := dQ P 7 0 (dL P (P 20 0) 0 (mx (dO P (P 20 5) 0 (dJs P (P 20 3) 0 (dC P (P 20 1) 0 491))) (rbM P 10 0 0)))
-- the class
theorem dg20 {P : Dt} {t c : Nat} {S : St} (hR : RC P S) (hO : OK P t) (hc : c < P 20 1) (K : Int64 → Int32 → St → Option (Int64 × St)) (h : Int64) : f_X7_digest_l20 K FU h (nI c) 0 S = K (mx (mx (mx (mx h (cv P c 0)) (cv P c 1)) (cv P c 2)) (cv P c 3)) (nI (c + 1)) S := by
  obtain ⟨n, hn⟩ : ∃ n, FU = n + 5 := ⟨FU - 5, by unfold FU; omega⟩
  have st : ∀ (n w : Nat) (h : Int64), w < 4 → f_X7_digest_l20 K (n + 1) h (nI c) (nI w) S = f_X7_digest_l20 K n (mx h (cv P c w)) (nI c) (nI (w + 1)) S := by
    intro n w h hw
    rw [f_X7_digest_l20, if_neg (show ¬ (3 : Int32) < nI w from nI_nlt (a := 3) (by omega) (by decide)), f_cell7 hR hO hc hw, bnd_some, f_mixed, bnd_some, lett_e, nI_1]
  rw [hn, show (0 : Int32) = nI 0 from rfl, st _ _ _ (by decide), st _ _ _ (by decide), st _ _ _ (by decide), st _ _ _ (by decide), f_X7_digest_l20, if_pos (by decide), lett_e, nI_1]
theorem dg6 {P : Dt} {t : Nat} {S : St} (hR : RC P S) (hO : OK P t) : ∀ (d n c : Nat) (h : Int64), c + d = P 20 1 → d < n → f_X7_digest_l6 n h (nI c) S = f_X7_digest_l52 FU (dC P d c h) 0 S := by
  have h12 := hO.h12
  intro d
  induction d with
  | zero =>
    intro n c h hc hn
    obtain ⟨n, rfl⟩ : ∃ a, n = a + 1 := ⟨n - 1, by omega⟩
    rw [f_X7_digest_l6, hR.2.2.1, if_pos (nI_le (by omega) (by omega)), dC]
  | succ d ih =>
    intro n c h hc hn
    obtain ⟨n, rfl⟩ : ∃ a, n = a + 1 := ⟨n - 1, by omega⟩
    rw [f_X7_digest_l6, hR.2.2.1, if_neg (nI_ge (by omega) (by omega)), dg20 hR hO (by omega), dC]
    exact ih n (c + 1) _ (by omega) (by omega)
theorem tell4 {D R : Dt} {S : St} (h : RCo D S R) (l : Int64) : f_X7_mixedCart_l119 FU l 0 S = some (mx (mx (mx (mx l (nI (R 0 0))) (nI (R 0 1))) (nI (R 0 2))) (nI (R 0 3)), S) := by
  obtain ⟨n, hn⟩ : ∃ n, FU = n + 5 := ⟨FU - 5, by unfold FU; omega⟩
  have st : ∀ (n w : Nat) (h' : Int64), w < 4 → f_X7_mixedCart_l119 (n + 1) h' (nI w) S = f_X7_mixedCart_l119 n (mx h' (nI (R 0 w))) (nI (w + 1)) S := by
    intro n w h' hw
    rw [f_X7_mixedCart_l119, if_neg (show ¬ (3 : Int32) < nI w from nI_nlt (a := 3) (by omega) (by decide))]
    unfold f_X6_tell
    rcases (show w = 0 ∨ w = 1 ∨ w = 2 ∨ w = 3 by omega) with rfl | rfl | rfl | rfl
    · rw [if_pos (by decide), bnd_some, f_mixed, bnd_some, lett_e, nI_1, h.1]
    · rw [if_neg (by decide), if_pos (by decide), bnd_some, f_mixed, bnd_some, lett_e, nI_1, h.2.1]
    · rw [if_neg (by decide), if_neg (by decide), if_pos (by decide), bnd_some, f_mixed, bnd_some, lett_e, nI_1, h.2.2.1]
    · rw [if_neg (by decide), if_neg (by decide), if_neg (by decide), bnd_some, f_mixed, bnd_some, lett_e, nI_1, h.2.2.2.1]
  rw [hn, show (0 : Int32) = nI 0 from rfl, st _ _ _ (by decide), st _ _ _ (by decide), st _ _ _ (by decide), st _ _ _ (by decide), f_X7_mixedCart_l119, if_pos (by decide)]
theorem cart30 {P : Dt} {t j : Nat} {S : St} (hR : RC P S) (hO : OK P t) (hj : j < P 20 3) : ∀ (d n k : Nat) (h : Int64), k + d = P 6 j → d < n → ∃ S1, f_X7_mixedCart_l30 n (nI j) h (nI k) S = some ((if P 20 1 = 0 then mx (dK P j d k h) (nI (flR (dtOf P j) 0 999 400 0)) else mx (mx (mx (mx (mx (dK P j d k h) (nI (flR (dtOf P j) 0 999 400 0))) (nI (goN (dtOf P j) 100 0 0))) (nI (goN (dtOf P j) 100 0 1))) (nI (goN (dtOf P j) 100 0 2))) (nI (goN (dtOf P j) 100 0 3))), S1) ∧ KC S S1 := by
  have h8 := hO.h8
  have h12 := hO.h12
  have hB := MB_of hO hj
  have hm5 : P 6 j ≤ 5 := hB.2.1
  obtain ⟨w1, w2, w3⟩ := hR.2.2.2.2.2.2.1 j hj
  intro d
  induction d with
  | zero =>
    intro n k h hk hn
    obtain ⟨n, rfl⟩ : ∃ a, n = a + 1 := ⟨n - 1, by omega⟩
    obtain ⟨S1, e1, k1, m1, -⟩ := f_mount hR hO hj
    have e2 : f_X6_goFlat 400 0 999 S1 = some (nI (flR (dtOf P j) 0 999 400 0), S1) := f_flat hB (r := 0) (M := 999) (x := 400) (by omega) (by omega) (by omega) m1
    have hR1 := hR.kc h8 k1.kc
    rw [f_X7_mixedCart_l30, inb_nI (show j < 8 by omega) (by decide), grd_t, cl_nI (by omega), w2, if_pos (nI_le (by omega) (by omega)), dK]
    unfold f_X7_flatCells
    rw [inb_nI (show j < 8 by omega) (by decide), grd_t, cl_nI (by omega), hR.2.2.2.2.2.2.2.1, e1, bnd_some, e2, bnd_some, bnd_some, f_mixed, bnd_some, hR1.2.2.1]
    by_cases h0 : P 20 1 = 0
    · rw [h0, if_pos (by decide), if_pos rfl]
      exact ⟨S1, rfl, k1.kc⟩
    · obtain ⟨S2, e3, k3, r3, -⟩ := f_goDown (x := 100) hR1 hO hj h0 (by omega)
      have e3' : f_X7_goDown (nI j) 100 S1 = some ((), S2) := e3
      rw [if_neg (nI_nle (by omega) (by omega)), if_neg h0, e3', bnd_some, tell4 r3]
      exact ⟨S2, rfl, k1.kc.tr k3.kc⟩
  | succ d ih =>
    intro n k h hk hn
    obtain ⟨n, rfl⟩ : ∃ a, n = a + 1 := ⟨n - 1, by omega⟩
    obtain ⟨v1, v2⟩ := w3 k (by omega)
    rw [f_X7_mixedCart_l30, inb_nI (show j < 8 by omega) (by decide), grd_t, cl_nI (by omega), w2, if_neg (nI_ge (by omega) (by omega)), grd_t, inb_nI (show k < 5 by omega) (by decide), grd_t, cl_nI (by omega), v1, f_mixed, bnd_some, grd_t, grd_t, v2, f_mixed, bnd_some, lett_e, nI_1, dK]
    exact ih n (k + 1) _ (by omega) (by omega)
theorem f_cart7 {P : Dt} {t j : Nat} {S : St} (hR : RC P S) (hO : OK P t) (hj : j < P 20 3) (h : Int64) : ∃ S1, f_X7_mixedCart h (nI j) S = some (dJ P j h, S1) ∧ KC S S1 := by
  have h8 := hO.h8
  have hm5 : P 6 j ≤ 5 := (MB_of hO hj).2.1
  obtain ⟨w1, w2, w3⟩ := hR.2.2.2.2.2.2.1 j hj
  unfold f_X7_mixedCart
  rw [inb_nI (show j < 8 by omega) (by decide), grd_t, cl_nI (by omega), w1, f_mixed, bnd_some, grd_t, w2, f_mixed, bnd_some]
  exact cart30 hR hO hj (P 6 j) FU 0 _ (by omega) (by unfold FU; omega)
theorem dg52 {P : Dt} {t : Nat} (hO : OK P t) : ∀ (d n j : Nat) (h : Int64) (S : St), RC P S → j + d = P 20 3 → d < n → ∃ S1, f_X7_digest_l52 n h (nI j) S = f_X7_digest_l75 FU (dJs P d j h) 0 S1 ∧ KC S S1 := by
  have h8 := hO.h8
  intro d
  induction d with
  | zero =>
    intro n j h S hR hj hn
    obtain ⟨n, rfl⟩ : ∃ a, n = a + 1 := ⟨n - 1, by omega⟩
    refine ⟨S, ?_, KC.rf S⟩
    rw [f_X7_digest_l52, hR.2.2.2.2.2.1, if_pos (nI_le (by omega) (by omega)), dJs]
  | succ d ih =>
    intro n j h S hR hj hn
    obtain ⟨n, rfl⟩ : ∃ a, n = a + 1 := ⟨n - 1, by omega⟩
    obtain ⟨S1, e1, k1⟩ := f_cart7 hR hO (show j < P 20 3 by omega) h
    rw [f_X7_digest_l52, hR.2.2.2.2.2.1, if_neg (nI_ge (by omega) (by omega)), e1, bnd_some, lett_e, nI_1, dJs]
    obtain ⟨S2, e2, k2⟩ := ih n (j + 1) (dJ P j h) S1 (hR.kc h8 k1) (by omega) (by omega)
    exact ⟨S2, e2, k1.tr k2⟩
theorem dg75 {P : Dt} {t : Nat} {S : St} (hR : RC P S) (hO : OK P t) : ∀ (d n i : Nat) (h : Int64), i + d = P 20 5 → d < n → ∃ S1, f_X7_digest_l75 n h (nI i) S = f_X7_digest_l145 FU (mx (dO P d i h) (rbM P 10 0 0)) 0 S1 ∧ KC S S1 := by
  have h5 : P 20 5 ≤ 8 := hO.2.2.2.2.2.2.2.2.1
  intro d
  induction d with
  | zero =>
    intro n i h hi hn
    obtain ⟨n, rfl⟩ : ∃ a, n = a + 1 := ⟨n - 1, by omega⟩
    obtain ⟨S1, e1, k1⟩ := f_rubs7 hR hO
    refine ⟨S1, ?_, k1⟩
    rw [f_X7_digest_l75, hR.2.2.2.2.2.2.2.2.1, if_pos (nI_le (by omega) (by omega)), e1, bnd_some, f_mixed, bnd_some, dO]
  | succ d ih =>
    intro n i h hi hn
    obtain ⟨n, rfl⟩ : ∃ a, n = a + 1 := ⟨n - 1, by omega⟩
    obtain ⟨a1, a2, a3⟩ := hR.2.2.2.2.2.2.2.2.2.1 i (by omega)
    rw [f_X7_digest_l75, hR.2.2.2.2.2.2.2.2.1, if_neg (nI_ge (by omega) (by omega)), inb_nI (show i < 8 by omega) (by decide), grd_t, cl_nI (by omega), a1, f_mixed, bnd_some, grd_t, a2, f_mixed, bnd_some, grd_t, a3, f_mixed, bnd_some, lett_e, nI_1, dO]
    exact ih n (i + 1) _ (by omega) (by omega)
theorem dg178 {P : Dt} {t : Nat} {S : St} (hR : RC P S) (hO : OK P t) : ∀ (d n i : Nat) (h : Int64), i + d = 7 → d < n → f_X7_digest_l178 n h (nI i) S = some (dQ P d i h, S) := by
  intro d
  induction d with
  | zero =>
    intro n i h hi hn
    obtain ⟨n, rfl⟩ : ∃ a, n = a + 1 := ⟨n - 1, by omega⟩
    rw [f_X7_digest_l178, if_pos (show (6 : Int32) < nI i from (nI_ltI (a := 6) (by decide) (by omega)).mpr (by omega)), dQ]
  | succ d ih =>
    intro n i h hi hn
    obtain ⟨n, rfl⟩ : ∃ a, n = a + 1 := ⟨n - 1, by omega⟩
    rw [f_X7_digest_l178, if_neg (show ¬ (6 : Int32) < nI i from nI_nlt (a := 6) (by omega) (by decide)), f_count7 hR hO, bnd_some, f_mixed, bnd_some, lett_e, nI_1, dQ]
    exact ih n (i + 1) _ (by omega) (by omega)
theorem dg145 {P : Dt} {t : Nat} {S : St} (hR : RC P S) (hO : OK P t) : ∀ (d n i : Nat) (h : Int64), i + d = P 20 0 → d < n → f_X7_digest_l145 n h (nI i) S = f_X7_digest_l178 FU (dL P d i h) 0 S := by
  have h50 : P 20 0 ≤ 50 := hO.1
  intro d
  induction d with
  | zero =>
    intro n i h hi hn
    obtain ⟨n, rfl⟩ : ∃ a, n = a + 1 := ⟨n - 1, by omega⟩
    rw [f_X7_digest_l145, hR.1, if_pos (nI_le (by omega) (by omega)), dL]
  | succ d ih =>
    intro n i h hi hn
    obtain ⟨n, rfl⟩ : ∃ a, n = a + 1 := ⟨n - 1, by omega⟩
    rw [f_X7_digest_l145, hR.1, if_neg (nI_ge (by omega) (by omega)), inb_nI (show i < 50 by omega) (by decide), grd_t, cl_nI (by omega), hR.2.1 i (by omega), f_mixed, bnd_some, lett_e, nI_1, dL]
    exact ih n (i + 1) _ (by omega) (by omega)
theorem digest7 {P : Dt} {t : Nat} {S : St} (hR : RC P S) (hO : OK P t) : ∃ S1, f_X7_digest S = some (dgN P, S1) ∧ KC S S1 := by
  have h8 := hO.h8
  have h12 := hO.h12
  have h5 : P 20 5 ≤ 8 := hO.2.2.2.2.2.2.2.2.1
  have h50 : P 20 0 ≤ 50 := hO.1
  obtain ⟨S1, e1, k1⟩ := dg52 hO (P 20 3) FU 0 (dC P (P 20 1) 0 491) S hR (by omega) (by unfold FU; omega)
  have hR1 := hR.kc h8 k1
  obtain ⟨S2, e2, k2⟩ := dg75 hR1 hO (P 20 5) FU 0 (dJs P (P 20 3) 0 (dC P (P 20 1) 0 491)) (by omega) (by unfold FU; omega)
  have hR2 := hR1.kc h8 k2
  refine ⟨S2, ?_, k1.tr k2⟩
  unfold f_X7_digest
  have e0 := dg6 hR hO (P 20 1) FU 0 491 (by omega) (by unfold FU; omega)
  have e3 := dg145 hR2 hO (P 20 0) FU 0 (mx (dO P (P 20 5) 0 (dJs P (P 20 3) 0 (dC P (P 20 1) 0 491))) (rbM P 10 0 0)) (by omega) (by unfold FU; omega)
  have e4 := dg178 hR2 hO 7 FU 0 (dL P (P 20 0) 0 (mx (dO P (P 20 5) 0 (dJs P (P 20 3) 0 (dC P (P 20 1) 0 491))) (rbM P 10 0 0))) (by omega) (by unfold FU; omega)
  rw [show nI 0 = (0 : Int32) from rfl] at e0 e1 e2 e3 e4
  rw [e0, e1, e2, e3, e4]
  rfl
