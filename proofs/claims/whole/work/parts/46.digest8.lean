-- ===== digest, the reference =====
theorem dm19 {P : Dt} {t c : Nat} {T : St} {h : Int64} (hH : HM P h T) (hO : OK P t) (hc : c < P 20 1) (K : Int32 → St → Option (Int64 × St)) : ∃ T1, f_X8_digest_l19 K FU (nI c) 0 T = K (nI (c + 1)) T1 ∧ KH T T1 ∧ HM P (mx (mx (mx (mx h (cv P c 0)) (cv P c 1)) (cv P c 2)) (cv P c 3)) T1 := by
  obtain ⟨n, hn⟩ : ∃ n, FU = n + 5 := ⟨FU - 5, by unfold FU; omega⟩
  have st : ∀ (n w : Nat) (h : Int64) (T : St), w < 4 → HM P h T → ∃ T1, f_X8_digest_l19 K (n + 1) (nI c) (nI w) T = f_X8_digest_l19 K n (nI c) (nI (w + 1)) T1 ∧ KH T T1 ∧ HM P (mx h (cv P c w)) T1 := by
    intro n w h T hw hH
    obtain ⟨T1, e1, k1, h1, -⟩ := f_say hH (cv P c w)
    refine ⟨T1, ?_, k1, h1⟩
    rw [f_X8_digest_l19, if_neg (show ¬ (4 : Int32) ≤ nI w from nI_ge (b := 4) hw (by decide)), f_cellO8 hH.1 hO hc hw, bnd_some, e1, bnd_some, lett_e, nI_1]
  obtain ⟨T1, e1, k1, h1⟩ := st (n + 4) 0 h T (by decide) hH
  obtain ⟨T2, e2, k2, h2⟩ := st (n + 3) 1 _ T1 (by decide) h1
  obtain ⟨T3, e3, k3, h3⟩ := st (n + 2) 2 _ T2 (by decide) h2
  obtain ⟨T4, e4, k4, h4⟩ := st (n + 1) 3 _ T3 (by decide) h3
  refine ⟨T4, ?_, ((k1.tr k2).tr k3).tr k4, h4⟩
  rw [hn, show (0 : Int32) = nI 0 from rfl, e1, e2, e3, e4, f_X8_digest_l19, if_pos (by decide), lett_e, nI_1]
theorem dm9 {P : Dt} {t : Nat} (hO : OK P t) : ∀ (d n c : Nat) (h : Int64) (T : St), HM P h T → c + d = P 20 1 → d < n → ∃ T1, f_X8_digest_l9 n (nI c) T = f_X8_digest_l49 FU 0 T1 ∧ KH T T1 ∧ HM P (dC P d c h) T1 := by
  have h12 := hO.h12
  intro d
  induction d with
  | zero =>
    intro n c h T hH hc hn
    obtain ⟨n, rfl⟩ : ∃ a, n = a + 1 := ⟨n - 1, by omega⟩
    refine ⟨T, ?_, KH.rf T, hH⟩
    rw [f_X8_digest_l9, hH.1.2.2.1, if_pos (nI_le (by omega) (by omega))]
  | succ d ih =>
    intro n c h T hH hc hn
    obtain ⟨n, rfl⟩ : ∃ a, n = a + 1 := ⟨n - 1, by omega⟩
    obtain ⟨T1, e1, k1, h1⟩ := dm19 hH hO (show c < P 20 1 by omega) (f_X8_digest_l9 n)
    obtain ⟨T2, e2, k2, h2⟩ := ih n (c + 1) _ T1 h1 (by omega) (by omega)
    refine ⟨T2, ?_, k1.tr k2, h2⟩
    rw [f_X8_digest_l9, hH.1.2.2.1, if_neg (nI_ge (by omega) (by omega)), e1, e2]
theorem m10x {j a : Nat} : (10 : Int32) * nI j + nI a = nI (10 * j + a) := by
  rw [show (10 : Int32) = nI 10 from rfl, pk_mul, nI_add]
theorem sc24 {P : Dt} {t j : Nat} (hO : OK P t) (hj : j < P 20 3) : ∀ (d n k : Nat) (h : Int64) (T : St), HM P h T → k + d = P 6 j → 2 * d < n → ∃ T1, f_X8_sayCart_l24 n (nI j) (nI (2 * k)) T = some ((), T1) ∧ KH T T1 ∧ HM P (if P 20 1 = 0 then mx (dK P j d k h) (nI (flR (dtOf P j) 0 999 400 0)) else mx (mx (mx (mx (mx (dK P j d k h) (nI (flR (dtOf P j) 0 999 400 0))) (nI (goN (dtOf P j) 100 0 0))) (nI (goN (dtOf P j) 100 0 1))) (nI (goN (dtOf P j) 100 0 2))) (nI (goN (dtOf P j) 100 0 3))) T1 := by
  have h8 := hO.h8
  have hB := MB_of hO hj
  have hm5 : P 6 j ≤ 5 := hB.2.1
  intro d
  induction d with
  | zero =>
    intro n k h T hH hk hn
    obtain ⟨n, rfl⟩ : ∃ a, n = a + 1 := ⟨n - 1, by omega⟩
    obtain ⟨T1, e1, k1⟩ := f_farBy (r := 0) (x := 400) hH.1 hO hj (by omega) (by omega)
    have e1' : f_X8_farthestBy (nI j) 400 0 T = some (nI (flR (dtOf P j) 0 999 400 0), T1) := e1
    obtain ⟨T2, e2, k2, h2, -⟩ := f_say (hH.km h8 k1) (nI (flR (dtOf P j) 0 999 400 0))
    rw [f_X8_sayCart_l24, inb_nI (show j < 8 by omega) (by decide), grd_t, cl_nI (by omega), (hH.1.2.2.2.2.2.2.1 j hj).2.1, show (2 : Int32) * nI (P 6 j) = nI (2 * P 6 j) from pk_mul 2 _, if_pos (nI_le (by omega) (by omega)), e1', bnd_some, e2, bnd_some, dK]
    by_cases h0 : P 20 1 = 0
    · rw [l8n h2.1 h0, bnd_some, if_neg i10, if_pos h0]
      exact ⟨T2, rfl, k1.kh.tr k2, h2⟩
    · rw [l8y hO h2.1 h0, bnd_some, if_pos i00, if_neg h0]
      obtain ⟨T3, e3, k3, m3⟩ := f_take h2.1 hO hj
      obtain ⟨T4, e4, k4, r4⟩ := f_go8 hB (show 0 < dtOf P j 6 0 from Nat.pos_of_ne_zero h0) (x := 100) (by omega) m3
      have e4' : f_X8_go 100 T3 = some ((), T4) := e4
      have h4 := (h2.km h8 k3).km h8 k4.km
      obtain ⟨T5, e5, k5, h5, g5⟩ := f_say h4 (nI (goN (dtOf P j) 100 0 0))
      obtain ⟨T6, e6, k6, h6, g6⟩ := f_say h5 (nI (goN (dtOf P j) 100 0 1))
      obtain ⟨T7, e7, k7, h7, g7⟩ := f_say h6 (nI (goN (dtOf P j) 100 0 2))
      obtain ⟨T8, e8, k8, h8', g8⟩ := f_say h7 (nI (goN (dtOf P j) 100 0 3))
      refine ⟨T8, ?_, ((((k1.kh.tr k2).tr (k3.tr k4.km).kh).tr k5).tr k6).tr (k7.tr k8), h8'⟩
      rw [e3, bnd_some, e4', bnd_some, r4.1, e5, bnd_some, g5 55 23 (Or.inr (by decide)), r4.2.1, e6, bnd_some, g6 55 24 (Or.inr (by decide)), g5 55 24 (Or.inr (by decide)), r4.2.2.1, e7, bnd_some, g7 55 25 (Or.inr (by decide)), g6 55 25 (Or.inr (by decide)), g5 55 25 (Or.inr (by decide)), r4.2.2.2.1, e8, bnd_some]
  | succ d ih =>
    intro n k h T hH hk hn
    obtain ⟨n, rfl⟩ : ∃ a, n = a + 2 := ⟨n - 2, by omega⟩
    obtain ⟨v1, v2⟩ := (hH.1.2.2.2.2.2.2.1 j hj).2.2 k (by omega)
    obtain ⟨T1, e1, k1, h1, g1⟩ := f_say hH (nI (P (30 + j) k))
    obtain ⟨T2, e2, k2, h2, g2⟩ := f_say h1 (nI (P (40 + j) k))
    rw [f_X8_sayCart_l24, inb_nI (show j < 8 by omega) (by decide), grd_t, cl_nI (by omega), (hH.1.2.2.2.2.2.2.1 j hj).2.1, show (2 : Int32) * nI (P 6 j) = nI (2 * P 6 j) from pk_mul 2 _, if_neg (nI_ge (by omega) (by omega)), m10x, inb_nI (show 10 * j + 2 * k < 80 by omega) (by decide), grd_t, cl_nI (by omega), v1, e1, bnd_some, lett_e, nI_1]
    rw [f_X8_sayCart_l24, inb_nI (show j < 8 by omega) (by decide), grd_t, cl_nI (by omega), (h1.1.2.2.2.2.2.2.1 j hj).2.1, show (2 : Int32) * nI (P 6 j) = nI (2 * P 6 j) from pk_mul 2 _, if_neg (nI_ge (by omega) (by omega)), m10x, inb_nI (show 10 * j + (2 * k + 1) < 80 by omega) (by decide), grd_t, cl_nI (by omega), g1 64 _ (Or.inl (by decide)), show 10 * j + (2 * k + 1) = 10 * j + 2 * k + 1 by omega, v2, e2, bnd_some, lett_e, nI_1, show 2 * k + 1 + 1 = 2 * (k + 1) by omega]
    obtain ⟨T3, e3, k3, h3⟩ := ih n (k + 1) _ T2 h2 (by omega) (by omega)
    exact ⟨T3, e3, (k1.tr k2).tr k3, h3⟩
theorem f_cartM {P : Dt} {t j : Nat} {T : St} {h : Int64} (hH : HM P h T) (hO : OK P t) (hj : j < P 20 3) : ∃ T1, f_X8_sayCart (nI j) T = some ((), T1) ∧ KH T T1 ∧ HM P (dJ P j h) T1 := by
  have h8 := hO.h8
  have hm5 : P 6 j ≤ 5 := (MB_of hO hj).2.1
  obtain ⟨T1, e1, k1, h1, g1⟩ := f_say hH (nI (P 5 j))
  obtain ⟨T2, e2, k2, h2, g2⟩ := f_say h1 (nI (P 6 j))
  obtain ⟨T3, e3, k3, h3⟩ := sc24 hO hj (P 6 j) FU 0 _ T2 h2 (by omega) (by unfold FU; omega)
  refine ⟨T3, ?_, (k1.tr k2).tr k3, h3⟩
  have e3' : f_X8_sayCart_l24 FU (nI j) 0 T2 = some ((), T3) := e3
  unfold f_X8_sayCart
  rw [inb_nI (show j < 8 by omega) (by decide), grd_t, cl_nI (by omega), (hH.1.2.2.2.2.2.2.1 j hj).1, e1, bnd_some, grd_t, (h1.1.2.2.2.2.2.2.1 j hj).2.1, e2, bnd_some, e3']
theorem dm49 {P : Dt} {t : Nat} (hO : OK P t) : ∀ (d n j : Nat) (h : Int64) (T : St), HM P h T → j + d = P 20 3 → d < n → ∃ T1, f_X8_digest_l49 n (nI j) T = f_X8_digest_l70 FU 0 T1 ∧ KH T T1 ∧ HM P (dJs P d j h) T1 := by
  have h8 := hO.h8
  intro d
  induction d with
  | zero =>
    intro n j h T hH hj hn
    obtain ⟨n, rfl⟩ : ∃ a, n = a + 1 := ⟨n - 1, by omega⟩
    refine ⟨T, ?_, KH.rf T, hH⟩
    rw [f_X8_digest_l49, hH.1.2.2.2.2.2.1, if_pos (nI_le (by omega) (by omega))]
  | succ d ih =>
    intro n j h T hH hj hn
    obtain ⟨n, rfl⟩ : ∃ a, n = a + 1 := ⟨n - 1, by omega⟩
    obtain ⟨T1, e1, k1, h1⟩ := f_cartM hH hO (show j < P 20 3 by omega)
    obtain ⟨T2, e2, k2, h2⟩ := ih n (j + 1) _ T1 h1 (by omega) (by omega)
    refine ⟨T2, ?_, k1.tr k2, h2⟩
    rw [f_X8_digest_l49, hH.1.2.2.2.2.2.1, if_neg (nI_ge (by omega) (by omega)), e1, bnd_some, lett_e, nI_1, e2]
theorem dm70 {P : Dt} {t : Nat} (hO : OK P t) : ∀ (d n i : Nat) (h : Int64) (T : St), HM P h T → i + d = P 20 5 → 3 * d < n → ∃ T1, f_X8_digest_l70 n (nI (3 * i)) T = f_X8_digest_l108 FU 0 T1 ∧ KH T T1 ∧ HM P (mx (dO P d i h) (rbM P 10 0 0)) T1 := by
  have h8 := hO.h8
  have h5 : P 20 5 ≤ 8 := hO.2.2.2.2.2.2.2.2.1
  intro d
  induction d with
  | zero =>
    intro n i h T hH hi hn
    obtain ⟨n, rfl⟩ : ∃ a, n = a + 1 := ⟨n - 1, by omega⟩
    obtain ⟨T1, e1, k1⟩ := f_rubs8 hH.1 hO
    obtain ⟨T2, e2, k2, h2, -⟩ := f_say (hH.km h8 k1) (rbM P 10 0 0)
    refine ⟨T2, ?_, k1.kh.tr k2, h2⟩
    rw [f_X8_digest_l70, hH.1.2.2.2.2.2.2.2.2.1, (i3 (P 20 5)).1, if_pos (nI_le (by omega) (by omega)), e1, bnd_some, e2, bnd_some]
  | succ d ih =>
    intro n i h T hH hi hn
    obtain ⟨n, rfl⟩ : ∃ a, n = a + 3 := ⟨n - 3, by omega⟩
    obtain ⟨a1, a2, a3⟩ := hH.1.2.2.2.2.2.2.2.2.2.1 i (by omega)
    have st : ∀ (n q : Nat) (h : Int64) (T : St) (v : Int32), HM P h T → q < 3 * P 20 5 → T 70 q = v → ∃ T1, f_X8_digest_l70 (n + 1) (nI q) T = f_X8_digest_l70 n (nI (q + 1)) T1 ∧ KH T T1 ∧ HM P (mx h v) T1 ∧ T1 70 = T 70 := by
      intro n q h T v hH hq hv
      obtain ⟨T1, e1, k1, h1, g1⟩ := f_say hH v
      refine ⟨T1, ?_, k1, h1, by funext k; exact g1 70 k (Or.inl (by decide))⟩
      rw [f_X8_digest_l70, hH.1.2.2.2.2.2.2.2.2.1, (i3 (P 20 5)).1, if_neg (nI_ge hq (by omega)), inb_nI (show q < 24 by omega) (by decide), grd_t, cl_nI (by omega), hv, e1, bnd_some, lett_e, nI_1]
    obtain ⟨T1, e1, k1, h1, g1⟩ := st (n + 2) (3 * i) h T _ hH (by omega) a1
    obtain ⟨T2, e2, k2, h2, g2⟩ := st (n + 1) (3 * i + 1) _ T1 _ h1 (by omega) ((congrFun g1 _).trans a2)
    obtain ⟨T3, e3, k3, h3, g3⟩ := st n (3 * i + 1 + 1) _ T2 _ h2 (by omega) ((congrFun g2 _).trans ((congrFun g1 _).trans a3))
    obtain ⟨T4, e4, k4, h4⟩ := ih n (i + 1) _ T3 h3 (by omega) (by omega)
    refine ⟨T4, ?_, ((k1.tr k2).tr k3).tr k4, h4⟩
    rw [e1, e2, e3, show 3 * i + 1 + 1 + 1 = 3 * (i + 1) by omega, e4]
theorem dm108 {P : Dt} {t : Nat} (hO : OK P t) : ∀ (d n i : Nat) (h : Int64) (T : St), HM P h T → i + d = P 20 0 → d < n → ∃ T1, f_X8_digest_l108 n (nI i) T = f_X8_digest_l135 FU 0 T1 ∧ KH T T1 ∧ HM P (dL P d i h) T1 := by
  have h50 : P 20 0 ≤ 50 := hO.1
  intro d
  induction d with
  | zero =>
    intro n i h T hH hi hn
    obtain ⟨n, rfl⟩ : ∃ a, n = a + 1 := ⟨n - 1, by omega⟩
    refine ⟨T, ?_, KH.rf T, hH⟩
    rw [f_X8_digest_l108, hH.1.1, if_pos (nI_le (by omega) (by omega))]
  | succ d ih =>
    intro n i h T hH hi hn
    obtain ⟨n, rfl⟩ : ∃ a, n = a + 1 := ⟨n - 1, by omega⟩
    obtain ⟨T1, e1, k1, h1, -⟩ := f_say hH (nI (P 0 i))
    obtain ⟨T2, e2, k2, h2⟩ := ih n (i + 1) _ T1 h1 (by omega) (by omega)
    refine ⟨T2, ?_, k1.tr k2, h2⟩
    rw [f_X8_digest_l108, hH.1.1, if_neg (nI_ge (by omega) (by omega)), inb_nI (show i < 50 by omega) (by decide), grd_t, cl_nI (by omega), hH.1.2.1 i (by omega), e1, bnd_some, lett_e, nI_1, e2]
theorem dm135 {P : Dt} {t : Nat} (hO : OK P t) : ∀ (d n i : Nat) (h : Int64) (T : St), HM P h T → i + d = 7 → d < n → ∃ T1, f_X8_digest_l135 n (nI i) T = some (dQ P d i h, T1) ∧ KH T T1 := by
  intro d
  induction d with
  | zero =>
    intro n i h T hH hi hn
    obtain ⟨n, rfl⟩ : ∃ a, n = a + 1 := ⟨n - 1, by omega⟩
    refine ⟨T, ?_, KH.rf T⟩
    rw [f_X8_digest_l135, if_pos (show (7 : Int32) ≤ nI i from nI_le (a := 7) (by omega) (by omega)), hH.2, dQ]
  | succ d ih =>
    intro n i h T hH hi hn
    obtain ⟨n, rfl⟩ : ∃ a, n = a + 1 := ⟨n - 1, by omega⟩
    obtain ⟨T1, e1, k1, h1, -⟩ := f_say hH (cntN P (nI i))
    obtain ⟨T2, e2, k2⟩ := ih n (i + 1) _ T1 h1 (by omega) (by omega)
    refine ⟨T2, ?_, k1.tr k2⟩
    rw [f_X8_digest_l135, if_neg (show ¬ (7 : Int32) ≤ nI i from nI_ge (b := 7) (by omega) (by decide)), f_count8 hH.1 hO, bnd_some, e1, bnd_some, lett_e, nI_1, e2, dQ]
theorem digest8 {P : Dt} {t : Nat} {T : St} (hR : RM P T) (hO : OK P t) : ∃ T1, f_X8_digest T = some (dgN P, T1) ∧ KH T T1 := by
  have h8 := hO.h8
  have h12 := hO.h12
  have h5 : P 20 5 ≤ 8 := hO.2.2.2.2.2.2.2.2.1
  have h50 : P 20 0 ≤ 50 := hO.1
  have hH : HM P 491 (sr T 55 (setL (T 55) 491)) := ⟨hR.sL 491, by rw [sr_s, getL_setL]⟩
  obtain ⟨T1, e1, k1, h1⟩ := dm9 hO (P 20 1) FU 0 491 _ hH (by omega) (by unfold FU; omega)
  obtain ⟨T2, e2, k2, h2⟩ := dm49 hO (P 20 3) FU 0 _ T1 h1 (by omega) (by unfold FU; omega)
  obtain ⟨T3, e3, k3, h3⟩ := dm70 hO (P 20 5) FU 0 _ T2 h2 (by omega) (by unfold FU; omega)
  obtain ⟨T4, e4, k4, h4⟩ := dm108 hO (P 20 0) FU 0 _ T3 h3 (by omega) (by unfold FU; omega)
  obtain ⟨T5, e5, k5⟩ := dm135 hO 7 FU 0 _ T4 h4 (by omega) (by unfold FU; omega)
  refine ⟨T5, ?_, (((((KH.sL T 491).tr k1).tr k2).tr k3).tr k4).tr k5⟩
  unfold f_X8_digest
  rw [Nat.mul_zero] at e3
  rw [show nI 0 = (0 : Int32) from rfl] at e1 e2 e3 e4 e5
  rw [lett_e, e1, e2, e3, e4, e5]
  rfl
theorem op_digest : Op f_X7_digest f_X8_digest := Op.ask3 (fun _ P hO => ⟨dgN P, fun _ hR => digest7 hR hO, fun _ hR => digest8 hR hO⟩)
