-- ===== straw =====
def popN (s : Nat) : Nat := s / 2 ^ 0 % 2 + s / 2 ^ 1 % 2 + s / 2 ^ 2 % 2 + s / 2 ^ 3 % 2
def mN (b : Nat) : Nat := if 4 < b then 16 else 2 ^ b
def stR (V : Nat → Nat) (k M : Nat) : Nat → Nat → Nat → Int32 → Int32
  | 0, _, _, s => s
  | d + 1, i, b, s => if popN i = k ∧ i < M ∧ b ≤ V i then stR V k M d (i + 1) (V i + 1) (nI i) else stR V k M d (i + 1) b s
def encL (b : Nat) : Int64 := if b = 0 then -1 else lN (b - 1)
theorem stR_cut (V : Nat → Nat) (k M : Nat) : ∀ (d2 i b : Nat) (s : Int32), M ≤ i → stR V k M d2 i b s = s := by
  intro d2
  induction d2 with
  | zero => intro i b s h; rfl
  | succ d ih =>
    intro i b s h
    rw [stR, if_neg (by omega)]
    exact ih (i + 1) b s (by omega)
theorem stR_app (V : Nat → Nat) (k M d2 : Nat) : ∀ (d1 i b : Nat) (s : Int32), i + d1 = M → stR V k M (d1 + d2) i b s = stR V k M d1 i b s := by
  intro d1
  induction d1 with
  | zero =>
    intro i b s h
    rw [Nat.zero_add]
    exact stR_cut V k M d2 i b s (by omega)
  | succ d ih =>
    intro i b s h
    rw [show d + 1 + d2 = (d + d2) + 1 by omega, stR, stR, ih _ _ _ (by omega), ih _ _ _ (by omega)]
theorem stR_s (V : Nat → Nat) (k M : Nat) (s s' : Int32) : ∀ (d i : Nat), (∃ q, i ≤ q ∧ q < i + d ∧ popN q = k ∧ q < M) → stR V k M d i 0 s = stR V k M d i 0 s' := by
  intro d
  induction d with
  | zero =>
    intro i h
    obtain ⟨q, h1, h2, -⟩ := h
    omega
  | succ d ih =>
    intro i h
    rw [stR, stR]
    by_cases hq : popN i = k ∧ i < M ∧ 0 ≤ V i
    · rw [if_pos hq, if_pos hq]
    · rw [if_neg hq, if_neg hq]
      obtain ⟨q, h1, h2, h3, h4⟩ := h
      refine ih (i + 1) ⟨q, ?_, by omega, h3, h4⟩
      rcases Nat.lt_or_ge i q with w | w
      · exact w
      · obtain rfl : q = i := by omega
        exact absurd ⟨h3, h4, Nat.zero_le _⟩ hq
theorem encL_le {v b : Nat} (hv : v < 2 ^ 60) (hb : b < 2 ^ 60) : (lg_cmp (lN v) (encL b) ≤ 0) ↔ ¬ b ≤ v := by
  rw [lgc_le]
  unfold encL
  by_cases h : b = 0
  · rw [if_pos h, Int64.le_iff_toInt_le, pk_lT (by omega), show ((-1 : Int64)).toInt = -1 from by decide]
    omega
  · rw [if_neg h, pk_lLE (by omega) (by omega)]
    omega
theorem mN_tab : (List.range 13).all (fun b => decide ((1 : Int32) <<< ((if (4 : Int32) < nI b then 4 else nI b) &&& 31) = nI (mN b)) && decide (mN b ≤ 16)) = true := by decide +kernel
theorem mN_of {b : Nat} (hb : b ≤ 12) : (1 : Int32) <<< ((if (4 : Int32) < nI b then 4 else nI b) &&& 31) = nI (mN b) ∧ mN b ≤ 16 := by
  have h := List.all_eq_true.mp mN_tab b (List.mem_range.mpr (by omega))
  simp only [Bool.and_eq_true, decide_eq_true_eq] at h
  exact h
theorem pop_tab : (List.range 16).all (fun i => decide (((f_bitCount (nI i) (fun _ _ => 0)).map (fun r => r.1)) = some (nI (popN i))) && decide (popN i ≤ 4)) = true := by decide +kernel
theorem bitCount_S (x : Int32) (S : St) : f_bitCount x S = (f_bitCount x (fun _ _ => 0)).map (fun r => (r.1, S)) := rfl
theorem f_pop {i : Nat} (hi : i < 16) (S : St) : f_bitCount (nI i) S = some (nI (popN i), S) := by
  have h := List.all_eq_true.mp pop_tab i (List.mem_range.mpr hi)
  simp only [Bool.and_eq_true, decide_eq_true_eq] at h
  rw [bitCount_S]
  cases e : f_bitCount (nI i) (fun _ _ => 0) with
  | none => rw [e] at h; exact absurd h.1 (by simp)
  | some r =>
    rw [e] at h
    simp only [Option.map_some, Option.some.injEq] at h ⊢
    rw [h.1]
theorem popN_le (s : Nat) : popN s ≤ 4 := by unfold popN; omega
theorem wit_tab : (List.range 5).all (fun k => k == 0 || (List.range 13).all (fun b => decide (b < k) || (decide (popN (2 ^ k - 1) = k) && decide (2 ^ k - 1 < mN b) && decide (1 ≤ 2 ^ k - 1)))) = true := by decide +kernel
theorem wit_of {k b : Nat} (hk : 1 ≤ k ∧ k ≤ 4) (hb : b ≤ 12) (h : k ≤ b) : popN (2 ^ k - 1) = k ∧ 2 ^ k - 1 < mN b ∧ 1 ≤ 2 ^ k - 1 := by
  have w := List.all_eq_true.mp wit_tab k (List.mem_range.mpr (by omega))
  have h0 : (k == 0) = false := by simp; omega
  rw [h0, Bool.false_or] at w
  have w2 := List.all_eq_true.mp w b (List.mem_range.mpr (by omega))
  simp only [Bool.and_eq_true, Bool.or_eq_true, decide_eq_true_eq] at w2
  rcases w2 with w2 | w2
  · omega
  · exact ⟨w2.1.1, w2.1.2, w2.2⟩
theorem straw7 {f : Nat → Nat} {S : St} (hf : ∀ i, i < 4 → S 54 i = nI (f i)) (hf1 : ∀ i, f i ≤ 100) {k bn : Nat} (hk : k ≤ 4) (hbn : bn ≤ 12) : ∀ (d n i b : Nat) (s : Int32), i + d = mN bn → d < n → b ≤ 200000000 → f_X7_straw_l82 n (nI k) (nI bn) (encL b) s (nI i) S = some (stR (prN f) k (mN bn) d i b s, S) := by
  obtain ⟨m1, m2⟩ := mN_of hbn
  intro d
  induction d with
  | zero =>
    intro n i b s hi hn hb
    obtain ⟨n, rfl⟩ : ∃ m, n = m + 1 := ⟨n - 1, by omega⟩
    rw [f_X7_straw_l82, m1, if_pos (nI_le (by omega) (by omega))]
    rfl
  | succ d ih =>
    intro n i b s hi hn hb
    obtain ⟨n, rfl⟩ : ∃ m, n = m + 1 := ⟨n - 1, by omega⟩
    have hp := popN_le i
    have hv := prN_le hf1 i
    rw [f_X7_straw_l82, m1, if_neg (nI_ge (by omega) (by omega)), f_pop (by omega), bnd_some, stR]
    unfold f_X7_straw_b129
    rw [lett_e, nI_1]
    by_cases h1 : popN i = k
    · rw [h1, if_pos rfl, f_stay hf hf1 (by omega), bnd_some, lett_e, f_stay hf hf1 (by omega), bnd_some, lett_e]
      by_cases h2 : b ≤ prN f i
      · rw [if_neg (fun q => (encL_le (by omega) (by omega)).mp q h2), if_pos ⟨rfl, by omega, h2⟩]
        have := ih n (i + 1) (prN f i + 1) (nI i) (by omega) (by omega) (by omega)
        unfold encL at this
        rw [if_neg (by omega), Nat.add_sub_cancel] at this
        exact this
      · rw [if_pos ((encL_le (by omega) (by omega)).mpr h2), if_neg (fun q => h2 q.2.2)]
        exact ih n (i + 1) b s (by omega) (by omega) hb
    · rw [if_neg (nI_ne (by omega) (by omega) h1), if_neg (fun q => h1 q.1)]
      exact ih n (i + 1) b s (by omega) (by omega) hb
theorem sh_tab : (List.range 4).all (fun b => (List.range 16).all (fun i => decide (nI i >>> (nI b &&& 31) = 0) == decide (i < 2 ^ b))) = true := by decide +kernel
theorem sh_of {b i : Nat} (hb : b < 4) (hi : i < 16) : (nI i >>> (nI b &&& 31) = 0) ↔ i < 2 ^ b := by
  have h := List.all_eq_true.mp (List.all_eq_true.mp sh_tab b (List.mem_range.mpr hb)) i (List.mem_range.mpr hi)
  simp only [beq_iff_eq, decide_eq_decide] at h
  exact h
theorem straw8 {P : Dt} {t j x sk k : Nat} (hO : OK P t) (hj : j < P 20 3) (h0 : P 20 1 ≠ 0) (hx : x ≤ 17000) (hsk : sk ≤ 9) (hk : k ≤ 4) : ∀ (d n i b : Nat) (s : Int32) (T : St), RM P T → i + d = 16 → d < n → b ≤ 200000000 → ∃ T1, f_X8_straw_l74 n (nI j) (nI x) (nI sk) (nI k) s (encL b) (nI i) T = some (stR (prN (sfN (P 20 1) (P 20 4) (shP P) (goN (dtOf P j) x 2) sk)) k (mN (bcN (shP P) (P 20 1) 0)) d i b s, T1) ∧ KM T T1 := by
  have h8 := hO.h8
  have hf1 : ∀ i, sfN (P 20 1) (P 20 4) (shP P) (goN (dtOf P j) x 2) sk i ≤ 100 := fun i => sfN_le _ _ _ _ _ i
  have hbn : bcN (shP P) (P 20 1) 0 ≤ 12 := Nat.le_trans (bcN_le _ _ _) hO.h12
  intro d
  induction d with
  | zero =>
    intro n i b s T hR hi hn hb
    obtain ⟨n, rfl⟩ : ∃ m, n = m + 1 := ⟨n - 1, by omega⟩
    refine ⟨T, ?_, KM.rf T⟩
    rw [f_X8_straw_l74, if_pos (show (16 : Int32) ≤ nI i from nI_le (a := 16) (by omega) (by omega))]
    rfl
  | succ d ih =>
    intro n i b s T hR hi hn hb
    obtain ⟨n, rfl⟩ : ∃ m, n = m + 1 := ⟨n - 1, by omega⟩
    have hp := popN_le i
    have hv := prN_le hf1 i
    obtain ⟨q, hq⟩ : ∃ q, FU = q + 5 := ⟨FU - 5, by unfold FU; omega⟩
    have inner : ∀ (n' a c : Nat), c < 4 → f_X8_straw_l87 (f_X8_straw_l74 n) (n' + 1) (nI j) (nI x) (nI sk) (nI k) s (encL b) (nI i) (nI a) (nI c) T = f_X8_straw_l87 (f_X8_straw_l74 n) n' (nI j) (nI x) (nI sk) (nI k) s (encL b) (nI i) (nI (a + i / 2 ^ c % 2)) (nI (c + 1)) T := by
      intro n' a c hc
      rw [f_X8_straw_l87, if_neg (show ¬ (4 : Int32) ≤ nI c from nI_ge (b := 4) hc (by decide)), bit_of (by omega) hc, nI_add, lett_e, lett_e, nI_1]
    have last : f_X8_straw_l87 (f_X8_straw_l74 n) (q + 1) (nI j) (nI x) (nI sk) (nI k) s (encL b) (nI i) (nI (popN i)) (nI 4) T = (if popN i = k ∧ i < mN (bcN (shP P) (P 20 1) 0) then f_X8_straw_b136 (f_X8_straw_l74 n) (nI j) (nI x) (nI sk) (nI k) s (encL b) (nI i) T else f_X8_straw_b181 (f_X8_straw_l74 n) (nI j) (nI x) (nI sk) (nI k) s (encL b) (nI i) T) := by
      rw [f_X8_straw_l87, if_pos (by decide), bdM hR hO, bnd_some, bdM hR hO, bnd_some]
      by_cases h1 : popN i = k
      · rw [h1, if_pos rfl]
        by_cases h3 : 3 < bcN (shP P) (P 20 1) 0
        · have hm : i < mN (bcN (shP P) (P 20 1) 0) := by
            unfold mN
            by_cases h5 : 4 < bcN (shP P) (P 20 1) 0
            · rw [if_pos h5]; omega
            · rw [if_neg h5, show bcN (shP P) (P 20 1) 0 = 4 by omega]; omega
          rw [if_pos (show (3 : Int32) < nI (bcN (shP P) (P 20 1) 0) from (nI_ltI (a := 3) (by decide) (by omega)).mpr h3), if_pos ⟨rfl, hm⟩]
        · rw [if_neg (show ¬ (3 : Int32) < nI (bcN (shP P) (P 20 1) 0) from fun w => h3 ((nI_ltI (a := 3) (by decide) (by omega)).mp w))]
          have hm : mN (bcN (shP P) (P 20 1) 0) = 2 ^ bcN (shP P) (P 20 1) 0 := by unfold mN; rw [if_neg (by omega)]
          by_cases h4 : i < 2 ^ bcN (shP P) (P 20 1) 0
          · rw [if_pos ((sh_of (by omega) (by omega)).mpr h4), if_pos ⟨rfl, by rw [hm]; exact h4⟩]
          · rw [if_neg (fun w => h4 ((sh_of (by omega) (by omega)).mp w)), if_neg (fun w => h4 (by rw [← hm]; exact w.2))]
      · rw [if_neg (nI_ne (by omega) (by omega) h1), if_neg (fun w => h1 w.1)]
    rw [f_X8_straw_l74, if_neg (show ¬ (16 : Int32) ≤ nI i from nI_ge (b := 16) (by omega) (by decide)), hq, show (0 : Int32) = nI 0 from rfl, inner _ _ _ (by decide), inner _ _ _ (by decide), inner _ _ _ (by decide), inner _ _ _ (by decide), show 0 + i / 2 ^ 0 % 2 + i / 2 ^ (0 + 1) % 2 + i / 2 ^ (0 + 1 + 1) % 2 + i / 2 ^ (0 + 1 + 1 + 1) % 2 = popN i from by unfold popN; omega, last, stR]
    by_cases hc : popN i = k ∧ i < mN (bcN (shP P) (P 20 1) 0)
    · rw [if_pos hc]
      obtain ⟨T1, e1, k1⟩ := f_staysBy (s := i) hR hO hj h0 hx hsk (by omega)
      unfold f_X8_straw_b136 f_X8_straw_b162 f_X8_straw_b179 f_X8_straw_b181
      rw [e1, bnd_some, lett_e, lett_e, lett_e, lett_e, nI_1]
      by_cases h2 : b ≤ prN (sfN (P 20 1) (P 20 4) (shP P) (goN (dtOf P j) x 2) sk) i
      · rw [if_neg (fun q => (encL_le (by omega) (by omega)).mp q h2), if_neg (fun q => (encL_le (by omega) (by omega)).mp q h2), if_pos ⟨hc.1, hc.2, h2⟩]
        obtain ⟨T2, e2, k2⟩ := ih n (i + 1) (prN (sfN (P 20 1) (P 20 4) (shP P) (goN (dtOf P j) x 2) sk) i + 1) (nI i) T1 (hR.km h8 k1) (by omega) (by omega) (by omega)
        refine ⟨T2, ?_, k1.tr k2⟩
        rw [← e2]
        congr 1
      · rw [if_pos ((encL_le (by omega) (by omega)).mpr h2), if_pos ((encL_le (by omega) (by omega)).mpr h2), if_neg (fun q => h2 q.2.2)]
        obtain ⟨T2, e2, k2⟩ := ih n (i + 1) b s T1 (hR.km h8 k1) (by omega) (by omega) hb
        exact ⟨T2, e2, k1.tr k2⟩
    · rw [if_neg hc, if_neg (fun q => hc ⟨q.1, q.2.1⟩)]
      unfold f_X8_straw_b181
      rw [lett_e, nI_1]
      exact ih n (i + 1) b s T hR (by omega) (by omega) hb
theorem op_straw (x1 x2 x3 x4 : Int32) : Op (f_X7_straw x1 x2 x3 x4) (f_X8_straw x1 x2 x3 x4) := by
  refine Op.ask (fun t P hO => ?_)
  have h8 := hO.h8
  have h12 := hO.h12
  have hbn : bcN (shP P) (P 20 1) 0 ≤ 12 := Nat.le_trans (bcN_le _ _ _) hO.h12
  have e7 : ∀ S : St, ∃ s0 : Int32, f_X7_straw x1 x2 x3 x4 S = f_X7_straw_b28 x1 x2 x3 x4 s0 x2 x1 S ∧ (((0 ≤ x3 ∧ x3 ≤ 9) ∧ (1 ≤ x4 ∧ x4 ≤ 4)) → s0 = 1) ∧ (¬ ((0 ≤ x3 ∧ x3 ≤ 9) ∧ (1 ≤ x4 ∧ x4 ≤ 4)) → s0 = 0) := by
    intro S
    unfold f_X7_straw f_X7_straw_b27
    by_cases a3 : 0 ≤ x3 ∧ x3 ≤ 9
    · rw [w7y a3, bnd_some, if_neg i10]
      by_cases a4 : 1 ≤ x4 ∧ x4 ≤ 4
      · rw [w7y a4, bnd_some, if_neg i10]
        exact ⟨1, rfl, fun _ => rfl, fun q => absurd ⟨a3, a4⟩ q⟩
      · rw [w7n a4, bnd_some, if_pos i00]
        exact ⟨0, rfl, fun q => absurd q.2 a4, fun _ => rfl⟩
    · rw [w7n a3, bnd_some, if_pos i00]
      exact ⟨0, rfl, fun q => absurd q.1 a3, fun _ => rfl⟩
  by_cases hc : isC P x1
  · by_cases hh : P 20 1 = 0
    · refine ⟨-103, fun S hR => ⟨S, ?_, KC.rf S⟩, fun T hR => ⟨T, ?_, KM.rf T⟩⟩
      · obtain ⟨s0, e, -⟩ := e7 S
        rw [e]
        unfold f_X7_straw_b28
        rw [r7h hR hc hh, bnd_some, if_neg n103]
      · unfold f_X8_straw
        rw [c8y hO hR hc, bnd_some, if_neg i10, l8n hR hh, bnd_some, if_neg i10]
    · by_cases hs : isSw x2
      · by_cases ha : (0 ≤ x3 ∧ x3 ≤ 9) ∧ (1 ≤ x4 ∧ x4 ≤ 4)
        · obtain ⟨sk, hsk, rfl⟩ := rngle (n := 9) (by decide) ha.1.1 ha.1.2
          obtain ⟨k, hk4, rfl⟩ := rngle (n := 4) (by decide) (Int32.le_trans (by decide) ha.2.1) ha.2.2
          have hk1 : 1 ≤ k := (nI_leI (a := 1) (by decide) (by omega)).mp ha.2.1
          by_cases hb : k ≤ bcN (shP P) (P 20 1) 0
          · obtain ⟨j, hj, rfl⟩ := rng (by omega) hc
            obtain ⟨x, hx, rfl⟩ := isSw_nI hs
            have hf1 : ∀ i, sfN (P 20 1) (P 20 4) (shP P) (goN (dtOf P j) x 2) sk i ≤ 100 := fun i => sfN_le _ _ _ _ _ i
            obtain ⟨w1, w2, w3⟩ := wit_of ⟨hk1, hk4⟩ hbn hb
            obtain ⟨m1, m2⟩ := mN_of hbn
            refine ⟨stR (prN (sfN (P 20 1) (P 20 4) (shP P) (goN (dtOf P j) x 2) sk)) k (mN (bcN (shP P) (P 20 1) 0)) (mN (bcN (shP P) (P 20 1) 0) - 1) 1 0 0, fun S hR => ?_, fun T hR => ?_⟩
            · obtain ⟨S1, S2, e1, e2, k2, t2⟩ := f_goWeigh hR hO hj hh (show x ≤ 17000 by omega) hsk
              refine ⟨S2, ?_, k2⟩
              obtain ⟨s0, e, q1, -⟩ := e7 S
              rw [e, q1 ha]
              unfold f_X7_straw_b28
              rw [r7y hO hR hc hh hs, bnd_some, if_pos i00, bdC hR hO, bnd_some, if_pos (nI_le hb (by omega)), e1, bnd_some, e2, bnd_some]
              exact straw7 t2 hf1 hk4 hbn _ FU 1 0 0 (by omega) (by unfold FU; omega) (by omega)
            · obtain ⟨T1, e1, k1⟩ := straw8 hO hj hh (show x ≤ 17000 by omega) hsk hk4 16 FU 0 0 (-1) T hR (by omega) (by unfold FU; omega) (by omega)
              refine ⟨T1, ?_, k1⟩
              unfold f_X8_straw
              rw [c8y hO hR hc, bnd_some, if_neg i10, l8y hO hR hh, bnd_some, if_pos i00, s8y hs, bnd_some, if_neg i10, sh8y ha.1, bnd_some, if_neg i10, w8y (a := 1) (b := 4) ha.2, bnd_some, if_neg i10, bdM hR hO, bnd_some, if_pos (nI_le hb (by omega))]
              have e1' : f_X8_straw_l74 FU (nI j) (nI x) (nI sk) (nI k) (-1) (-1) 0 T = _ := e1
              rw [e1', stR, if_neg (fun q => by
                have := q.1
                rw [show popN 0 = 0 from rfl] at this
                omega)]
              have d15 : 15 = (mN (bcN (shP P) (P 20 1) 0) - 1) + (16 - mN (bcN (shP P) (P 20 1) 0)) := by omega
              rw [d15, stR_app _ _ _ _ _ _ _ _ (by omega), stR_s _ _ _ (-1) 0 _ _ ⟨2 ^ k - 1, w3, by omega, w1, w2⟩]
          · refine ⟨-103, fun S hR => ⟨S, ?_, KC.rf S⟩, fun T hR => ⟨T, ?_, KM.rf T⟩⟩
            · obtain ⟨s0, e, q1, -⟩ := e7 S
              rw [e, q1 ha]
              unfold f_X7_straw_b28
              rw [r7y hO hR hc hh hs, bnd_some, if_pos i00, bdC hR hO, bnd_some, if_neg (nI_ge (by omega) (by omega))]
            · unfold f_X8_straw
              rw [c8y hO hR hc, bnd_some, if_neg i10, l8y hO hR hh, bnd_some, if_pos i00, s8y hs, bnd_some, if_neg i10, sh8y ha.1, bnd_some, if_neg i10, w8y (a := 1) (b := 4) ha.2, bnd_some, if_neg i10, bdM hR hO, bnd_some, if_neg (nI_ge (by omega) (by omega))]
        · refine ⟨-102, fun S hR => ⟨S, ?_, KC.rf S⟩, fun T hR => ⟨T, ?_, KM.rf T⟩⟩
          · obtain ⟨s0, e, -, q⟩ := e7 S
            rw [e, q ha]
            unfold f_X7_straw_b28
            rw [r7w hO hR hc hh hs, bnd_some, if_neg n102]
          · unfold f_X8_straw
            rw [c8y hO hR hc, bnd_some, if_neg i10, l8y hO hR hh, bnd_some, if_pos i00, s8y hs, bnd_some, if_neg i10]
            by_cases a3 : 0 ≤ x3 ∧ x3 ≤ 9
            · rw [sh8y a3, bnd_some, if_neg i10, w8n (a := 1) (b := 4) (fun q => ha ⟨a3, q⟩), bnd_some, if_pos i00]
            · rw [sh8n a3, bnd_some, if_pos i00]
      · refine ⟨-102, fun S hR => ⟨S, ?_, KC.rf S⟩, fun T hR => ⟨T, ?_, KM.rf T⟩⟩
        · obtain ⟨s0, e, -⟩ := e7 S
          rw [e]
          unfold f_X7_straw_b28
          rw [r7s hO hR hc hh hs, bnd_some, if_neg n102]
        · unfold f_X8_straw
          rw [c8y hO hR hc, bnd_some, if_neg i10, l8y hO hR hh, bnd_some, if_pos i00, s8n hs, bnd_some, if_pos i00]
  · refine ⟨-101, fun S hR => ⟨S, ?_, KC.rf S⟩, fun T hR => ⟨T, ?_, KM.rf T⟩⟩
    · obtain ⟨s0, e, -⟩ := e7 S
      rw [e]
      unfold f_X7_straw_b28
      rw [r7c hR hc, bnd_some, if_neg n101]
    · unfold f_X8_straw
      rw [c8n hO hR hc, bnd_some, if_pos i00]
