-- ===== heats =====
def m5 (q : Nat) : Nat := if q < 5 then q else 5
theorem m5_le (q : Nat) : m5 q ≤ 5 := by unfold m5; split <;> omega
def chN (u v s : Nat) : Nat := if u = v then 5 else if u = 0 then 0 else if v = 0 then 10 else if v < u then 5 - m5 ((u - v) / (100 * s)) else 5 + m5 ((v - u) / (100 * s))
theorem chN_le (u v s : Nat) : chN u v s ≤ 10 := by
  unfold chN
  have h1 : m5 ((v - u) / (100 * s)) ≤ 5 := m5_le _
  split
  · omega
  split
  · omega
  split
  · omega
  split <;> omega
theorem chN_sym (u v s : Nat) : chN u v s + chN v u s = 10 := by
  unfold chN
  by_cases h : u = v
  · subst h
    rw [if_pos rfl]
  · rw [if_neg h, if_neg (Ne.symm h)]
    by_cases hu : u = 0
    · rw [if_pos hu]
      by_cases hv : v = 0
      · omega
      · rw [if_neg hv, if_pos hu]
    · rw [if_neg hu]
      by_cases hv : v = 0
      · rw [if_pos hv, if_pos hv]
      · rw [if_neg hv, if_neg hv, if_neg hu]
        have h1 : m5 ((v - u) / (100 * s)) ≤ 5 := m5_le _
        have h2 : m5 ((u - v) / (100 * s)) ≤ 5 := m5_le _
        by_cases hl : v < u
        · rw [if_pos hl, if_neg (by omega)]
          omega
        · rw [if_neg hl, if_pos (by omega)]
          omega
theorem encT_n1 {u : Nat} (hu : u ≤ 20000) : (encT u = -1) ↔ u = 0 := by
  unfold encT
  by_cases h : u = 0
  · rw [if_pos h]; exact ⟨fun _ => h, fun _ => rfl⟩
  · rw [if_neg h]
    refine ⟨fun q => ?_, fun q => absurd q h⟩
    have := congrArg Int32.toInt q
    rw [nI_toInt (by omega)] at this
    rw [show ((-1 : Int32)).toInt = -1 from by decide] at this
    omega
theorem encT_eq {u v : Nat} (hu : u ≤ 20000) (hv : v ≤ 20000) : (encT u = encT v) ↔ u = v := by
  refine ⟨fun h => ?_, fun h => by rw [h]⟩
  by_cases h1 : u = 0
  · subst h1
    have : encT v = -1 := h.symm
    rw [(encT_n1 hv).mp this]
  · by_cases h2 : v = 0
    · subst h2
      exact (encT_n1 hu).mp h
    · unfold encT at h
      rw [if_neg h1, if_neg h2] at h
      have := (nI_eq (by omega) (by omega)).mp h
      omega
theorem min5 {q : Nat} (hq : q < 2 ^ 31) : (if nI q < 5 then nI q else 5) = nI (m5 q) := by
  unfold m5
  by_cases h : q < 5
  · rw [if_pos (show nI q < (5 : Int32) from (nI_ltI (b := 5) hq (by decide)).mpr h), if_pos h]
  · rw [if_neg (show ¬ nI q < (5 : Int32) from fun g => h ((nI_ltI (b := 5) hq (by decide)).mp g)), if_neg h]; rfl
theorem sub_neg' (a b : Nat) (h : a ≤ b) : (0 : Int32) - (nI a - nI b) = nI (b - a) := by
  rw [Int32.zero_sub, Int32.neg_sub, pk_sub h]
theorem f_tenths {u v s : Nat} (hu : u ≤ 20000) (hv : v ≤ 20000) (hs : 1 ≤ s ∧ s ≤ 99) (S : St) : f_X7_tenths (encT u) (encT v) (nI s) S = some (nI (chN u v s), S) := by
  unfold f_X7_tenths chN
  by_cases h : u = v
  · rw [if_pos ((encT_eq hu hv).mpr h), if_pos h]; rfl
  · rw [if_neg (fun q => h ((encT_eq hu hv).mp q)), if_neg h]
    by_cases h1 : u = 0
    · rw [if_pos ((encT_n1 hu).mpr h1), if_pos h1]; rfl
    · rw [if_neg (fun q => h1 ((encT_n1 hu).mp q)), if_neg h1]
      by_cases h2 : v = 0
      · rw [if_pos ((encT_n1 hv).mpr h2), if_pos h2]; rfl
      · rw [if_neg (fun q => h2 ((encT_n1 hv).mp q)), if_neg h2]
        have eu : encT u = nI (u - 1) := by unfold encT; rw [if_neg h1]
        have ev : encT v = nI (v - 1) := by unfold encT; rw [if_neg h2]
        rw [eu, ev, show (100 : Int32) = nI 100 from rfl, pk_mul]
        by_cases hl : v < u
        · rw [if_pos hl, if_neg (Int32.not_le.mpr (pk_sneg (by omega) (by omega))), sub_neg' _ _ (by omega), show u - 1 - (v - 1) = u - v by omega, f_by _ _ (by omega) (by omega) (by omega), bnd_some, lett_e]
          have hq : (u - v) / (100 * s) ≤ u - v := Nat.div_le_self _ _
          have h5 : m5 ((u - v) / (100 * s)) ≤ 5 := m5_le _
          rw [min5 (by omega), if_pos (nI_le (by omega) (by omega)), show (5 : Int32) = nI 5 from rfl, pk_sub h5]
        · rw [if_neg hl, pk_sub (by omega), if_pos (nI_pos' (by omega)), show v - 1 - (u - 1) = v - u by omega, f_by _ _ (by omega) (by omega) (by omega), bnd_some, lett_e]
          have hq : (v - u) / (100 * s) ≤ v - u := Nat.div_le_self _ _
          rw [min5 (by omega), if_neg (nI_ge (by omega) (by omega)), show (5 : Int32) = nI 5 from rfl, nI_add]
theorem f_chanceOf {P : Dt} {t a b x s : Nat} {T : St} (hR : RM P T) (hO : OK P t) (ha : a < P 20 3) (hb : b < P 20 3) (h0 : P 20 1 ≠ 0) (hx : x ≤ 17000) (hs : 1 ≤ s ∧ s ≤ 99) : ∃ T1, f_X8_chanceOf (nI a) (nI b) (nI x) (nI s) T = some (nI (chN (tN (dtOf P a) x) (tN (dtOf P b) x) s), T1) ∧ KM T T1 := by
  have h8 := hO.h8
  obtain ⟨T1, e1, k1⟩ := f_downTime hR hO ha h0 hx
  obtain ⟨T2, e2, k2⟩ := f_downTime (hR.km h8 k1) hO hb h0 hx
  unfold f_X8_chanceOf
  rw [e1, bnd_some, e2, bnd_some]
  have hu := tN_le (MB_of hO ha) x
  have hv := tN_le (MB_of hO hb) x
  generalize tN (dtOf P a) x = u at *
  generalize tN (dtOf P b) x = v at *
  refine ⟨T2, ?_, k1.tr k2⟩
  unfold chN
  have hb28 : (u = 0 ∨ v = 0) → f_X8_chanceOf_b28 (encT u) (encT v) T2 = some (nI (if u = v then 5 else if u = 0 then 0 else 10), T2) := by
    intro hz
    unfold f_X8_chanceOf_b28
    by_cases h : u = v
    · rw [if_pos ((encT_eq (by omega) (by omega)).mpr h), if_pos h]; rfl
    · rw [if_neg (fun q => h ((encT_eq (by omega) (by omega)).mp q)), if_neg h]
      by_cases h1 : u = 0
      · rw [if_pos ((encT_n1 (by omega)).mpr h1), if_pos h1]; rfl
      · rw [if_neg (fun q => h1 ((encT_n1 (by omega)).mp q)), if_neg h1]; rfl
  by_cases h1 : u = 0
  · rw [if_pos ((encT_n1 (by omega)).mpr h1), hb28 (Or.inl h1)]
    by_cases h : u = v
    · rw [if_pos h, if_pos h]
    · rw [if_neg h, if_neg h, if_pos h1, if_pos h1]
  · rw [if_neg (fun q => h1 ((encT_n1 (by omega)).mp q))]
    by_cases h2 : v = 0
    · rw [if_pos ((encT_n1 (by omega)).mpr h2), hb28 (Or.inr h2), if_neg (show ¬ u = v by omega), if_neg h1, if_neg (show ¬ u = v by omega), if_neg h1, if_pos h2]
    · rw [if_neg (fun q => h2 ((encT_n1 (by omega)).mp q)), if_neg h1, if_neg h2]
      have eu : encT u = nI (u - 1) := by unfold encT; rw [if_neg h1]
      have ev : encT v = nI (v - 1) := by unfold encT; rw [if_neg h2]
      rw [eu, ev]
      have b72 : ∀ d : Nat, d ≤ 20000 → f_X8_chanceOf_b72 (nI s) (nI (u - 1)) (nI (v - 1)) (nI d) T2 = some (if v ≤ u then nI (5 - m5 (d / (100 * s))) else nI (5 + m5 (d / (100 * s))), T2) := by
        intro d hd
        unfold f_X8_chanceOf_b72
        have hq : d / (100 * s) ≤ d := Nat.div_le_self _ _
        rw [show (100 : Int32) = nI 100 from rfl, pk_mul, nz_nI (by omega) (by omega), grd_t, lett_e, pk_div (by omega) (by omega) (by omega)]
        have b92 : ∀ m : Nat, m ≤ 5 → f_X8_chanceOf_b92 (nI (u - 1)) (nI (v - 1)) (nI m) T2 = some (if v ≤ u then nI (5 - m) else nI (5 + m), T2) := by
          intro m hm
          unfold f_X8_chanceOf_b92
          by_cases hl : v ≤ u
          · rw [if_pos (nI_le (by omega) (by omega)), if_pos hl, show (5 : Int32) = nI 5 from rfl, pk_sub hm]
          · rw [if_neg (nI_ge (by omega) (by omega)), if_neg hl, show (5 : Int32) = nI 5 from rfl, nI_add]
        by_cases h5 : d / (100 * s) ≤ 5
        · rw [if_pos (show nI (d / (100 * s)) ≤ (5 : Int32) from nI_le (b := 5) h5 (by decide)), b92 _ h5, show m5 (d / (100 * s)) = d / (100 * s) from by unfold m5; split <;> omega]
        · rw [if_neg (show ¬ nI (d / (100 * s)) ≤ (5 : Int32) from nI_ge (a := 5) (by omega) (by omega)), show (5 : Int32) = nI 5 from rfl, b92 5 (by omega), show m5 (d / (100 * s)) = 5 from by unfold m5; split <;> omega]
      by_cases hl : v ≤ u
      · rw [if_pos (nI_le (by omega) (by omega)), pk_sub (by omega), b72 _ (by omega), if_pos hl, show u - 1 - (v - 1) = u - v by omega]
        by_cases h : u = v
        · subst h
          rw [if_pos rfl, Nat.sub_self, Nat.zero_div]; rfl
        · rw [if_neg h, if_pos (by omega)]
      · rw [if_neg (nI_ge (by omega) (by omega)), pk_sub (by omega), b72 _ (by omega), if_neg hl, show v - 1 - (u - 1) = v - u by omega, if_neg (by omega), if_neg (by omega)]
theorem isSl_nI {x : Int32} (h : 1 ≤ x ∧ x ≤ 99) : ∃ v : Nat, (1 ≤ v ∧ v ≤ 99) ∧ x = nI v := by
  obtain ⟨v, hv, rfl⟩ := rngle (n := 99) (by decide) (Int32.le_trans (by decide) h.1) h.2
  exact ⟨v, ⟨(nI_leI (a := 1) (by decide) (by omega)).mp h.1, hv⟩, rfl⟩
theorem sl8y {x : Int32} {S : St} (h : 1 ≤ x ∧ x ≤ 99) : f_X8_isSlip x S = some (1, S) := by rw [f_isSlip8, if_pos h]
theorem sl8n {x : Int32} {S : St} (h : ¬ (1 ≤ x ∧ x ≤ 99)) : f_X8_isSlip x S = some (0, S) := by rw [f_isSlip8, if_neg h]
-- chance
theorem op_chance (x1 x2 x3 x4 : Int32) : Op (f_X7_chance x1 x2 x3 x4) (f_X8_chance x1 x2 x3 x4) := by
  refine Op.ask (fun t P hO => ?_)
  have h8 := hO.h8
  by_cases hc : isC P x1
  · by_cases hd : isC P x2
    · by_cases hh : P 20 1 = 0
      · refine ⟨-103, fun S hR => ⟨S, ?_, KC.rf S⟩, fun T hR => ⟨T, ?_, KM.rf T⟩⟩
        · unfold f_X7_chance
          rw [c7y hR hc, bnd_some, if_neg i10, c7y hR hd, bnd_some, if_neg i10, f_isWithin, bnd_some, r7h hR hc hh, bnd_some, if_neg n103]
        · unfold f_X8_chance
          rw [c8y hO hR hc, bnd_some, if_neg i10, c8y hO hR hd, bnd_some, if_neg i10, l8n hR hh, bnd_some, if_neg i10]
      · by_cases hs : isSw x3
        · by_cases hw : 1 ≤ x4 ∧ x4 ≤ 99
          · obtain ⟨a, ha, rfl⟩ := rng (by omega) hc
            obtain ⟨b, hb, rfl⟩ := rng (by omega) hd
            obtain ⟨x, hx, rfl⟩ := isSw_nI hs
            obtain ⟨s, hsl, rfl⟩ := isSl_nI hw
            refine ⟨nI (chN (tN (dtOf P a) x) (tN (dtOf P b) x) s), fun S hR => ?_, fun T hR => ?_⟩
            · obtain ⟨S1, e1, k1⟩ := f_timeOf hR hO ha hh (show x ≤ 17000 by omega)
              obtain ⟨S2, e2, k2⟩ := f_timeOf (hR.kc h8 k1.kc) hO hb hh (show x ≤ 17000 by omega)
              refine ⟨S2, ?_, (k1.tr k2).kc⟩
              have hu := tN_le (MB_of hO ha) x
              have hv := tN_le (MB_of hO hb) x
              unfold f_X7_chance
              rw [c7y hR hc, bnd_some, if_neg i10, c7y hR hd, bnd_some, if_neg i10, w7y hw, bnd_some, r7y hO hR hc hh hs, bnd_some, if_pos i00, e1, bnd_some, e2, bnd_some, f_tenths (by omega) (by omega) hsl, bnd_some]
            · obtain ⟨T1, e1, k1⟩ := f_chanceOf hR hO ha hb hh (show x ≤ 17000 by omega) hsl
              refine ⟨T1, ?_, k1⟩
              unfold f_X8_chance
              rw [c8y hO hR hc, bnd_some, if_neg i10, c8y hO hR hd, bnd_some, if_neg i10, l8y hO hR hh, bnd_some, if_pos i00, s8y hs, bnd_some, if_neg i10, sl8y hw, bnd_some, if_neg i10, e1, bnd_some]
          · refine ⟨-102, fun S hR => ⟨S, ?_, KC.rf S⟩, fun T hR => ⟨T, ?_, KM.rf T⟩⟩
            · unfold f_X7_chance
              rw [c7y hR hc, bnd_some, if_neg i10, c7y hR hd, bnd_some, if_neg i10, w7n hw, bnd_some, r7w hO hR hc hh hs, bnd_some, if_neg n102]
            · unfold f_X8_chance
              rw [c8y hO hR hc, bnd_some, if_neg i10, c8y hO hR hd, bnd_some, if_neg i10, l8y hO hR hh, bnd_some, if_pos i00, s8y hs, bnd_some, if_neg i10, sl8n hw, bnd_some, if_pos i00]
        · refine ⟨-102, fun S hR => ⟨S, ?_, KC.rf S⟩, fun T hR => ⟨T, ?_, KM.rf T⟩⟩
          · unfold f_X7_chance
            rw [c7y hR hc, bnd_some, if_neg i10, c7y hR hd, bnd_some, if_neg i10, f_isWithin, bnd_some, r7s hO hR hc hh hs, bnd_some, if_neg n102]
          · unfold f_X8_chance
            rw [c8y hO hR hc, bnd_some, if_neg i10, c8y hO hR hd, bnd_some, if_neg i10, l8y hO hR hh, bnd_some, if_pos i00, s8n hs, bnd_some, if_pos i00]
    · refine ⟨-101, fun S hR => ⟨S, ?_, KC.rf S⟩, fun T hR => ⟨T, ?_, KM.rf T⟩⟩
      · unfold f_X7_chance
        rw [c7y hR hc, bnd_some, if_neg i10, c7n hR hd, bnd_some, if_pos i00]
      · unfold f_X8_chance
        rw [c8y hO hR hc, bnd_some, if_neg i10, c8n hO hR hd, bnd_some, if_pos i00]
  · refine ⟨-101, fun S hR => ⟨S, ?_, KC.rf S⟩, fun T hR => ⟨T, ?_, KM.rf T⟩⟩
    · unfold f_X7_chance
      rw [c7n hR hc, bnd_some, if_pos i00]
    · unfold f_X8_chance
      rw [c8n hO hR hc, bnd_some, if_pos i00]
