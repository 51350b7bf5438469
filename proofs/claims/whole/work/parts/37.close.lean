-- ===== close =====
def apR (tm : Nat → Nat) : Nat → Nat → Nat → Nat → Nat
  | 0, _, mn, mx => mx - mn + 1
  | d + 1, j, mn, mx => if tm j = 0 then 0 else apR tm d (j + 1) (if tm j - 1 < mn then tm j - 1 else mn) (if mx < tm j - 1 then tm j - 1 else mx)
theorem apR_le {tm : Nat → Nat} {B : Nat} (ht : ∀ j, tm j ≤ B + 1) : ∀ d j mn mx, mx ≤ B → apR tm d j mn mx ≤ B + 1 := by
  intro d
  induction d with
  | zero => intro j mn mx h; rw [apR]; omega
  | succ d ih =>
    intro j mn mx h
    rw [apR]
    by_cases h0 : tm j = 0
    · rw [if_pos h0]; omega
    · rw [if_neg h0]
      have := ht j
      exact ih _ _ _ (by split <;> omega)
def wMin (P : Dt) (cap j : Nat) : Nat := if P 5 j < cap then P 5 j else cap
theorem wMin_b {P : Dt} {t cap j : Nat} (hO : OK P t) (hj : j < P 20 3) (hc : 10 ≤ cap ∧ cap ≤ 99) : 10 ≤ wMin P cap j ∧ wMin P cap j ≤ 99 := by
  obtain ⟨a, b, -⟩ := hO.2.2.2.2.2.2.1 j hj
  unfold wMin
  split <;> omega
/-- time + 1 of cart j at most so heavy; beyond the carts it counts for nothing -/
def tmN (P : Dt) (x cap j : Nat) : Nat := if j < P 20 3 then tN (dW (dtOf P j) (wMin P cap j)) x else 0
theorem tmN_le {P : Dt} {t x cap : Nat} (hO : OK P t) (hc : 10 ≤ cap ∧ cap ≤ 99) (j : Nat) : tmN P x cap j ≤ 12000 + 1 := by
  unfold tmN
  by_cases h : j < P 20 3
  · rw [if_pos h]
    exact tN_le (dW_MB (MB_of hO h) (wMin_b hO h hc)) x
  · rw [if_neg h]; omega
theorem apart7 {P : Dt} {t x cap : Nat} (hO : OK P t) (h0 : P 20 1 ≠ 0) (hx : x ≤ 17000) (hc : 10 ≤ cap ∧ cap ≤ 99) : ∀ (d n j mn mx : Nat) (S : St), j + d = P 20 3 → d < n → (mn < 2 ^ 31 ∧ mx ≤ 12000) → (d = 0 → mn ≤ mx) → (j ≠ 0 → mn ≤ mx) → RC P S → ∃ S1, f_X7_apartBy_l10 n (nI cap) (nI x) (nI mn) (nI mx) (nI j) S = some (encT (apR (tmN P x cap) d j mn mx), S1) ∧ KR S S1 := by
  have h8 := hO.h8
  intro d
  induction d with
  | zero =>
    intro n j mn mx S hj hn hm hd _ hR
    obtain ⟨n, rfl⟩ : ∃ m, n = m + 1 := ⟨n - 1, by omega⟩
    refine ⟨S, ?_, KR.rf S⟩
    rw [f_X7_apartBy_l10, hR.2.2.2.2.2.1, if_pos (nI_le (by omega) (by omega)), pk_sub (hd rfl), apR]
    unfold encT
    rw [if_neg (by omega), Nat.add_sub_cancel]
  | succ d ih =>
    intro n j mn mx S hj hn hm hd hd2 hR
    obtain ⟨n, rfl⟩ : ∃ m, n = m + 1 := ⟨n - 1, by omega⟩
    have hjl : j < P 20 3 := by omega
    have hwl := (hO.2.2.2.2.2.2.1 j hjl).2.1
    have hmin : (if nI (P 5 j) < nI cap then nI (P 5 j) else nI cap) = nI (wMin P cap j) := by
      unfold wMin
      by_cases h : P 5 j < cap
      · rw [if_pos h, if_pos ((nI_ltI (by omega) (by omega)).mpr h)]
      · rw [if_neg h, if_neg (fun q => h ((nI_ltI (by omega) (by omega)).mp q))]
    obtain ⟨S1, e1, k1⟩ := f_timeAt hR hO hjl h0 hx (wMin_b hO hjl hc)
    have htm : tmN P x cap j = tN (dW (dtOf P j) (wMin P cap j)) x := by unfold tmN; rw [if_pos hjl]
    have hb := tmN_le (x := x) hO hc j
    rw [← htm] at e1
    rw [f_X7_apartBy_l10, hR.2.2.2.2.2.1, if_neg (nI_ge (by omega) (by omega)), inb_nI (show j < 8 by omega) (by decide), grd_t, cl_nI (by omega), (hR.2.2.2.2.2.2.1 j hjl).1, hmin, e1, bnd_some, apR]
    by_cases hz : tmN P x cap j = 0
    · rw [if_pos ((encT_n (by omega)).mpr hz), if_pos hz]
      exact ⟨S1, rfl, k1⟩
    · have ee : encT (tmN P x cap j) = nI (tmN P x cap j - 1) := by unfold encT; rw [if_neg hz]
      have e1 : (if nI (tmN P x cap j - 1) < nI mn then nI (tmN P x cap j - 1) else nI mn) = nI (if tmN P x cap j - 1 < mn then tmN P x cap j - 1 else mn) := by
        by_cases h : tmN P x cap j - 1 < mn
        · rw [if_pos h, if_pos ((nI_ltI (by omega) (by omega)).mpr h)]
        · rw [if_neg h, if_neg (fun q => h ((nI_ltI (by omega) (by omega)).mp q))]
      have e2 : (if nI mx < nI (tmN P x cap j - 1) then nI (tmN P x cap j - 1) else nI mx) = nI (if mx < tmN P x cap j - 1 then tmN P x cap j - 1 else mx) := by
        by_cases h : mx < tmN P x cap j - 1
        · rw [if_pos h, if_pos ((nI_ltI (by omega) (by omega)).mpr h)]
        · rw [if_neg h, if_neg (fun q => h ((nI_ltI (by omega) (by omega)).mp q))]
      rw [if_neg (fun q => hz ((encT_n (by omega)).mp q)), if_neg hz, ee, e1, e2, lett_e, lett_e, lett_e, nI_1]
      have hle : (if tmN P x cap j - 1 < mn then tmN P x cap j - 1 else mn) ≤ (if mx < tmN P x cap j - 1 then tmN P x cap j - 1 else mx) := by split <;> split <;> omega
      obtain ⟨S2, e3, k3⟩ := ih n (j + 1) (if tmN P x cap j - 1 < mn then tmN P x cap j - 1 else mn) (if mx < tmN P x cap j - 1 then tmN P x cap j - 1 else mx) S1 (by omega) (by omega) ⟨by split <;> omega, by split <;> omega⟩ (fun _ => hle) (fun _ => hle) (hR.kc h8 k1.kc)
      exact ⟨S2, e3, k1.tr k3⟩
/-- how far apart the carts come in, + 1, or 0 -/
def clN (P : Dt) (x cap : Nat) : Nat := apR (tmN P x cap) (P 20 3) 0 12000 0
theorem f_apart {P : Dt} {t x cap : Nat} {S : St} (hR : RC P S) (hO : OK P t) (h0 : P 20 1 ≠ 0) (h3 : P 20 3 ≠ 0) (hx : x ≤ 17000) (hc : 10 ≤ cap ∧ cap ≤ 99) : ∃ S1, f_X7_apartBy (nI cap) (nI x) S = some (encT (clN P x cap), S1) ∧ KR S S1 := by
  have h8 := hO.h8
  exact apart7 hO h0 hx hc (P 20 3) FU 0 12000 0 S (by omega) (by unfold FU; omega) ⟨by decide, by omega⟩ (fun q => absurd q h3) (fun q => absurd rfl q) hR
theorem clN_le {P : Dt} {t x cap : Nat} (hO : OK P t) (hc : 10 ≤ cap ∧ cap ≤ 99) : clN P x cap ≤ 12001 := apR_le (tmN_le hO hc) _ _ _ _ (Nat.zero_le _)
def cD (f : Nat → Nat) : Nat → Nat → Nat → Nat × Nat
  | 0, bt, bw => (bt, bw)
  | d + 1, bt, bw => if f (10 + d) ≠ 0 ∧ (bt = 0 ∨ f (10 + d) < bt) then cD f d (f (10 + d)) (10 + d) else cD f d bt bw
theorem cD_y {f : Nat → Nat} {d bt bw : Nat} (h : f (10 + d) ≠ 0 ∧ (bt = 0 ∨ f (10 + d) < bt)) : cD f (d + 1) bt bw = cD f d (f (10 + d)) (10 + d) := by rw [cD, if_pos h]
theorem cD_n {f : Nat → Nat} {d bt bw : Nat} (h : ¬ (f (10 + d) ≠ 0 ∧ (bt = 0 ∨ f (10 + d) < bt))) : cD f (d + 1) bt bw = cD f d bt bw := by rw [cD, if_neg h]
def cU (f : Nat → Nat) : Nat → Nat × Nat
  | 0 => (0, 0)
  | d + 1 => if f (10 + d) ≠ 0 ∧ ((cU f d).1 = 0 ∨ f (10 + d) ≤ (cU f d).1) then (f (10 + d), 10 + d) else cU f d
theorem cD_cU (f : Nat → Nat) : ∀ d bt bw, cD f d bt bw = if (cU f d).1 ≠ 0 ∧ (bt = 0 ∨ (cU f d).1 < bt) then cU f d else (bt, bw) := by
  intro d
  induction d with
  | zero => intro bt bw; rw [cD, cU, if_neg (fun q => q.1 rfl)]
  | succ d ih =>
    intro bt bw
    rw [cD, cU, ih, ih]
    by_cases c1 : f (10 + d) ≠ 0 ∧ (bt = 0 ∨ f (10 + d) < bt)
    · rw [if_pos c1]
      by_cases c2 : f (10 + d) ≠ 0 ∧ ((cU f d).1 = 0 ∨ f (10 + d) ≤ (cU f d).1)
      · rw [if_pos c2, if_neg (by omega), if_pos c1]
      · rw [if_neg c2, if_pos (by omega), if_pos (by omega)]
    · rw [if_neg c1]
      by_cases c2 : f (10 + d) ≠ 0 ∧ ((cU f d).1 = 0 ∨ f (10 + d) ≤ (cU f d).1)
      · rw [if_pos c2, if_neg (by omega), if_neg c1]
      · rw [if_neg c2]
theorem close7 {P : Dt} {t x : Nat} (hO : OK P t) (h0 : P 20 1 ≠ 0) (h3 : P 20 3 ≠ 0) (hx : x ≤ 17000) (x2 : Int32) : ∀ (d n bt bw : Nat) (S : St), d ≤ 90 → d < n → bt ≤ 12001 → RC P S → BO bt bw S → ∃ S1, f_X7_close_l49 n (nI x) x2 (nI (9 + d)) S = some (if x2 = 0 then encW (cD (clN P x) d bt bw).1 (cD (clN P x) d bt bw).2 else encT (cD (clN P x) d bt bw).1, S1) ∧ KC S S1 := by
  have h8 := hO.h8
  intro d
  induction d with
  | zero =>
    intro n bt bw S hd hn hb hR hB
    obtain ⟨n, rfl⟩ : ∃ m, n = m + 1 := ⟨n - 1, by omega⟩
    refine ⟨S, ?_, KC.rf S⟩
    rw [f_X7_close_l49, if_pos (by decide), hB.1, hB.2, cD]
    by_cases h : x2 = 0
    · rw [if_pos h, if_pos h]
    · rw [if_neg h, if_neg h]
  | succ d ih =>
    intro n bt bw S hd hn hb hR hB
    obtain ⟨n, rfl⟩ : ∃ m, n = m + 1 := ⟨n - 1, by omega⟩
    have hcap : 10 ≤ 10 + d ∧ 10 + d ≤ 99 := by omega
    obtain ⟨S1, e1, k1⟩ := f_apart hR hO h0 h3 hx hcap
    have hl := clN_le (x := x) hO hcap
    have hB1 : BO bt bw S1 := ⟨by rw [k1 51 (by omega)]; exact hB.1, by rw [k1 51 (by omega)]; exact hB.2⟩
    rw [f_X7_close_l49, show 9 + (d + 1) = 10 + d by omega, if_neg (show ¬ nI (10 + d) < (10 : Int32) from nI_nlt (b := 10) (by omega) (by omega)), e1, bnd_some]
    unfold f_X7_close_b80
    have hm1 : nI (10 + d) + (-1) = nI (9 + d) := by rw [show 10 + d = (9 + d) + 1 by omega]; exact pk_m1 _
    rw [lett_e, hm1]
    by_cases hz : clN P x (10 + d) = 0
    · rw [if_pos ((encT_n hl).mpr hz), cD_n (fun q => q.1 hz)]
      obtain ⟨S2, e2, k2⟩ := ih n bt bw S1 (by omega) (by omega) hb (hR.kc h8 k1.kc) hB1
      exact ⟨S2, e2, k1.kc.tr k2⟩
    · obtain ⟨S2, e2, k2, b2⟩ := f_offer (i := 10 + d) hB1 hz (by omega) (by omega)
      rw [if_neg (fun q => hz ((encT_n hl).mp q)), show encT (clN P x (10 + d)) = nI (clN P x (10 + d) - 1) from by unfold encT; rw [if_neg hz], e2, bnd_some, lett_e]
      have kk : KC S S2 := k1.kc.tr (fun c hc => k2 c (by omega))
      by_cases hq : bt = 0 ∨ clN P x (10 + d) < bt
      · rw [if_pos hq] at b2
        rw [cD_y ⟨hz, hq⟩]
        obtain ⟨S3, e3, k3⟩ := ih n (clN P x (10 + d)) (10 + d) S2 (by omega) (by omega) hl (hR.kc h8 kk) b2
        exact ⟨S3, e3, kk.tr k3⟩
      · rw [if_neg hq] at b2
        rw [cD_n (fun q => hq q.2)]
        obtain ⟨S3, e3, k3⟩ := ih n bt bw S2 (by omega) (by omega) hb (hR.kc h8 kk) b2
        exact ⟨S3, e3, kk.tr k3⟩
-- the reference
theorem time107 {P : Dt} {t x cap j : Nat} {T : St} (hR : RM P T) (hO : OK P t) (h0 : P 20 1 ≠ 0) (hx : x ≤ 17000) (hc : 10 ≤ cap ∧ cap ≤ 99) (hj : j < P 20 3) (K : Int32 → Int32 → Int32 → Int32 → Int32 → St → Option (Int32 × St)) (n : Nat) (x2 x3 x4 x6 x7 : Int32) : ∃ T1, f_X8_close_l65 K (n + 1) (nI x) x2 x3 x4 (nI cap) x6 x7 1 (nI j) T = f_X8_close_b123 K (f_X8_close_l65 K n) (nI x) x2 x3 x4 (nI cap) x6 x7 (nI j) (encT (tmN P x cap j)) (if tmN P x cap j = 0 then 0 else 1) T1 ∧ KM T T1 := by
  have h8 := hO.h8
  obtain ⟨wa, wb, -⟩ := hO.2.2.2.2.2.2.1 j hj
  obtain ⟨T1, e1, k1⟩ := f_timeBy hR hO hj h0 hx (wMin_b hO hj hc)
  have hb := tmN_le (x := x) hO hc j
  have htm : tmN P x cap j = tN (dW (dtOf P j) (wMin P cap j)) x := by unfold tmN; rw [if_pos hj]
  rw [← htm] at e1
  refine ⟨T1, ?_, k1⟩
  have b107 : f_X8_close_b107 K (f_X8_close_l65 K n) (nI x) x2 x3 x4 (nI cap) x6 x7 (nI j) (nI (wMin P cap j)) (nI x) (nI j) T = f_X8_close_b123 K (f_X8_close_l65 K n) (nI x) x2 x3 x4 (nI cap) x6 x7 (nI j) (encT (tmN P x cap j)) (if tmN P x cap j = 0 then 0 else 1) T1 := by
    unfold f_X8_close_b107
    rw [e1, bnd_some]
    by_cases hz : tmN P x cap j = 0
    · rw [if_pos ((encT_n (by omega)).mpr hz), if_pos hz]
    · rw [if_neg (fun q => hz ((encT_n (by omega)).mp q)), if_neg hz]
  rw [f_X8_close_l65, hR.2.2.2.2.2.1, if_neg (nI_ge (by omega) (by omega)), if_neg i10, inb_nI (show j < 8 by omega) (by decide), grd_t, grd_t, cl_nI (by omega), (hR.2.2.2.2.2.2.1 j hj).1]
  by_cases hw : P 5 j ≤ cap
  · have hwm : wMin P cap j = P 5 j := by unfold wMin; split <;> omega
    rw [if_pos (nI_le hw (by omega)), ← b107, hwm]
  · have hwm : wMin P cap j = cap := by unfold wMin; rw [if_neg (by omega)]
    rw [if_neg (nI_ge (by omega) (by omega)), ← b107, hwm]
theorem apart8 {P : Dt} {t x cap : Nat} (hO : OK P t) (h0 : P 20 1 ≠ 0) (hx : x ≤ 17000) (hc : 10 ≤ cap ∧ cap ≤ 99) (K : Int32 → Int32 → Int32 → Int32 → Int32 → St → Option (Int32 × St)) (x2 x3 x4 : Int32) : ∀ (d n j mn mx : Nat) (T : St), j + d = P 20 3 → d + 1 < n → 1 ≤ j → mx ≤ 12000 → mn ≤ mx → RM P T → ∃ T1 x6 x7 x8, f_X8_close_l65 K n (nI x) x2 x3 x4 (nI cap) (nI mn) (nI mx) 1 (nI j) T = f_X8_close_b168 K (nI x) x2 x3 x4 (nI cap) x6 x7 x8 T1 ∧ KM T T1 ∧ (apR (tmN P x cap) d j mn mx = 0 → x8 = 0) ∧ (apR (tmN P x cap) d j mn mx ≠ 0 → x8 = 1 ∧ x7 - x6 = nI (apR (tmN P x cap) d j mn mx - 1)) := by
  have h8 := hO.h8
  intro d
  induction d with
  | zero =>
    intro n j mn mx T hj hn h1 hm hmn hR
    obtain ⟨n, rfl⟩ : ∃ m, n = m + 1 := ⟨n - 1, by omega⟩
    refine ⟨T, nI mn, nI mx, 1, ?_, KM.rf T, fun q => ?_, fun _ => ⟨rfl, ?_⟩⟩
    · rw [f_X8_close_l65, hR.2.2.2.2.2.1, if_pos (nI_le (by omega) (by omega))]
    · rw [apR] at q; omega
    · rw [apR, pk_sub hmn, Nat.add_sub_cancel]
  | succ d ih =>
    intro n j mn mx T hj hn h1 hm hmn hR
    obtain ⟨n, rfl⟩ : ∃ m, n = m + 1 := ⟨n - 1, by omega⟩
    have hb := tmN_le (x := x) hO hc j
    obtain ⟨T1, e1, k1⟩ := time107 hR hO h0 hx hc (show j < P 20 3 by omega) K n x2 x3 x4 (nI mn) (nI mx)
    rw [e1, apR]
    unfold f_X8_close_b123 f_X8_close_b137 f_X8_close_b144 f_X8_close_b160
    rw [if_neg (fun q => by have := (nI0 (by omega)).mp q; omega)]
    by_cases hz : tmN P x cap j = 0
    · obtain ⟨n, rfl⟩ : ∃ m, n = m + 1 := ⟨n - 1, by omega⟩
      have stop : ∀ a b c, f_X8_close_l65 K (n + 1) (nI x) x2 x3 x4 (nI cap) a b 0 c T1 = f_X8_close_b168 K (nI x) x2 x3 x4 (nI cap) a b 0 T1 := by
        intro a b c
        rw [f_X8_close_l65, if_pos i00]
        split <;> rfl
      rw [if_pos hz, if_pos hz, lett_e, lett_e, lett_e, lett_e, stop, stop, stop, stop]
      have e0 : apR (tmN P x cap) (d + 1) j mn mx = 0 := by rw [apR, if_pos hz]
      by_cases q1 : nI mn ≤ encT (tmN P x cap j)
      · rw [if_pos q1]
        by_cases q2 : encT (tmN P x cap j) ≤ nI mx
        · rw [if_pos q2]; exact ⟨T1, _, _, 0, rfl, k1, fun _ => rfl, fun q => absurd rfl q⟩
        · rw [if_neg q2]; exact ⟨T1, _, _, 0, rfl, k1, fun _ => rfl, fun q => absurd rfl q⟩
      · rw [if_neg q1]
        by_cases q2 : encT (tmN P x cap j) ≤ nI mx
        · rw [if_pos q2]; exact ⟨T1, _, _, 0, rfl, k1, fun _ => rfl, fun q => absurd rfl q⟩
        · rw [if_neg q2]; exact ⟨T1, _, _, 0, rfl, k1, fun _ => rfl, fun q => absurd rfl q⟩
    · rw [if_neg hz, if_neg hz, lett_e, lett_e, lett_e, lett_e, nI_1, show encT (tmN P x cap j) = nI (tmN P x cap j - 1) from by unfold encT; rw [if_neg hz]]
      by_cases q1 : mn ≤ tmN P x cap j - 1
      · rw [if_pos (nI_le q1 (by omega)), if_neg (show ¬ tmN P x cap j - 1 < mn by omega)]
        by_cases q2 : tmN P x cap j - 1 ≤ mx
        · rw [if_pos (nI_le q2 (by omega)), if_neg (show ¬ mx < tmN P x cap j - 1 by omega)]
          obtain ⟨T2, a, b, c, e2, k2, r1, r2⟩ := ih n (j + 1) mn mx T1 (by omega) (by omega) (by omega) (by omega) (by omega) (hR.km h8 k1)
          exact ⟨T2, a, b, c, e2, k1.tr k2, r1, r2⟩
        · rw [if_neg (nI_ge (by omega) (by omega)), if_pos (show mx < tmN P x cap j - 1 by omega)]
          obtain ⟨T2, a, b, c, e2, k2, r1, r2⟩ := ih n (j + 1) mn (tmN P x cap j - 1) T1 (by omega) (by omega) (by omega) (by omega) (by omega) (hR.km h8 k1)
          exact ⟨T2, a, b, c, e2, k1.tr k2, r1, r2⟩
      · rw [if_neg (nI_ge (by omega) (by omega)), if_pos (show tmN P x cap j - 1 < mn by omega)]
        by_cases q2 : tmN P x cap j - 1 ≤ mx
        · rw [if_pos (nI_le q2 (by omega)), if_neg (show ¬ mx < tmN P x cap j - 1 by omega)]
          obtain ⟨T2, a, b, c, e2, k2, r1, r2⟩ := ih n (j + 1) (tmN P x cap j - 1) mx T1 (by omega) (by omega) (by omega) (by omega) (by omega) (hR.km h8 k1)
          exact ⟨T2, a, b, c, e2, k1.tr k2, r1, r2⟩
        · omega
theorem apart80 {P : Dt} {t x cap : Nat} {T : St} (hR : RM P T) (hO : OK P t) (h0 : P 20 1 ≠ 0) (h3 : P 20 3 ≠ 0) (hx : x ≤ 17000) (hc : 10 ≤ cap ∧ cap ≤ 99) (K : Int32 → Int32 → Int32 → Int32 → Int32 → St → Option (Int32 × St)) (x2 x3 x4 : Int32) : ∃ T1 x6 x7 x8, f_X8_close_l65 K FU (nI x) x2 x3 x4 (nI cap) (-1) (-1) 1 0 T = f_X8_close_b168 K (nI x) x2 x3 x4 (nI cap) x6 x7 x8 T1 ∧ KM T T1 ∧ (clN P x cap = 0 → x8 = 0) ∧ (clN P x cap ≠ 0 → x8 = 1 ∧ x7 - x6 = nI (clN P x cap - 1)) := by
  have h8 := hO.h8
  obtain ⟨n, hn⟩ : ∃ n, FU = n + 2 := ⟨FU - 2, by unfold FU; omega⟩
  have hn2 : 100 < n := by unfold FU at hn; omega
  obtain ⟨e, he⟩ : ∃ e, P 20 3 = e + 1 := ⟨P 20 3 - 1, by omega⟩
  have hb := tmN_le (x := x) hO hc 0
  obtain ⟨T1, e1, k1⟩ := time107 hR hO h0 hx hc (show 0 < P 20 3 by omega) K (n + 1) x2 x3 x4 (-1) (-1)
  rw [hn, show (0 : Int32) = nI 0 from rfl, e1]
  unfold clN
  rw [he, apR]
  unfold f_X8_close_b123 f_X8_close_b137 f_X8_close_b144 f_X8_close_b160
  rw [if_pos (show nI 0 = (0 : Int32) from rfl), lett_e, lett_e]
  by_cases hz : tmN P x cap 0 = 0
  · have stop : ∀ a b c, f_X8_close_l65 K (n + 1) (nI x) x2 x3 x4 (nI cap) a b 0 c T1 = f_X8_close_b168 K (nI x) x2 x3 x4 (nI cap) a b 0 T1 := by
      intro a b c
      rw [f_X8_close_l65, if_pos i00]
      split <;> rfl
    rw [if_pos hz, if_pos hz, stop, stop]
    by_cases q2 : encT (tmN P x cap 0) ≤ -1
    · rw [if_pos q2]; exact ⟨T1, _, _, 0, rfl, k1, fun _ => rfl, fun q => absurd rfl q⟩
    · rw [if_neg q2]; exact ⟨T1, _, _, 0, rfl, k1, fun _ => rfl, fun q => absurd rfl q⟩
  · rw [if_neg hz, if_neg hz, show encT (tmN P x cap 0) = nI (tmN P x cap 0 - 1) from by unfold encT; rw [if_neg hz], if_neg (nlem1 (by omega)), nI_1, show (if tmN P x cap 0 - 1 < 12000 then tmN P x cap 0 - 1 else 12000) = tmN P x cap 0 - 1 from by split <;> omega]
    have hmx : (if 0 < tmN P x cap 0 - 1 then tmN P x cap 0 - 1 else 0) = tmN P x cap 0 - 1 := by split <;> omega
    rw [hmx]
    obtain ⟨T2, a, b, c, e2, k2, r1, r2⟩ := apart8 hO h0 hx hc K x2 x3 x4 e (n + 1) 1 (tmN P x cap 0 - 1) (tmN P x cap 0 - 1) T1 (by omega) (by omega) (by omega) (by omega) (by omega) (hR.km h8 k1)
    exact ⟨T2, a, b, c, e2, k1.tr k2, r1, r2⟩
theorem cU_b {f : Nat → Nat} {B : Nat} (hf : ∀ d, d < 90 → f (10 + d) ≤ B) : ∀ d, d ≤ 90 → (cU f d).1 ≤ B ∧ (cU f d).2 < 10 + d + 1 := by
  intro d
  induction d with
  | zero => intro _; exact ⟨Nat.zero_le _, by show 0 < _; omega⟩
  | succ d ih =>
    intro h
    obtain ⟨a, b⟩ := ih (by omega)
    rw [cU]
    by_cases c : f (10 + d) ≠ 0 ∧ ((cU f d).1 = 0 ∨ f (10 + d) ≤ (cU f d).1)
    · rw [if_pos c]; exact ⟨hf d (by omega), by show 10 + d < _; omega⟩
    · rw [if_neg c]; exact ⟨a, by omega⟩
theorem close8 {P : Dt} {t x : Nat} (hO : OK P t) (h0 : P 20 1 ≠ 0) (h3 : P 20 3 ≠ 0) (hx : x ≤ 17000) (x2 : Int32) : ∀ (e n d : Nat) (T : St), d + e = 90 → e < n → RM P T → ∃ T1, f_X8_close_l46 n (nI x) x2 (encW (cU (clN P x) d).1 (cU (clN P x) d).2) (nI ((cU (clN P x) d).1 - 1)) (nI (10 + d)) T = some (if x2 = 0 then encW (cU (clN P x) 90).1 (cU (clN P x) 90).2 else encT (cU (clN P x) 90).1, T1) ∧ KM T T1 := by
  have h8 := hO.h8
  have hf : ∀ d, d < 90 → clN P x (10 + d) ≤ 12001 := fun d hd => clN_le hO (by omega)
  intro e
  induction e with
  | zero =>
    intro n d T hd hn hR
    obtain ⟨n, rfl⟩ : ∃ m, n = m + 1 := ⟨n - 1, by omega⟩
    obtain rfl : d = 90 := by omega
    obtain ⟨b1, b2⟩ := cU_b hf 90 (by omega)
    refine ⟨T, ?_, KM.rf T⟩
    rw [f_X8_close_l46, if_pos (by decide)]
    unfold f_X8_close_b239
    by_cases hz : (cU (clN P x) 90).1 = 0
    · rw [if_pos (show encW (cU (clN P x) 90).1 (cU (clN P x) 90).2 = -1 from by unfold encW; rw [if_pos hz])]
      by_cases h : x2 = 0
      · rw [if_pos h]
      · rw [if_neg h]
        unfold encW encT
        rw [if_pos hz, if_pos hz]
    · rw [if_neg (fun q => hz ((encW_n (by omega)).mp q))]
      by_cases h : x2 = 0
      · rw [if_pos h, if_pos h]
      · rw [if_neg h, if_neg h]
        unfold encT
        rw [if_neg hz]
  | succ e ih =>
    intro n d T hd hn hR
    obtain ⟨n, rfl⟩ : ∃ m, n = m + 1 := ⟨n - 1, by omega⟩
    obtain ⟨b1, b2⟩ := cU_b hf d (by omega)
    have hcl := hf d (by omega)
    obtain ⟨T1, x6, x7, x8, e1, k1, r1, r2⟩ := apart80 hR hO h0 h3 hx (show 10 ≤ 10 + d ∧ 10 + d ≤ 99 by omega) (f_X8_close_l46 n) x2 (encW (cU (clN P x) d).1 (cU (clN P x) d).2) (nI ((cU (clN P x) d).1 - 1))
    obtain ⟨T2, e2, k2⟩ := ih n (d + 1) T1 (by omega) (by omega) (hR.km h8 k1)
    refine ⟨T2, ?_, k1.tr k2⟩
    rw [f_X8_close_l46, if_neg (show ¬ (100 : Int32) ≤ nI (10 + d) from nI_ge (b := 100) (by omega) (by decide)), e1]
    unfold f_X8_close_b168 f_X8_close_b192 f_X8_close_b188 f_X8_close_b193 f_X8_close_b206 f_X8_close_b222
    rw [if_pos i00, if_pos i00, if_neg i10, if_neg i10, lett_e, lett_e, nI_1, show 10 + d + 1 = 10 + (d + 1) by omega]
    by_cases hz : clN P x (10 + d) = 0
    · have hu : cU (clN P x) (d + 1) = cU (clN P x) d := by rw [cU, if_neg (fun q => q.1 hz)]
      rw [hu] at e2
      rw [r1 hz, if_pos i00]
      exact e2
    · obtain ⟨r3, r4⟩ := r2 hz
      rw [r3, if_neg i10, r4]
      by_cases hb0 : (cU (clN P x) d).1 = 0
      · have hu : cU (clN P x) (d + 1) = (clN P x (10 + d), 10 + d) := by rw [cU, if_pos ⟨hz, Or.inl hb0⟩]
        rw [hu, show encW (clN P x (10 + d), 10 + d).1 (clN P x (10 + d), 10 + d).2 = nI (10 + d) from by unfold encW; rw [if_neg hz]] at e2
        rw [if_pos (show encW (cU (clN P x) d).1 (cU (clN P x) d).2 = -1 from by unfold encW; rw [if_pos hb0])]
        exact e2
      · rw [if_neg (fun q => hb0 ((encW_n (by omega)).mp q))]
        by_cases hq : clN P x (10 + d) ≤ (cU (clN P x) d).1
        · have hu : cU (clN P x) (d + 1) = (clN P x (10 + d), 10 + d) := by rw [cU, if_pos ⟨hz, Or.inr hq⟩]
          rw [hu, show encW (clN P x (10 + d), 10 + d).1 (clN P x (10 + d), 10 + d).2 = nI (10 + d) from by unfold encW; rw [if_neg hz]] at e2
          rw [if_neg (fun q => by have := (nI_ltI (by omega) (by omega)).mp q; omega)]
          exact e2
        · have hu : cU (clN P x) (d + 1) = cU (clN P x) d := by rw [cU, if_neg (fun q => q.2.elim hb0 hq)]
          rw [hu] at e2
          rw [if_pos ((nI_ltI (by omega) (by omega)).mpr (by omega))]
          exact e2
theorem op_close (x1 x2 : Int32) : Op (f_X7_close x1 x2) (f_X8_close x1 x2) := by
  refine Op.ask (fun t P hO => ?_)
  have h8 := hO.h8
  have h12 := hO.h12
  by_cases hh : P 20 1 = 0
  · refine ⟨-103, fun S hR => ⟨S, ?_, KC.rf S⟩, fun T hR => ⟨T, ?_, KM.rf T⟩⟩
    · unfold f_X7_close
      rw [hR.2.2.1, hh, if_pos (by decide)]
    · unfold f_X8_close
      rw [l8n hR hh, bnd_some, if_neg i10]
  by_cases h3 : P 20 3 = 0
  · refine ⟨-103, fun S hR => ⟨S, ?_, KC.rf S⟩, fun T hR => ⟨T, ?_, KM.rf T⟩⟩
    · unfold f_X7_close
      rw [hR.2.2.1, if_neg (fun q => hh ((nI0 (by omega)).mp q)), hR.2.2.2.2.2.1, h3, if_pos (by decide)]
    · unfold f_X8_close
      rw [l8y hO hR hh, bnd_some, if_pos i00, hR.2.2.2.2.2.1, h3, if_pos (by decide)]
  by_cases hs : isSw x1
  · by_cases hw : 0 ≤ x2 ∧ x2 ≤ 1
    · obtain ⟨x, hx, rfl⟩ := isSw_nI hs
      refine ⟨if x2 = 0 then encW (cU (clN P x) 90).1 (cU (clN P x) 90).2 else encT (cU (clN P x) 90).1, fun S hR => ?_, fun T hR => ?_⟩
      · obtain ⟨S1, e1, k1, b1⟩ := f_clear S
        have kk : KC S S1 := fun c hc => k1 c (by omega)
        obtain ⟨S2, e2, k2⟩ := close7 hO hh h3 (show x ≤ 17000 by omega) x2 90 FU 0 0 S1 (by omega) (by unfold FU; omega) (by omega) (hR.kc h8 kk) b1
        refine ⟨S2, ?_, kk.tr k2⟩
        unfold f_X7_close
        rw [hR.2.2.1, if_neg (fun q => hh ((nI0 (by omega)).mp q)), hR.2.2.2.2.2.1, if_neg (fun q => h3 ((nI0 (by omega)).mp q)), s7y hs, bnd_some, if_neg i10, w7y hw, bnd_some, if_neg i10, e1, bnd_some]
        have e2' : f_X7_close_l49 FU (nI x) x2 99 S1 = _ := e2
        rw [e2']
        by_cases hz : (cU (clN P x) 90).1 = 0
        · have hcd : cD (clN P x) 90 0 0 = (0, 0) := by rw [cD_cU, if_neg (fun q => q.1 hz)]
          rw [hcd]
          by_cases h : x2 = 0
          · rw [if_pos h, if_pos h]
            unfold encW
            rw [if_pos hz, if_pos rfl]
          · rw [if_neg h, if_neg h, hz]
        · have hcd : cD (clN P x) 90 0 0 = cU (clN P x) 90 := by rw [cD_cU, if_pos ⟨hz, Or.inl rfl⟩]
          rw [hcd]
      · obtain ⟨T1, e1, k1⟩ := close8 hO hh h3 (show x ≤ 17000 by omega) x2 90 FU 0 T (by omega) (by unfold FU; omega) hR
        refine ⟨T1, ?_, k1⟩
        unfold f_X8_close
        rw [l8y hO hR hh, bnd_some, if_pos i00, hR.2.2.2.2.2.1, if_neg (fun q => h3 ((nI0 (by omega)).mp q)), s8y hs, bnd_some, if_neg i10, in1y hw, bnd_some, if_neg i10]
        exact e1
    · refine ⟨-102, fun S hR => ⟨S, ?_, KC.rf S⟩, fun T hR => ⟨T, ?_, KM.rf T⟩⟩
      · unfold f_X7_close
        rw [hR.2.2.1, if_neg (fun q => hh ((nI0 (by omega)).mp q)), hR.2.2.2.2.2.1, if_neg (fun q => h3 ((nI0 (by omega)).mp q)), s7y hs, bnd_some, if_neg i10, w7n hw, bnd_some, if_pos i00]
      · unfold f_X8_close
        rw [l8y hO hR hh, bnd_some, if_pos i00, hR.2.2.2.2.2.1, if_neg (fun q => h3 ((nI0 (by omega)).mp q)), s8y hs, bnd_some, if_neg i10, in1n hw, bnd_some, if_pos i00]
  · refine ⟨-102, fun S hR => ⟨S, ?_, KC.rf S⟩, fun T hR => ⟨T, ?_, KM.rf T⟩⟩
    · unfold f_X7_close
      rw [hR.2.2.1, if_neg (fun q => hh ((nI0 (by omega)).mp q)), hR.2.2.2.2.2.1, if_neg (fun q => h3 ((nI0 (by omega)).mp q)), s7n hs, bnd_some, if_pos i00]
    · unfold f_X8_close
      rw [l8y hO hR hh, bnd_some, if_pos i00, hR.2.2.2.2.2.1, if_neg (fun q => h3 ((nI0 (by omega)).mp q)), s8n hs, bnd_some, if_pos i00]
