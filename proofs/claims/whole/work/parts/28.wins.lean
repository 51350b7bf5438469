-- ===== lowest terms =====
theorem gcd_step (a b : Nat) : Nat.gcd a b = Nat.gcd b (a % b) := by
  rw [Nat.gcd_comm a b, Nat.gcd_rec, Nat.gcd_comm]
theorem mod_half {b r : Nat} (h0 : 0 < r) (h : r < b) : 2 * (b % r) < b := by
  have h1 := Nat.mod_lt b h0
  have h2 := Nat.div_add_mod b r
  have h3 : 1 ≤ b / r := (Nat.le_div_iff_mul_le h0).mpr (by omega)
  have h4 : r * 1 ≤ r * (b / r) := Nat.mul_le_mul_left r h3
  omega
theorem nzL_lN {b : Nat} (h0 : 0 < b) (h : b < 2 ^ 63) : nzL (lN b) = true := by
  have : ¬ lN b = 0 := fun q => by
    have := (pk_lEQ (b := 0) h (by decide)).mp q
    omega
  simp [nzL, this]
theorem lN0 {b : Nat} (h : b < 2 ^ 63) : (lg_cmp (lN b) 0 = 0) ↔ b = 0 := by
  rw [lgc_eq]
  exact pk_lEQ (b := 0) h (by decide)
theorem lowest_l (l0 l2 : Int64) (x4 : Int32) (S : St) : ∀ (k n a b i : Nat), b < 2 ^ k → i + 2 * k ≤ 99 → 2 * k < n → a < 2 ^ 60 → k ≤ 40 → f_X7_lowest_l9 n l0 l2 x4 (lN a) (lN b) (nI i) S = f_X7_lowest_b44 l0 l2 x4 (lN (Nat.gcd a b)) S := by
  have base : ∀ (n a i : Nat), i ≤ 99 → f_X7_lowest_l9 (n + 1) l0 l2 x4 (lN a) (lN 0) (nI i) S = f_X7_lowest_b44 l0 l2 x4 (lN (Nat.gcd a 0)) S := by
    intro n a i hi
    rw [f_X7_lowest_l9, if_neg (show ¬ (100 : Int32) ≤ nI i from nI_ge (b := 100) (by omega) (by decide)), if_pos ((lN0 (by decide)).mpr rfl), Nat.gcd_zero_right]
  intro k
  induction k with
  | zero =>
    intro n a b i hb hi hn ha hk
    obtain ⟨n, rfl⟩ : ∃ m, n = m + 1 := ⟨n - 1, by omega⟩
    obtain rfl : b = 0 := by omega
    exact base n a i (by omega)
  | succ k ih =>
    intro n a b i hb hi hn ha hk
    obtain ⟨n, rfl⟩ : ∃ m, n = m + 2 := ⟨n - 2, by omega⟩
    by_cases h0 : b = 0
    · subst h0
      exact base (n + 1) a i (by omega)
    · have hbb : b < 2 ^ 41 := Nat.lt_of_lt_of_le hb (Nat.pow_le_pow_right (by decide) (by omega))
      have hr := Nat.mod_lt a (Nat.pos_of_ne_zero h0)
      rw [f_X7_lowest_l9, if_neg (show ¬ (100 : Int32) ≤ nI i from nI_ge (b := 100) (by omega) (by decide)), if_neg (fun q => h0 ((lN0 (by omega)).mp q)), nzL_lN (by omega) (by omega), grd_t, lett_e, lett_e, pk_lRem (by omega) (by omega) (by omega), nI_1, gcd_step a b]
      by_cases hr0 : a % b = 0
      · rw [hr0]
        exact base n b (i + 1) (by omega)
      · have hh := mod_half (Nat.pos_of_ne_zero hr0) hr
        rw [f_X7_lowest_l9, if_neg (show ¬ (100 : Int32) ≤ nI (i + 1) from nI_ge (b := 100) (by omega) (by decide)), if_neg (fun q => hr0 ((lN0 (by omega)).mp q)), nzL_lN (by omega) (by omega), grd_t, lett_e, lett_e, pk_lRem (by omega) (by omega) (by omega), nI_1, gcd_step b (a % b)]
        exact ih n (a % b) (b % (a % b)) (i + 1 + 1) (by rw [Nat.pow_succ] at hb; omega) (by omega) (by omega) (by omega) (by omega)
def lowN (v B part : Nat) : Nat := if part = 0 then v / Nat.gcd v B else B / Nat.gcd v B
theorem f_lowest {v B part : Nat} (hv : v < 2 ^ 40) (hB : 0 < B ∧ B < 2 ^ 27) (hp : part ≤ 1) (S : St) : f_X7_lowest (lN v) (lN B) (nI part) S = some (lN (lowN v B part), S) := by
  unfold f_X7_lowest
  rw [show (0 : Int32) = nI 0 from rfl, lowest_l _ _ _ _ 27 FU v B 0 (by omega) (by omega) (by unfold FU; omega) (by omega) (by omega)]
  have hg : 0 < Nat.gcd v B := Nat.gcd_pos_of_pos_right _ hB.1
  have hgl : Nat.gcd v B ≤ B := Nat.gcd_le_right _ hB.1
  have b54 : ∀ u : Nat, u < 2 ^ 40 → f_X7_lowest_b54 (lN (Nat.gcd v B)) (lN u) S = some (lN (u / Nat.gcd v B), S) := by
    intro u hu
    unfold f_X7_lowest_b54
    rw [if_neg (fun q => by
      have h1 := (lgc_le _ _).mp q
      have h2 := (pk_lLE (b := 0) (by omega) (by decide)).mp h1
      omega), nzL_lN hg (by omega), grd_t, pk_lDiv (by omega) hg (by omega)]
  unfold f_X7_lowest_b44 lowN
  rcases (show part = 0 ∨ part = 1 by omega) with rfl | rfl
  · rw [if_pos (by decide), b54 v hv, if_pos rfl]
  · rw [if_neg (by decide), b54 B (by omega), if_neg (by decide)]
theorem common_l (S : St) : ∀ (k n x y : Nat), x < 2 ^ k → 2 * k < n → y < 2 ^ 30 → k ≤ 30 → f_X8_common_l4 n (nI x) (nI y) S = some (nI (Nat.gcd x y), S) := by
  have base : ∀ (n y : Nat), f_X8_common_l4 (n + 1) (nI 0) (nI y) S = some (nI (Nat.gcd 0 y), S) := by
    intro n y
    rw [f_X8_common_l4, if_pos (by decide), Nat.gcd_zero_left]
  intro k
  induction k with
  | zero =>
    intro n x y hx hn hy hk
    obtain ⟨n, rfl⟩ : ∃ m, n = m + 1 := ⟨n - 1, by omega⟩
    obtain rfl : x = 0 := by omega
    exact base n y
  | succ k ih =>
    intro n x y hx hn hy hk
    obtain ⟨n, rfl⟩ : ∃ m, n = m + 2 := ⟨n - 2, by omega⟩
    by_cases h0 : x = 0
    · subst h0
      exact base (n + 1) y
    · have hxx : x < 2 ^ 30 := Nat.lt_of_lt_of_le hx (Nat.pow_le_pow_right (by decide) (by omega))
      have hr := Nat.mod_lt y (Nat.pos_of_ne_zero h0)
      rw [f_X8_common_l4, if_neg (fun q => h0 ((nI0 (by omega)).mp q)), nz_nI (by omega) (by omega), grd_t, lett_e, pk_rem (by omega) (by omega) (by omega), Nat.gcd_rec x y]
      by_cases hr0 : y % x = 0
      · rw [hr0]
        exact base n x
      · have hh := mod_half (Nat.pos_of_ne_zero hr0) hr
        rw [f_X8_common_l4, if_neg (fun q => hr0 ((nI0 (by omega)).mp q)), nz_nI (by omega) (by omega), grd_t, lett_e, pk_rem (by omega) (by omega) (by omega), Nat.gcd_rec (y % x) x]
        exact ih n (x % (y % x)) (y % x) (by rw [Nat.pow_succ] at hx; omega) (by omega) (by omega) (by omega)
theorem f_wins157 {v part : Nat} (hv : v ≤ 2000) (hp : part ≤ 1) (S : St) : f_X8_wins_b157 (nI part) (nI v) S = some (nI (lowN v 1000 part), S) := by
  unfold f_X8_wins_b157 f_X8_common
  rw [show (1000 : Int32) = nI 1000 from rfl, common_l S 11 FU v 1000 (by omega) (by unfold FU; omega) (by omega) (by omega), bnd_some]
  have hg : 0 < Nat.gcd v 1000 := Nat.gcd_pos_of_pos_right _ (by decide)
  have hgl : Nat.gcd v 1000 ≤ 1000 := Nat.gcd_le_right _ (by decide)
  unfold lowN
  rcases (show part = 0 ∨ part = 1 by omega) with rfl | rfl
  · rw [if_pos (by decide), nz_nI hg (by omega), grd_t, pk_div (by omega) hg (by omega), if_pos rfl]
  · rw [if_neg (by decide), nz_nI hg (by omega), grd_t, pk_div (by omega) hg (by omega), if_neg (by decide)]
-- ===== four carts =====
/-- t: their times; how likely place a wins against b first, then one of c, d -/
def winN (t : Nat → Nat) (s a b c d : Nat) : Nat := chN (t a) (t b) s * (chN (t c) (t d) s * chN (t a) (t c) s + chN (t d) (t c) s * chN (t a) (t d) s)
theorem winN_sw (t : Nat → Nat) (s a b c d : Nat) : winN t s a b c d = winN t s a b d c := by unfold winN; rw [Nat.add_comm]
theorem winN_le (t : Nat → Nat) (s a b c d : Nat) : winN t s a b c d ≤ 2000 := by
  unfold winN
  have h1 : chN (t c) (t d) s * chN (t a) (t c) s ≤ 10 * 10 := mul_le (chN_le _ _ _) (chN_le _ _ _)
  have h2 : chN (t d) (t c) s * chN (t a) (t d) s ≤ 10 * 10 := mul_le (chN_le _ _ _) (chN_le _ _ _)
  have h3 := mul_le (chN_le (t a) (t b) s) (show chN (t c) (t d) s * chN (t a) (t c) s + chN (t d) (t c) s * chN (t a) (t d) s ≤ 200 by omega)
  omega
def mate (w s : Nat) : Nat := [[0, 0, 0, 0], [1, 0, 3, 2], [2, 3, 0, 1], [3, 2, 1, 0]].getD s [] |>.getD w 0
theorem mate_tab : (List.range 4).all (fun w => (List.range 4).all (fun s => s == 0 || (decide ((nI w ^^^ nI s) &&& 3 = nI (mate w s)) && decide ((nI w ^^^ ((nI s - nI s / 3 * 3) + 1)) &&& 3 = nI (mate w (s % 3 + 1))) && decide ((nI w ^^^ (((nI s + 1) - (nI s + 1) / 3 * 3) + 1)) &&& 3 = nI (mate w ((s + 1) % 3 + 1))) && decide (nI w &&& 3 = nI w) && decide (mate w s < 4) && decide (mate w (s % 3 + 1) < 4) && decide (mate w ((s + 1) % 3 + 1) < 4)))) = true := by decide +kernel
theorem mate_of {w s : Nat} (hw : w < 4) (hs : 1 ≤ s ∧ s ≤ 3) : (nI w ^^^ nI s) &&& 3 = nI (mate w s) ∧ (nI w ^^^ ((nI s - nI s / 3 * 3) + 1)) &&& 3 = nI (mate w (s % 3 + 1)) ∧ (nI w ^^^ (((nI s + 1) - (nI s + 1) / 3 * 3) + 1)) &&& 3 = nI (mate w ((s + 1) % 3 + 1)) ∧ nI w &&& 3 = nI w ∧ mate w s < 4 ∧ mate w (s % 3 + 1) < 4 ∧ mate w ((s + 1) % 3 + 1) < 4 := by
  have h := List.all_eq_true.mp (List.all_eq_true.mp mate_tab w (List.mem_range.mpr hw)) s (List.mem_range.mpr (by omega))
  have h0 : (s == 0) = false := by simp; omega
  rw [h0, Bool.false_or] at h
  simp only [Bool.and_eq_true, decide_eq_true_eq] at h
  obtain ⟨⟨⟨⟨⟨⟨a1, a2⟩, a3⟩, a4⟩, a5⟩, a6⟩, a7⟩ := h
  exact ⟨a1, a2, a3, a4, a5, a6, a7⟩
theorem f_thousandths {t : Nat → Nat} {S : St} (ht : ∀ i, i < 4 → S 53 i = encT (t i) ∧ t i ≤ 12001) {w s sl : Nat} (hw : w < 4) (hs : 1 ≤ s ∧ s ≤ 3) (hsl : 1 ≤ sl ∧ sl ≤ 99) : f_X7_thousandths (nI w) (nI s) (nI sl) S = some (nI (winN t sl w (mate w s) (mate w (s % 3 + 1)) (mate w ((s + 1) % 3 + 1))), S) := by
  obtain ⟨a1, a2, a3, a4, a5, a6, a7⟩ := mate_of hw hs
  unfold f_X7_thousandths
  rw [a1, a2, a3, a4, nz3, inb_nI hw (by decide), inb_nI a5 (by decide), inb_nI a6 (by decide), inb_nI a7 (by decide), grd_t, lett_e, grd_t, lett_e, grd_t, grd_t, lett_e, grd_t, grd_t, lett_e, cl_nI (by omega), cl_nI (by omega), cl_nI (by omega), cl_nI (by omega)]
  have h1 := ht w hw
  have h2 := ht _ a5
  have h3 := ht _ a6
  have h4 := ht _ a7
  rw [h1.1, h2.1, h3.1, h4.1]
  rw [f_tenths (by omega) (by omega) hsl, bnd_some, f_tenths (by omega) (by omega) hsl, bnd_some, lett_e, f_tenths (by omega) (by omega) hsl, bnd_some, f_tenths (by omega) (by omega) hsl, bnd_some, lett_e, f_tenths (by omega) (by omega) hsl, bnd_some, pk_mul, pk_mul, nI_add, pk_mul]
  rfl
/-- the four times -/
def tf (P : Dt) (x a b c d : Nat) : Nat → Nat := fun i => if i = 0 then tN (dtOf P a) x else if i = 1 then tN (dtOf P b) x else if i = 2 then tN (dtOf P c) x else tN (dtOf P d) x
theorem f_takeTimes {P : Dt} {t a b c d x : Nat} {S : St} (hR : RC P S) (hO : OK P t) (ha : a < P 20 3) (hb : b < P 20 3) (hc : c < P 20 3) (hd : d < P 20 3) (h0 : P 20 1 ≠ 0) (hx : x ≤ 17000) : ∃ S1, f_X7_takeTimes (nI a) (nI b) (nI c) (nI d) (nI x) S = some ((), S1) ∧ KC S S1 ∧ ∀ i, i < 4 → S1 53 i = encT (tf P x a b c d i) ∧ tf P x a b c d i ≤ 12001 := by
  have h8 := hO.h8
  obtain ⟨S1, e1, k1⟩ := f_timeOf hR hO ha h0 hx
  have K1 : KC S (su S1 53 0 (encT (tN (dtOf P a) x))) := k1.kc.su 53 0 _ (by omega)
  obtain ⟨S2, e2, k2⟩ := f_timeOf (hR.kc h8 K1) hO hb h0 hx
  have K2 : KC S (su S2 53 1 (encT (tN (dtOf P b) x))) := (K1.tr k2.kc).su 53 1 _ (by omega)
  obtain ⟨S3, e3, k3⟩ := f_timeOf (hR.kc h8 K2) hO hc h0 hx
  have K3 : KC S (su S3 53 2 (encT (tN (dtOf P c) x))) := (K2.tr k3.kc).su 53 2 _ (by omega)
  obtain ⟨S4, e4, k4⟩ := f_timeOf (hR.kc h8 K3) hO hd h0 hx
  refine ⟨su S4 53 3 (encT (tN (dtOf P d) x)), ?_, (K3.tr k4.kc).su 53 3 _ (by omega), fun i hi => ?_⟩
  · unfold f_X7_takeTimes
    rw [e1, bnd_some, show inb 0 4 = true from by decide, grd_t, lett_e, show (0 : Int32).toNatClampNeg = 0 from by decide, e2, bnd_some, show inb 1 4 = true from by decide, grd_t, lett_e, show (1 : Int32).toNatClampNeg = 1 from by decide, e3, bnd_some, show inb 2 4 = true from by decide, grd_t, lett_e, show (2 : Int32).toNatClampNeg = 2 from by decide, e4, bnd_some, show inb 3 4 = true from by decide, grd_t, lett_e, show (3 : Int32).toNatClampNeg = 3 from by decide]
  · have q4 : S4 53 = su S3 53 2 (encT (tN (dtOf P c) x)) 53 := k4 53 (by omega)
    have q3 : S3 53 = su S2 53 1 (encT (tN (dtOf P b) x)) 53 := k3 53 (by omega)
    have q2 : S2 53 = su S1 53 0 (encT (tN (dtOf P a) x)) 53 := k2 53 (by omega)
    rcases (show i = 0 ∨ i = 1 ∨ i = 2 ∨ i = 3 by omega) with rfl | rfl | rfl | rfl
    · exact ⟨by rw [su_k (by decide), q4, su_k (by decide), q3, su_k (by decide), q2, su_s]; rfl, tN_le (MB_of hO ha) x⟩
    · exact ⟨by rw [su_k (by decide), q4, su_k (by decide), q3, su_s]; rfl, tN_le (MB_of hO hb) x⟩
    · exact ⟨by rw [su_k (by decide), q4, su_s]; rfl, tN_le (MB_of hO hc) x⟩
    · exact ⟨by rw [su_s]; rfl, tN_le (MB_of hO hd) x⟩
/-- the reference's: the carts at places a b c d of four -/
theorem f_winsOf {P : Dt} {t x s : Nat} {j : Nat → Nat} {T : St} (hR : RM P T) (hO : OK P t) (hj : ∀ i, i < 4 → j i < P 20 3) (h0 : P 20 1 ≠ 0) (hx : x ≤ 17000) (hs : 1 ≤ s ∧ s ≤ 99) {a b c d : Nat} (ha : a < 4) (hb : b < 4) (hc : c < 4) (hd : d < 4) : ∃ T1, f_X8_winsOf (nI (j a)) (nI (j b)) (nI (j c)) (nI (j d)) (nI x) (nI s) T = some (nI (winN (fun i => tN (dtOf P (j i)) x) s a b c d), T1) ∧ KM T T1 := by
  have h8 := hO.h8
  obtain ⟨T1, e1, k1⟩ := f_chanceOf hR hO (hj c hc) (hj d hd) h0 hx hs
  obtain ⟨T2, e2, k2⟩ := f_chanceOf (hR.km h8 k1) hO (hj a ha) (hj b hb) h0 hx hs
  obtain ⟨T3, e3, k3⟩ := f_chanceOf ((hR.km h8 k1).km h8 k2) hO (hj a ha) (hj c hc) h0 hx hs
  obtain ⟨T4, e4, k4⟩ := f_chanceOf (((hR.km h8 k1).km h8 k2).km h8 k3) hO (hj a ha) (hj d hd) h0 hx hs
  refine ⟨T4, ?_, ((k1.tr k2).tr k3).tr k4⟩
  unfold f_X8_winsOf
  have hsy := chN_sym (tN (dtOf P (j c)) x) (tN (dtOf P (j d)) x) s
  rw [e1, bnd_some, e2, bnd_some, e3, bnd_some, e4, bnd_some, show (10 : Int32) = nI 10 from rfl, pk_sub (chN_le _ _ _), show 10 - chN (tN (dtOf P (j c)) x) (tN (dtOf P (j d)) x) s = chN (tN (dtOf P (j d)) x) (tN (dtOf P (j c)) x) s by omega, pk_mul, pk_mul, nI_add, pk_mul]
  rfl
