-- ===== roots, quotients, what a loss takes =====
def isRoot (v r : Nat) : Prop := r * r ≤ v ∧ v < (r + 1) * (r + 1)
theorem isRoot_u {v r s : Nat} (h1 : isRoot v r) (h2 : isRoot v s) : r = s := by
  obtain ⟨a1, a2⟩ := h1
  obtain ⟨b1, b2⟩ := h2
  rcases Nat.lt_trichotomy r s with h | h | h
  · have := Nat.mul_le_mul (show r + 1 ≤ s by omega) (show r + 1 ≤ s by omega)
    omega
  · exact h
  · have := Nat.mul_le_mul (show s + 1 ≤ r by omega) (show s + 1 ≤ r by omega)
    omega
theorem sq_lt {r n : Nat} (h : r < n) (hn : n ≤ 300) : r * r < 2 ^ 31 := by
  have := Nat.mul_le_mul (show r ≤ 300 by omega) (show r ≤ 300 by omega)
  omega
theorem root6 (v : Nat) (hv : v < 65536) (S : St) : ∀ (k n r : Nat), r * r ≤ v → v < (r + 2 ^ (k + 1)) * (r + 2 ^ (k + 1)) → r + 2 ^ (k + 1) ≤ 256 → k + 1 < n → ∃ r', f_X6_root_l6 n (nI v) (nI r) (nI (2 ^ k)) S = some (nI r', S) ∧ isRoot v r' ∧ r' < 256 := by
  intro k
  induction k with
  | zero =>
    intro n r h1 h2 h3 hn
    obtain ⟨n, rfl⟩ : ∃ m, n = m + 2 := ⟨n - 2, by omega⟩
    rw [f_X6_root_l6, if_neg (nI_nle (by decide) (by decide)), nI_add, pk_mul]
    have e0 : ∀ x : Int32, f_X6_root_b25 (f_X6_root_l6 (n + 1)) (nI v) x (nI (2 ^ 0)) S = some (x, S) := by
      intro x
      unfold f_X6_root_b25
      rw [nz2, grd_t, lett_e, show (nI (2 ^ 0) / 2 : Int32) = 0 from by decide, f_X6_root_l6, if_pos (by decide)]
    have hq : (r + 2 ^ 0) * (r + 2 ^ 0) < 2 ^ 31 := sq_lt (n := 257) (by omega) (by omega)
    by_cases hc : v < (r + 2 ^ 0) * (r + 2 ^ 0)
    · rw [if_pos ((nI_ltI (by omega) hq).mpr hc), e0]
      exact ⟨r, rfl, ⟨h1, hc⟩, by omega⟩
    · rw [if_neg (fun h => hc ((nI_ltI (by omega) hq).mp h)), lett_e, e0]
      exact ⟨r + 1, rfl, ⟨by simpa using Nat.not_lt.mp hc, h2⟩, by omega⟩
  | succ k ih =>
    intro n r h1 h2 h3 hn
    obtain ⟨n, rfl⟩ : ∃ m, n = m + 1 := ⟨n - 1, by omega⟩
    have hp : 2 ^ (k + 1) ≤ 256 := by have : 2 ^ (k + 1 + 1) = 2 * 2 ^ (k + 1) := by rw [Nat.pow_succ]; omega
                                      omega
    have hp0 : 0 < 2 ^ (k + 1) := Nat.pos_of_ne_zero (by simp)
    have hh : 2 ^ (k + 1 + 1) = 2 ^ (k + 1) + 2 ^ (k + 1) := by rw [Nat.pow_succ (n := 2) (m := k + 1)]; omega
    rw [f_X6_root_l6, if_neg (nI_nle hp0 (by omega)), nI_add, pk_mul]
    have e0 : ∀ x : Int32, f_X6_root_b25 (f_X6_root_l6 n) (nI v) x (nI (2 ^ (k + 1))) S = f_X6_root_l6 n (nI v) x (nI (2 ^ k)) S := by
      intro x
      unfold f_X6_root_b25
      rw [nz2, grd_t, lett_e, show (2 : Int32) = nI 2 from rfl, pk_div (by omega) (by decide) (by decide), Nat.pow_succ, Nat.mul_div_cancel _ (by decide)]
    have hq : (r + 2 ^ (k + 1)) * (r + 2 ^ (k + 1)) < 2 ^ 31 := sq_lt (n := 257) (by omega) (by omega)
    by_cases hc : v < (r + 2 ^ (k + 1)) * (r + 2 ^ (k + 1))
    · rw [if_pos ((nI_ltI (by omega) hq).mpr hc), e0]
      exact ih n r h1 hc (by omega) (by omega)
    · rw [if_neg (fun h => hc ((nI_ltI (by omega) hq).mp h)), lett_e, e0]
      exact ih n (r + 2 ^ (k + 1)) (Nat.not_lt.mp hc) (by rw [hh, ← Nat.add_assoc] at h2; exact h2) (by omega) (by omega)
theorem root7 (v : Nat) (hv : v < 65536) (S : St) : ∃ r, f_X6_root (nI v) S = some (nI r, S) ∧ isRoot v r ∧ r < 256 := by
  unfold f_X6_root
  exact root6 v hv S 7 FU 0 (by omega) (by omega) (by decide) (by unfold FU; omega)
theorem root8l (v : Nat) (hv : v < 65536) (S : St) : ∀ (d n r : Nat), r + d = 256 → r * r ≤ v → d < n → ∃ r', f_X8_root_l2 n (nI v) (nI r) S = some (nI r', S) ∧ isRoot v r' ∧ r' < 256 := by
  intro d
  induction d with
  | zero =>
    intro n r h1 h2 hn
    obtain rfl : r = 256 := by omega
    omega
  | succ d ih =>
    intro n r h1 h2 hn
    obtain ⟨n, rfl⟩ : ∃ m, n = m + 1 := ⟨n - 1, by omega⟩
    have hq : (r + 1) * (r + 1) < 2 ^ 31 := sq_lt (n := 257) (by omega) (by omega)
    rw [f_X8_root_l2, nI_1, pk_mul]
    by_cases hc : v < (r + 1) * (r + 1)
    · rw [if_pos ((nI_ltI (by omega) hq).mpr hc)]
      exact ⟨r, rfl, ⟨h2, hc⟩, by omega⟩
    · rw [if_neg (fun h => hc ((nI_ltI (by omega) hq).mp h)), lett_e]
      exact ih n (r + 1) (by omega) (Nat.not_lt.mp hc) (by omega)
theorem root8 (v : Nat) (hv : v < 65536) (S : St) : ∃ r, f_X8_root (nI v) S = some (nI r, S) ∧ isRoot v r ∧ r < 256 := by
  unfold f_X8_root
  exact root8l v hv S 256 FU 0 (by omega) (by omega) (by unfold FU; omega)
/-- the two roots are one -/
theorem root78 (v : Nat) (h0 : 0 < v) (hv : v < 65536) (S T : St) : ∃ r, f_X6_root (nI v) S = some (nI r, S) ∧ f_X8_root (nI v) T = some (nI r, T) ∧ 0 < r ∧ r < 256 := by
  obtain ⟨r, a1, a2, a3⟩ := root7 v hv S
  obtain ⟨s, b1, b2, -⟩ := root8 v hv T
  obtain rfl := isRoot_u a2 b2
  refine ⟨r, a1, b1, ?_, a3⟩
  rcases Nat.eq_zero_or_pos r with h | h
  · subst h
    have := a2.2
    omega
  · exact h
theorem f_by (a b : Nat) (ha : a < 2 ^ 31) (h0 : 0 < b) (hb : b < 2 ^ 31) (S : St) : f_X7_by (nI a) (nI b) S = some (nI (a / b), S) := by
  unfold f_X7_by
  rw [if_neg (nI_nle h0 hb), nz_nI h0 hb, grd_t, pk_div ha h0 hb]
def takesN (kd v w hd dr sh bu : Nat) : Nat := if kd = 0 then v else if kd = 1 then 2 * v else if kd = 2 then v + v * sh else if kd = 3 then hd * v / (10 * w) else if kd = 4 then bu * (hd * v / 40) else v * dr
theorem nI_ne {a b : Nat} (ha : a < 2 ^ 31) (hb : b < 2 ^ 31) (h : a ≠ b) : ¬ nI a = nI b := fun q => h ((nI_eq ha hb).mp q)
theorem mul_le {a b x y : Nat} (h1 : a ≤ x) (h2 : b ≤ y) : a * b ≤ x * y := Nat.mul_le_mul h1 h2
theorem takesN_le {kd v w hd dr sh bu : Nat} (hv : v ≤ 9) (hw : 10 ≤ w) (hh : hd ≤ 20000) (hdr : dr ≤ 9) (hsh : sh ≤ 9) (hbu : bu ≤ 1) : takesN kd v w hd dr sh bu ≤ 20000 := by
  unfold takesN
  have h1 : hd * v ≤ hd * 9 := mul_le (Nat.le_refl _) hv
  have h2 : v * sh ≤ 9 * 9 := mul_le hv hsh
  have h3 : v * dr ≤ 9 * 9 := mul_le hv hdr
  have h4 : hd * v / (10 * w) ≤ hd * 9 / 100 := Nat.le_trans (Nat.div_le_div_right h1) (Nat.div_le_div_left (by omega) (by omega))
  have h5 : bu * (hd * v / 40) ≤ 1 * (hd * 9 / 40) := mul_le hbu (Nat.div_le_div_right h1)
  split
  · omega
  split
  · omega
  split
  · omega
  split
  · omega
  split
  · omega
  · omega
theorem f_takes7 (S : St) (k kd v w hd dr sh bu : Nat) (hk : k < 5) (e1 : S 45 k = nI kd) (e2 : S 46 k = nI v) (e3 : S 44 6 = nI w) (h1 : kd ≤ 5) (hv : v ≤ 9) (hw : 10 ≤ w ∧ w ≤ 99) (hh : hd ≤ 20000) (hdr : dr ≤ 9) (hsh : sh ≤ 9) (hbu : bu ≤ 1) : f_X6_takes (nI k) (nI hd) (nI dr) (nI sh) (nI bu) S = some (nI (takesN kd v w hd dr sh bu), S) := by
  have hm : hd * v ≤ 20000 * 9 := mul_le hh hv
  unfold f_X6_takes takesN
  rw [inb_nI hk (by decide), grd_t, lett_e, grd_t, cl_nI (by omega), e1, e2, e3]
  rcases (show kd = 0 ∨ kd = 1 ∨ kd = 2 ∨ kd = 3 ∨ kd = 4 ∨ kd = 5 by omega) with rfl | rfl | rfl | rfl | rfl | rfl
  · rfl
  · rw [if_pos (by rfl), if_neg (by decide), if_pos rfl, show (2 : Int32) = nI 2 from rfl, pk_mul]
  · rw [if_neg (by decide), if_pos (by rfl), if_neg (by decide), if_neg (by decide), if_pos rfl, pk_mul, nI_add]
  · rw [if_neg (by decide), if_neg (by decide), if_pos (by rfl), if_neg (by decide), if_neg (by decide), if_neg (by decide), if_pos rfl, pk_mul, show (10 : Int32) = nI 10 from rfl, pk_mul, f_by _ _ (by omega) (by omega) (by omega), bnd_some]
  · rw [if_neg (by decide), if_neg (by decide), if_neg (by decide), if_pos (by rfl), if_neg (by decide), if_neg (by decide), if_neg (by decide), if_neg (by decide), if_pos rfl, nz40, grd_t, pk_mul, show (40 : Int32) = nI 40 from rfl, pk_div (by omega) (by decide) (by decide), pk_mul]
  · rw [if_neg (by decide), if_neg (by decide), if_neg (by decide), if_neg (by decide), if_pos (by rfl), if_neg (by decide), if_neg (by decide), if_neg (by decide), if_neg (by decide), if_neg (by decide), pk_mul]
theorem f_takes8 (S : St) (k kd v w hd dr sh bu : Nat) (hk : k < 6) (e1 : S 65 k = nI kd) (e2 : S 66 k = nI v) (e3 : S 55 17 = nI w) (h1 : kd ≤ 5) (hv : v ≤ 9) (hw : 10 ≤ w ∧ w ≤ 99) (hh : hd ≤ 20000) (hdr : dr ≤ 9) (hsh : sh ≤ 9) (hbu : bu ≤ 1) : f_X8_takes (nI k) (nI hd) (nI dr) (nI sh) (nI bu) S = some (nI (takesN kd v w hd dr sh bu), S) := by
  have hm : hd * v ≤ 20000 * 9 := mul_le hh hv
  unfold f_X8_takes takesN
  rw [inb_nI hk (by decide), grd_t, lett_e, grd_t, cl_nI (by omega), e1, e2, e3]
  rcases (show kd = 0 ∨ kd = 1 ∨ kd = 2 ∨ kd = 3 ∨ kd = 4 ∨ kd = 5 by omega) with rfl | rfl | rfl | rfl | rfl | rfl
  · rfl
  · rw [if_neg (by decide), if_pos (by rfl), if_neg (by decide), if_pos rfl, show (2 : Int32) = nI 2 from rfl, pk_mul]
  · rw [if_neg (by decide), if_neg (by decide), if_pos (by rfl), if_neg (by decide), if_neg (by decide), if_pos rfl, pk_mul, nI_add]
  · rw [if_neg (by decide), if_neg (by decide), if_neg (by decide), if_pos (by rfl), if_neg (by decide), if_neg (by decide), if_neg (by decide), if_pos rfl, pk_mul, show (10 : Int32) = nI 10 from rfl, pk_mul, nz_nI (by omega) (by omega), grd_t, pk_div (by omega) (by omega) (by omega)]
  · rcases (show bu = 0 ∨ bu = 1 by omega) with rfl | rfl
    · rw [if_neg (by decide : ¬ nI 4 = (0 : Int32)), if_neg (by decide : ¬ nI 4 = (1 : Int32)), if_neg (by decide : ¬ nI 4 = (2 : Int32)), if_neg (by decide : ¬ nI 4 = (3 : Int32)), if_pos (by rfl : nI 4 = (4 : Int32)), if_neg (by decide : ¬ nI 0 = (1 : Int32)), if_neg (by decide), if_neg (by decide), if_neg (by decide), if_neg (by decide), if_pos rfl, Nat.zero_mul]; rfl
    · rw [if_neg (by decide : ¬ nI 4 = (0 : Int32)), if_neg (by decide : ¬ nI 4 = (1 : Int32)), if_neg (by decide : ¬ nI 4 = (2 : Int32)), if_neg (by decide : ¬ nI 4 = (3 : Int32)), if_pos (by rfl : nI 4 = (4 : Int32)), if_pos (by rfl : nI 1 = (1 : Int32)), if_neg (by decide), if_neg (by decide), if_neg (by decide), if_neg (by decide), if_pos rfl, Nat.one_mul, nz40, grd_t, pk_mul, show (40 : Int32) = nI 40 from rfl, pk_div (by omega) (by decide) (by decide)]
  · rw [if_neg (by decide), if_neg (by decide), if_neg (by decide), if_neg (by decide), if_neg (by decide), if_neg (by decide), if_neg (by decide), if_neg (by decide), if_neg (by decide), if_neg (by decide), pk_mul]
