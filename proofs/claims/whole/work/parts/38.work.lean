-- ===== work: the ways to spend, as numbers to the base 7 =====
def ed (c d : Nat) : Nat := c / 7 ^ d % 7
theorem ed_lt (c d : Nat) : ed c d < 7 := Nat.mod_lt _ (by decide)
theorem dd (c a b : Nat) : c / 7 ^ (a + b) = c / 7 ^ a / 7 ^ b := by rw [Nat.pow_add, Nat.div_div_eq_div_mul]
theorem sumT_front (f : Nat → Nat) : ∀ n, sumT f (n + 1) = f 0 + sumT (fun i => f (i + 1)) n := by
  intro n
  induction n with
  | zero => rw [sumT, sumT, sumT]; omega
  | succ n ih => rw [sumT, ih, sumT]; omega
theorem sumT_rev : ∀ (m : Nat) (f : Nat → Nat), sumT (fun k => f (m - 1 - k)) m = sumT f m := by
  intro m
  induction m with
  | zero => intro f; rfl
  | succ m ih =>
    intro f
    rw [sumT, sumT_front f m, ← ih (fun i => f (i + 1))]
    rw [sumT_congr (g := fun k => f (m - 1 - k + 1)) m (fun k hk => by show f (m + 1 - 1 - k) = _; congr 1; omega)]
    show _ + f (m + 1 - 1 - m) = _
    rw [show m + 1 - 1 - m = 0 by omega]
    omega
theorem sumT_add (f : Nat → Nat) (q : Nat) : ∀ n, sumT f (q + n) = sumT f q + sumT (fun i => f (q + i)) n := by
  intro n
  induction n with
  | zero => rw [sumT, Nat.add_zero, Nat.add_zero]
  | succ n ih => rw [← Nat.add_assoc, sumT, ih, sumT]; omega
theorem sumT_mono {f g : Nat → Nat} (n : Nat) (h : ∀ k, k < n → f k ≤ g k) : sumT f n ≤ sumT g n := by
  induction n with
  | zero => exact Nat.le_refl _
  | succ n ih =>
    rw [sumT, sumT]
    have := ih (fun k hk => h k (by omega))
    have := h n (by omega)
    omega
theorem sumT_z {f : Nat → Nat} (n : Nat) (h : ∀ k, k < n → f k = 0) : sumT f n = 0 := by
  induction n with
  | zero => rfl
  | succ n ih => rw [sumT, ih (fun k hk => h k (by omega)), h n (by omega)]
/-- every digit is to be had -/
def vW (m : Nat) (nn : Nat → Nat) (c : Nat) : Nat → Bool
  | 0 => true
  | d + 1 => vW m nn c d && decide (ed c d ≤ nn (m - 1 - d))
theorem vW_iff {m : Nat} {nn : Nat → Nat} {c : Nat} : ∀ n, vW m nn c n = true ↔ ∀ d, d < n → ed c d ≤ nn (m - 1 - d) := by
  intro n
  induction n with
  | zero => exact ⟨fun _ d hd => absurd hd (Nat.not_lt_zero _), fun _ => rfl⟩
  | succ n ih =>
    rw [vW, Bool.and_eq_true, decide_eq_true_eq, ih]
    refine ⟨fun h d hd => ?_, fun h => ⟨fun d hd => h d (by omega), h n (by omega)⟩⟩
    rcases Nat.lt_or_ge d n with w | w
    · exact h.1 d w
    · obtain rfl : d = n := by omega
      exact h.2
def okW (m B : Nat) (nn : Nat → Nat) (c : Nat) : Prop := vW m nn c m = true ∧ sumT (ed c) m ≤ B
theorem ed_hi {c e q d : Nat} (h : e / 7 ^ q = c / 7 ^ q) (hd : q ≤ d) : ed e d = ed c d := by
  unfold ed
  obtain ⟨a, rfl⟩ : ∃ a, d = q + a := ⟨d - q, by omega⟩
  rw [dd, dd, h]
/-- nothing to be had between c and where its last q digits are done -/
def deadW (m B : Nat) (nn : Nat → Nat) (c q : Nat) : Prop := ∀ e, c < e → e / 7 ^ q = c / 7 ^ q → ¬ okW m B nn e
theorem dead0 (m B : Nat) (nn : Nat → Nat) (c : Nat) : deadW m B nn c 0 := fun e h1 h2 => by
  rw [Nat.pow_zero, Nat.div_one, Nat.div_one] at h2
  omega
theorem sum_split (c m q : Nat) (hq : q < m) : sumT (ed c) m = sumT (ed c) q + ed c q + sumT (fun i => ed c (q + 1 + i)) (m - q - 1) := by
  have h := sumT_add (ed c) (q + 1) (m - q - 1)
  rw [show q + 1 + (m - q - 1) = m by omega, sumT] at h
  exact h
theorem dead1 {m B : Nat} {nn : Nat → Nat} {c q : Nat} (hq : q < m) (hD : deadW m B nn c q) (hf : B ≤ sumT (ed c) m - sumT (ed c) q ∨ nn (m - 1 - q) ≤ ed c q) : deadW m B nn c (q + 1) := by
  intro e h1 h2
  have hge : c / 7 ^ q ≤ e / 7 ^ q := Nat.div_le_div_right (Nat.le_of_lt h1)
  by_cases heq : e / 7 ^ q = c / 7 ^ q
  · exact hD e h1 heq
  · intro hv
    have h3 : e / 7 ^ q / 7 = c / 7 ^ q / 7 := by
      have := h2
      rw [dd, dd, Nat.pow_one] at this
      exact this
    have hlt : ed c q < ed e q := by unfold ed; omega
    rcases hf with hf | hf
    · have s1 := sum_split c m q hq
      have s2 := sum_split e m q hq
      rw [sumT_congr (f := fun i => ed e (q + 1 + i)) (g := fun i => ed c (q + 1 + i)) _ (fun k _ => ed_hi h2 (by omega))] at s2
      have := hv.2
      omega
    · have := (vW_iff m).mp hv.1 q hq
      omega
/-- the way after c, its digit q raised -/
def nxW (c q : Nat) : Nat := (c / 7 ^ q + 1) * 7 ^ q
theorem nx_gt (c q : Nat) : c < nxW c q := by
  unfold nxW
  have h1 := Nat.div_add_mod c (7 ^ q)
  have h2 := Nat.mod_lt c (show 0 < 7 ^ q from Nat.pow_pos (by decide))
  rw [Nat.succ_mul, Nat.mul_comm]
  omega
theorem nx_div (c q : Nat) : nxW c q / 7 ^ q = c / 7 ^ q + 1 := Nat.mul_div_cancel _ (Nat.pow_pos (by decide))
theorem nx_hi {c q d : Nat} (h6 : ed c q < 6) (hd : q < d) : nxW c q / 7 ^ d = c / 7 ^ d := by
  obtain ⟨a, rfl⟩ : ∃ a, d = q + (1 + a) := ⟨d - q - 1, by omega⟩
  rw [dd, dd, nx_div, dd, dd, Nat.pow_one]
  congr 1
  unfold ed at h6
  omega
theorem nx_ed {c q : Nat} (h6 : ed c q < 6) (d : Nat) : ed (nxW c q) d = if d < q then 0 else if d = q then ed c q + 1 else ed c d := by
  by_cases h1 : d < q
  · rw [if_pos h1]
    unfold ed nxW
    obtain ⟨a, ha⟩ : ∃ a, q = d + (1 + a) := ⟨q - d - 1, by omega⟩
    rw [show 7 ^ q = 7 ^ d * (7 * 7 ^ a) from by rw [ha, Nat.pow_add, Nat.pow_add, Nat.pow_one], Nat.mul_left_comm, Nat.mul_div_cancel_left _ (Nat.pow_pos (by decide)), Nat.mul_left_comm, Nat.mul_mod_right]
  · rw [if_neg h1]
    by_cases h2 : d = q
    · subst h2
      rw [if_pos rfl]
      unfold ed at h6 ⊢
      rw [nx_div]
      omega
    · rw [if_neg h2]
      unfold ed
      rw [nx_hi h6 (by omega)]
theorem nx_dead {m B : Nat} {nn : Nat → Nat} {c q : Nat} (hD : deadW m B nn c q) {e : Nat} (h1 : c < e) (h2 : e < nxW c q) : ¬ okW m B nn e := by
  refine hD e h1 ?_
  have a1 : c / 7 ^ q ≤ e / 7 ^ q := Nat.div_le_div_right (Nat.le_of_lt h1)
  have a2 : e / 7 ^ q < c / 7 ^ q + 1 := (Nat.div_lt_iff_lt_mul (Nat.pow_pos (by decide))).mpr h2
  omega
theorem nx_ok {m B : Nat} {nn : Nat → Nat} {c q : Nat} (hq : q < m) (h6 : ed c q < 6) (hv : vW m nn c m = true) (h1 : sumT (ed c) m - sumT (ed c) q < B) (h2 : ed c q < nn (m - 1 - q)) : okW m B nn (nxW c q) := by
  refine ⟨(vW_iff m).mpr (fun d hd => ?_), ?_⟩
  · rw [nx_ed h6]
    have := (vW_iff m).mp hv d hd
    by_cases a : d < q
    · rw [if_pos a]; omega
    · rw [if_neg a]
      by_cases b : d = q
      · subst b; rw [if_pos rfl]; omega
      · rw [if_neg b]; exact this
  · rw [sum_split (nxW c q) m q hq, sumT_z q (fun k hk => by rw [nx_ed h6, if_pos hk]), nx_ed h6, if_neg (Nat.lt_irrefl _), if_pos rfl, sumT_congr (g := fun i => ed c (q + 1 + i)) _ (fun k _ => by show ed (nxW c q) (q + 1 + k) = _; rw [nx_ed h6, if_neg (by omega), if_neg (by omega)])]
    have := sum_split c m q hq
    omega
theorem nx_lt {m c q : Nat} (hq : q < m) (h6 : ed c q < 6) (hc : c < 7 ^ m) : nxW c q < 7 ^ m := by
  have h := nx_hi h6 hq
  rw [Nat.div_eq_of_lt hc] at h
  have hp : 0 < 7 ^ m := Nat.pow_pos (by decide)
  exact Nat.lt_of_div_eq_zero hp h
/-- how many may come before -/
def rk : Nat → Nat
  | 0 => 0
  | c + 1 => rk c + (if sumT (ed c) 5 ≤ 6 then 1 else 0)
def rkB : Nat → Nat → Nat
  | 0, lo => if sumT (ed lo) 5 ≤ 6 then 1 else 0
  | k + 1, lo => rkB k lo + rkB k (lo + 2 ^ k)
theorem rk_B : ∀ k lo, rk (lo + 2 ^ k) = rk lo + rkB k lo := by
  intro k
  induction k with
  | zero => intro lo; rw [Nat.pow_zero, rk, rkB]
  | succ k ih =>
    intro lo
    rw [Nat.pow_succ, show lo + 2 ^ k * 2 = (lo + 2 ^ k) + 2 ^ k by omega, ih, ih, rkB]
    omega
theorem rk_mono : ∀ d c, rk c ≤ rk (c + d) := by
  intro d
  induction d with
  | zero => intro c; exact Nat.le_refl _
  | succ d ih =>
    intro c
    have := ih c
    rw [← Nat.add_assoc, rk]
    omega
theorem rkB_15 : rkB 15 0 ≤ 999 := by decide +kernel
theorem rk_le {c : Nat} (h : c ≤ 2 ^ 15) : rk c ≤ 999 := by
  have h1 := rk_B 15 0
  have h2 := rkB_15
  have h3 := rk_mono (2 ^ 15 - c) c
  rw [show c + (2 ^ 15 - c) = 0 + 2 ^ 15 by omega, h1, rk] at h3
  omega
theorem pow7 {m : Nat} (hm : m ≤ 5) : 7 ^ m ≤ 16807 ∧ 1 ≤ 7 ^ m := by
  rcases (show m = 0 ∨ m = 1 ∨ m = 2 ∨ m = 3 ∨ m = 4 ∨ m = 5 by omega) with rfl | rfl | rfl | rfl | rfl | rfl <;> decide
theorem rk_step {m B c c' : Nat} {nn : Nat → Nat} (hm : m ≤ 5) (hB : B ≤ 6) (hc : c < 7 ^ m) (hok : okW m B nn c) (h : c < c') {i : Nat} (hi : i ≤ rk c) : i + 1 ≤ rk c' := by
  have h1 : sumT (ed c) 5 = sumT (ed c) m := by
    have := sumT_add (ed c) m (5 - m)
    rw [show m + (5 - m) = 5 by omega, sumT_z (5 - m) (fun k _ => by
      show ed c (m + k) = 0
      unfold ed
      rw [dd, Nat.div_eq_of_lt hc, Nat.zero_div])] at this
    omega
  have h2 : rk (c + 1) = rk c + 1 := by rw [rk, if_pos (by have := hok.2; omega)]
  have h3 := rk_mono (c' - (c + 1)) (c + 1)
  rw [show c + 1 + (c' - (c + 1)) = c' by omega] at h3
  omega
theorem bB_skip {f : Nat → Nat} {d : Nat} : ∀ (d2 a bt bw : Nat), (∀ i, a ≤ i → i < a + d2 → f i = 0) → bB f (d2 + d) a bt bw = bB f d (a + d2) bt bw := by
  intro d2
  induction d2 with
  | zero => intro a bt bw _; rw [Nat.zero_add, Nat.add_zero]
  | succ d2 ih =>
    intro a bt bw h
    rw [show d2 + 1 + d = (d2 + d) + 1 by omega, bB_n (fun q => q.1 (h a (Nat.le_refl _) (by omega))), ih (a + 1) bt bw (fun i h1 h2 => h i (by omega) (by omega)), show a + 1 + d2 = a + (d2 + 1) by omega]
