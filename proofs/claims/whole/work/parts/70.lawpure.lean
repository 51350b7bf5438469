-- ===== the law over the pure functions =====
def S0 : St := fun c k => match c, k with
  | 0, 10 => 9
  | 44, 6 => 10
  | 44, 7 => 1
  | 51, 0 => -1
  | 51, 1 => -1
  | 55, 16 => 9
  | 55, 32 => -1
  | 9, 3 => 10
  | 12, 3 => 10
  | 15, 3 => 10
  | 18, 3 => 10
  | 21, 3 => 10
  | 24, 3 => 10
  | 27, 3 => 10
  | 30, 3 => 10
  | _, _ => 0
def P0 : Dt := fun a b => if a = 20 ∧ b = 4 then 9 else 0
theorem inv0 : Inv 0 S0 := by
  refine ⟨P0, ⟨Nat.zero_le _, fun j hj => absurd (show j < 0 from hj) (Nat.not_lt_zero _), Nat.zero_le _, fun j hj => absurd (show j < 0 from hj) (Nat.not_lt_zero _), ⟨Nat.le_refl _, fun h => absurd rfl h⟩, Nat.zero_le _, fun j hj => absurd (show j < 0 from hj) (Nat.not_lt_zero _), ⟨by decide, by decide⟩, Nat.zero_le _, fun j hj => absurd (show j < 0 from hj) (Nat.not_lt_zero _), Nat.le_refl _, fun h => absurd rfl h, Nat.zero_le _⟩, ?_, ?_⟩
  · exact ⟨rfl, fun j hj => absurd (show j < 0 from hj) (Nat.not_lt_zero _), rfl, fun j hj => absurd (show j < 0 from hj) (Nat.not_lt_zero _), rfl, rfl, fun j hj => absurd (show j < 0 from hj) (Nat.not_lt_zero _), rfl, rfl, fun j hj => absurd (show j < 0 from hj) (Nat.not_lt_zero _), rfl, fun h => absurd rfl h⟩
  · exact ⟨rfl, fun j hj => absurd (show j < 0 from hj) (Nat.not_lt_zero _), rfl, fun j hj => absurd (show j < 0 from hj) (Nat.not_lt_zero _), rfl, rfl, fun j hj => absurd (show j < 0 from hj) (Nat.not_lt_zero _), rfl, rfl, fun j hj => absurd (show j < 0 from hj) (Nat.not_lt_zero _), rfl, fun h => absurd rfl h⟩
theorem b1372 {L : Nat} {xs : Nat → Int32} {k : Int32 → St → Option (Int32 × St)} {t : Nat} {S : St} : f_law_b1372 L xs k (nI (9 * t)) S = k (nI (9 * (t + 1))) S := by
  unfold f_law_b1372
  rw [lett_e, show nI (9 * t) + 9 = nI (9 * t + 9) from nI_add (9 * t) 9, show 9 * t + 9 = 9 * (t + 1) by omega]
theorem lgc_r (x : Int64) : lg_cmp x x = 0 := (lgc_eq x x).mpr rfl
set_option maxRecDepth 100000 in
set_option maxHeartbeats 4000000 in
theorem law_loop {L : Nat} (hL : L ≤ 4608) (xs : Nat → Int32) : ∀ (d n t : Nat) (S : St), t + d = L / 9 → d < n → Inv t S → ∃ S', f_law_l18 L xs n (nI (9 * t)) S = some (1, S') := by
  intro d
  induction d with
  | zero =>
    intro n t S hd hn hI
    obtain ⟨n, rfl⟩ : ∃ k, n = k + 1 := ⟨n - 1, by omega⟩
    have hlt : nI L - 9 < nI (9 * t) := by
      rw [Int32.lt_iff_toInt_lt, show (nI L - 9).toInt = (L : Int) - 9 from pk_sub_toInt (a := L) (b := 9) (by omega) (by decide), nI_toInt (by omega)]
      omega
    rw [f_law_l18, if_pos hlt]
    exact ⟨S, rfl⟩
  | succ d ih =>
    intro n t S hd hn hI
    obtain ⟨n, rfl⟩ : ∃ k, n = k + 1 := ⟨n - 1, by omega⟩
    have ht : t < 600 := by omega
    have hge : ¬ nI L - 9 < nI (9 * t) := by
      rw [Int32.lt_iff_toInt_lt, show (nI L - 9).toInt = (L : Int) - 9 from pk_sub_toInt (a := L) (b := 9) (by omega) (by decide), nI_toInt (by omega)]
      omega
    have h0 : inb (nI (9 * t)) L = true := inb_nI (by omega) (by omega)
    have h1 : inb (nI (9 * t) + 1) L = true := by rw [show nI (9 * t) + 1 = nI (9 * t + 1) from nI_add (9 * t) 1]; exact inb_nI (by omega) (by omega)
    have h2 : inb (nI (9 * t) + 2) L = true := by rw [show nI (9 * t) + 2 = nI (9 * t + 2) from nI_add (9 * t) 2]; exact inb_nI (by omega) (by omega)
    have h3 : inb (nI (9 * t) + 3) L = true := by rw [show nI (9 * t) + 3 = nI (9 * t + 3) from nI_add (9 * t) 3]; exact inb_nI (by omega) (by omega)
    have h4 : inb (nI (9 * t) + 4) L = true := by rw [show nI (9 * t) + 4 = nI (9 * t + 4) from nI_add (9 * t) 4]; exact inb_nI (by omega) (by omega)
    have h5 : inb (nI (9 * t) + 5) L = true := by rw [show nI (9 * t) + 5 = nI (9 * t + 5) from nI_add (9 * t) 5]; exact inb_nI (by omega) (by omega)
    have h6 : inb (nI (9 * t) + 6) L = true := by rw [show nI (9 * t) + 6 = nI (9 * t + 6) from nI_add (9 * t) 6]; exact inb_nI (by omega) (by omega)
    have h7 : inb (nI (9 * t) + 7) L = true := by rw [show nI (9 * t) + 7 = nI (9 * t + 7) from nI_add (9 * t) 7]; exact inb_nI (by omega) (by omega)
    have h8 : inb (nI (9 * t) + 8) L = true := by rw [show nI (9 * t) + 8 = nI (9 * t + 8) from nI_add (9 * t) 8]; exact inb_nI (by omega) (by omega)
    obtain ⟨j, hj, ej⟩ := pk_andE (xs (nI (9 * t)).toNatClampNeg) (m := 31) 5 (by decide)
    have hj' : j < 32 := hj
    rw [f_law_l18, if_neg hge, h0, grd_t, ej, h1, h2, h3, h4, h5, h6, h7, h8]
    obtain ⟨a1, ha1⟩ : ∃ a, a = xs (nI (9 * t) + 1).toNatClampNeg := ⟨_, rfl⟩
    obtain ⟨a2, ha2⟩ : ∃ a, a = xs (nI (9 * t) + 2).toNatClampNeg := ⟨_, rfl⟩
    obtain ⟨a3, ha3⟩ : ∃ a, a = xs (nI (9 * t) + 3).toNatClampNeg := ⟨_, rfl⟩
    obtain ⟨a4, ha4⟩ : ∃ a, a = xs (nI (9 * t) + 4).toNatClampNeg := ⟨_, rfl⟩
    obtain ⟨a5, ha5⟩ : ∃ a, a = xs (nI (9 * t) + 5).toNatClampNeg := ⟨_, rfl⟩
    obtain ⟨a6, ha6⟩ : ∃ a, a = xs (nI (9 * t) + 6).toNatClampNeg := ⟨_, rfl⟩
    obtain ⟨a7, ha7⟩ : ∃ a, a = xs (nI (9 * t) + 7).toNatClampNeg := ⟨_, rfl⟩
    obtain ⟨a8, ha8⟩ : ∃ a, a = xs (nI (9 * t) + 8).toNatClampNeg := ⟨_, rfl⟩
    rw [← ha1, ← ha2, ← ha3, ← ha4, ← ha5, ← ha6, ← ha7, ← ha8]
    by_cases hk : j = 0
    · obtain ⟨r, S1, S2, e1, e2, hI2⟩ := Op.use (op_letters ((a1.toInt64 <<< ((32 : Int32).toInt64 &&& 63)) ||| (a2.toInt64 &&& 4294967295))) hI ht
      rw [if_pos (show nI j = (0 : Int32) from congrArg nI hk), grd_t, grd_t, e1, bnd_some, grd_t, grd_t, e2, bnd_some, if_pos rfl, b1372]
      exact ih n (t + 1) S2 (by omega) (by omega) hI2
    rw [if_neg (show ¬ nI j = (0 : Int32) from fun z => hk ((nIe (by omega) 0 (by omega)).mp z))]
    by_cases hk : j = 1
    · obtain ⟨r, S1, S2, e1, e2, hI2⟩ := Op.use (op_blank) hI ht
      rw [if_pos (show nI j = (1 : Int32) from congrArg nI hk), e1, bnd_some, e2, bnd_some, if_pos rfl, b1372]
      exact ih n (t + 1) S2 (by omega) (by omega) hI2
    rw [if_neg (show ¬ nI j = (1 : Int32) from fun z => hk ((nIe (by omega) 1 (by omega)).mp z))]
    by_cases hk : j = 2
    · obtain ⟨r, S1, S2, e1, e2, hI2⟩ := Op.use (op_fault a1) hI ht
      rw [if_pos (show nI j = (2 : Int32) from congrArg nI hk), grd_t, e1, bnd_some, grd_t, e2, bnd_some, if_pos rfl, b1372]
      exact ih n (t + 1) S2 (by omega) (by omega) hI2
    rw [if_neg (show ¬ nI j = (2 : Int32) from fun z => hk ((nIe (by omega) 2 (by omega)).mp z))]
    by_cases hk : j = 3
    · obtain ⟨r, S1, S2, e1, e2, hI2⟩ := Op.use (op_hill) hI ht
      rw [if_pos (show nI j = (3 : Int32) from congrArg nI hk), e1, bnd_some, e2, bnd_some, if_pos rfl, b1372]
      exact ih n (t + 1) S2 (by omega) (by omega) hI2
    rw [if_neg (show ¬ nI j = (3 : Int32) from fun z => hk ((nIe (by omega) 3 (by omega)).mp z))]
    by_cases hk : j = 4
    · obtain ⟨r, S1, S2, e1, e2, hI2⟩ := Op.use (op_cart) hI ht
      rw [if_pos (show nI j = (4 : Int32) from congrArg nI hk), e1, bnd_some, e2, bnd_some, if_pos rfl, b1372]
      exact ih n (t + 1) S2 (by omega) (by omega) hI2
    rw [if_neg (show ¬ nI j = (4 : Int32) from fun z => hk ((nIe (by omega) 4 (by omega)).mp z))]
    by_cases hk : j = 5
    · obtain ⟨r, S1, S2, e1, e2, hI2⟩ := Op.use (op_cell a1 a2) hI ht
      rw [if_pos (show nI j = (5 : Int32) from congrArg nI hk), grd_t, grd_t, e1, bnd_some, grd_t, grd_t, e2, bnd_some, if_pos rfl, b1372]
      exact ih n (t + 1) S2 (by omega) (by omega) hI2
    rw [if_neg (show ¬ nI j = (5 : Int32) from fun z => hk ((nIe (by omega) 5 (by omega)).mp z))]
    by_cases hk : j = 6
    · obtain ⟨r, S1, S2, e1, e2, hI2⟩ := Op.use (op_about a1 a2) hI ht
      rw [if_pos (show nI j = (6 : Int32) from congrArg nI hk), grd_t, grd_t, e1, bnd_some, grd_t, grd_t, e2, bnd_some, if_pos rfl, b1372]
      exact ih n (t + 1) S2 (by omega) (by omega) hI2
    rw [if_neg (show ¬ nI j = (6 : Int32) from fun z => hk ((nIe (by omega) 6 (by omega)).mp z))]
    by_cases hk : j = 7
    · obtain ⟨r, S1, S2, e1, e2, hI2⟩ := Op.use (op_loss a1 a2 a3) hI ht
      rw [if_pos (show nI j = (7 : Int32) from congrArg nI hk), grd_t, grd_t, grd_t, e1, bnd_some, grd_t, grd_t, grd_t, e2, bnd_some, if_pos rfl, b1372]
      exact ih n (t + 1) S2 (by omega) (by omega) hI2
    rw [if_neg (show ¬ nI j = (7 : Int32) from fun z => hk ((nIe (by omega) 7 (by omega)).mp z))]
    by_cases hk : j = 8
    · obtain ⟨r, S1, S2, e1, e2, hI2⟩ := Op.use (op_as a1 a2 a3) hI ht
      rw [if_pos (show nI j = (8 : Int32) from congrArg nI hk), grd_t, grd_t, grd_t, e1, bnd_some, grd_t, grd_t, grd_t, e2, bnd_some, if_pos rfl, b1372]
      exact ih n (t + 1) S2 (by omega) (by omega) hI2
    rw [if_neg (show ¬ nI j = (8 : Int32) from fun z => hk ((nIe (by omega) 8 (by omega)).mp z))]
    by_cases hk : j = 9
    · obtain ⟨r, S1, S2, e1, e2, hI2⟩ := Op.use (op_weigh a1 a2) hI ht
      rw [if_pos (show nI j = (9 : Int32) from congrArg nI hk), grd_t, grd_t, e1, bnd_some, grd_t, grd_t, e2, bnd_some, if_pos rfl, b1372]
      exact ih n (t + 1) S2 (by omega) (by omega) hI2
    rw [if_neg (show ¬ nI j = (9 : Int32) from fun z => hk ((nIe (by omega) 9 (by omega)).mp z))]
    by_cases hk : j = 10
    · obtain ⟨r, S1, S2, e1, e2, hI2⟩ := Op.use (op_grip a1) hI ht
      rw [if_pos (show nI j = (10 : Int32) from congrArg nI hk), grd_t, e1, bnd_some, grd_t, e2, bnd_some, if_pos rfl, b1372]
      exact ih n (t + 1) S2 (by omega) (by omega) hI2
    rw [if_neg (show ¬ nI j = (10 : Int32) from fun z => hk ((nIe (by omega) 10 (by omega)).mp z))]
    by_cases hk : j = 11
    · obtain ⟨r, S1, S2, e1, e2, hI2⟩ := Op.use (op_brake a1 a2) hI ht
      rw [if_pos (show nI j = (11 : Int32) from congrArg nI hk), grd_t, grd_t, e1, bnd_some, grd_t, grd_t, e2, bnd_some, if_pos rfl, b1372]
      exact ih n (t + 1) S2 (by omega) (by omega) hI2
    rw [if_neg (show ¬ nI j = (11 : Int32) from fun z => hk ((nIe (by omega) 11 (by omega)).mp z))]
    by_cases hk : j = 12
    · obtain ⟨r, S1, S2, e1, e2, hI2⟩ := Op.use (op_run a1 a2 a3) hI ht
      rw [if_pos (show nI j = (12 : Int32) from congrArg nI hk), grd_t, grd_t, grd_t, e1, bnd_some, grd_t, grd_t, grd_t, e2, bnd_some, if_pos rfl, b1372]
      exact ih n (t + 1) S2 (by omega) (by omega) hI2
    rw [if_neg (show ¬ nI j = (12 : Int32) from fun z => hk ((nIe (by omega) 12 (by omega)).mp z))]
    by_cases hk : j = 13
    · obtain ⟨r, S1, S2, e1, e2, hI2⟩ := Op.use (op_pace a1 a2 a3) hI ht
      rw [if_pos (show nI j = (13 : Int32) from congrArg nI hk), grd_t, grd_t, grd_t, e1, bnd_some, grd_t, grd_t, grd_t, e2, bnd_some, if_pos rfl, b1372]
      exact ih n (t + 1) S2 (by omega) (by omega) hI2
    rw [if_neg (show ¬ nI j = (13 : Int32) from fun z => hk ((nIe (by omega) 13 (by omega)).mp z))]
    by_cases hk : j = 14
    · obtain ⟨r, S1, S2, e1, e2, hI2⟩ := Op.use (op_lost a1 a2 a3) hI ht
      rw [if_pos (show nI j = (14 : Int32) from congrArg nI hk), grd_t, grd_t, grd_t, e1, bnd_some, grd_t, grd_t, grd_t, e2, bnd_some, if_pos rfl, b1372]
      exact ih n (t + 1) S2 (by omega) (by omega) hI2
    rw [if_neg (show ¬ nI j = (14 : Int32) from fun z => hk ((nIe (by omega) 14 (by omega)).mp z))]
    by_cases hk : j = 15
    · obtain ⟨r, S1, S2, e1, e2, hI2⟩ := Op.use (op_bestBrakes a1 a2 a3) hI ht
      rw [if_pos (show nI j = (15 : Int32) from congrArg nI hk), grd_t, grd_t, grd_t, e1, bnd_some, grd_t, grd_t, grd_t, e2, bnd_some, if_pos rfl, b1372]
      exact ih n (t + 1) S2 (by omega) (by omega) hI2
    rw [if_neg (show ¬ nI j = (15 : Int32) from fun z => hk ((nIe (by omega) 15 (by omega)).mp z))]
    by_cases hk : j = 16
    · obtain ⟨r, S1, S2, e1, e2, hI2⟩ := Op.use (op_bestPush a1 a2 a3) hI ht
      rw [if_pos (show nI j = (16 : Int32) from congrArg nI hk), grd_t, grd_t, grd_t, e1, bnd_some, grd_t, grd_t, grd_t, e2, bnd_some, if_pos rfl, b1372]
      exact ih n (t + 1) S2 (by omega) (by omega) hI2
    rw [if_neg (show ¬ nI j = (16 : Int32) from fun z => hk ((nIe (by omega) 16 (by omega)).mp z))]
    by_cases hk : j = 17
    · obtain ⟨r, S1, S2, e1, e2, hI2⟩ := Op.use (op_work a1 a2 a3 a4) hI ht
      rw [if_pos (show nI j = (17 : Int32) from congrArg nI hk), grd_t, grd_t, grd_t, grd_t, e1, bnd_some, grd_t, grd_t, grd_t, grd_t, e2, bnd_some, if_pos rfl, b1372]
      exact ih n (t + 1) S2 (by omega) (by omega) hI2
    rw [if_neg (show ¬ nI j = (17 : Int32) from fun z => hk ((nIe (by omega) 17 (by omega)).mp z))]
    by_cases hk : j = 18
    · obtain ⟨r, S1, S2, e1, e2, hI2⟩ := Op.use (op_weighed a1 a2 a3) hI ht
      rw [if_pos (show nI j = (18 : Int32) from congrArg nI hk), grd_t, grd_t, grd_t, e1, bnd_some, grd_t, grd_t, grd_t, e2, bnd_some, if_pos rfl, b1372]
      exact ih n (t + 1) S2 (by omega) (by omega) hI2
    rw [if_neg (show ¬ nI j = (18 : Int32) from fun z => hk ((nIe (by omega) 18 (by omega)).mp z))]
    by_cases hk : j = 19
    · obtain ⟨r, S1, S2, e1, e2, hI2⟩ := Op.use (op_close a1 a2) hI ht
      rw [if_pos (show nI j = (19 : Int32) from congrArg nI hk), grd_t, grd_t, e1, bnd_some, grd_t, grd_t, e2, bnd_some, if_pos rfl, b1372]
      exact ih n (t + 1) S2 (by omega) (by omega) hI2
    rw [if_neg (show ¬ nI j = (19 : Int32) from fun z => hk ((nIe (by omega) 19 (by omega)).mp z))]
    by_cases hk : j = 20
    · obtain ⟨r, S1, S2, e1, e2, hI2⟩ := Op.use (op_farthest a1 a2) hI ht
      rw [if_pos (show nI j = (20 : Int32) from congrArg nI hk), grd_t, grd_t, e1, bnd_some, grd_t, grd_t, e2, bnd_some, if_pos rfl, b1372]
      exact ih n (t + 1) S2 (by omega) (by omega) hI2
    rw [if_neg (show ¬ nI j = (20 : Int32) from fun z => hk ((nIe (by omega) 20 (by omega)).mp z))]
    by_cases hk : j = 21
    · obtain ⟨r, S1, S2, e1, e2, hI2⟩ := Op.use (op_coast a1 a2 a3) hI ht
      rw [if_pos (show nI j = (21 : Int32) from congrArg nI hk), grd_t, grd_t, grd_t, e1, bnd_some, grd_t, grd_t, grd_t, e2, bnd_some, if_pos rfl, b1372]
      exact ih n (t + 1) S2 (by omega) (by omega) hI2
    rw [if_neg (show ¬ nI j = (21 : Int32) from fun z => hk ((nIe (by omega) 21 (by omega)).mp z))]
    by_cases hk : j = 22
    · obtain ⟨r, S1, S2, e1, e2, hI2⟩ := Op.use (op_rubs) hI ht
      rw [if_pos (show nI j = (22 : Int32) from congrArg nI hk), e1, bnd_some, e2, bnd_some, if_pos rfl, b1372]
      exact ih n (t + 1) S2 (by omega) (by omega) hI2
    rw [if_neg (show ¬ nI j = (22 : Int32) from fun z => hk ((nIe (by omega) 22 (by omega)).mp z))]
    by_cases hk : j = 23
    · obtain ⟨r, S1, S2, e1, e2, hI2⟩ := Op.use (op_chance a1 a2 a3 a4) hI ht
      rw [if_pos (show nI j = (23 : Int32) from congrArg nI hk), grd_t, grd_t, grd_t, grd_t, e1, bnd_some, grd_t, grd_t, grd_t, grd_t, e2, bnd_some, if_pos rfl, b1372]
      exact ih n (t + 1) S2 (by omega) (by omega) hI2
    rw [if_neg (show ¬ nI j = (23 : Int32) from fun z => hk ((nIe (by omega) 23 (by omega)).mp z))]
    by_cases hk : j = 24
    · obtain ⟨r, S1, S2, e1, e2, hI2⟩ := Op.use (op_wins a1 a2 a3 a4 a5 a6 a7 a8) hI ht
      rw [if_pos (show nI j = (24 : Int32) from congrArg nI hk), grd_t, grd_t, grd_t, grd_t, grd_t, grd_t, grd_t, grd_t, e1, bnd_some, grd_t, grd_t, grd_t, grd_t, grd_t, grd_t, grd_t, grd_t, e2, bnd_some, if_pos rfl, b1372]
      exact ih n (t + 1) S2 (by omega) (by omega) hI2
    rw [if_neg (show ¬ nI j = (24 : Int32) from fun z => hk ((nIe (by omega) 24 (by omega)).mp z))]
    by_cases hk : j = 25
    · obtain ⟨r, S1, S2, e1, e2, hI2⟩ := Op.use (op_plan a1 a2 a3 a4 a5 a6) hI ht
      rw [if_pos (show nI j = (25 : Int32) from congrArg nI hk), grd_t, grd_t, grd_t, grd_t, grd_t, grd_t, e1, bnd_some, grd_t, grd_t, grd_t, grd_t, grd_t, grd_t, e2, bnd_some, if_pos rfl, b1372]
      exact ih n (t + 1) S2 (by omega) (by omega) hI2
    rw [if_neg (show ¬ nI j = (25 : Int32) from fun z => hk ((nIe (by omega) 25 (by omega)).mp z))]
    by_cases hk : j = 26
    · obtain ⟨r, S1, S2, e1, e2, hI2⟩ := Op.use (op_stays a1 a2 a3 a4 a5) hI ht
      rw [if_pos (show nI j = (26 : Int32) from congrArg nI hk), grd_t, grd_t, grd_t, grd_t, grd_t, e1, bnd_some, grd_t, grd_t, grd_t, grd_t, grd_t, e2, bnd_some, if_pos (lgc_r r), b1372]
      exact ih n (t + 1) S2 (by omega) (by omega) hI2
    rw [if_neg (show ¬ nI j = (26 : Int32) from fun z => hk ((nIe (by omega) 26 (by omega)).mp z))]
    by_cases hk : j = 27
    · obtain ⟨r, S1, S2, e1, e2, hI2⟩ := Op.use (op_straw a1 a2 a3 a4) hI ht
      rw [if_pos (show nI j = (27 : Int32) from congrArg nI hk), grd_t, grd_t, grd_t, grd_t, e1, bnd_some, grd_t, grd_t, grd_t, grd_t, e2, bnd_some, if_pos rfl, b1372]
      exact ih n (t + 1) S2 (by omega) (by omega) hI2
    rw [if_neg (show ¬ nI j = (27 : Int32) from fun z => hk ((nIe (by omega) 27 (by omega)).mp z))]
    by_cases hk : j = 28
    · obtain ⟨r, S1, S2, e1, e2, hI2⟩ := Op.use (op_image) hI ht
      rw [if_pos (show nI j = (28 : Int32) from congrArg nI hk), e1, bnd_some, e2, bnd_some, if_pos rfl, b1372]
      exact ih n (t + 1) S2 (by omega) (by omega) hI2
    rw [if_neg (show ¬ nI j = (28 : Int32) from fun z => hk ((nIe (by omega) 28 (by omega)).mp z))]
    by_cases hk : j = 29
    · obtain ⟨r, S1, S2, e1, e2, hI2⟩ := Op.use (op_restore) hI ht
      rw [if_pos (show nI j = (29 : Int32) from congrArg nI hk), e1, bnd_some, e2, bnd_some, if_pos rfl, b1372]
      exact ih n (t + 1) S2 (by omega) (by omega) hI2
    rw [if_neg (show ¬ nI j = (29 : Int32) from fun z => hk ((nIe (by omega) 29 (by omega)).mp z))]
    by_cases hk : j = 30
    · obtain ⟨r, S1, S2, e1, e2, hI2⟩ := Op.use (op_count a1) hI ht
      rw [if_pos (show nI j = (30 : Int32) from congrArg nI hk), grd_t, e1, bnd_some, grd_t, e2, bnd_some, if_pos rfl, b1372]
      exact ih n (t + 1) S2 (by omega) (by omega) hI2
    rw [if_neg (show ¬ nI j = (30 : Int32) from fun z => hk ((nIe (by omega) 30 (by omega)).mp z))]
    by_cases hk : j = 31
    · obtain ⟨r, S1, S2, e1, e2, hI2⟩ := Op.use (op_digest) hI ht
      rw [if_pos (show nI j = (31 : Int32) from congrArg nI hk), e1, bnd_some, e2, bnd_some, if_pos (lgc_r r), b1372]
      exact ih n (t + 1) S2 (by omega) (by omega) hI2
    omega
theorem law_pure (L : Nat) (hL : L ≤ 4608) (xs : Nat → Int32) : ∃ S' : St, f_law_l18 L xs FU 0 S0 = some (1, S') := by
  obtain ⟨S', e⟩ := law_loop hL xs (L / 9) FU 0 S0 (by omega) (by unfold FU; omega) inv0
  exact ⟨S', e⟩
