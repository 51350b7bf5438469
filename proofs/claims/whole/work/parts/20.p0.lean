-- ===== the pure part: basics =====
theorem grd_t {β : Type} (r : Option β) : grd true r = r := rfl
theorem grd_e {β : Type} {b : Bool} (h : b = true) (r : Option β) : grd b r = r := by rw [h]; rfl
theorem lett_e {β γ : Type} (v : β) (K : β → Option γ) : lett v K = K v := rfl
theorem inb_nI {j n : Nat} (h : j < n) (hn : n < 2 ^ 31) : inb (nI j) n = true := by
  unfold inb
  rw [nI_clamp (by omega)]
  simp only [Bool.and_eq_true, decide_eq_true_eq]
  exact ⟨nI_pos' (by omega), h⟩
theorem cl_nI {j : Nat} (h : j < 2 ^ 31) : (nI j).toNatClampNeg = j := nI_clamp h
theorem nz_nI {j : Nat} (h0 : 0 < j) (h : j < 2 ^ 31) : nz (nI j) = true := by
  simp [nz, nI_ne0 h0 h]
theorem nz3 : nz 3 = true := rfl
theorem nz2 : nz 2 = true := rfl
theorem nz7 : nz 7 = true := rfl
theorem nz10 : nz 10 = true := rfl
theorem nz40 : nz 40 = true := rfl
theorem su_o {S : St} {c k : Nat} {v : Int32} {d : Nat} (h : d ≠ c) : su S c k v d = S d := by
  unfold su sr
  rw [if_neg h]
theorem su_s {S : St} {c k : Nat} {v : Int32} : su S c k v c k = v := by
  unfold su sr upd
  rw [if_pos rfl, if_pos rfl]
theorem su_k {S : St} {c k : Nat} {v : Int32} {j : Nat} (h : j ≠ k) : su S c k v c j = S c j := by
  unfold su sr upd
  rw [if_pos rfl, if_neg h]
theorem su_g {S : St} {c k : Nat} {v : Int32} {d j : Nat} (h : d ≠ c ∨ j ≠ k) : su S c k v d j = S d j := by
  by_cases hd : d = c
  · subst hd
    exact su_k (h.resolve_left (fun q => q rfl))
  · rw [su_o hd]
theorem sr_o {S : St} {c : Nat} {f : Nat → Int32} {d : Nat} (h : d ≠ c) : sr S c f d = S d := by
  unfold sr
  rw [if_neg h]
theorem sr_s {S : St} {c : Nat} {f : Nat → Int32} : sr S c f c = f := by
  unfold sr
  rw [if_pos rfl]
-- whole numbers of 32 and 64 bits
theorem lgc_lt (x y : Int64) : (lg_cmp x y < 0) ↔ x < y := by
  unfold lg_cmp
  by_cases h1 : x > y
  · rw [if_pos h1]
    exact ⟨fun h => absurd h (by decide), fun h => absurd h (Int64.lt_asymm h1)⟩
  · rw [if_neg h1]
    by_cases h2 : x = y
    · rw [if_pos h2]
      exact ⟨fun h => absurd h (by decide), fun h => absurd (h2 ▸ h) (Int64.lt_irrefl)⟩
    · rw [if_neg h2]
      refine ⟨fun _ => ?_, fun _ => by decide⟩
      rcases Int64.lt_or_lt_of_ne h2 with h | h
      · exact h
      · exact absurd h h1
theorem lgc_gt (x y : Int64) : (0 < lg_cmp x y) ↔ y < x := by
  unfold lg_cmp
  by_cases h1 : x > y
  · rw [if_pos h1]
    exact ⟨fun _ => h1, fun _ => by decide⟩
  · rw [if_neg h1]
    by_cases h2 : x = y
    · rw [if_pos h2]
      exact ⟨fun h => absurd h (by decide), fun h => absurd h h1⟩
    · rw [if_neg h2]
      exact ⟨fun h => absurd h (by decide), fun h => absurd h h1⟩
theorem lgc_eq (x y : Int64) : (lg_cmp x y = 0) ↔ x = y := by
  unfold lg_cmp
  by_cases h1 : x > y
  · rw [if_pos h1]
    exact ⟨fun h => absurd h (by decide), fun h => absurd (h ▸ h1) Int64.lt_irrefl⟩
  · rw [if_neg h1]
    by_cases h2 : x = y
    · rw [if_pos h2]
      exact ⟨fun _ => h2, fun _ => rfl⟩
    · rw [if_neg h2]
      exact ⟨fun h => absurd h (by decide), fun h => absurd h h2⟩
theorem lgc_le (x y : Int64) : (lg_cmp x y ≤ 0) ↔ x ≤ y := by
  rw [← Int32.not_lt, lgc_gt, Int64.not_lt]
theorem l_lt (x y : Int32) : (x.toInt64 < y.toInt64) ↔ x < y := by
  rw [Int64.lt_iff_toInt_lt, Int32.lt_iff_toInt_lt, Int32.toInt_toInt64, Int32.toInt_toInt64]
theorem f_isWithin (v a b : Int32) (S : St) : f_X7_isWithin v a b S = some (if a ≤ v ∧ v ≤ b then 1 else 0, S) := by
  unfold f_X7_isWithin
  by_cases h1 : v < a
  · rw [if_pos h1, if_neg (fun h => absurd h1 (Int32.not_lt.mpr h.1))]
  · rw [if_neg h1]
    by_cases h2 : b < v
    · rw [if_pos h2, if_neg (fun h => absurd h2 (Int32.not_lt.mpr h.2))]
    · rw [if_neg h2, if_pos ⟨Int32.not_lt.mp h1, Int32.not_lt.mp h2⟩]
theorem f_in (v a b : Int32) (la lb : Int64) (ha : a.toInt64 = la) (hb : b.toInt64 = lb) (S : St) : f_X8_in v.toInt64 la lb S = some (if a ≤ v ∧ v ≤ b then 1 else 0, S) := by
  unfold f_X8_in
  subst ha
  subst hb
  by_cases h1 : v < a
  · rw [if_pos ((lgc_lt _ _).mpr ((l_lt _ _).mpr h1)), if_neg (fun h => absurd h1 (Int32.not_lt.mpr h.1))]
  · rw [if_neg (fun h => h1 ((l_lt _ _).mp ((lgc_lt _ _).mp h)))]
    by_cases h2 : b < v
    · rw [if_pos ((lgc_gt _ _).mpr ((l_lt _ _).mpr h2)), if_neg (fun h => absurd h2 (Int32.not_lt.mpr h.2))]
    · rw [if_neg (fun h => h2 ((l_lt _ _).mp ((lgc_gt _ _).mp h))), if_pos ⟨Int32.not_lt.mp h1, Int32.not_lt.mp h2⟩]
theorem isB_if (p : Prop) (h : p ∨ ¬ p) (v : Int32) (hv : (p → v = 1) ∧ (¬ p → v = 0)) : isB v = true := by
  rcases h with h | h
  · rw [hv.1 h]; rfl
  · rw [hv.2 h]; rfl
theorem f_isSwing7 (v : Int32) (S : St) : f_X7_isSwing v S = some (if 0 ≤ v ∧ v ≤ 9999 then 1 else 0, S) := by
  unfold f_X7_isSwing
  rw [f_isWithin, bnd_some]
  by_cases h : 0 ≤ v ∧ v ≤ 9999
  · rw [if_pos h]; rfl
  · rw [if_neg h]; rfl
theorem f_isSwing8 (v : Int32) (S : St) : f_X8_isSwing v S = some (if 0 ≤ v ∧ v ≤ 9999 then 1 else 0, S) := by
  unfold f_X8_isSwing
  rw [f_in v 0 9999 0 9999 (by decide) (by decide), bnd_some]
  by_cases h : 0 ≤ v ∧ v ≤ 9999
  · rw [if_pos h]; rfl
  · rw [if_neg h]; rfl
theorem f_isSlip8 (v : Int32) (S : St) : f_X8_isSlip v S = some (if 1 ≤ v ∧ v ≤ 99 then 1 else 0, S) := by
  unfold f_X8_isSlip
  rw [f_in v 1 99 1 99 (by decide) (by decide), bnd_some]
  by_cases h : 1 ≤ v ∧ v ≤ 99
  · rw [if_pos h]; rfl
  · rw [if_neg h]; rfl
theorem f_isShake8 (v : Int32) (S : St) : f_X8_isShake v S = some (if 0 ≤ v ∧ v ≤ 9 then 1 else 0, S) := by
  unfold f_X8_isShake
  rw [f_in v 0 9 0 9 (by decide) (by decide), bnd_some]
  by_cases h : 0 ≤ v ∧ v ≤ 9
  · rw [if_pos h]; rfl
  · rw [if_neg h]; rfl
theorem f_isCart7 (x : Int32) (S : St) : f_X7_isCart x S = some (if 0 ≤ x ∧ x < S 0 9 then 1 else 0, S) := by
  unfold f_X7_isCart
  by_cases h1 : x < 0
  · rw [if_pos h1, if_neg (fun h => absurd h1 (Int32.not_lt.mpr h.1))]
  · rw [if_neg h1]
    by_cases h2 : S 0 9 ≤ x
    · rw [if_pos h2, if_neg (fun h => absurd h2 (Int32.not_le.mpr h.2))]
    · rw [if_neg h2, if_pos ⟨Int32.not_lt.mp h1, Int32.not_le.mp h2⟩]
theorem f_isCell7 (x : Int32) (S : St) : f_X7_isCell x S = some (if 0 ≤ x ∧ x < S 3 4 then 1 else 0, S) := by
  unfold f_X7_isCell
  by_cases h1 : x < 0
  · rw [if_pos h1, if_neg (fun h => absurd h1 (Int32.not_lt.mpr h.1))]
  · rw [if_neg h1]
    by_cases h2 : S 3 4 ≤ x
    · rw [if_pos h2, if_neg (fun h => absurd h2 (Int32.not_le.mpr h.2))]
    · rw [if_neg h2, if_pos ⟨Int32.not_lt.mp h1, Int32.not_le.mp h2⟩]
theorem le_pred {x : Int32} {n : Nat} (hn : n < 2 ^ 31) (h0 : 0 ≤ x) : (x ≤ nI n - 1) ↔ x < nI n := by
  rw [Int32.le_iff_toInt_le, Int32.lt_iff_toInt_lt, nI_toInt hn]
  have h1 : (0 : Int) ≤ x.toInt := by simpa using Int32.le_iff_toInt_le.mp h0
  cases n with
  | zero =>
    rw [show (nI 0 - 1 : Int32) = -1 from by decide, show ((-1 : Int32)).toInt = -1 from by decide]
    omega
  | succ n =>
    rw [nI_pred, nI_toInt (by omega)]
    omega
theorem f_isCart8 (x : Int32) (S : St) {n : Nat} (hn : n < 2 ^ 31) (h : S 55 12 = nI n) : f_X8_isCart x S = some (if 0 ≤ x ∧ x < nI n then 1 else 0, S) := by
  unfold f_X8_isCart
  rw [f_in x 0 (S 55 12 - 1) 0 _ (by decide) rfl, bnd_some, h]
  by_cases h0 : 0 ≤ x
  · have := le_pred hn h0
    by_cases h1 : x < nI n
    · rw [if_pos ⟨h0, this.mpr h1⟩, if_pos ⟨h0, h1⟩]; rfl
    · rw [if_neg (fun q => h1 (this.mp q.2)), if_neg (fun q => h1 q.2)]; rfl
  · rw [if_neg (fun q => h0 q.1), if_neg (fun q => h0 q.1)]; rfl
theorem f_isCell8 (x : Int32) (S : St) {n : Nat} (hn : n < 2 ^ 31) (h : S 55 6 = nI n) : f_X8_isCell x S = some (if 0 ≤ x ∧ x < nI n then 1 else 0, S) := by
  unfold f_X8_isCell
  rw [f_in x 0 (S 55 6 - 1) 0 _ (by decide) rfl, bnd_some, h]
  by_cases h0 : 0 ≤ x
  · have := le_pred hn h0
    by_cases h1 : x < nI n
    · rw [if_pos ⟨h0, this.mpr h1⟩, if_pos ⟨h0, h1⟩]; rfl
    · rw [if_neg (fun q => h1 (this.mp q.2)), if_neg (fun q => h1 q.2)]; rfl
  · rw [if_neg (fun q => h0 q.1), if_neg (fun q => h0 q.1)]; rfl
/-- a number in its range is one of 0 .. n - 1 -/
theorem rng {x : Int32} {n : Nat} (hn : n < 2 ^ 31) (h : 0 ≤ x ∧ x < nI n) : ∃ j : Nat, j < n ∧ x = nI j := by
  obtain ⟨j, hj, rfl⟩ := nI_of (Int32.not_lt.mpr h.1)
  exact ⟨j, (nI_ltI hj hn).mp h.2, rfl⟩
theorem rngle {x : Int32} {n : Nat} (hn : n < 2 ^ 31) (h0 : 0 ≤ x) (h : x ≤ nI n) : ∃ j : Nat, j ≤ n ∧ x = nI j := by
  obtain ⟨j, hj, rfl⟩ := nI_of (Int32.not_lt.mpr h0)
  exact ⟨j, (nI_leI hj hn).mp h, rfl⟩
-- rows filled, rows copied
def fillS (S : St) (cA i n : Nat) (x : Int32) : St := fun c j => if c = cA then (if i ≤ j ∧ j < n then x else S c j) else S c j
theorem f_fill_loop (cA nA : Nat) (hn : nA < 100000) (x : Int32) : ∀ (d n i : Nat) (S : St), i + d = nA → d < n → f_fill_l5 cA nA n x (nI i) (nI nA) S = some ((), fillS S cA i nA x) := by
  intro d
  induction d with
  | zero =>
    intro n i S hi hd
    obtain ⟨n, rfl⟩ : ∃ k, n = k + 1 := ⟨n - 1, by omega⟩
    obtain rfl : i = nA := by omega
    rw [f_fill_l5, if_pos (nI_le (Nat.le_refl _) (by omega))]
    congr 2
    funext c j
    unfold fillS
    by_cases hc : c = cA
    · rw [if_pos hc, if_neg (by omega)]
    · rw [if_neg hc]
  | succ d ih =>
    intro n i S hi hd
    obtain ⟨n, rfl⟩ : ∃ k, n = k + 1 := ⟨n - 1, by omega⟩
    rw [f_fill_l5, if_neg (nI_ge (by omega) (by omega)), inb_nI (by omega) (by omega), grd_t, lett_e, lett_e, nI_1, cl_nI (by omega), ih n (i + 1) _ (by omega) (by omega)]
    congr 2
    funext c j
    unfold fillS
    by_cases hc : c = cA
    · subst hc
      rw [if_pos rfl, if_pos rfl]
      by_cases hj : j = i
      · subst hj
        rw [if_neg (by omega), if_pos (by omega), su_s]
      · rw [su_k hj]
        by_cases h2 : i + 1 ≤ j ∧ j < nA
        · rw [if_pos h2, if_pos (by omega)]
        · rw [if_neg h2, if_neg (by omega)]
    · rw [if_neg hc, if_neg hc, su_o hc]
theorem f_fill_eq (cA nA : Nat) (hn : nA < 50000) (x : Int32) (S : St) : f_fill cA nA x S = some ((), fillS S cA 0 nA x) :=
  f_fill_loop cA nA (by omega) x nA FU 0 S (by omega) (by unfold FU; omega)
theorem fillS_o {S : St} {cA i n : Nat} {x : Int32} {c : Nat} (h : c ≠ cA) : fillS S cA i n x c = S c := by
  funext j
  unfold fillS
  rw [if_neg h]
theorem fillS_in {S : St} {cA i n : Nat} {x : Int32} {j : Nat} (h : i ≤ j ∧ j < n) : fillS S cA i n x cA j = x := by
  unfold fillS
  rw [if_pos rfl, if_pos h]
theorem fillS_1 (S : St) (cA i n : Nat) (x : Int32) (h : i < n) : fillS (su S cA i x) cA (i + 1) n x = fillS S cA i n x := by
  funext c j
  unfold fillS
  by_cases hc : c = cA
  · subst hc
    rw [if_pos rfl, if_pos rfl]
    by_cases hj : j = i
    · subst hj
      rw [if_neg (by omega), if_pos (by omega), su_s]
    · rw [su_k hj]
      by_cases h2 : i + 1 ≤ j ∧ j < n
      · rw [if_pos h2, if_pos (by omega)]
      · rw [if_neg h2, if_neg (by omega)]
  · rw [if_neg hc, if_neg hc, su_o hc]
