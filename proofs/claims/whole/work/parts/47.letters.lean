-- ===== letters =====
def bt (l : Int64) (i : Nat) : Nat := l.toBitVec.toNat / 2 ^ (8 * i) % 256
theorem bt_lt (l : Int64) (i : Nat) : bt l i < 256 := Nat.mod_lt _ (by decide)
theorem sh8_tab : (List.range 8).all (fun i => decide ((((8 * nI i) : Int32).toInt64.toUInt64 &&& Int64.toUInt64 63) = UInt64.ofNat (8 * i))) = true := by decide +kernel
theorem sh8 {i : Nat} (hi : i < 8) : (((8 * nI i) : Int32).toInt64.toUInt64 &&& Int64.toUInt64 63) = UInt64.ofNat (8 * i) := by
  have h := List.all_eq_true.mp sh8_tab i (List.mem_range.mpr hi)
  simpa using h
theorem u_shr (u : UInt64) {k : Nat} (hk : k < 64) : (u >>> UInt64.ofNat k).toNat = u.toNat / 2 ^ k := by
  rw [UInt64.toNat_shiftRight, UInt64.toNat_ofNat', Nat.shiftRight_eq_div_pow]
  congr 2
  omega
theorem i32_and255 (x : Int64) : x.toInt32 &&& 255 = nI (x.toBitVec.toNat % 256) := by
  apply Int32.toBitVec_inj.mp
  apply BitVec.eq_of_toNat_eq
  have h1 : (x.toInt32 &&& 255).toBitVec.toNat = x.toBitVec.toNat % 256 := by
    rw [Int32.toBitVec_and, BitVec.toNat_and, show (255 : Int32).toBitVec.toNat = 2 ^ 8 - 1 from by decide, Nat.and_two_pow_sub_one_eq_mod, Int64.toBitVec_toInt32, BitVec.signExtend_eq_setWidth_of_le _ (by decide), BitVec.toNat_setWidth]
    omega
  rw [h1]
  show _ = (nI (x.toBitVec.toNat % 256)).toBitVec.toNat
  rw [pk_tn (by omega)]
theorem bt_u (l : Int64) {k : Nat} (hk : k < 64) : ((l.toUInt64 >>> UInt64.ofNat k).toInt64).toBitVec.toNat = l.toBitVec.toNat / 2 ^ k := u_shr l.toUInt64 hk
theorem f_code {l : Int64} {i : Nat} (hi : i < 8) (S : St) : f_X7_codeAt l (nI i) S = some (nI (bt l i), S) := by
  unfold f_X7_codeAt bt
  rw [sh8 hi, i32_and255, bt_u l (show 8 * i < 64 by omega)]
theorem i64_and255 (x : Int64) : (x &&& 255).toInt32 = nI (x.toBitVec.toNat % 256) := by
  rw [← i32_and255, Int64.toInt32_and]
  rfl
theorem code8 {l : Int64} {i : Nat} (hi : i < 8) : (((l.toUInt64 >>> (((8 * nI i) : Int32).toInt64.toUInt64 &&& Int64.toUInt64 63)).toInt64) &&& 255 : Int64).toInt32 = nI (bt l i) := by
  unfold bt
  rw [sh8 hi, i64_and255, bt_u l (show 8 * i < 64 by omega)]
/-- how many letters + 1, or 0 -/
def scN (b : Nat → Nat) : Nat → Nat → Nat → Nat
  | 0, _, n => n + 1
  | d + 1, i, n => if 126 < b i then 0 else if b i = 0 then scN b d (i + 1) n else if n = i then scN b d (i + 1) (n + 1) else 0
theorem scN_b {b : Nat → Nat} : ∀ (d i n : Nat), n ≤ i → (∀ k, k < n → 1 ≤ b k ∧ b k ≤ 126) → scN b d i n = 0 ∨ (scN b d i n ≤ i + d + 1 ∧ ∀ k, k + 1 < scN b d i n → 1 ≤ b k ∧ b k ≤ 126) := by
  intro d
  induction d with
  | zero => intro i n hn hk; exact Or.inr ⟨by rw [scN]; omega, fun k h => hk k (by rw [scN] at h; omega)⟩
  | succ d ih =>
    intro i n hn hk
    rw [scN]
    by_cases h1 : 126 < b i
    · rw [if_pos h1]; exact Or.inl rfl
    · rw [if_neg h1]
      by_cases h2 : b i = 0
      · rw [if_pos h2]
        rcases ih (i + 1) n (by omega) hk with q | q
        · exact Or.inl q
        · exact Or.inr ⟨by omega, q.2⟩
      · rw [if_neg h2]
        by_cases h3 : n = i
        · rw [if_pos h3]
          subst h3
          rcases ih (n + 1) (n + 1) (by omega) (fun k hk' => by
            by_cases h : k = n
            · subst h; omega
            · exact hk k (by omega)) with q | q
          · exact Or.inl q
          · exact Or.inr ⟨by omega, q.2⟩
        · rw [if_neg h3]; exact Or.inl rfl
theorem let7 {l : Int64} {S : St} {s : Nat} (hs : s ≤ 50) (h1 : S 1 1 = nI s) : ∀ (d n i c : Nat), i + d = 8 → d < n → c ≤ i → f_X7_letters_l8 n l (nI c) (if c = i then 0 else 1) (nI i) S = (if scN (bt l) d i c = 0 then some (-102, S) else if s + (scN (bt l) d i c - 1) ≤ 50 then f_X7_letters_l83 FU l (nI (scN (bt l) d i c - 1)) 0 S else some (-104, S)) := by
  intro d
  induction d with
  | zero =>
    intro n i c hi hn hc
    obtain ⟨n, rfl⟩ : ∃ a, n = a + 1 := ⟨n - 1, by omega⟩
    rw [f_X7_letters_l8, if_pos (show (8 : Int32) ≤ nI i from nI_le (a := 8) (by omega) (by omega)), h1, nI_add, scN, if_neg (show ¬ c + 1 = 0 by omega), Nat.add_sub_cancel]
    by_cases h : s + c ≤ 50
    · rw [if_pos (show nI (s + c) ≤ (50 : Int32) from nI_le (b := 50) h (by decide)), if_pos h]
    · rw [if_neg (show ¬ nI (s + c) ≤ (50 : Int32) from nI_ge (a := 50) (by omega) (by omega)), if_neg h]
  | succ d ih =>
    intro n i c hi hn hc
    obtain ⟨n, rfl⟩ : ∃ a, n = a + 1 := ⟨n - 1, by omega⟩
    have hb := bt_lt l i
    rw [f_X7_letters_l8, if_neg (show ¬ (8 : Int32) ≤ nI i from nI_ge (b := 8) (by omega) (by decide)), f_code (by omega), bnd_some, scN]
    by_cases q1 : 126 < bt l i
    · rw [if_pos (show (126 : Int32) < nI (bt l i) from (nI_ltI (a := 126) (by decide) (by omega)).mpr q1), if_pos q1, if_pos rfl]
    · rw [if_neg (show ¬ (126 : Int32) < nI (bt l i) from nI_nlt (a := 126) (by omega) (by decide)), if_neg q1]
      unfold f_X7_letters_b43 f_X7_letters_b57
      rw [lett_e, lett_e, lett_e, nI_1, nI_1]
      by_cases q2 : bt l i = 0
      · have := ih n (i + 1) c (by omega) (by omega) (by omega)
        rw [if_neg (show ¬ c = i + 1 by omega)] at this
        rw [q2, if_pos (show nI 0 = (0 : Int32) from rfl), if_pos (show nI 0 = (0 : Int32) from rfl), if_pos rfl, this]
        by_cases q3 : c = i
        · rw [if_pos q3, if_pos i00]
        · rw [if_neg q3, if_neg i10]
      · rw [if_neg (fun z => q2 ((nI0 (by omega)).mp z)), if_neg (fun z => q2 ((nI0 (by omega)).mp z)), if_neg q2]
        by_cases q3 : c = i
        · have := ih n (i + 1) (c + 1) (by omega) (by omega) (by omega)
          rw [if_pos (show c + 1 = i + 1 by omega)] at this
          rw [if_pos q3, if_pos i00, if_pos q3, this]
        · rw [if_neg q3, if_neg i10, if_neg q3, if_pos rfl]
theorem s8u : ((8 : Int32).toInt64.toUInt64 &&& Int64.toUInt64 63) = UInt64.ofNat 8 := by decide
theorem let8 {l : Int64} {T : St} {s : Nat} (hs : s ≤ 50) (h1 : T 55 1 = nI s) : ∀ (d n i c : Nat) (ok : Bool) (l5 : Int64), i + d = 8 → d < n → c ≤ i → l5.toBitVec.toNat = l.toBitVec.toNat / 2 ^ (8 * i) → f_X8_letters_l11 n l (nI c) (if ok = true then 1 else 0) l5 (nI i) T = (if (ok = true → scN (bt l) d i c = 0) then some (-102, T) else if s + (scN (bt l) d i c - 1) ≤ 50 then f_X8_letters_l108 FU l (nI (scN (bt l) d i c - 1)) 0 T else some (-104, T)) := by
  intro d
  induction d with
  | zero =>
    intro n i c ok l5 hi hn hc hl
    obtain ⟨n, rfl⟩ : ∃ a, n = a + 1 := ⟨n - 1, by omega⟩
    rw [f_X8_letters_l11, if_pos (show (8 : Int32) ≤ nI i from nI_le (a := 8) (by omega) (by omega)), scN]
    cases ok with
    | false => rw [if_neg (show ¬ (false = true) by decide), if_pos i00, if_pos (fun z => absurd z (by decide))]
    | true =>
      rw [if_pos rfl, if_neg i10, if_neg (show ¬ (true = true → c + 1 = 0) from fun z => absurd (z rfl) (by omega)), h1, nI_add, Nat.add_sub_cancel]
      by_cases h : s + c ≤ 50
      · rw [if_pos (show nI (s + c) ≤ (50 : Int32) from nI_le (b := 50) h (by decide)), if_pos h]
      · rw [if_neg (show ¬ nI (s + c) ≤ (50 : Int32) from nI_ge (a := 50) (by omega) (by omega)), if_neg h]
  | succ d ih =>
    intro n i c ok l5 hi hn hc hl
    obtain ⟨n, rfl⟩ : ∃ a, n = a + 1 := ⟨n - 1, by omega⟩
    have hb := bt_lt l i
    have hx8 : (l5 &&& 255).toInt32 = nI (bt l i) := by rw [i64_and255, hl]; rfl
    have hl' : ((l5.toUInt64 >>> UInt64.ofNat 8).toInt64).toBitVec.toNat = l.toBitVec.toNat / 2 ^ (8 * (i + 1)) := by
      rw [bt_u l5 (by decide), hl, Nat.div_div_eq_div_mul, ← Nat.pow_add, show 8 * i + 8 = 8 * (i + 1) by omega]
    rw [f_X8_letters_l11, if_neg (show ¬ (8 : Int32) ≤ nI i from nI_ge (b := 8) (by omega) (by decide)), hx8, lett_e, lett_e, s8u]
    unfold f_X8_letters_b61 f_X8_letters_b57 f_X8_letters_b62 f_X8_letters_b75
    rw [lett_e, lett_e, lett_e, lett_e, lett_e, lett_e, lett_e, lett_e, Int32.add_zero, nI_1, nI_1]
    have bad : ∀ c', c' ≤ i + 1 → f_X8_letters_l11 n l (nI c') 0 (l5.toUInt64 >>> UInt64.ofNat 8).toInt64 (nI (i + 1)) T = some (-102, T) := by
      intro c' hc'
      have := ih n (i + 1) c' false (l5.toUInt64 >>> UInt64.ofNat 8).toInt64 (by omega) (by omega) hc' hl'
      rw [if_neg (show ¬ (false = true) by decide), if_pos (fun z => absurd z (by decide))] at this
      exact this
    have good : ∀ c', c' ≤ i + 1 → f_X8_letters_l11 n l (nI c') 1 (l5.toUInt64 >>> UInt64.ofNat 8).toInt64 (nI (i + 1)) T = (if scN (bt l) d (i + 1) c' = 0 then some (-102, T) else if s + (scN (bt l) d (i + 1) c' - 1) ≤ 50 then f_X8_letters_l108 FU l (nI (scN (bt l) d (i + 1) c' - 1)) 0 T else some (-104, T)) := by
      intro c' hc'
      have := ih n (i + 1) c' true (l5.toUInt64 >>> UInt64.ofNat 8).toInt64 (by omega) (by omega) hc' hl'
      rw [if_pos rfl] at this
      rw [this]
      by_cases z : scN (bt l) d (i + 1) c' = 0
      · rw [if_pos (fun _ => z), if_pos z]
      · rw [if_neg (fun w => z (w rfl)), if_neg z]
    rw [bad c (by omega), bad (c + 1) (by omega), good c (by omega), good (c + 1) (by omega)]
    have e0 : ∀ (u v : Option (Int32 × St)), u = v → (if nI (bt l i) ≤ 0 then u else v) = u := fun u v h => by rw [h]; split <;> rfl
    rw [e0 _ _ rfl]
    cases ok with
    | false => rw [if_neg (show ¬ (false = true) by decide), if_pos i00, if_pos (fun z => absurd z (by decide))]
    | true =>
      rw [if_pos rfl, if_neg i10, scN]
      by_cases q1 : 126 < bt l i
      · rw [if_pos (show (126 : Int32) < nI (bt l i) from (nI_ltI (a := 126) (by decide) (by omega)).mpr q1), if_pos q1, if_pos (fun _ => rfl)]
      · rw [if_neg (show ¬ (126 : Int32) < nI (bt l i) from nI_nlt (a := 126) (by omega) (by decide)), if_neg q1]
        by_cases q2 : bt l i = 0
        · rw [q2, if_pos (show nI 0 = (0 : Int32) from rfl), if_pos (show nI 0 ≤ (0 : Int32) by decide), if_pos rfl]
          by_cases z : scN (bt l) d (i + 1) c = 0
          · rw [if_pos z, if_pos (fun _ => z)]
          · rw [if_neg z, if_neg (show ¬ (true = true → scN (bt l) d (i + 1) c = 0) from fun w => z (w rfl))]
        · rw [if_neg (fun z => q2 ((nI0 (by omega)).mp z)), if_neg q2, if_neg (nI_nle (by omega) (by omega))]
          by_cases q3 : c = i
          · rw [if_pos (congrArg nI q3), if_pos q3]
            by_cases z : scN (bt l) d (i + 1) (c + 1) = 0
            · rw [if_pos z, if_pos (fun _ => z)]
            · rw [if_neg z, if_neg (show ¬ (true = true → scN (bt l) d (i + 1) (c + 1) = 0) from fun w => z (w rfl))]
          · rw [if_neg (nI_ne (by omega) (by omega) q3), if_neg q3, if_pos (fun _ => rfl)]
