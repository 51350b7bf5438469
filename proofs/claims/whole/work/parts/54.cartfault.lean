-- ===== fault of a cart =====
def kn (c : Nat) : Nat := if c = 108 then 0 else if c = 114 then 1 else if c = 116 then 2 else if c = 97 then 3 else if c = 117 then 4 else if c = 115 then 5 else 6
theorem kn_le (c : Nat) : kn c ≤ 6 := by
  unfold kn
  repeat' split
  all_goals omega
theorem kn_tab : (List.range 127).all (fun c => decide (kindL (nI c) = if kn c = 6 then -1 else nI (kn c))) = true := by decide +kernel
theorem kn_I {c : Nat} (h : c ≤ 126) : kindL (nI c) = if kn c = 6 then -1 else nI (kn c) := by
  have h1 := List.all_eq_true.mp kn_tab c (List.mem_range.mpr (by omega))
  exact of_decide_eq_true h1
theorem kn_m1 {c : Nat} (h : c ≤ 126) : kindL (nI c) = -1 ↔ kn c = 6 := by
  rw [kn_I h]
  by_cases q : kn c = 6
  · rw [if_pos q]; exact ⟨fun _ => q, fun _ => rfl⟩
  · rw [if_neg q]
    refine ⟨fun z => ?_, fun z => absurd z q⟩
    have h6 := kn_le c
    have := congrArg Int32.toInt z
    rw [nI_toInt (by omega), show ((-1 : Int32)).toInt = -1 from by decide] at this
    omega
theorem f_kindOf (x : Int32) (S : St) : f_X8_kindOf x S = some (kindL x, S) := by
  unfold f_X8_kindOf kindL
  repeat' split
  all_goals rfl
theorem f_kindAt {P : Dt} {t i : Nat} {S : St} (hR : PG P S) (hO : OK P t) (hi : i < 1000) : f_X5_kindAt (nI i) S = some (kindL (nI (pt P i)), S) := by
  have hb := pt_b hO i
  unfold f_X5_kindAt f_indexOf
  rw [f_at hR hO hi, bnd_some, bnd_some, pk_char, pk_tn (by omega), Nat.mod_eq_of_lt (by omega)]
def fitC (p : Nat → Nat) (i : Nat) : Bool := if 18 ≤ i then false else if i % 3 = 0 then decide (p i = if i = 0 then 119 else 44) else if i % 3 = 1 then (if i = 1 then decide (49 ≤ p i ∧ p i ≤ 57) else decide (kn (p i) ≠ 6)) else decide ((if i = 2 then 48 else 49) ≤ p i ∧ p i ≤ 57)
theorem f_isDigB {P : Dt} {t i lo : Nat} {S : St} (hR : PG P S) (hO : OK P t) (hi : i < 1000) (hlo : lo ≤ 1) : f_X5_isDigit (nI i) (nI lo) S = some (b2 (decide (48 + lo ≤ pt P i ∧ pt P i ≤ 57)), S) := by
  rw [f_isDig hR hO hi hlo, b2d]
theorem f_fitsC {P : Dt} {t i : Nat} {S : St} (hR : PG P S) (hO : OK P t) (hi : i < P 20 0) : f_X5_fitsCart (nI i) S = some (b2 (fitC (pt P) i), S) := by
  have h50 : P 20 0 ≤ 50 := hO.1
  have hb := pt_b hO i
  have hr : nI i - nI i / 3 * 3 = nI (i % 3) := pk_rem (d := 3) (by omega) (by decide) (by decide)
  have d0 : f_X5_isDigit (nI i) 0 S = some (b2 (decide (48 ≤ pt P i ∧ pt P i ≤ 57)), S) := f_isDigB hR hO (show i < 1000 by omega) (show 0 ≤ 1 by omega)
  have d1 : f_X5_isDigit (nI i) 1 S = some (b2 (decide (49 ≤ pt P i ∧ pt P i ≤ 57)), S) := f_isDigB hR hO (show i < 1000 by omega) (show 1 ≤ 1 by omega)
  unfold f_X5_fitsCart fitC
  by_cases h18 : 18 ≤ i
  · rw [if_neg (show ¬ nI i < (18 : Int32) from nI_nlt (b := 18) h18 (by omega)), if_pos h18]; rfl
  · rw [if_pos (show nI i < (18 : Int32) from (nI_ltI (b := 18) (by omega) (by decide)).mpr (by omega)), if_neg h18, nz3, grd_t, hr]
    by_cases r0 : i % 3 = 0
    · rw [if_pos (show nI (i % 3) = (0 : Int32) from congrArg nI r0), if_pos r0, f_at hR hO (by omega), bnd_some, b2d]
      unfold f_X5_fitsCart_b52
      by_cases i0 : i = 0
      · rw [if_pos (show nI i = (0 : Int32) from congrArg nI i0), if_pos i0]
        by_cases q : pt P i = 119
        · rw [if_pos (show nI (pt P i) = (119 : Int32) from congrArg nI q), if_pos q]
        · rw [if_neg (show ¬ nI (pt P i) = (119 : Int32) from fun z => q ((nIe hb 119 (by omega)).mp z)), if_neg q]
      · rw [if_neg (show ¬ nI i = (0 : Int32) from fun z => i0 ((nI0 (by omega)).mp z)), if_neg i0]
        by_cases q : pt P i = 44
        · rw [if_pos (show nI (pt P i) = (44 : Int32) from congrArg nI q), if_pos q]
        · rw [if_neg (show ¬ nI (pt P i) = (44 : Int32) from fun z => q ((nIe hb 44 (by omega)).mp z)), if_neg q]
    · rw [if_neg (show ¬ nI (i % 3) = (0 : Int32) from fun z => r0 ((nI0 (by omega)).mp z)), if_neg r0]
      by_cases r1 : i % 3 = 1
      · rw [if_pos (show nI (i % 3) = (1 : Int32) from congrArg nI r1), if_pos r1]
        by_cases i1 : i = 1
        · rw [if_pos (show nI i = (1 : Int32) from congrArg nI i1), if_pos i1, d1, bnd_some, b2B, grd_t]
        · rw [if_neg (show ¬ nI i = (1 : Int32) from fun z => i1 ((nIe (by omega) 1 (by omega)).mp z)), if_neg i1, f_kindAt hR hO (by omega), bnd_some, b2d]
          by_cases q : kn (pt P i) = 6
          · rw [if_pos ((kn_m1 hb).mpr q), if_neg (fun z => z q)]
          · rw [if_neg (fun z => q ((kn_m1 hb).mp z)), if_pos q]
      · rw [if_neg (show ¬ nI (i % 3) = (1 : Int32) from fun z => r1 ((nIe (by omega) 1 (by omega)).mp z)), if_neg r1]
        unfold f_X5_fitsCart_b102
        by_cases i2 : i = 2
        · rw [if_pos (show nI i = (2 : Int32) from congrArg nI i2), if_pos i2, d0, bnd_some, b2B, grd_t]
        · rw [if_neg (show ¬ nI i = (2 : Int32) from fun z => i2 ((nIe (by omega) 2 (by omega)).mp z)), if_neg i2, d1, bnd_some, b2B, grd_t]
theorem cf7 {P : Dt} {t : Nat} {S : St} (hR : PG P S) (hO : OK P t) : ∀ (d n i : Nat), i + d = P 20 0 → d < n → f_X5_cartFault_l2 n (nI i) S = some (nI (fa (fitC (pt P)) d i), S) := by
  have h50 : P 20 0 ≤ 50 := hO.1
  intro d
  induction d with
  | zero =>
    intro n i hi hd
    obtain ⟨n, rfl⟩ : ∃ k, n = k + 1 := ⟨n - 1, by omega⟩
    obtain rfl : i = P 20 0 := by omega
    rw [f_X5_cartFault_l2, hR.1, if_pos (nI_le (Nat.le_refl _) (by omega)), fa]
  | succ d ih =>
    intro n i hi hd
    obtain ⟨n, rfl⟩ : ∃ k, n = k + 1 := ⟨n - 1, by omega⟩
    rw [f_X5_cartFault_l2, hR.1, if_neg (nI_ge (by omega) (by omega)), f_fitsC hR hO (by omega), bnd_some, fa]
    by_cases q : fitC (pt P) i = true
    · rw [if_pos q, q, if_neg b2t, lett_e, nI_1]
      exact ih n (i + 1) (by omega) (by omega)
    · rw [if_neg q, show fitC (pt P) i = false from Bool.eq_false_iff.mpr q, if_pos b2f]
theorem f_cartFault {P : Dt} {t : Nat} {S : St} (hR : PG P S) (hO : OK P t) : f_X5_cartFault S = some (nI (fa (fitC (pt P)) (P 20 0) 0), S) := by
  have h50 : P 20 0 ≤ 50 := hO.1
  have h := cf7 hR hO (P 20 0) FU 0 (by omega) (by unfold FU; omega)
  unfold f_X5_cartFault
  exact h
-- the reference: where it stands
def sc_ (i : Nat) : Nat := if i < 3 then i else 3 + i % 3
def CM_ (p : Nat → Nat) (T : St) (i : Nat) : Prop := T 55 2 = nI (sc_ i) ∧ T 55 3 = nI (i / 3 - 1) ∧ (2 ≤ i → T 55 4 = nI (10 * (p 1 - 48) + (if 3 ≤ i then p 2 - 48 else 0))) ∧ (∀ m, 3 * m + 4 < i → T 57 (2 * m) = nI (kn (p (3 * m + 4)))) ∧ (∀ m, 3 * m + 5 < i → T 57 (2 * m + 1) = nI (p (3 * m + 5) - 48))
theorem m10 (a : Nat) : (10 : Int32) * nI a = nI (10 * a) := pk_mul 10 a
theorem m2nI (a : Nat) : (2 : Int32) * nI a = nI (2 * a) := pk_mul 2 a
theorem goCart8 {p : Nat → Nat} {T : St} {i : Nat} (hb : p i ≤ 126) (hi : i ≤ 18) (hp : ∀ k, k < i → fitC p k = true) (hM : CM_ p T i) : ∃ T1, f_X8_goCart (nI (p i)) T = some (b2 (fitC p i), T1) ∧ KP T T1 ∧ (fitC p i = true → CM_ p T1 (i + 1)) := by
  obtain ⟨m1, m2, m3, m4, m5⟩ := hM
  have ne : ∀ b, b ≤ 126 → p i ≠ b → ¬ nI (p i) = nI b := fun b h1 h2 z => h2 ((nIe hb b h1).mp z)
  have sn : ∀ a b, a ≤ 126 → b ≤ 126 → a ≠ b → ¬ nI a = nI b := fun a b h0 h1 h2 z => h2 ((nIe h0 b h1).mp z)
  have n0 : ∀ a, a ≤ 126 → a ≠ 0 → ¬ nI a = (0 : Int32) := fun a h0 h2 z => h2 ((nIe h0 0 (by omega)).mp z)
  have n1 : ∀ a, a ≤ 126 → a ≠ 1 → ¬ nI a = (1 : Int32) := fun a h0 h2 z => h2 ((nIe h0 1 (by omega)).mp z)
  have n2 : ∀ a, a ≤ 126 → a ≠ 2 → ¬ nI a = (2 : Int32) := fun a h0 h2 z => h2 ((nIe h0 2 (by omega)).mp z)
  have n3 : ∀ a, a ≤ 126 → a ≠ 3 → ¬ nI a = (3 : Int32) := fun a h0 h2 z => h2 ((nIe h0 3 (by omega)).mp z)
  have n4 : ∀ a, a ≤ 126 → a ≠ 4 → ¬ nI a = (4 : Int32) := fun a h0 h2 z => h2 ((nIe h0 4 (by omega)).mp z)
  unfold f_X8_goCart
  rw [lett_e, lett_e, m1, nI_1]
  by_cases c0 : i = 0
  · have es : sc_ i = 0 := by rw [c0]; rfl
    have ef : fitC p i = decide (p i = 119) := by unfold fitC; rw [if_neg (by omega), if_pos (by omega), if_pos c0]
    rw [es, if_pos (show nI 0 = (0 : Int32) from rfl), ef]
    have fin : (if nI (p i) = 119 then some ((1 : Int32), su T 55 2 (nI (0 + 1))) else some (0, su T 55 2 (nI (0 + 1)))) = some (b2 (decide (p i = 119)), su T 55 2 (nI (0 + 1))) := by
      rw [b2d]
      by_cases q : p i = 119
      · rw [if_pos (show nI (p i) = (119 : Int32) from congrArg nI q), if_pos q]
      · rw [if_neg (show ¬ nI (p i) = (119 : Int32) from ne 119 (by omega) q), if_neg q]
    rw [fin]
    refine ⟨_, rfl, (KP.rf T).s55 _ _ (by omega), fun _ => ?_⟩
    subst c0
    refine ⟨by rw [su_s]; rfl, by rw [su_k (by decide)]; exact m2, fun h => absurd h (by omega), fun m h => absurd h (by omega), fun m h => absurd h (by omega)⟩
  by_cases c1 : i = 1
  · have es : sc_ i = 1 := by rw [c1]; rfl
    have ef : fitC p i = decide (49 ≤ p i ∧ p i ≤ 57) := by unfold fitC; rw [if_neg (by omega), if_neg (by omega), if_pos (by omega), if_pos c1]
    rw [es, if_neg (n0 1 (by omega) (by omega)), if_pos (show nI 1 = (1 : Int32) from rfl), lett_e, in49 hb, bnd_some, b2B, grd_t, ef]
    refine ⟨_, rfl, ((KP.rf T).s55 _ _ (by omega)).s55 _ _ (by omega), fun hf => ?_⟩
    have hf' := of_decide_eq_true hf
    subst c1
    refine ⟨by rw [su_k (by decide), su_s]; rfl, by rw [su_k (by decide), su_k (by decide)]; exact m2, fun h => ?_, fun m h => absurd h (by omega), fun m h => absurd h (by omega)⟩
    rw [su_s, s48 (by omega), m10, if_neg (by omega)]; rfl
  by_cases c2 : i = 2
  · have es : sc_ i = 2 := by rw [c2]; rfl
    have ef : fitC p i = decide (48 ≤ p i ∧ p i ≤ 57) := by unfold fitC; rw [if_neg (by omega), if_neg (by omega), if_neg (by omega), if_pos c2]
    rw [es, if_neg (n0 2 (by omega) (by omega)), if_neg (n1 2 (by omega) (by omega)), if_pos (show nI 2 = (2 : Int32) from rfl), lett_e, in48 hb, bnd_some, b2B, grd_t, ef]
    refine ⟨_, rfl, ((KP.rf T).s55 _ _ (by omega)).s55 _ _ (by omega), fun hf => ?_⟩
    have hf' := of_decide_eq_true hf
    subst c2
    refine ⟨by rw [su_k (by decide), su_s]; rfl, by rw [su_k (by decide), su_k (by decide)]; exact m2, fun h => ?_, fun m h => absurd h (by omega), fun m h => absurd h (by omega)⟩
    rw [su_s, su_k (by decide), s48 (by omega), m3 (by omega), if_neg (by omega), Nat.add_zero, nI_add, if_pos (by omega)]
  have c3 : 3 ≤ i := by omega
  have es : sc_ i = 3 + i % 3 := by unfold sc_; rw [if_neg (by omega)]
  have es' : sc_ (i + 1) = 3 + (i + 1) % 3 := by unfold sc_; rw [if_neg (by omega)]
  have w' : (2 ≤ i + 1 → nI (10 * (p 1 - 48) + (if 3 ≤ i then p 2 - 48 else 0)) = nI (10 * (p 1 - 48) + (if 3 ≤ i + 1 then p 2 - 48 else 0))) := fun _ => by rw [if_pos c3, if_pos (show 3 ≤ i + 1 by omega)]
  rw [if_neg (n0 (sc_ i) (by omega) (by omega)), if_neg (n1 (sc_ i) (by omega) (by omega)), if_neg (n2 (sc_ i) (by omega) (by omega)), su_k (show (3 : Nat) ≠ 2 by decide), m2, m2nI]
  by_cases r0 : i % 3 = 0
  · have ef : fitC p i = decide (p i = 44 ∧ i / 3 - 1 < 5) := by
      unfold fitC
      by_cases h18 : 18 ≤ i
      · rw [if_pos h18, eq_comm, decide_eq_false_iff_not]; omega
      · rw [if_neg h18, if_pos r0, if_neg c0]
        exact decide_eq_decide.mpr ⟨fun h => ⟨h, by omega⟩, fun h => h.1⟩
    rw [if_pos (show nI (sc_ i) = (3 : Int32) from congrArg nI (show sc_ i = 3 by omega)), ef]
    have fin : (if nI (p i) = 44 then if 5 ≤ nI (i / 3 - 1) then some ((0 : Int32), su T 55 2 (nI (sc_ i + 1))) else some (1, su T 55 2 (nI (sc_ i + 1))) else some (0, su T 55 2 (nI (sc_ i + 1)))) = some (b2 (decide (p i = 44 ∧ i / 3 - 1 < 5)), su T 55 2 (nI (sc_ i + 1))) := by
      rw [b2d]
      by_cases q : p i = 44
      · rw [if_pos (show nI (p i) = (44 : Int32) from congrArg nI q)]
        by_cases q5 : i / 3 - 1 < 5
        · rw [if_neg (show ¬ (5 : Int32) ≤ nI (i / 3 - 1) from nI_ge (b := 5) q5 (by decide)), if_pos ⟨q, q5⟩]
        · rw [if_pos (show (5 : Int32) ≤ nI (i / 3 - 1) from nI_le (a := 5) (by omega) (by omega)), if_neg (fun z => q5 z.2)]
      · rw [if_neg (show ¬ nI (p i) = (44 : Int32) from ne 44 (by omega) q), if_neg (fun z => q z.1)]
    rw [fin]
    refine ⟨_, rfl, (KP.rf T).s55 _ _ (by omega), fun hf => ?_⟩
    refine ⟨?_, ?_, fun h => ?_, fun m h => ?_, fun m h => ?_⟩
    · rw [su_s, show sc_ i + 1 = sc_ (i + 1) by omega]
    · rw [su_k (by decide), m2, show (i + 1) / 3 - 1 = i / 3 - 1 by omega]
    · rw [su_k (by decide), m3 (by omega)]; exact w' h
    · rw [su_o (by decide)]; exact m4 m (by omega)
    · rw [su_o (by decide)]; exact m5 m (by omega)
  · rw [if_neg (n3 (sc_ i) (by omega) (by omega))]
    have h17 : i < 18 := by omega
    by_cases r1 : i % 3 = 1
    · have ef : fitC p i = decide (kn (p i) ≠ 6) := by
        unfold fitC
        rw [if_neg (by omega), if_neg r0, if_pos r1, if_neg c1]
      rw [if_pos (show nI (sc_ i) = (4 : Int32) from congrArg nI (show sc_ i = 4 by omega)), f_kindOf, bnd_some, inb_nI (show 2 * (i / 3 - 1) < 36 by omega) (by decide), grd_t, lett_e, f_kindOf, bnd_some, cl_nI (by omega), ef]
      have fin : ∀ S' : St, (if kindL (nI (p i)) = -1 then some ((0 : Int32), S') else some (1, S')) = some (b2 (decide (kn (p i) ≠ 6)), S') := by
        intro S'
        rw [b2d]
        by_cases q : kn (p i) = 6
        · rw [if_pos ((kn_m1 hb).mpr q), if_neg (fun z => z q)]
        · rw [if_neg (fun z => q ((kn_m1 hb).mp z)), if_pos q]
      rw [fin]
      refine ⟨_, rfl, ((KP.rf T).s55 _ _ (by omega)).s57 _ _, fun hf => ?_⟩
      have hf' := of_decide_eq_true hf
      refine ⟨?_, ?_, fun h => ?_, fun m h => ?_, fun m h => ?_⟩
      · rw [su_o (by decide), su_s, show sc_ i + 1 = sc_ (i + 1) by omega]
      · rw [su_o (by decide), su_k (by decide), m2, show (i + 1) / 3 - 1 = i / 3 - 1 by omega]
      · rw [su_o (by decide), su_k (by decide), m3 (by omega)]; exact w' h
      · by_cases e : 3 * m + 4 = i
        · rw [show 2 * m = 2 * (i / 3 - 1) by omega, su_s, kn_I hb, if_neg hf', e]
        · rw [su_k (by omega), su_o (by decide)]; exact m4 m (by omega)
      · rw [su_k (by omega), su_o (by decide)]; exact m5 m (by omega)
    · have ef : fitC p i = decide (49 ≤ p i ∧ p i ≤ 57) := by
        unfold fitC
        rw [if_neg (by omega), if_neg r0, if_neg r1, if_neg c2]
      rw [if_neg (n4 (sc_ i) (by omega) (by omega)), nI_1 (2 * (i / 3 - 1)), inb_nI (show 2 * (i / 3 - 1) + 1 < 36 by omega) (by decide), grd_t, lett_e, lett_e, lett_e, in49 hb, bnd_some, b2B, grd_t, cl_nI (by omega), su_o (show (55 : Nat) ≠ 57 by decide), su_k (show (3 : Nat) ≠ 2 by decide), m2, nI_1 (i / 3 - 1), ef]
      refine ⟨_, rfl, ((((KP.rf T).s55 _ _ (by omega)).s57 _ _).s55 _ _ (by omega)).s55 _ _ (by omega), fun hf => ?_⟩
      have hf' := of_decide_eq_true hf
      refine ⟨?_, ?_, fun h => ?_, fun m h => ?_, fun m h => ?_⟩
      · rw [su_s, show sc_ (i + 1) = 3 by omega]; rfl
      · rw [su_k (by decide), su_s, show (i + 1) / 3 - 1 = i / 3 - 1 + 1 by omega]
      · rw [su_k (by decide), su_k (by decide), su_o (by decide), su_k (by decide), m3 (by omega)]; exact w' h
      · rw [su_o (by decide), su_o (by decide), su_k (by omega), su_o (by decide)]; exact m4 m (by omega)
      · rw [su_o (by decide), su_o (by decide)]
        by_cases e : 3 * m + 5 = i
        · rw [show 2 * m + 1 = 2 * (i / 3 - 1) + 1 by omega, su_s, s48 (by omega), e]
        · rw [su_k (by omega), su_o (by decide)]; exact m5 m (by omega)
