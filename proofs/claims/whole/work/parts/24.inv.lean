-- ===== what the objects hold, as numbers: P 0 letters; 1 to 4 drop, sharp, bump, brake; 5 weights, 6 how many losses; 8, 9, 10 coasts; 11 weights, 12 brakes, 13 to 15 coasts of the image; 30 + j, 40 + j kinds and n of cart j; 20: page, cells, hills read, carts, grip, coasts, image's hill (0 none), its grip, carts, coasts =====
def RC (P : Dt) (S : St) : Prop :=
  S 1 1 = nI (P 20 0) ∧ (∀ j, j < P 20 0 → S 2 j = nI (P 0 j)) ∧
  S 3 4 = nI (P 20 1) ∧ (∀ c, c < P 20 1 → S 4 c = nI (P 1 c) ∧ S 5 c = nI (P 2 c) ∧ S 6 c = nI (P 3 c) ∧ S 7 c = nI (P 4 c)) ∧
  S 3 5 = nI (P 20 2) ∧ S 0 9 = nI (P 20 3) ∧
  (∀ j, j < P 20 3 → S (9 + 3 * j) 3 = nI (P 5 j) ∧ S (9 + 3 * j) 2 = nI (P 6 j) ∧ ∀ k, k < P 6 j → S (9 + 3 * j + 1) k = nI (P (30 + j) k) ∧ S (9 + 3 * j + 2) k = nI (P (40 + j) k)) ∧
  S 0 10 = nI (P 20 4) ∧ S 33 3 = nI (P 20 5) ∧ (∀ i, i < P 20 5 → S 34 i = nI (P 8 i) ∧ S 35 i = nI (P 9 i) ∧ S 36 i = nI (P 10 i)) ∧
  S 37 5 = nI (P 20 6) ∧ (P 20 6 ≠ 0 → S 37 4 = nI (P 20 7) ∧ S 37 3 = nI (P 20 8) ∧ (∀ j, j < P 20 8 → S 38 j = nI (P 11 j)) ∧ S 40 3 = nI (P 20 9) ∧ (∀ i, i < P 20 9 → S 41 i = nI (P 13 i) ∧ S 42 i = nI (P 14 i) ∧ S 43 i = nI (P 15 i)) ∧ (P 20 6 = P 20 2 → ∀ c, c < P 20 1 → S 39 c = nI (P 12 c)))
def RM (P : Dt) (T : St) : Prop :=
  T 55 1 = nI (P 20 0) ∧ (∀ j, j < P 20 0 → T 56 j = nI (P 0 j)) ∧
  T 55 6 = nI (P 20 1) ∧ (∀ c, c < P 20 1 → T 58 c = nI (P 1 c) ∧ T 59 c = nI (P 2 c) ∧ T 60 c = nI (P 3 c) ∧ T 61 c = nI (P 4 c)) ∧
  T 55 7 = nI (P 20 2) ∧ T 55 12 = nI (P 20 3) ∧
  (∀ j, j < P 20 3 → T 62 j = nI (P 5 j) ∧ T 63 j = nI (P 6 j) ∧ ∀ k, k < P 6 j → T 64 (10 * j + 2 * k) = nI (P (30 + j) k) ∧ T 64 (10 * j + 2 * k + 1) = nI (P (40 + j) k)) ∧
  T 55 16 = nI (P 20 4) ∧ T 55 29 = nI (P 20 5) ∧ (∀ i, i < P 20 5 → T 70 (3 * i) = nI (P 8 i) ∧ T 70 (3 * i + 1) = nI (P 9 i) ∧ T 70 (3 * i + 2) = nI (P 10 i)) ∧
  T 55 32 = (if P 20 6 = 0 then -1 else nI (P 20 6)) ∧ (P 20 6 ≠ 0 → T 55 33 = nI (P 20 7) ∧ T 55 34 = nI (P 20 8) ∧ (∀ j, j < P 20 8 → T 73 j = nI (P 11 j)) ∧ T 55 35 = nI (P 20 9) ∧ (∀ i, i < P 20 9 → T 74 (3 * i) = nI (P 13 i) ∧ T 74 (3 * i + 1) = nI (P 14 i) ∧ T 74 (3 * i + 2) = nI (P 15 i)) ∧ (P 20 6 = P 20 2 → ∀ c, c < P 20 1 → T 72 c = nI (P 12 c)))
def OK (P : Dt) (t : Nat) : Prop :=
  P 20 0 ≤ 50 ∧ (∀ j, j < P 20 0 → 1 ≤ P 0 j ∧ P 0 j ≤ 126) ∧ P 20 1 ≤ 12 ∧ (∀ c, c < P 20 1 → P 1 c ≤ 9 ∧ P 2 c ≤ 9 ∧ P 3 c ≤ 1 ∧ P 4 c ≤ 9) ∧ (P 20 2 ≤ t ∧ (P 20 1 ≠ 0 → 1 ≤ P 20 2)) ∧ P 20 3 ≤ 8 ∧
  (∀ j, j < P 20 3 → 10 ≤ P 5 j ∧ P 5 j ≤ 99 ∧ P 6 j ≤ 5 ∧ ∀ k, k < P 6 j → P (30 + j) k ≤ 5 ∧ P (40 + j) k ≤ 9) ∧ (1 ≤ P 20 4 ∧ P 20 4 ≤ 99) ∧ P 20 5 ≤ 8 ∧ (∀ i, i < P 20 5 → P 8 i < P 20 3 ∧ P 9 i ≤ 9999 ∧ P 10 i ≤ 99) ∧
  P 20 6 ≤ P 20 2 ∧ (P 20 6 ≠ 0 → 1 ≤ P 20 7 ∧ P 20 7 ≤ 99 ∧ P 20 8 ≤ P 20 3 ∧ (∀ j, j < P 20 8 → 10 ≤ P 11 j ∧ P 11 j ≤ 99) ∧ P 20 9 ≤ 8 ∧ (∀ i, i < P 20 9 → P 13 i < P 20 3 ∧ P 14 i ≤ 9999 ∧ P 15 i ≤ 99) ∧ (P 20 6 = P 20 2 → ∀ c, c < P 20 1 → P 12 c ≤ 9)) ∧ t ≤ 1000
/-- the class's own cells but for what it scribbles on; the reference's -/
def KC (S S1 : St) : Prop := ∀ c, (c < 44 ∨ 55 ≤ c) → S1 c = S c
def pmB (c k : Nat) : Prop := c < 55 ∨ (c = 55 ∧ (k = 1 ∨ k = 6 ∨ k = 7 ∨ k = 12 ∨ k = 16 ∨ k = 29 ∨ (32 ≤ k ∧ k ≤ 35) ∨ 100 ≤ k)) ∨ c = 56 ∨ (58 ≤ c ∧ c ≤ 64) ∨ (70 ≤ c ∧ c ≤ 74)
def KM (T T1 : St) : Prop := ∀ c k, pmB c k → T1 c k = T c k
theorem KC.rf (S : St) : KC S S := fun _ _ => rfl
theorem KC.tr {S S1 S2 : St} (h1 : KC S S1) (h2 : KC S1 S2) : KC S S2 := fun c h => (h2 c h).trans (h1 c h)
theorem KM.rf (S : St) : KM S S := fun _ _ _ => rfl
theorem KM.tr {S S1 S2 : St} (h1 : KM S S1) (h2 : KM S1 S2) : KM S S2 := fun c k h => (h2 c k h).trans (h1 c k h)
theorem KC.su {S S1 : St} (h : KC S S1) (c k : Nat) (v : Int32) (hc : 44 ≤ c ∧ c < 55) : KC S (su S1 c k v) := fun d hd => by rw [su_o (by omega)]; exact h d hd
theorem KC.sr {S S1 : St} (h : KC S S1) (c : Nat) (f : Nat → Int32) (hc : 44 ≤ c ∧ c < 55) : KC S (sr S1 c f) := fun d hd => by rw [sr_o (by omega)]; exact h d hd
theorem KC.fl {S S1 : St} (h : KC S S1) (c i n : Nat) (v : Int32) (hc : 44 ≤ c ∧ c < 55) : KC S (fillS S1 c i n v) := fun d hd => by rw [fillS_o (by omega)]; exact h d hd
/-- the ride alone -/
def KR (S S1 : St) : Prop := ∀ c, (c < 44 ∨ 50 < c) → S1 c = S c
theorem KR.rf (S : St) : KR S S := fun _ _ => rfl
theorem KR.tr {S S1 S2 : St} (h1 : KR S S1) (h2 : KR S1 S2) : KR S S2 := fun c h => (h2 c h).trans (h1 c h)
theorem KR.kc {S S1 : St} (h : KR S S1) : KC S S1 := fun c hc => h c (by omega)
theorem KR.su {S S1 : St} (h : KR S S1) (c k : Nat) (v : Int32) (hc : 44 ≤ c ∧ c ≤ 50) : KR S (su S1 c k v) := fun d hd => by rw [su_o (by omega)]; exact h d hd
theorem KR.sr {S S1 : St} (h : KR S S1) (c : Nat) (f : Nat → Int32) (hc : 44 ≤ c ∧ c ≤ 50) : KR S (sr S1 c f) := fun d hd => by rw [sr_o (by omega)]; exact h d hd
theorem KR.fl {S S1 : St} (h : KR S S1) (c i n : Nat) (v : Int32) (hc : 44 ≤ c ∧ c ≤ 50) : KR S (fillS S1 c i n v) := fun d hd => by rw [fillS_o (by omega)]; exact h d hd
theorem FC.kr {S S1 : St} (h : FC S S1) : KR S S1 := fun c hc => by
  funext j
  exact h c j (by omega) (by omega) (Or.inl (by omega))
theorem FC.kc {S S1 : St} (h : FC S S1) : KC S S1 := fun c hc => by
  funext j
  exact h c j (by omega) (by omega) (Or.inl (by omega))
theorem FM.km {S S1 : St} (h : FM S S1) : KM S S1 := fun c k hp => by
  unfold pmB at hp
  exact h c k (by omega) (by omega) (by omega)
theorem KM.su {S S1 : St} (h : KM S S1) (c k : Nat) (v : Int32) (hn : ¬ pmB c k) : KM S (su S1 c k v) := fun d j hp => by
  rw [su_g (by
    by_cases h1 : d = c
    · subst h1
      right
      intro h2
      subst h2
      exact hn hp
    · exact Or.inl h1)]
  exact h d j hp
theorem RC.kc {P : Dt} {S S1 : St} (h : RC P S) (h8 : P 20 3 ≤ 8) (hK : KC S S1) : RC P S1 := by
  have e : ∀ c, c < 44 → S1 c = S c := fun c hc => hK c (Or.inl hc)
  obtain ⟨a1, a2, a3, a4, a5, a6, a7, a8, a9, a10, a11, a12⟩ := h
  unfold RC
  rw [e 1 (by decide), e 2 (by decide), e 3 (by decide), e 4 (by decide), e 5 (by decide), e 6 (by decide), e 7 (by decide), e 0 (by decide), e 33 (by decide), e 34 (by decide), e 35 (by decide), e 36 (by decide), e 37 (by decide), e 38 (by decide), e 39 (by decide), e 40 (by decide), e 41 (by decide), e 42 (by decide), e 43 (by decide)]
  refine ⟨a1, a2, a3, a4, a5, a6, fun j hj => ?_, a8, a9, a10, a11, a12⟩
  rw [e (9 + 3 * j) (by omega), e (9 + 3 * j + 1) (by omega), e (9 + 3 * j + 2) (by omega)]
  exact a7 j hj
theorem RM.km {P : Dt} {T T1 : St} (h : RM P T) (h8 : P 20 3 ≤ 8) (hK : KM T T1) : RM P T1 := by
  obtain ⟨a1, a2, a3, a4, a5, a6, a7, a8, a9, a10, a11, a12⟩ := h
  have e : ∀ c k, pmB c k → T1 c k = T c k := hK
  refine ⟨?_, fun j hj => ?_, ?_, fun c hc => ?_, ?_, ?_, fun j hj => ?_, ?_, ?_, fun i hi => ?_, ?_, fun hn => ?_⟩
  · rw [e 55 1 (by unfold pmB; omega)]; exact a1
  · rw [e 56 j (by unfold pmB; omega)]; exact a2 j hj
  · rw [e 55 6 (by unfold pmB; omega)]; exact a3
  · rw [e 58 c (by unfold pmB; omega), e 59 c (by unfold pmB; omega), e 60 c (by unfold pmB; omega), e 61 c (by unfold pmB; omega)]; exact a4 c hc
  · rw [e 55 7 (by unfold pmB; omega)]; exact a5
  · rw [e 55 12 (by unfold pmB; omega)]; exact a6
  · rw [e 62 j (by unfold pmB; omega), e 63 j (by unfold pmB; omega)]
    refine ⟨(a7 j hj).1, (a7 j hj).2.1, fun k hk => ?_⟩
    rw [e 64 _ (by unfold pmB; omega), e 64 _ (by unfold pmB; omega)]; exact (a7 j hj).2.2 k hk
  · rw [e 55 16 (by unfold pmB; omega)]; exact a8
  · rw [e 55 29 (by unfold pmB; omega)]; exact a9
  · rw [e 70 _ (by unfold pmB; omega), e 70 _ (by unfold pmB; omega), e 70 _ (by unfold pmB; omega)]; exact a10 i hi
  · rw [e 55 32 (by unfold pmB; omega)]; exact a11
  · obtain ⟨b1, b2, b3, b4, b5, b6⟩ := a12 hn
    rw [e 55 33 (by unfold pmB; omega), e 55 34 (by unfold pmB; omega), e 55 35 (by unfold pmB; omega)]
    refine ⟨b1, b2, fun j hj => ?_, b4, fun i hi => ?_, fun hq c hc => ?_⟩
    · rw [e 73 j (by unfold pmB; omega)]; exact b3 j hj
    · rw [e 74 _ (by unfold pmB; omega), e 74 _ (by unfold pmB; omega), e 74 _ (by unfold pmB; omega)]; exact b5 i hi
    · rw [e 72 c (by unfold pmB; omega)]; exact b6 hq c hc
/-- the data of a run of cart j -/
def dtOf (P : Dt) (j : Nat) : Dt := fun i k => if i = 0 then P 1 k else if i = 1 then P 2 k else if i = 2 then P 3 k else if i = 3 then P 4 k else if i = 4 then P (30 + j) k else if i = 5 then P (40 + j) k else (if k = 0 then P 20 1 else if k = 1 then P 6 j else if k = 2 then P 5 j else P 20 4)
theorem MB_of {P : Dt} {t j : Nat} (h : OK P t) (hj : j < P 20 3) : MB (dtOf P j) := by
  obtain ⟨-, -, b3, b4, -, -, b7, b8, -⟩ := h
  obtain ⟨c1, c2, c3, c4⟩ := b7 j hj
  exact ⟨b3, c3, c1, c2, b8.1, b8.2, b4, c4⟩
theorem cpy0 {α : Type} {f g : Nat → α} {n j : Nat} (h : j < n) : va_cpy f g 0 0 n j = f j := by
  rw [pk_cpy_in (by omega) (by omega)]
  congr 1
  omega
theorem f_mount {P : Dt} {t j : Nat} {S : St} (hR : RC P S) (hO : OK P t) (hj : j < P 20 3) : ∃ S1, f_X6_mount j (nI (P 20 4)) S = some ((), S1) ∧ KR S S1 ∧ MC (dtOf P j) S1 ∧ (∀ k, k < 5 → S1 47 k = 0) := by
  have h8 : P 20 3 ≤ 8 := hO.2.2.2.2.2.1
  obtain ⟨c1, c2, c3, c4⟩ := hO.2.2.2.2.2.2.1 j hj
  have h12 := hO.2.2.1
  obtain ⟨a1, a2, a3, a4, a5, a6, a7, a8, a9, a10, a11, a12⟩ := hR
  obtain ⟨w1, w2, w3⟩ := a7 j hj
  unfold f_X6_mount
  rw [show (0 : Int32).toNatClampNeg = 0 from by decide, show (5 : Int32).toNatClampNeg = 5 from by decide, show (12 : Int32).toNatClampNeg = 12 from by decide, lett_e, lett_e, lett_e, f_fill_eq 47 5 (by decide), bnd_some, lett_e, lett_e, lett_e]
  refine ⟨_, rfl, ?_, ⟨?_, ?_, ?_, su_s, fun c hc => ⟨?_, ?_, ?_, ?_⟩, fun k hk => ⟨?_, ?_⟩⟩, fun k hk => ?_⟩
  · exact (((((((KR.rf S).sr 45 _ (by omega)).sr 46 _ (by omega)).sr 48 _ (by omega)).fl 47 0 5 0 (by omega)).su 44 5 _ (by omega)).su 44 6 _ (by omega)).su 44 7 _ (by omega)
  · rw [su_o (by decide), su_o (by decide), su_o (by decide), fillS_o (by decide), sr_o (by decide), sr_o (by decide), sr_o (by decide)]; exact a3
  · rw [su_k (by decide), su_k (by decide), su_s, fillS_o (by omega), sr_o (by omega), sr_o (by omega), sr_o (by omega)]; exact w2
  · rw [su_k (by decide), su_s, su_o (by omega), fillS_o (by omega), sr_o (by omega), sr_o (by omega), sr_o (by omega)]; exact w1
  · rw [su_o (by decide), su_o (by decide), su_o (by decide), fillS_o (by decide), sr_o (by decide), sr_o (by decide), sr_o (by decide)]; exact (a4 c hc).1
  · rw [su_o (by decide), su_o (by decide), su_o (by decide), fillS_o (by decide), sr_o (by decide), sr_o (by decide), sr_o (by decide)]; exact (a4 c hc).2.1
  · rw [su_o (by decide), su_o (by decide), su_o (by decide), fillS_o (by decide), sr_o (by decide), sr_o (by decide), sr_o (by decide)]; exact (a4 c hc).2.2.1
  · have hc' : c < P 20 1 := hc
    rw [su_o (by decide), su_o (by decide), su_o (by decide), fillS_o (by decide), sr_s, cpy0 (by omega), sr_o (by decide), sr_o (by decide)]; exact (a4 c hc).2.2.2
  · have hk' : k < P 6 j := hk
    rw [su_o (by decide), su_o (by decide), su_o (by decide), fillS_o (by decide), sr_o (by decide), sr_o (by decide), sr_s, cpy0 (by omega)]; exact (w3 k hk).1
  · have hk' : k < P 6 j := hk
    rw [su_o (by decide), su_o (by decide), su_o (by decide), fillS_o (by decide), sr_o (by decide), sr_s, cpy0 (by omega), sr_o (by omega)]; exact (w3 k hk).2
  · rw [su_o (by decide), su_o (by decide), su_o (by decide), fillS_in (by omega)]
/-- rows copied one by one -/
def cpS (S : St) (cs cd i n : Nat) : St := fun c j => if c = cd then (if i ≤ j ∧ j < n then S cs j else S c j) else S c j
theorem cpS_o {S : St} {cs cd i n c : Nat} (h : c ≠ cd) : cpS S cs cd i n c = S c := by
  funext j
  unfold cpS
  rw [if_neg h]
theorem cpS_in {S : St} {cs cd i n j : Nat} (h : i ≤ j ∧ j < n) : cpS S cs cd i n cd j = S cs j := by
  unfold cpS
  rw [if_pos rfl, if_pos h]
theorem cpS_0 (S : St) (cs cd n : Nat) : cpS S cs cd n n = S := by
  funext c j
  unfold cpS
  by_cases hc : c = cd
  · rw [if_pos hc, if_neg (by omega)]
  · rw [if_neg hc]
theorem cpS_1 (S : St) (cs cd i n : Nat) (h : i < n) (hne : cs ≠ cd) : cpS (su S cd i (S cs i)) cs cd (i + 1) n = cpS S cs cd i n := by
  funext c j
  unfold cpS
  by_cases hc : c = cd
  · subst hc
    rw [if_pos rfl, if_pos rfl]
    by_cases hj : j = i
    · subst hj
      rw [if_neg (by omega), if_pos (by omega), su_s]
    · rw [su_k hj, su_o hne]
      by_cases h2 : i + 1 ≤ j ∧ j < n
      · rw [if_pos h2, if_pos (by omega)]
      · rw [if_neg h2, if_neg (by omega)]
  · rw [if_neg hc, if_neg hc, su_o hc]
theorem take78 : ∀ (d n i : Nat) (S : St), i + d = 12 → d < n → f_X8_take_l78 n (nI i) S = some ((), cpS S 61 67 i 12) := by
  intro d
  induction d with
  | zero =>
    intro n i S hi hd
    obtain ⟨n, rfl⟩ : ∃ k, n = k + 1 := ⟨n - 1, by omega⟩
    obtain rfl : i = 12 := by omega
    rw [f_X8_take_l78, if_pos (by decide), cpS_0]
  | succ d ih =>
    intro n i S hi hd
    obtain ⟨n, rfl⟩ : ∃ k, n = k + 1 := ⟨n - 1, by omega⟩
    rw [f_X8_take_l78, if_neg (show ¬ (12 : Int32) ≤ nI i from nI_ge (b := 12) (by omega) (by decide)), inb_nI (by omega) (by omega), grd_t, grd_t, lett_e, lett_e, nI_1, cl_nI (by omega), ih n (i + 1) _ (by omega) (by omega), cpS_1 S 61 67 i 12 (by omega) (by decide)]
theorem mul10 {j k : Nat} : (10 : Int32) * nI j + 2 * nI k = nI (10 * j + 2 * k) := by
  rw [show (10 : Int32) = nI 10 from rfl, show (2 : Int32) = nI 2 from rfl, pk_mul, pk_mul, nI_add]
theorem take22 {j m : Nat} (hj : j < 8) (hm : m ≤ 5) : ∀ (d n k : Nat) (S : St), k + d = m → d < n → S 55 18 = nI m → ∃ S1, f_X8_take_l22 n (nI j) (nI k) S = some ((), S1) ∧ (∀ c, c ≠ 65 → c ≠ 66 → c ≠ 67 → S1 c = S c) ∧ (∀ i, i < k → S1 65 i = S 65 i ∧ S1 66 i = S 66 i) ∧ (∀ i, k ≤ i → i < m → S1 65 i = S 64 (10 * j + 2 * i) ∧ S1 66 i = S 64 (10 * j + 2 * i + 1)) ∧ (∀ c, c < 12 → S1 67 c = S 61 c) := by
  intro d
  induction d with
  | zero =>
    intro n k S hk hd h18
    obtain ⟨n, rfl⟩ : ∃ i, n = i + 1 := ⟨n - 1, by omega⟩
    obtain rfl : k = m := by omega
    rw [f_X8_take_l22, h18, if_pos (nI_le (Nat.le_refl _) (by omega)), show (0 : Int32) = nI 0 from rfl, take78 12 FU 0 S (by omega) (by unfold FU; omega)]
    refine ⟨_, rfl, fun c h1 h2 h3 => cpS_o h3, fun i hi => ⟨by rw [cpS_o (by decide)], by rw [cpS_o (by decide)]⟩, fun i h1 h2 => absurd h2 (by omega), fun c hc => cpS_in (by omega)⟩
  | succ d ih =>
    intro n k S hk hd h18
    obtain ⟨n, rfl⟩ : ∃ i, n = i + 1 := ⟨n - 1, by omega⟩
    rw [f_X8_take_l22, h18, if_neg (nI_ge (by omega) (by omega)), mul10, nI_1, inb_nI (show 10 * j + 2 * k < 80 by omega) (by decide), grd_t, inb_nI (show k < 6 by omega) (by decide), grd_t, lett_e, inb_nI (show 10 * j + 2 * k + 1 < 80 by omega) (by decide), grd_t, grd_t, lett_e, lett_e, nI_1, cl_nI (by omega), cl_nI (by omega), cl_nI (by omega), su_o (show (64 : Nat) ≠ 65 by decide)]
    obtain ⟨S1, e1, f1, f2, f3, f4⟩ := ih n (k + 1) (su (su S 65 k (S 64 (10 * j + 2 * k))) 66 k (S 64 (10 * j + 2 * k + 1))) (by omega) (by omega) (by rw [su_o (by decide), su_o (by decide)]; exact h18)
    refine ⟨S1, e1, fun c h1 h2 h3 => ?_, fun i hi => ?_, fun i h1 h2 => ?_, fun c hc => ?_⟩
    · rw [f1 c h1 h2 h3, su_o h2, su_o h1]
    · rw [(f2 i (by omega)).1, (f2 i (by omega)).2, su_o (show (65 : Nat) ≠ 66 by decide), su_k (by omega), su_k (by omega), su_o (show (66 : Nat) ≠ 65 by decide)]
      exact ⟨rfl, rfl⟩
    · by_cases hik : i = k
      · subst hik
        rw [(f2 i (by omega)).1, (f2 i (by omega)).2, su_o (show (65 : Nat) ≠ 66 by decide), su_s, su_s]
        exact ⟨rfl, rfl⟩
      · rw [(f3 i (by omega) h2).1, (f3 i (by omega) h2).2, su_o (show (64 : Nat) ≠ 66 by decide), su_o (show (64 : Nat) ≠ 65 by decide)]
        exact ⟨rfl, rfl⟩
    · rw [f4 c hc, su_o (by decide), su_o (by decide)]
theorem f_take {P : Dt} {t j : Nat} {T : St} (hR : RM P T) (hO : OK P t) (hj : j < P 20 3) : ∃ T1, f_X8_take (nI j) T = some ((), T1) ∧ KM T T1 ∧ MM (dtOf P j) T1 := by
  have h8 : P 20 3 ≤ 8 := hO.2.2.2.2.2.1
  obtain ⟨c1, c2, c3, c4⟩ := hO.2.2.2.2.2.2.1 j hj
  have h12 := hO.2.2.1
  obtain ⟨a1, a2, a3, a4, a5, a6, a7, a8, a9, a10, a11, a12⟩ := hR
  obtain ⟨w1, w2, w3⟩ := a7 j hj
  unfold f_X8_take
  rw [inb_nI (show j < 8 by omega) (by decide), grd_t, lett_e, grd_t, lett_e, cl_nI (by omega), su_o (show (63 : Nat) ≠ 55 by decide), w1, w2, show (0 : Int32) = nI 0 from rfl]
  obtain ⟨T1, e1, f1, -, f3, f4⟩ := take22 (j := j) (m := P 6 j) (by omega) c3 (P 6 j) FU 0 (su (su T 55 17 (nI (P 5 j))) 55 18 (nI (P 6 j))) (by omega) (by unfold FU; omega) su_s
  have hK : KM T T1 := fun c k hp => by
    have hp' := hp
    unfold pmB at hp'
    rw [f1 c (by omega) (by omega) (by omega)]
    exact (((KM.rf T).su 55 17 _ (by unfold pmB; omega)).su 55 18 _ (by unfold pmB; omega)) c k hp
  refine ⟨T1, e1, hK, ?_, ?_, ?_, ?_, fun c hc => ⟨?_, ?_, ?_, ?_⟩, fun k hk => ?_⟩
  · rw [f1 55 (by decide) (by decide) (by decide), su_k (by decide), su_k (by decide)]; exact a3
  · rw [f1 55 (by decide) (by decide) (by decide), su_s]; rfl
  · rw [f1 55 (by decide) (by decide) (by decide), su_k (by decide), su_s]; rfl
  · rw [f1 55 (by decide) (by decide) (by decide), su_k (by decide), su_k (by decide)]; exact a8
  · rw [f1 58 (by decide) (by decide) (by decide), su_o (by decide), su_o (by decide)]; exact (a4 c hc).1
  · rw [f1 59 (by decide) (by decide) (by decide), su_o (by decide), su_o (by decide)]; exact (a4 c hc).2.1
  · rw [f1 60 (by decide) (by decide) (by decide), su_o (by decide), su_o (by decide)]; exact (a4 c hc).2.2.1
  · have hc' : c < P 20 1 := hc
    rw [f4 c (by omega), su_o (by decide), su_o (by decide)]; exact (a4 c hc).2.2.2
  · have hk' : k < P 6 j := hk
    rw [(f3 k (by omega) hk').1, (f3 k (by omega) hk').2, su_o (by decide), su_o (by decide)]
    exact w3 k hk'
/-- a run of cart j: the class -/
theorem f_goDown {P : Dt} {t j x : Nat} {S : St} (hR : RC P S) (hO : OK P t) (hj : j < P 20 3) (h0 : P 20 1 ≠ 0) (hx : x ≤ 17000) : ∃ S1, f_X7_goDown (nI j) (nI x) S = some ((), S1) ∧ KR S S1 ∧ RCo (dtOf P j) S1 (goN (dtOf P j) x) ∧ MC (dtOf P j) S1 := by
  have h8 : P 20 3 ≤ 8 := hO.2.2.2.2.2.1
  unfold f_X7_goDown
  rw [inb_nI (show j < 8 by omega) (by decide), grd_t, cl_nI (by omega), hR.2.2.2.2.2.2.2.1]
  obtain ⟨S1, e1, k1, m1, -⟩ := f_mount hR hO hj
  rw [e1, bnd_some]
  obtain ⟨S2, e2, k2, r2⟩ := f_go7 (MB_of hO hj) (show 0 < dtOf P j 6 0 from Nat.pos_of_ne_zero h0) hx m1
  rw [e2, bnd_some]
  exact ⟨S2, rfl, k1.tr k2.kr, r2, m1.fc k2⟩
/-- the reference -/
theorem f_takeGo {P : Dt} {t j x : Nat} {T : St} {α : Type} (K : St → Option (α × St)) (hR : RM P T) (hO : OK P t) (hj : j < P 20 3) (h0 : P 20 1 ≠ 0) (hx : x ≤ 17000) : ∃ T1, (bnd (f_X8_take (nI j) T) fun _ S1 => bnd (f_X8_go (nI x) S1) fun _ S2 => K S2) = K T1 ∧ KM T T1 ∧ RMo (dtOf P j) T1 (goN (dtOf P j) x) ∧ MM (dtOf P j) T1 := by
  obtain ⟨T1, e1, k1, m1⟩ := f_take hR hO hj
  obtain ⟨T2, e2, k2, r2⟩ := f_go8 (MB_of hO hj) (show 0 < dtOf P j 6 0 from Nat.pos_of_ne_zero h0) hx m1
  exact ⟨T2, by rw [e1, bnd_some, e2, bnd_some], k1.tr k2.km, r2, m1.fm k2⟩
