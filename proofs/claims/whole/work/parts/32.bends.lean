-- ===== bends =====
/-- how many of the d cells from c on bend; which is the bend k of them, its cell + 1, or 0 -/
def bcN (sh : Nat → Nat) : Nat → Nat → Nat
  | 0, _ => 0
  | d + 1, c => (if sh c = 0 then 0 else 1) + bcN sh d (c + 1)
def baN (sh : Nat → Nat) : Nat → Nat → Nat → Nat
  | _, 0, _ => 0
  | k, d + 1, c => if sh c = 0 then baN sh k d (c + 1) else if k = 0 then c + 1 else baN sh (k - 1) d (c + 1)
theorem bcN_le (sh : Nat → Nat) : ∀ d c, bcN sh d c ≤ d := by
  intro d
  induction d with
  | zero => intro c; exact Nat.le_refl _
  | succ d ih =>
    intro c
    have := ih (c + 1)
    rw [bcN]
    split <;> omega
theorem baN_le (sh : Nat → Nat) : ∀ d k c, baN sh k d c = 0 ∨ (c < baN sh k d c ∧ baN sh k d c ≤ c + d ∧ sh (baN sh k d c - 1) ≠ 0) := by
  intro d
  induction d with
  | zero => intro k c; exact Or.inl rfl
  | succ d ih =>
    intro k c
    rw [baN]
    by_cases h : sh c = 0
    · rw [if_pos h]
      rcases ih k (c + 1) with q | q
      · exact Or.inl q
      · exact Or.inr ⟨by omega, by omega, q.2.2⟩
    · rw [if_neg h]
      by_cases h2 : k = 0
      · rw [if_pos h2]
        exact Or.inr ⟨by omega, by omega, h⟩
      · rw [if_neg h2]
        rcases ih (k - 1) (c + 1) with q | q
        · exact Or.inl q
        · exact Or.inr ⟨by omega, by omega, q.2.2⟩
theorem bd7_c {sh : Nat → Nat} {m : Nat} (hm : m ≤ 12) {S : St} (h4 : S 3 4 = nI m) (h5 : ∀ c, c < m → S 5 c = nI (sh c) ∧ sh c ≤ 9) : f_X3_bends S = some (nI (bcN sh m 0), S) := by
  have lp : ∀ (d n c a : Nat), c + d = m → d < n → a ≤ c → f_X3_bends_l4 n (nI a) (nI c) S = some (nI (a + bcN sh d c), S) := by
    intro d
    induction d with
    | zero =>
      intro n c a hc hn ha
      obtain ⟨n, rfl⟩ : ∃ k, n = k + 1 := ⟨n - 1, by omega⟩
      rw [f_X3_bends_l4, h4, if_pos (nI_le (by omega) (by omega))]
      rfl
    | succ d ih =>
      intro n c a hc hn ha
      obtain ⟨n, rfl⟩ : ∃ k, n = k + 1 := ⟨n - 1, by omega⟩
      obtain ⟨e5, l5⟩ := h5 c (by omega)
      rw [f_X3_bends_l4, h4, if_neg (nI_ge (by omega) (by omega)), inb_nI (show c < 12 by omega) (by decide), grd_t, cl_nI (by omega), e5, bcN]
      unfold f_X3_bends_b24
      by_cases h : sh c = 0
      · rw [if_pos h, h, if_pos (by decide), lett_e, nI_1, Nat.zero_add]
        exact ih n (c + 1) a (by omega) (by omega) (by omega)
      · rw [if_neg h, if_neg (nI_nle (by omega) (by omega)), lett_e, lett_e, nI_1, nI_1, ih n (c + 1) (a + 1) (by omega) (by omega) (by omega), show a + 1 + bcN sh d (c + 1) = a + (1 + bcN sh d (c + 1)) by omega]
  have := lp m FU 0 0 (by omega) (by unfold FU; omega) (by omega)
  rw [Nat.zero_add] at this
  exact this
theorem bd7_a {sh : Nat → Nat} {m : Nat} (hm : m ≤ 12) {S : St} (h4 : S 3 4 = nI m) (h5 : ∀ c, c < m → S 5 c = nI (sh c) ∧ sh c ≤ 9) {k : Nat} (hk : k ≤ 100) : f_X3_bendAt (nI k) S = some (encT (baN sh k m 0), S) := by
  have lp : ∀ (d n c a : Nat), c + d = m → d < n → a ≤ k → f_X3_bendAt_l4 n (nI k) (nI a) (nI c) S = some (encT (baN sh (k - a) d c), S) := by
    intro d
    induction d with
    | zero =>
      intro n c a hc hn ha
      obtain ⟨n, rfl⟩ : ∃ k, n = k + 1 := ⟨n - 1, by omega⟩
      rw [f_X3_bendAt_l4, h4, if_pos (nI_le (by omega) (by omega)), baN]
      rfl
    | succ d ih =>
      intro n c a hc hn ha
      obtain ⟨n, rfl⟩ : ∃ k, n = k + 1 := ⟨n - 1, by omega⟩
      obtain ⟨e5, l5⟩ := h5 c (by omega)
      rw [f_X3_bendAt_l4, h4, if_neg (nI_ge (by omega) (by omega)), inb_nI (show c < 12 by omega) (by decide), grd_t, cl_nI (by omega), e5, baN]
      unfold f_X3_bendAt_b31
      by_cases h : sh c = 0
      · rw [if_pos h, h, if_pos (by decide), lett_e, nI_1]
        exact ih n (c + 1) a (by omega) (by omega) ha
      · rw [if_neg h, if_neg (nI_nle (by omega) (by omega))]
        by_cases h2 : a = k
        · subst h2
          rw [if_pos rfl, if_pos (by omega)]
          rfl
        · rw [if_neg (nI_ne (by omega) (by omega) h2), if_neg (by omega), lett_e, lett_e, nI_1, nI_1, ih n (c + 1) (a + 1) (by omega) (by omega) (by omega), show k - (a + 1) = k - a - 1 by omega]
  have := lp m FU 0 0 (by omega) (by unfold FU; omega) (by omega)
  exact this
theorem bd8_c {sh : Nat → Nat} {m : Nat} (hm : m ≤ 12) {S : St} (h4 : S 55 6 = nI m) (h5 : ∀ c, c < m → S 59 c = nI (sh c) ∧ sh c ≤ 9) : f_X8_bends S = some (nI (bcN sh m 0), S) := by
  have lp : ∀ (d n c a : Nat), c + d = m → d < n → a ≤ c → f_X8_bends_l4 n (nI a) (nI c) S = some (nI (a + bcN sh d c), S) := by
    intro d
    induction d with
    | zero =>
      intro n c a hc hn ha
      obtain ⟨n, rfl⟩ : ∃ k, n = k + 1 := ⟨n - 1, by omega⟩
      rw [f_X8_bends_l4, h4, if_pos (nI_le (by omega) (by omega))]
      rfl
    | succ d ih =>
      intro n c a hc hn ha
      obtain ⟨n, rfl⟩ : ∃ k, n = k + 1 := ⟨n - 1, by omega⟩
      obtain ⟨e5, l5⟩ := h5 c (by omega)
      rw [f_X8_bends_l4, h4, if_neg (nI_ge (by omega) (by omega)), inb_nI (show c < 12 by omega) (by decide), grd_t, cl_nI (by omega), e5, bcN]
      unfold f_X8_bends_b27
      by_cases h : sh c = 0
      · rw [if_pos h, h, if_pos (by decide), lett_e, lett_e, Int32.add_zero, nI_1, Nat.zero_add]
        exact ih n (c + 1) a (by omega) (by omega) (by omega)
      · rw [if_neg h, if_neg (nI_nle (by omega) (by omega)), lett_e, lett_e, nI_1, nI_1, ih n (c + 1) (a + 1) (by omega) (by omega) (by omega), show a + 1 + bcN sh d (c + 1) = a + (1 + bcN sh d (c + 1)) by omega]
  have := lp m FU 0 0 (by omega) (by unfold FU; omega) (by omega)
  rw [Nat.zero_add] at this
  exact this
theorem bd8_a {sh : Nat → Nat} {m : Nat} (hm : m ≤ 12) {S : St} (h4 : S 55 6 = nI m) (h5 : ∀ c, c < m → S 59 c = nI (sh c) ∧ sh c ≤ 9) {k : Nat} (hk : k ≤ 100) : f_X8_bendAt (nI k) S = some (encT (baN sh k m 0), S) := by
  have lp : ∀ (d n c a : Nat), c + d = m → d < n → a ≤ k → f_X8_bendAt_l4 n (nI k) (nI a) (nI c) S = some (encT (baN sh (k - a) d c), S) := by
    intro d
    induction d with
    | zero =>
      intro n c a hc hn ha
      obtain ⟨n, rfl⟩ : ∃ k, n = k + 1 := ⟨n - 1, by omega⟩
      rw [f_X8_bendAt_l4, h4, if_pos (nI_le (by omega) (by omega)), baN]
      rfl
    | succ d ih =>
      intro n c a hc hn ha
      obtain ⟨n, rfl⟩ : ∃ k, n = k + 1 := ⟨n - 1, by omega⟩
      obtain ⟨e5, l5⟩ := h5 c (by omega)
      rw [f_X8_bendAt_l4, h4, if_neg (nI_ge (by omega) (by omega)), inb_nI (show c < 12 by omega) (by decide), grd_t, cl_nI (by omega), e5, baN]
      unfold f_X8_bendAt_b31
      by_cases h : sh c = 0
      · rw [if_pos h, h, if_pos (by decide), lett_e, nI_1]
        exact ih n (c + 1) a (by omega) (by omega) ha
      · rw [if_neg h, if_neg (nI_nle (by omega) (by omega))]
        by_cases h2 : a = k
        · subst h2
          rw [if_pos rfl, if_pos (by omega)]
          rfl
        · rw [if_neg (nI_ne (by omega) (by omega) h2), if_neg (by omega), lett_e, lett_e, nI_1, nI_1, ih n (c + 1) (a + 1) (by omega) (by omega) (by omega), show k - (a + 1) = k - a - 1 by omega]
  have := lp m FU 0 0 (by omega) (by unfold FU; omega) (by omega)
  exact this
def shP (P : Dt) : Nat → Nat := fun c => P 2 c
theorem bdC {P : Dt} {t : Nat} {S : St} (hR : RC P S) (hO : OK P t) : f_X3_bends S = some (nI (bcN (shP P) (P 20 1) 0), S) := bd7_c hO.h12 hR.2.2.1 (fun c hc => ⟨(hR.2.2.2.1 c hc).2.1, (hO.2.2.2.1 c hc).2.1⟩)
theorem bdM {P : Dt} {t : Nat} {S : St} (hR : RM P S) (hO : OK P t) : f_X8_bends S = some (nI (bcN (shP P) (P 20 1) 0), S) := bd8_c hO.h12 hR.2.2.1 (fun c hc => ⟨(hR.2.2.2.1 c hc).2.1, (hO.2.2.2.1 c hc).2.1⟩)
theorem baC {P : Dt} {t : Nat} {S : St} (hR : RC P S) (hO : OK P t) {k : Nat} (hk : k ≤ 100) : f_X3_bendAt (nI k) S = some (encT (baN (shP P) k (P 20 1) 0), S) := bd7_a hO.h12 hR.2.2.1 (fun c hc => ⟨(hR.2.2.2.1 c hc).2.1, (hO.2.2.2.1 c hc).2.1⟩) hk
theorem baM {P : Dt} {t : Nat} {S : St} (hR : RM P S) (hO : OK P t) {k : Nat} (hk : k ≤ 100) : f_X8_bendAt (nI k) S = some (encT (baN (shP P) k (P 20 1) 0), S) := bd8_a hO.h12 hR.2.2.1 (fun c hc => ⟨(hR.2.2.2.1 c hc).2.1, (hO.2.2.2.1 c hc).2.1⟩) hk
-- count
def cntN (P : Dt) (x : Int32) : Int32 := if x = 0 then nI (P 20 1) else if x = 1 then nI (bcN (shP P) (P 20 1) 0) else if x = 2 then nI (P 20 3) else if x = 3 then nI (P 20 5) else if x = 4 then nI (P 20 0) else if x = 5 then nI (P 20 2) else if x = 6 then nI (P 20 4) else -102
theorem f_count7 {P : Dt} {t : Nat} {S : St} (hR : RC P S) (hO : OK P t) (x1 : Int32) : f_X7_count x1 S = some (cntN P x1, S) := by
  unfold f_X7_count cntN
  rw [bdC hR hO, bnd_some, hR.1, hR.2.2.1, hR.2.2.2.2.1, hR.2.2.2.2.2.1, hR.2.2.2.2.2.2.2.1, hR.2.2.2.2.2.2.2.2.1]
  by_cases h0 : x1 = 0
  · rw [if_pos h0, if_pos h0]
  by_cases h1 : x1 = 1
  · rw [if_neg h0, if_pos h1, if_neg h0, if_pos h1]
  by_cases h2 : x1 = 2
  · rw [if_neg h0, if_neg h1, if_pos h2, if_neg h0, if_neg h1, if_pos h2]
  by_cases h3 : x1 = 3
  · rw [if_neg h0, if_neg h1, if_neg h2, if_pos h3, if_neg h0, if_neg h1, if_neg h2, if_pos h3]
  by_cases h4 : x1 = 4
  · rw [if_neg h0, if_neg h1, if_neg h2, if_neg h3, if_pos h4, if_neg h0, if_neg h1, if_neg h2, if_neg h3, if_pos h4]
  by_cases h5 : x1 = 5
  · rw [if_neg h0, if_neg h1, if_neg h2, if_neg h3, if_neg h4, if_pos h5, if_neg h0, if_neg h1, if_neg h2, if_neg h3, if_neg h4, if_pos h5]
  by_cases h6 : x1 = 6
  · rw [if_neg h0, if_neg h1, if_neg h2, if_neg h3, if_neg h4, if_neg h5, if_pos h6, if_neg h0, if_neg h1, if_neg h2, if_neg h3, if_neg h4, if_neg h5, if_pos h6]
  rw [if_neg h0, if_neg h1, if_neg h2, if_neg h3, if_neg h4, if_neg h5, if_neg h6, if_neg h0, if_neg h1, if_neg h2, if_neg h3, if_neg h4, if_neg h5, if_neg h6]
theorem f_count8 {P : Dt} {t : Nat} {S : St} (hR : RM P S) (hO : OK P t) (x1 : Int32) : f_X8_countOf x1 S = some (cntN P x1, S) := by
  unfold f_X8_countOf cntN
  rw [bdM hR hO, bnd_some, hR.1, hR.2.2.1, hR.2.2.2.2.1, hR.2.2.2.2.2.1, hR.2.2.2.2.2.2.2.1, hR.2.2.2.2.2.2.2.2.1]
  by_cases h0 : x1 = 0
  · rw [if_pos h0, if_pos h0]
  by_cases h1 : x1 = 1
  · rw [if_neg h0, if_pos h1, if_neg h0, if_pos h1]
  by_cases h2 : x1 = 2
  · rw [if_neg h0, if_neg h1, if_pos h2, if_neg h0, if_neg h1, if_pos h2]
  by_cases h3 : x1 = 3
  · rw [if_neg h0, if_neg h1, if_neg h2, if_pos h3, if_neg h0, if_neg h1, if_neg h2, if_pos h3]
  by_cases h4 : x1 = 4
  · rw [if_neg h0, if_neg h1, if_neg h2, if_neg h3, if_pos h4, if_neg h0, if_neg h1, if_neg h2, if_neg h3, if_pos h4]
  by_cases h5 : x1 = 5
  · rw [if_neg h0, if_neg h1, if_neg h2, if_neg h3, if_neg h4, if_pos h5, if_neg h0, if_neg h1, if_neg h2, if_neg h3, if_neg h4, if_pos h5]
  by_cases h6 : x1 = 6
  · rw [if_neg h0, if_neg h1, if_neg h2, if_neg h3, if_neg h4, if_neg h5, if_pos h6, if_neg h0, if_neg h1, if_neg h2, if_neg h3, if_neg h4, if_neg h5, if_pos h6]
  rw [if_neg h0, if_neg h1, if_neg h2, if_neg h3, if_neg h4, if_neg h5, if_neg h6, if_neg h0, if_neg h1, if_neg h2, if_neg h3, if_neg h4, if_neg h5, if_neg h6]
theorem op_count (x1 : Int32) : Op (f_X7_count x1) (f_X8_count x1) := by
  refine Op.ask (fun t P hO => ⟨cntN P x1, fun S hR => ⟨S, f_count7 hR hO x1, KC.rf S⟩, fun T hR => ⟨T, ?_, KM.rf T⟩⟩)
  unfold f_X8_count
  rw [f_count8 hR hO, bnd_some]
