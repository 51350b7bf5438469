-- ===== stays =====
theorem goR_e {D : Dt} (hD : ∀ c, c < D 6 0 → D 0 c ≤ 9) : ∀ (d c x tm bk : Nat) (tk en : Nat → Nat), c + d ≤ D 6 0 → x + 180 * d ≤ 20000 → (∀ j, en j ≤ 20000) → ∀ j, goR D d c x tm bk tk en 2 j ≤ 20000 := by
  intro d
  induction d with
  | zero => intro c x tm bk tk en _ _ he j; exact he j
  | succ d ih =>
    intro c x tm bk tk en hc hx he j
    have h9 := hD c (by omega)
    have hl := leftN_le D c (x + 20 * D 0 c)
    have hu : ∀ i, upN en c (leftN D c (x + 20 * D 0 c)) i ≤ 20000 := fun i => by
      unfold upN
      have := he i
      split <;> omega
    rw [goR]
    by_cases h1 : leftN D c (x + 20 * D 0 c) = 0
    · rw [if_pos h1]; exact he j
    · rw [if_neg h1]
      by_cases h2 : 0 < D 1 c ∧ 100 * D 6 3 / D 1 c < leftN D c (x + 20 * D 0 c)
      · rw [if_pos h2]; exact hu j
      · rw [if_neg h2]
        exact ih _ _ _ _ _ _ (by omega) (by omega) hu j
theorem goN_e {D : Dt} (hB : MB D) {x : Nat} (hx : x ≤ 17000) (j : Nat) : goN D x 2 j ≤ 20000 :=
  goR_e (fun c hc => (hB.2.2.2.2.2.2.1 c hc).1) _ _ _ _ _ _ _ (by omega) (by have := hB.1; omega) (fun _ => Nat.zero_le _) j
/-- hundredths of staying on at a bend: grip g, how sharp s, the swing v there (0 none), shake sk -/
def safeN (g s v sk : Nat) : Nat := if v = 0 then 100 else if v ≤ 100 * g / s then 100 - 10 * v / (100 * g / s) * sk else 0
def sfN (m g : Nat) (sh E : Nat → Nat) (sk i : Nat) : Nat := if baN sh i m 0 = 0 then 100 else safeN g (sh (baN sh i m 0 - 1)) (E (baN sh i m 0 - 1)) sk
theorem safeN_le (g s v sk : Nat) : safeN g s v sk ≤ 100 := by unfold safeN; split <;> (try split) <;> omega
theorem sfN_le (m g : Nat) (sh E : Nat → Nat) (sk i : Nat) : sfN m g sh E sk i ≤ 100 := by
  unfold sfN
  have := safeN_le g (sh (baN sh i m 0 - 1)) (E (baN sh i m 0 - 1)) sk
  split <;> omega
theorem enc_n {v : Nat} (hv : v ≤ 20000) : (enc v = -1) ↔ v = 0 := by
  unfold enc
  by_cases h : v = 0
  · rw [if_pos h]; exact ⟨fun _ => h, fun _ => rfl⟩
  · rw [if_neg h]
    refine ⟨fun q => ?_, fun q => absurd q h⟩
    have := congrArg Int32.toInt q
    rw [nI_toInt (by omega), show ((-1 : Int32)).toInt = -1 from by decide] at this
    omega
theorem q10 {v q : Nat} (h : v ≤ q) (h0 : 0 < q) : 10 * v / q ≤ 10 := by
  have h1 : 10 * v ≤ q * 10 := by omega
  exact Nat.div_le_of_le_mul h1
theorem bear_b {g s : Nat} (hg : 1 ≤ g ∧ g ≤ 99) (hs : s ≠ 0 ∧ s ≤ 9) : 0 < 100 * g / s ∧ 100 * g / s ≤ 9900 := by
  have h1 : 100 * g / s ≤ 100 * g := Nat.div_le_self _ _
  have h2 : 1 ≤ 100 * g / s := (Nat.le_div_iff_mul_le (by omega)).mpr (by omega)
  omega
/-- what the class looks at -/
def WB (m g : Nat) (sh E : Nat → Nat) (S : St) : Prop := S 3 4 = nI m ∧ (∀ c, c < m → S 5 c = nI (sh c)) ∧ S 44 7 = nI g ∧ ∀ c, c < 12 → S 50 c = enc (E c)
theorem WB.o {m g : Nat} {sh E : Nat → Nat} {S S1 : St} (h : WB m g sh E S) (hK : ∀ c, c ≠ 54 → S1 c = S c) : WB m g sh E S1 := by
  obtain ⟨h1, h2, h3, h4⟩ := h
  refine ⟨?_, fun c hc => ?_, ?_, fun c hc => ?_⟩
  · rw [hK 3 (by decide)]; exact h1
  · rw [hK 5 (by decide)]; exact h2 c hc
  · rw [hK 44 (by decide)]; exact h3
  · rw [hK 50 (by decide)]; exact h4 c hc
theorem weigh1 {m g sk : Nat} {sh E : Nat → Nat} {S : St} (hm : m ≤ 12) (hg : 1 ≤ g ∧ g ≤ 99) (hsh : ∀ c, c < m → sh c ≤ 9) (hE : ∀ c, E c ≤ 20000) (hsk : sk ≤ 9) (hW : WB m g sh E S) (n : Nat) {i : Nat} (hi : i < 4) : ∃ S1, f_X7_weighBends_l2 (n + 1) (nI sk) (nI i) S = f_X7_weighBends_l2 n (nI sk) (nI (i + 1)) S1 ∧ (∀ c, c ≠ 54 → S1 c = S c) ∧ S1 54 i = nI (sfN m g sh E sk i) ∧ ∀ j, j ≠ i → S1 54 j = S 54 j := by
  have k0 : ∀ c, c ≠ 54 → su S 54 i 100 c = S c := fun c hc => su_o hc
  have W0 := hW.o k0
  obtain ⟨w1, w2, w3, w4⟩ := W0
  rw [f_X7_weighBends_l2, if_neg (show ¬ (4 : Int32) ≤ nI i from nI_ge (b := 4) hi (by decide)), inb_nI hi (by decide), grd_t, lett_e, cl_nI (by omega), bd7_a hm w1 (fun c hc => ⟨w2 c hc, hsh c hc⟩) (show i ≤ 100 by omega), bnd_some]
  unfold f_X7_weighBends_b69 sfN
  rw [lett_e, nI_1]
  have hb := baN_le sh m i 0
  by_cases h0 : baN sh i m 0 = 0
  · rw [if_pos ((encT_n (by omega)).mpr h0), if_pos h0]
    exact ⟨_, rfl, k0, su_s, fun j hj => su_k hj⟩
  · have hb := hb.resolve_left h0
    rw [if_neg (fun q => h0 ((encT_n (by omega)).mp q)), if_neg h0, show encT (baN sh i m 0) = nI (baN sh i m 0 - 1) from by unfold encT; rw [if_neg h0]]
    have hcm : baN sh i m 0 - 1 < m := by omega
    rw [inb_nI (show baN sh i m 0 - 1 < 12 by omega) (by decide), grd_t, cl_nI (by omega), w4 _ (by omega)]
    have hEc := hE (baN sh i m 0 - 1)
    unfold safeN
    by_cases he : E (baN sh i m 0 - 1) = 0
    · rw [if_pos ((enc_n hEc).mpr he), if_pos he]
      exact ⟨_, rfl, k0, su_s, fun j hj => su_k hj⟩
    · obtain ⟨q0, q1⟩ := bear_b (s := sh (baN sh i m 0 - 1)) hg ⟨hb.2.2, hsh _ hcm⟩
      rw [if_neg (fun q => he ((enc_n hEc).mp q)), if_neg he, show enc (E (baN sh i m 0 - 1)) = nI (E (baN sh i m 0 - 1)) from by unfold enc; rw [if_neg he], grd_t]
      unfold f_X6_bearable
      rw [inb_nI (show baN sh i m 0 - 1 < 12 by omega) (by decide), grd_t, cl_nI (by omega), w3, w2 _ hcm, show (100 : Int32) * nI g = nI (100 * g) from pk_mul 100 g, f_by _ _ (by omega) (Nat.pos_of_ne_zero hb.2.2) (by have := hsh _ hcm; omega), bnd_some, bnd_some]
      unfold f_X7_safeHundredths
      by_cases hl : E (baN sh i m 0 - 1) ≤ 100 * g / sh (baN sh i m 0 - 1)
      · have ht := q10 hl q0
        rw [if_pos (nI_le hl (by omega)), if_pos hl, show (10 : Int32) * nI (E (baN sh i m 0 - 1)) = nI (10 * E (baN sh i m 0 - 1)) from pk_mul 10 _, f_by _ _ (by omega) q0 (by omega), bnd_some, bnd_some, grd_t, lett_e, lett_e]
        have hmin : (if nI (10 * E (baN sh i m 0 - 1) / (100 * g / sh (baN sh i m 0 - 1))) < 10 then nI (10 * E (baN sh i m 0 - 1) / (100 * g / sh (baN sh i m 0 - 1))) else 10) = nI (10 * E (baN sh i m 0 - 1) / (100 * g / sh (baN sh i m 0 - 1))) := by
          by_cases hq : nI (10 * E (baN sh i m 0 - 1) / (100 * g / sh (baN sh i m 0 - 1))) < 10
          · rw [if_pos hq]
          · rw [if_neg hq]
            have : ¬ 10 * E (baN sh i m 0 - 1) / (100 * g / sh (baN sh i m 0 - 1)) < 10 := fun w => hq ((nI_ltI (b := 10) (by omega) (by decide)).mpr w)
            rw [show 10 * E (baN sh i m 0 - 1) / (100 * g / sh (baN sh i m 0 - 1)) = 10 by omega]
            rfl
        have hmul : 10 * E (baN sh i m 0 - 1) / (100 * g / sh (baN sh i m 0 - 1)) * sk ≤ 10 * 9 := mul_le ht hsk
        rw [hmin, pk_mul, show (100 : Int32) = nI 100 from rfl, pk_sub (by omega)]
        refine ⟨_, rfl, fun c hc => ?_, su_s, fun j hj => ?_⟩
        · rw [su_o hc, su_o hc]
        · rw [su_k hj, su_k hj]
      · rw [if_neg (nI_ge (by omega) (by omega)), if_neg hl, bnd_some, grd_t, lett_e, lett_e]
        refine ⟨_, rfl, fun c hc => ?_, su_s, fun j hj => ?_⟩
        · rw [su_o hc, su_o hc]
        · rw [su_k hj, su_k hj]
theorem f_weigh {m g sk : Nat} {sh E : Nat → Nat} {S : St} (hm : m ≤ 12) (hg : 1 ≤ g ∧ g ≤ 99) (hsh : ∀ c, c < m → sh c ≤ 9) (hE : ∀ c, E c ≤ 20000) (hsk : sk ≤ 9) (hW : WB m g sh E S) : ∃ S1, f_X7_weighBends (nI sk) S = some ((), S1) ∧ (∀ c, c ≠ 54 → S1 c = S c) ∧ ∀ j, j < 4 → S1 54 j = nI (sfN m g sh E sk j) := by
  obtain ⟨n, hn⟩ : ∃ n, FU = n + 5 := ⟨FU - 5, by unfold FU; omega⟩
  obtain ⟨S1, e1, f1, g1, h1⟩ := weigh1 hm hg hsh hE hsk hW (n + 4) (i := 0) (by decide)
  obtain ⟨S2, e2, f2, g2, h2⟩ := weigh1 hm hg hsh hE hsk (hW.o f1) (n + 3) (i := 1) (by decide)
  have F2 : ∀ c, c ≠ 54 → S2 c = S c := fun c hc => (f2 c hc).trans (f1 c hc)
  obtain ⟨S3, e3, f3, g3, h3⟩ := weigh1 hm hg hsh hE hsk (hW.o F2) (n + 2) (i := 2) (by decide)
  have F3 : ∀ c, c ≠ 54 → S3 c = S c := fun c hc => (f3 c hc).trans (F2 c hc)
  obtain ⟨S4, e4, f4, g4, h4⟩ := weigh1 hm hg hsh hE hsk (hW.o F3) (n + 1) (i := 3) (by decide)
  refine ⟨S4, ?_, fun c hc => (f4 c hc).trans (F3 c hc), fun j hj => ?_⟩
  · unfold f_X7_weighBends
    rw [hn, show (0 : Int32) = nI 0 from rfl, e1, e2, e3, e4, f_X7_weighBends_l2, if_pos (by decide)]
  · rcases (show j = 0 ∨ j = 1 ∨ j = 2 ∨ j = 3 by omega) with rfl | rfl | rfl | rfl
    · rw [h4 0 (by decide), h3 0 (by decide), h2 0 (by decide), g1]
    · rw [h4 1 (by decide), h3 1 (by decide), g2]
    · rw [h4 2 (by decide), g3]
    · exact g4
theorem bit_tab : (List.range 16).all (fun s => (List.range 4).all (fun i => decide ((nI s >>> (nI i &&& 31)) &&& 1 = nI (s / 2 ^ i % 2)))) = true := by decide +kernel
theorem bit_of {s i : Nat} (hs : s < 16) (hi : i < 4) : (nI s >>> (nI i &&& 31)) &&& 1 = nI (s / 2 ^ i % 2) := by
  have h := List.all_eq_true.mp (List.all_eq_true.mp bit_tab s (List.mem_range.mpr hs)) i (List.mem_range.mpr hi)
  simpa using h
def gN (f : Nat → Nat) (s i : Nat) : Nat := if s / 2 ^ i % 2 = 1 then 100 else f i
def prN (f : Nat → Nat) (s : Nat) : Nat := 1 * gN f s 0 * gN f s 1 * gN f s 2 * gN f s 3
theorem gN_le {f : Nat → Nat} (hf : ∀ i, f i ≤ 100) (s i : Nat) : gN f s i ≤ 100 := by
  unfold gN
  have := hf i
  split <;> omega
theorem prN_le {f : Nat → Nat} (hf : ∀ i, f i ≤ 100) (s : Nat) : prN f s ≤ 100000000 := by
  unfold prN
  have h1 : 1 * gN f s 0 * gN f s 1 ≤ (1 * 100) * 100 := mul_le (mul_le (Nat.le_refl _) (gN_le hf s 0)) (gN_le hf s 1)
  have h2 : 1 * gN f s 0 * gN f s 1 * gN f s 2 ≤ 10000 * 100 := mul_le (by omega) (gN_le hf s 2)
  have h3 : 1 * gN f s 0 * gN f s 1 * gN f s 2 * gN f s 3 ≤ 1000000 * 100 := mul_le (by omega) (gN_le hf s 3)
  omega
theorem stay1 {f : Nat → Nat} {S : St} (hf : ∀ i, i < 4 → S 54 i = nI (f i)) (hf1 : ∀ i, f i ≤ 100) {s : Nat} (hs : s < 16) (n v : Nat) {i : Nat} (hi : i < 4) : f_X7_stayingWith_l5 (n + 1) (nI s) (lN v) (nI i) S = f_X7_stayingWith_l5 n (nI s) (lN (v * gN f s i)) (nI (i + 1)) S := by
  rw [f_X7_stayingWith_l5, if_neg (show ¬ (4 : Int32) ≤ nI i from nI_ge (b := 4) hi (by decide)), bit_of hs hi]
  unfold f_X7_stayingWith_b26 f_X7_stayingWith_b48 gN
  have hf2 := hf1 i
  rw [inb_nI hi (by decide), grd_t, cl_nI (by omega), hf i hi, nI_l (by omega), lett_e, lett_e, lett_e, lett_e, nI_1, lN_mul, show (100 : Int64) = lN 100 from rfl, lN_mul, if_neg i10, if_pos i00]
  by_cases h : s / 2 ^ i % 2 = 1
  · rw [if_pos h, h, if_pos (by decide)]
  · rw [if_neg h, if_neg (show ¬ nI (s / 2 ^ i % 2) = 1 from fun q => h ((nI_eq (b := 1) (by omega) (by decide)).mp q))]
theorem f_stay {f : Nat → Nat} {S : St} (hf : ∀ i, i < 4 → S 54 i = nI (f i)) (hf1 : ∀ i, f i ≤ 100) {s : Nat} (hs : s < 16) : f_X7_stayingWith (nI s) S = some (lN (prN f s), S) := by
  unfold f_X7_stayingWith
  obtain ⟨n, hn⟩ : ∃ n, FU = n + 5 := ⟨FU - 5, by unfold FU; omega⟩
  rw [hn, show (0 : Int32) = nI 0 from rfl, show (1 : Int64) = lN 1 from rfl, stay1 hf hf1 hs (n + 4) _ (i := 0) (by decide), stay1 hf hf1 hs (n + 3) _ (i := 1) (by decide), stay1 hf hf1 hs (n + 2) _ (i := 2) (by decide), stay1 hf hf1 hs (n + 1) _ (i := 3) (by decide), f_X7_stayingWith_l5, if_pos (by decide)]
  rfl
/-- what the reference looks at -/
def WM (m g : Nat) (sh E : Nat → Nat) (S : St) : Prop := S 55 6 = nI m ∧ (∀ c, c < m → S 59 c = nI (sh c)) ∧ S 55 16 = nI g ∧ ∀ c, c < 12 → S 68 c = enc (E c)
theorem stay8 {m g sk : Nat} {sh E : Nat → Nat} {S : St} (hm : m ≤ 12) (hg : 1 ≤ g ∧ g ≤ 99) (hsh : ∀ c, c < m → sh c ≤ 9) (hE : ∀ c, E c ≤ 20000) (hsk : sk ≤ 9) (hW : WM m g sh E S) {s : Nat} (hs : s < 16) (n v : Nat) {i : Nat} (hi : i < 4) : f_X8_staysBy_l16 (n + 1) (nI sk) (nI s) (lN v) (nI i) S = f_X8_staysBy_l16 n (nI sk) (nI s) (lN (v * gN (sfN m g sh E sk) s i)) (nI (i + 1)) S := by
  obtain ⟨w1, w2, w3, w4⟩ := hW
  rw [f_X8_staysBy_l16, if_neg (show ¬ (4 : Int32) ≤ nI i from nI_ge (b := 4) hi (by decide)), bd8_a hm w1 (fun c hc => ⟨w2 c hc, hsh c hc⟩) (show i ≤ 100 by omega), bnd_some, bit_of hs hi]
  have hb := baN_le sh m i 0
  have b50 : ∀ x8, f_X8_staysBy_b50 (f_X8_staysBy_l16 n) (nI sk) (nI s) (lN v) (nI i) x8 S = f_X8_staysBy_l16 n (nI sk) (nI s) (lN (v * 100)) (nI (i + 1)) S := by
    intro x8
    unfold f_X8_staysBy_b50 f_X8_staysBy_b51 f_X8_staysBy_b77
    rw [if_pos i00, lett_e, lett_e, nI_1, show (100 : Int64) = lN 100 from rfl, lN_mul]
  rw [b50]
  unfold gN sfN
  by_cases h0 : baN sh i m 0 = 0
  · rw [if_pos ((encT_n (by omega)).mpr h0), if_pos h0]
    split <;> rfl
  · have hb := hb.resolve_left h0
    have hcm : baN sh i m 0 - 1 < m := by omega
    rw [if_neg (fun q => h0 ((encT_n (by omega)).mp q)), if_neg h0, show encT (baN sh i m 0) = nI (baN sh i m 0 - 1) from by unfold encT; rw [if_neg h0]]
    by_cases h : s / 2 ^ i % 2 = 1
    · rw [if_pos h, h, if_neg (by decide)]
    · rw [if_neg h, show s / 2 ^ i % 2 = 0 by omega, if_pos (by decide)]
      unfold f_X8_staysBy_b51 f_X8_staysBy_b77 f_X8_leaving
      rw [if_neg i10, inb_nI (show baN sh i m 0 - 1 < 12 by omega) (by decide), grd_t, cl_nI (by omega), w4 _ (by omega)]
      have hEc := hE (baN sh i m 0 - 1)
      unfold safeN
      by_cases he : E (baN sh i m 0 - 1) = 0
      · rw [if_pos ((enc_n hEc).mpr he), if_pos he, bnd_some, lett_e, lett_e, nI_1, show ((100 : Int32) - 0).toInt64 = lN 100 from by decide, lN_mul]
      · obtain ⟨q0, q1⟩ := bear_b (s := sh (baN sh i m 0 - 1)) hg ⟨hb.2.2, hsh _ hcm⟩
        have hbr : f_X8_bearable (nI (baN sh i m 0 - 1)) S = some (nI (100 * g / sh (baN sh i m 0 - 1)), S) := by
          unfold f_X8_bearable
          rw [inb_nI (show baN sh i m 0 - 1 < 12 by omega) (by decide), grd_t, cl_nI (by omega), w3, w2 _ hcm, nz_nI (Nat.pos_of_ne_zero hb.2.2) (by have := hsh _ hcm; omega), grd_t, show (100 : Int32) * nI g = nI (100 * g) from pk_mul 100 g, pk_div (by omega) (Nat.pos_of_ne_zero hb.2.2) (by have := hsh _ hcm; omega)]
        rw [if_neg (fun q => he ((enc_n hEc).mp q)), if_neg he, show enc (E (baN sh i m 0 - 1)) = nI (E (baN sh i m 0 - 1)) from by unfold enc; rw [if_neg he], grd_t, hbr, bnd_some]
        by_cases hl : E (baN sh i m 0 - 1) ≤ 100 * g / sh (baN sh i m 0 - 1)
        · have ht := q10 hl q0
          have hmul : 10 * E (baN sh i m 0 - 1) / (100 * g / sh (baN sh i m 0 - 1)) * sk ≤ 10 * 9 := mul_le ht hsk
          rw [if_pos (nI_le hl (by omega)), if_pos hl, grd_t, hbr, bnd_some, w4 _ (by omega), show enc (E (baN sh i m 0 - 1)) = nI (E (baN sh i m 0 - 1)) from by unfold enc; rw [if_neg he], nz_nI q0 (by omega), grd_t, show (10 : Int32) * nI (E (baN sh i m 0 - 1)) = nI (10 * E (baN sh i m 0 - 1)) from pk_mul 10 _, pk_div (by omega) q0 (by omega), pk_mul, bnd_some, lett_e, lett_e, nI_1, show (100 : Int32) = nI 100 from rfl, pk_sub (by omega), nI_l (by omega), lN_mul]
        · rw [if_neg (nI_ge (by omega) (by omega)), if_neg hl, bnd_some, lett_e, lett_e, nI_1, show ((100 : Int32) - 100).toInt64 = lN 0 from by decide, lN_mul]
theorem f_staysBy {P : Dt} {t j x sk s : Nat} {T : St} (hR : RM P T) (hO : OK P t) (hj : j < P 20 3) (h0 : P 20 1 ≠ 0) (hx : x ≤ 17000) (hsk : sk ≤ 9) (hs : s < 16) : ∃ T1, f_X8_staysBy (nI j) (nI x) (nI sk) (nI s) T = some (lN (prN (sfN (P 20 1) (P 20 4) (shP P) (goN (dtOf P j) x 2) sk) s), T1) ∧ KM T T1 := by
  have hB := MB_of hO hj
  unfold f_X8_staysBy
  obtain ⟨T1, e1, k1, r1, m1⟩ := f_takeGo (fun S_3 => f_X8_staysBy_l16 FU (nI sk) (nI s) 1 0 S_3) hR hO hj h0 hx
  refine ⟨T1, ?_, k1⟩
  rw [e1]
  have hW : WM (P 20 1) (P 20 4) (shP P) (goN (dtOf P j) x 2) T1 := ⟨m1.1, fun c hc => (m1.2.2.2.2.1 c hc).2.1, m1.2.2.2.1, r1.2.2.2.2.2.2⟩
  have hsh : ∀ c, c < P 20 1 → shP P c ≤ 9 := fun c hc => (hO.2.2.2.1 c hc).2.1
  have hg : 1 ≤ P 20 4 ∧ P 20 4 ≤ 99 := hO.2.2.2.2.2.2.2.1
  have st := fun n v i (hi : i < 4) => @stay8 (P 20 1) (P 20 4) sk (shP P) (goN (dtOf P j) x 2) T1 hO.h12 hg hsh (goN_e hB hx) hsk hW s hs n v i hi
  obtain ⟨n, hn⟩ : ∃ n, FU = n + 5 := ⟨FU - 5, by unfold FU; omega⟩
  rw [hn, show (0 : Int32) = nI 0 from rfl, show (1 : Int64) = lN 1 from rfl, st (n + 4) _ 0 (by decide), st (n + 3) _ 1 (by decide), st (n + 2) _ 2 (by decide), st (n + 1) _ 3 (by decide), f_X8_staysBy_l16, if_pos (by decide)]
  rfl
theorem gcd8 (x5 : Int32) (l6 l8 : Int64) (S : St) : ∀ (k n x y : Nat), x < 2 ^ k → 2 * k < n → y < 2 ^ 30 → k ≤ 30 → f_X8_stays_l89 n x5 l6 l8 (lN x) (lN y) S = (if x5 = 0 then grd (nzL (lN (Nat.gcd x y))) (some (l8 / lN (Nat.gcd x y), S)) else grd (nzL (lN (Nat.gcd x y))) (some (l6 / lN (Nat.gcd x y), S))) := by
  have base : ∀ (n y : Nat), f_X8_stays_l89 (n + 1) x5 l6 l8 (lN 0) (lN y) S = (if x5 = 0 then grd (nzL (lN (Nat.gcd 0 y))) (some (l8 / lN (Nat.gcd 0 y), S)) else grd (nzL (lN (Nat.gcd 0 y))) (some (l6 / lN (Nat.gcd 0 y), S))) := by
    intro n y
    rw [f_X8_stays_l89, if_pos ((lN0 (by decide)).mpr rfl), Nat.gcd_zero_left]
  intro k
  induction k with
  | zero =>
    intro n x y hx hn hy hk
    obtain ⟨n, rfl⟩ : ∃ m, n = m + 1 := ⟨n - 1, by omega⟩
    obtain rfl : x = 0 := by omega
    exact base n y
  | succ k ih =>
    intro n x y hx hn hy hk
    obtain ⟨n, rfl⟩ : ∃ m, n = m + 2 := ⟨n - 2, by omega⟩
    by_cases h0 : x = 0
    · subst h0
      exact base (n + 1) y
    · have hxx : x < 2 ^ 30 := Nat.lt_of_lt_of_le hx (Nat.pow_le_pow_right (by decide) (by omega))
      have hr := Nat.mod_lt y (Nat.pos_of_ne_zero h0)
      rw [f_X8_stays_l89, if_neg (fun q => h0 ((lN0 (by omega)).mp q)), nzL_lN (by omega) (by omega), grd_t, lett_e, pk_lRem (by omega) (by omega) (by omega), Nat.gcd_rec x y]
      by_cases hr0 : y % x = 0
      · rw [hr0]
        exact base n x
      · have hh := mod_half (Nat.pos_of_ne_zero hr0) hr
        rw [f_X8_stays_l89, if_neg (fun q => hr0 ((lN0 (by omega)).mp q)), nzL_lN (by omega) (by omega), grd_t, lett_e, pk_lRem (by omega) (by omega) (by omega), Nat.gcd_rec (y % x) x]
        exact ih n (x % (y % x)) (y % x) (by rw [Nat.pow_succ] at hx; omega) (by omega) (by omega) (by omega)
theorem f_low8 {v p : Nat} (hv : v ≤ 100000000) (hp : p ≤ 1) (S : St) : f_X8_stays_l89 FU (nI p) 100000000 (lN v) (lN v) 100000000 S = some (lN (lowN v 100000000 p), S) := by
  rw [show (100000000 : Int64) = lN 100000000 from rfl, gcd8 _ _ _ _ 27 FU v 100000000 (by omega) (by unfold FU; omega) (by omega) (by omega)]
  have hg : 0 < Nat.gcd v 100000000 := Nat.gcd_pos_of_pos_right _ (by decide)
  have hgl : Nat.gcd v 100000000 ≤ 100000000 := Nat.gcd_le_right _ (by decide)
  rw [nzL_lN hg (by omega), grd_t, grd_t, pk_lDiv (by omega) hg (by omega), pk_lDiv (by omega) hg (by omega)]
  unfold lowN
  rcases (show p = 0 ∨ p = 1 by omega) with rfl | rfl
  · rw [if_pos (by decide), if_pos rfl]
  · rw [if_neg (by decide), if_neg (by decide)]
theorem sh8y {x : Int32} {S : St} (h : 0 ≤ x ∧ x ≤ 9) : f_X8_isShake x S = some (1, S) := by rw [f_isShake8, if_pos h]
theorem sh8n {x : Int32} {S : St} (h : ¬ (0 ≤ x ∧ x ≤ 9)) : f_X8_isShake x S = some (0, S) := by rw [f_isShake8, if_neg h]
/-- the class, gone down and the bends weighed -/
theorem f_goWeigh {P : Dt} {t j x sk : Nat} {S : St} (hR : RC P S) (hO : OK P t) (hj : j < P 20 3) (h0 : P 20 1 ≠ 0) (hx : x ≤ 17000) (hsk : sk ≤ 9) : ∃ S1 S2, f_X7_goDown (nI j) (nI x) S = some ((), S1) ∧ f_X7_weighBends (nI sk) S1 = some ((), S2) ∧ KC S S2 ∧ ∀ i, i < 4 → S2 54 i = nI (sfN (P 20 1) (P 20 4) (shP P) (goN (dtOf P j) x 2) sk i) := by
  obtain ⟨S1, e1, k1, r1, m1⟩ := f_goDown hR hO hj h0 hx
  have hW : WB (P 20 1) (P 20 4) (shP P) (goN (dtOf P j) x 2) S1 := ⟨m1.1, fun c hc => (m1.2.2.2.2.1 c hc).2.1, m1.2.2.2.1, r1.2.2.2.2.2.2⟩
  obtain ⟨S2, e2, f2, g2⟩ := f_weigh hO.h12 hO.2.2.2.2.2.2.2.1 (fun c hc => (hO.2.2.2.1 c hc).2.1) (goN_e (MB_of hO hj) hx) hsk hW
  exact ⟨S1, S2, e1, e2, k1.kc.tr (fun c hc => f2 c (by omega)), g2⟩
theorem op_stays (x1 x2 x3 x4 x5 : Int32) : Op (f_X7_stays x1 x2 x3 x4 x5) (f_X8_stays x1 x2 x3 x4 x5) := by
  refine Op.ask (fun t P hO => ?_)
  have h8 := hO.h8
  have e7 : ∀ S : St, ∃ s0 : Int32, f_X7_stays x1 x2 x3 x4 x5 S = f_X7_stays_b36 x1 x2 x3 x4 x5 s0 S ∧ (((0 ≤ x3 ∧ x3 ≤ 9) ∧ (0 ≤ x4 ∧ x4 ≤ 15) ∧ (0 ≤ x5 ∧ x5 ≤ 1)) → s0 = 1) ∧ (¬ ((0 ≤ x3 ∧ x3 ≤ 9) ∧ (0 ≤ x4 ∧ x4 ≤ 15) ∧ (0 ≤ x5 ∧ x5 ≤ 1)) → s0 = 0) := by
    intro S
    unfold f_X7_stays f_X7_stays_b35
    by_cases a3 : 0 ≤ x3 ∧ x3 ≤ 9
    · rw [w7y a3, bnd_some, if_neg i10]
      by_cases a4 : 0 ≤ x4 ∧ x4 ≤ 15
      · rw [w7y a4, bnd_some, if_neg i10]
        by_cases a5 : 0 ≤ x5 ∧ x5 ≤ 1
        · rw [w7y a5, bnd_some, if_neg i10]
          exact ⟨1, rfl, fun _ => rfl, fun q => absurd ⟨a3, a4, a5⟩ q⟩
        · rw [w7n a5, bnd_some, if_pos i00]
          exact ⟨0, rfl, fun q => absurd q.2.2 a5, fun _ => rfl⟩
      · rw [w7n a4, bnd_some, if_pos i00]
        exact ⟨0, rfl, fun q => absurd q.2.1 a4, fun _ => rfl⟩
    · rw [w7n a3, bnd_some, if_pos i00]
      exact ⟨0, rfl, fun q => absurd q.1 a3, fun _ => rfl⟩
  by_cases hc : isC P x1
  · by_cases hh : P 20 1 = 0
    · refine ⟨-103, fun S hR => ⟨S, ?_, KC.rf S⟩, fun T hR => ⟨T, ?_, KM.rf T⟩⟩
      · obtain ⟨s0, e, -⟩ := e7 S
        rw [e]
        unfold f_X7_stays_b36
        rw [r7h hR hc hh, bnd_some, if_neg n103]
        rfl
      · unfold f_X8_stays
        rw [c8y hO hR hc, bnd_some, if_neg i10, l8n hR hh, bnd_some, if_neg i10]
    · by_cases hs : isSw x2
      · by_cases ha : (0 ≤ x3 ∧ x3 ≤ 9) ∧ (0 ≤ x4 ∧ x4 ≤ 15) ∧ (0 ≤ x5 ∧ x5 ≤ 1)
        · obtain ⟨j, hj, rfl⟩ := rng (by omega) hc
          obtain ⟨x, hx, rfl⟩ := isSw_nI hs
          obtain ⟨sk, hsk, rfl⟩ := rngle (n := 9) (by decide) ha.1.1 ha.1.2
          obtain ⟨s, hs15, rfl⟩ := rngle (n := 15) (by decide) ha.2.1.1 ha.2.1.2
          obtain ⟨p, hp, rfl⟩ := rngle (n := 1) (by decide) ha.2.2.1 ha.2.2.2
          have hpl := prN_le (f := sfN (P 20 1) (P 20 4) (shP P) (goN (dtOf P j) x 2) sk) (fun i => sfN_le _ _ _ _ _ i) s
          refine ⟨lN (lowN (prN (sfN (P 20 1) (P 20 4) (shP P) (goN (dtOf P j) x 2) sk) s) 100000000 p), fun S hR => ?_, fun T hR => ?_⟩
          · obtain ⟨S1, S2, e1, e2, k2, t2⟩ := f_goWeigh hR hO hj hh (show x ≤ 17000 by omega) hsk
            refine ⟨S2, ?_, k2⟩
            obtain ⟨s0, e, q1, -⟩ := e7 S
            rw [e, q1 ha]
            unfold f_X7_stays_b36
            rw [r7y hO hR hc hh hs, bnd_some, if_pos i00, e1, bnd_some, e2, bnd_some, f_stay t2 (fun i => sfN_le _ _ _ _ _ i) (by omega), bnd_some, show (100000000 : Int64) = lN 100000000 from rfl, f_lowest (by omega) (by omega) hp, bnd_some]
          · obtain ⟨T1, e1, k1⟩ := f_staysBy hR hO hj hh (show x ≤ 17000 by omega) hsk (show s < 16 by omega)
            refine ⟨T1, ?_, k1⟩
            unfold f_X8_stays
            rw [c8y hO hR hc, bnd_some, if_neg i10, l8y hO hR hh, bnd_some, if_pos i00, s8y hs, bnd_some, if_neg i10, sh8y ha.1, bnd_some, if_neg i10, w8y (a := 0) (b := 15) ha.2.1, bnd_some, if_neg i10, in1y ha.2.2, bnd_some, if_neg i10, e1, bnd_some, f_low8 hpl hp]
        · refine ⟨-102, fun S hR => ⟨S, ?_, KC.rf S⟩, fun T hR => ⟨T, ?_, KM.rf T⟩⟩
          · obtain ⟨s0, e, -, q⟩ := e7 S
            rw [e, q ha]
            unfold f_X7_stays_b36
            rw [r7w hO hR hc hh hs, bnd_some, if_neg n102]
            rfl
          · unfold f_X8_stays
            rw [c8y hO hR hc, bnd_some, if_neg i10, l8y hO hR hh, bnd_some, if_pos i00, s8y hs, bnd_some, if_neg i10]
            by_cases a3 : 0 ≤ x3 ∧ x3 ≤ 9
            · rw [sh8y a3, bnd_some, if_neg i10]
              by_cases a4 : 0 ≤ x4 ∧ x4 ≤ 15
              · rw [w8y (a := 0) (b := 15) a4, bnd_some, if_neg i10, in1n (fun q => ha ⟨a3, a4, q⟩), bnd_some, if_pos i00]
              · rw [w8n (a := 0) (b := 15) a4, bnd_some, if_pos i00]
            · rw [sh8n a3, bnd_some, if_pos i00]
      · refine ⟨-102, fun S hR => ⟨S, ?_, KC.rf S⟩, fun T hR => ⟨T, ?_, KM.rf T⟩⟩
        · obtain ⟨s0, e, -⟩ := e7 S
          rw [e]
          unfold f_X7_stays_b36
          rw [r7s hO hR hc hh hs, bnd_some, if_neg n102]
          rfl
        · unfold f_X8_stays
          rw [c8y hO hR hc, bnd_some, if_neg i10, l8y hO hR hh, bnd_some, if_pos i00, s8n hs, bnd_some, if_pos i00]
  · refine ⟨-101, fun S hR => ⟨S, ?_, KC.rf S⟩, fun T hR => ⟨T, ?_, KM.rf T⟩⟩
    · obtain ⟨s0, e, -⟩ := e7 S
      rw [e]
      unfold f_X7_stays_b36
      rw [r7c hR hc, bnd_some, if_neg n101]
      rfl
    · unfold f_X8_stays
      rw [c8n hO hR hc, bnd_some, if_pos i00]
