-- ===== plan =====
theorem ifle {α : Type} {a b : Nat} {u v : α} (ha : a < 2 ^ 31) (hb : b < 2 ^ 31) : (if nI a ≤ nI b then u else v) = if a ≤ b then u else v := by
  by_cases h : a ≤ b
  · rw [if_pos h, if_pos ((nI_leI ha hb).mpr h)]
  · rw [if_neg h, if_neg (fun q => h ((nI_leI ha hb).mp q))]
def qS (t : Nat → Nat) (b i : Nat) : Nat := if t i = 0 ∨ (t b ≠ 0 ∧ t b ≤ t i) then b else i
theorem qS_lt {t : Nat → Nat} {b i : Nat} (hb : b < 4) (hi : i < 4) : qS t b i < 4 := by unfold qS; split <;> omega
theorem encT_n {u : Nat} (hu : u ≤ 12001) : (encT u = -1) ↔ u = 0 := by
  unfold encT
  by_cases h : u = 0
  · rw [if_pos h]; exact ⟨fun _ => h, fun _ => rfl⟩
  · rw [if_neg h]
    refine ⟨fun q => ?_, fun q => absurd q h⟩
    have := congrArg Int32.toInt q
    rw [nI_toInt (by omega), show ((-1 : Int32)).toInt = -1 from by decide] at this
    omega
theorem encT_le {u v : Nat} (hu : u ≤ 12001) (hv : v ≤ 12001) (h0 : u ≠ 0) : (encT u ≤ encT v) ↔ (v ≠ 0 ∧ u ≤ v) := by
  unfold encT
  rw [if_neg h0]
  by_cases h : v = 0
  · rw [if_pos h, Int32.le_iff_toInt_le, nI_toInt (by omega), show ((-1 : Int32)).toInt = -1 from by decide]
    exact ⟨fun q => by omega, fun q => absurd h q.1⟩
  · rw [if_neg h, nI_leI (by omega) (by omega)]
    omega
theorem quick7 {t : Nat → Nat} {S : St} (ht : ∀ i, i < 4 → S 53 i = encT (t i) ∧ t i ≤ 12001) (n : Nat) {b i : Nat} (hb : b < 4) (hi : i < 4) : f_X7_quickestOfFour_l4 (n + 1) (nI b) (nI i) S = f_X7_quickestOfFour_l4 n (nI (qS t b i)) (nI (i + 1)) S := by
  obtain ⟨e1, l1⟩ := ht b hb
  obtain ⟨e2, l2⟩ := ht i hi
  rw [f_X7_quickestOfFour_l4, if_neg (show ¬ (4 : Int32) ≤ nI i from nI_ge (b := 4) hi (by decide)), inb_nI hb (by decide), grd_t, cl_nI (by omega), e1, inb_nI hi (by decide), grd_t, grd_t, cl_nI (by omega), e2]
  have b39 : ∀ s : Int32, f_X7_quickestOfFour_b39 (f_X7_quickestOfFour_l4 n) (nI b) (nI i) s S = f_X7_quickestOfFour_l4 n (nI (if t i = 0 ∨ s = 0 then b else i)) (nI (i + 1)) S := by
    intro s
    unfold f_X7_quickestOfFour_b39 f_X7_quickestOfFour_b56
    rw [inb_nI hi (by decide), grd_t, cl_nI (by omega), e2, lett_e, lett_e, nI_1]
    by_cases h : t i = 0
    · rw [if_pos ((encT_n l2).mpr h), if_pos (Or.inl h)]
    · rw [if_neg (fun q => h ((encT_n l2).mp q))]
      by_cases h2 : s = 0
      · rw [if_pos h2, if_pos (Or.inr h2)]
      · rw [if_neg h2, if_neg (fun q => q.elim h h2)]
  unfold f_X7_quickestOfFour_b34
  rw [b39, b39]
  unfold qS
  by_cases h : t b = 0
  · rw [if_pos ((encT_n l1).mpr h)]
    by_cases h2 : t i = 0
    · rw [if_pos (Or.inl h2), if_pos (Or.inl h2)]
    · rw [if_neg (fun q => q.elim h2 i10), if_neg (fun q => q.elim h2 (fun w => w.1 h))]
  · rw [if_neg (fun q => h ((encT_n l1).mp q))]
    by_cases h2 : t i = 0
    · rw [if_neg (fun q => ((encT_le l1 l2 h).mp q).1 h2), if_pos (Or.inl h2), if_pos (Or.inl h2)]
    · by_cases h3 : t b ≤ t i
      · rw [if_pos ((encT_le l1 l2 h).mpr ⟨h2, h3⟩), if_pos (Or.inr rfl), if_pos (Or.inr ⟨h, h3⟩)]
      · rw [if_neg (fun q => h3 ((encT_le l1 l2 h).mp q).2), if_neg (fun q => q.elim h2 i10), if_neg (fun q => q.elim h2 (fun w => h3 w.2))]
def qN (t : Nat → Nat) : Nat := qS t (qS t (qS t 0 1) 2) 3
theorem qN_lt (t : Nat → Nat) : qN t < 4 := qS_lt (qS_lt (qS_lt (by decide) (by decide)) (by decide)) (by decide)
theorem f_quick7 {t : Nat → Nat} {S : St} (ht : ∀ i, i < 4 → S 53 i = encT (t i) ∧ t i ≤ 12001) : f_X7_quickestOfFour S = some (nI (qN t), S) := by
  unfold f_X7_quickestOfFour
  obtain ⟨n, hn⟩ : ∃ n, FU = n + 4 := ⟨FU - 4, by unfold FU; omega⟩
  rw [hn, show (0 : Int32) = nI 0 from rfl, show (1 : Int32) = nI 1 from rfl, quick7 ht _ (b := 0) (i := 1) (by decide) (by decide), quick7 ht _ (i := 2) (qS_lt (by decide) (by decide)) (by decide), quick7 ht _ (i := 3) (qS_lt (qS_lt (by decide) (by decide)) (by decide)) (by decide), f_X7_quickestOfFour_l4, if_pos (by decide)]
  rfl
theorem quick8 {P : Dt} {t x : Nat} {j : Nat → Nat} {T : St} (hR : RM P T) (hO : OK P t) (hj : ∀ i, i < 4 → j i < P 20 3) (h71 : ∀ i, i < 4 → T 71 i = nI (j i)) (h0 : P 20 1 ≠ 0) (hx : x ≤ 17000) (n : Nat) {b i : Nat} (hb : b < 4) (hi : i < 4) : ∃ T1, f_X8_quickest_l4 (n + 1) (nI x) (nI b) (nI i) T = f_X8_quickest_l4 n (nI x) (nI (qS (fun i => tN (dtOf P (j i)) x) b i)) (nI (i + 1)) T1 ∧ KM T T1 := by
  have h8 := hO.h8
  obtain ⟨T1, e1, k1⟩ := f_downTime hR hO (hj i hi) h0 hx
  obtain ⟨T2, e2, k2⟩ := f_downTime (hR.km h8 k1) hO (hj b hb) h0 hx
  refine ⟨T2, ?_, k1.tr k2⟩
  rw [f_X8_quickest_l4, if_neg (show ¬ (4 : Int32) ≤ nI i from nI_ge (b := 4) hi (by decide)), inb_nI hi (by decide), grd_t, cl_nI (by omega), h71 i hi, e1, bnd_some, inb_nI hb (by decide), grd_t, cl_nI (by omega), k1 71 b (by unfold pmB; omega), h71 b hb, e2, bnd_some]
  have l1 := tN_le (MB_of hO (hj b hb)) x
  have l2 := tN_le (MB_of hO (hj i hi)) x
  unfold f_X8_quickest_b58 f_X8_quickest_b54 f_X8_quickest_b59 qS
  rw [lett_e, lett_e, nI_1]
  by_cases h2 : tN (dtOf P (j i)) x = 0
  · rw [if_pos ((encT_n l2).mpr h2), if_pos (Or.inl h2)]
  · rw [if_neg (fun q => h2 ((encT_n l2).mp q))]
    by_cases h : tN (dtOf P (j b)) x = 0
    · rw [if_pos ((encT_n l1).mpr h), if_neg (fun q => q.elim h2 (fun w => w.1 h))]
    · rw [if_neg (fun q => h ((encT_n l1).mp q))]
      by_cases h3 : tN (dtOf P (j b)) x ≤ tN (dtOf P (j i)) x
      · rw [if_pos ((encT_le l1 l2 h).mpr ⟨h2, h3⟩), if_pos (Or.inr ⟨h, h3⟩)]
      · rw [if_neg (fun q => h3 ((encT_le l1 l2 h).mp q).2), if_neg (fun q => q.elim h2 (fun w => h3 w.2))]
theorem f_quick8 {P : Dt} {t x : Nat} {j : Nat → Nat} {T : St} (hR : RM P T) (hO : OK P t) (hj : ∀ i, i < 4 → j i < P 20 3) (h71 : ∀ i, i < 4 → T 71 i = nI (j i)) (h0 : P 20 1 ≠ 0) (hx : x ≤ 17000) : ∃ T1, f_X8_quickest (nI x) T = some (nI (qN (fun i => tN (dtOf P (j i)) x)), T1) ∧ KM T T1 := by
  have h8 := hO.h8
  unfold f_X8_quickest
  obtain ⟨n, hn⟩ : ∃ n, FU = n + 4 := ⟨FU - 4, by unfold FU; omega⟩
  rw [hn, show (0 : Int32) = nI 0 from rfl, show (1 : Int32) = nI 1 from rfl]
  have up : ∀ T1, KM T T1 → ∀ i, i < 4 → T1 71 i = nI (j i) := fun T1 k i hi => by rw [k 71 i (by unfold pmB; omega)]; exact h71 i hi
  obtain ⟨T1, e1, k1⟩ := quick8 hR hO hj h71 h0 hx (n + 3) (b := 0) (i := 1) (by decide) (by decide)
  obtain ⟨T2, e2, k2⟩ := quick8 (hR.km h8 k1) hO hj (up _ k1) h0 hx (n + 2) (b := qS (fun i => tN (dtOf P (j i)) x) 0 1) (i := 2) (qS_lt (by decide) (by decide)) (by decide)
  obtain ⟨T3, e3, k3⟩ := quick8 (hR.km h8 (k1.tr k2)) hO hj (up _ (k1.tr k2)) h0 hx (n + 1) (i := 3) (qS_lt (t := fun i => tN (dtOf P (j i)) x) (b := qS (fun i => tN (dtOf P (j i)) x) 0 1) (i := 2) (qS_lt (by decide) (by decide)) (by decide)) (by decide)
  refine ⟨T3, ?_, (k1.tr k2).tr k3⟩
  rw [e1, e2, e3, f_X8_quickest_l4, if_pos (by decide)]
  rfl
/-- how likely f wins when way i is taken -/
def vN (t : Nat → Nat) (s f i : Nat) : Nat := winN t s f (mate f (i + 1)) (mate f ((i + 1) % 3 + 1)) (mate f ((i + 2) % 3 + 1))
theorem vN_le (t : Nat → Nat) (s f i : Nat) : vN t s f i ≤ 2000 := winN_le _ _ _ _ _ _
theorem plan7 {t : Nat → Nat} {S : St} (ht : ∀ i, i < 4 → S 53 i = encT (t i) ∧ t i ≤ 12001) {s f : Nat} (hs : 1 ≤ s ∧ s ≤ 99) (hf : f < 4) (n : Nat) (x9 x10 : Int32) {i : Nat} (hi : i < 3) : f_X7_plan_l67 (n + 1) (nI s) (nI f) x9 x10 (nI i) S = if nI (vN t s f i) ≤ x9 then f_X7_plan_l67 n (nI s) (nI f) x9 x10 (nI (i + 1)) S else f_X7_plan_l67 n (nI s) (nI f) (nI (vN t s f i)) (nI i) (nI (i + 1)) S := by
  have e := f_thousandths ht (w := f) (s := i + 1) hf (by omega) hs
  rw [f_X7_plan_l67, if_neg (show ¬ (3 : Int32) ≤ nI i from nI_ge (b := 3) hi (by decide)), nI_1, e, bnd_some]
  unfold f_X7_plan_b102
  rw [lett_e, lett_e, nI_1]
  rfl
theorem mate_x : (List.range 4).all (fun f => (List.range 3).all (fun i => decide ((if i = 0 then nI f ^^^ 1 else if i = 1 then nI f ^^^ 2 else 3 - nI f) = nI (mate f (i + 1))) && decide (mate f (i + 1) < 4))) = true := by decide +kernel
theorem mate_y : (List.range 4).all (fun f => (List.range 3).all (fun i => ((List.range 4).any (fun k => (decide (k ≠ f) && decide (k ≠ mate f (i + 1)) && ((List.range k).all (fun q => decide (q = f ∨ q = mate f (i + 1)))) && ((decide (k = mate f ((i + 1) % 3 + 1)) && decide (6 - nI f - nI (mate f (i + 1)) - nI k = nI (mate f ((i + 2) % 3 + 1))) && decide (mate f ((i + 2) % 3 + 1) < 4)) || (decide (k = mate f ((i + 2) % 3 + 1)) && decide (6 - nI f - nI (mate f (i + 1)) - nI k = nI (mate f ((i + 1) % 3 + 1))) && decide (mate f ((i + 1) % 3 + 1) < 4)))))))) = true := by decide +kernel
theorem skip8 (K : Int32 → Int32 → Int32 → Int32 → Int32 → Int32 → St → Option (Int32 × St)) (x5 x6 x8 x9 x10 : Int32) (f o k : Nat) (hk : k < 4) (T : St) (n : Nat) : ∀ d q : Nat, q + d = k → (∀ i, q ≤ i → i < k → i = f ∨ i = o) → f_X8_plan_l141 K (n + d) x5 x6 (nI f) x8 x9 x10 (nI o) (nI q) T = f_X8_plan_l141 K n x5 x6 (nI f) x8 x9 x10 (nI o) (nI k) T := by
  intro d
  induction d with
  | zero =>
    intro q hq _
    obtain rfl : q = k := by omega
    rfl
  | succ d ih =>
    intro q hq h
    rw [show n + (d + 1) = n + d + 1 from rfl, f_X8_plan_l141]
    unfold f_X8_plan_b155
    rw [lett_e, nI_1, ih (q + 1) (by omega) (fun i h1 h2 => h i (by omega) h2)]
    rcases h q (Nat.le_refl _) (by omega) with rfl | rfl
    · rw [if_pos rfl]
    · by_cases e : nI q = nI f
      · rw [if_pos e]
      · rw [if_neg e, if_pos rfl]
theorem plan8 {P : Dt} {t x s : Nat} {j : Nat → Nat} {T : St} (hR : RM P T) (hO : OK P t) (hj : ∀ i, i < 4 → j i < P 20 3) (h71 : ∀ i, i < 4 → T 71 i = nI (j i)) (h0 : P 20 1 ≠ 0) (hx : x ≤ 17000) (hs : 1 ≤ s ∧ s ≤ 99) {f : Nat} (hf : f < 4) (n : Nat) (x8 x9 : Int32) {i : Nat} (hi : i < 3) : ∃ T1, f_X8_plan_l101 (n + 1) (nI x) (nI s) (nI f) x8 x9 (nI i) T = (if nI (vN (fun i => tN (dtOf P (j i)) x) s f i) ≤ x9 then f_X8_plan_l101 n (nI x) (nI s) (nI f) x8 x9 (nI (i + 1)) T1 else f_X8_plan_l101 n (nI x) (nI s) (nI f) (nI i) (nI (vN (fun i => tN (dtOf P (j i)) x) s f i)) (nI (i + 1)) T1) ∧ KM T T1 := by
  have hm := List.all_eq_true.mp (List.all_eq_true.mp mate_x f (List.mem_range.mpr hf)) i (List.mem_range.mpr hi)
  have hy := List.all_eq_true.mp (List.all_eq_true.mp mate_y f (List.mem_range.mpr hf)) i (List.mem_range.mpr hi)
  simp only [Bool.and_eq_true, decide_eq_true_eq] at hm
  obtain ⟨m1, m2⟩ := hm
  obtain ⟨k, hk, hy⟩ := List.any_eq_true.mp hy
  simp only [Bool.and_eq_true, Bool.or_eq_true, decide_eq_true_eq] at hy
  obtain ⟨⟨⟨y1, y2⟩, y3⟩, y4⟩ := hy
  have hk := List.mem_range.mp hk
  have y3' : ∀ q, q < k → q = f ∨ q = mate f (i + 1) := fun q hq => by
    have := List.all_eq_true.mp y3 q (List.mem_range.mpr hq)
    simpa using this
  have st : f_X8_plan_l101 (n + 1) (nI x) (nI s) (nI f) x8 x9 (nI i) T = f_X8_plan_b136 (f_X8_plan_l101 n) (nI x) (nI s) (nI f) x8 x9 (nI i) (nI (mate f (i + 1))) T := by
    rw [f_X8_plan_l101, if_neg (show ¬ (3 : Int32) ≤ nI i from nI_ge (b := 3) hi (by decide)), ← m1]
    rcases (show i = 0 ∨ i = 1 ∨ i = 2 by omega) with rfl | rfl | rfl
    · rw [if_pos (by decide), if_pos rfl]
    · rw [if_neg (by decide), if_pos (by decide), if_neg (by decide), if_pos rfl]
    · rw [if_neg (by decide), if_neg (by decide), if_neg (by decide), if_neg (by decide)]
  rw [st]
  unfold f_X8_plan_b136
  obtain ⟨m, hm⟩ : ∃ m, FU = (m + 1) + k := ⟨FU - (k + 1), by unfold FU; omega⟩
  rw [hm, show (0 : Int32) = nI 0 from rfl, skip8 _ _ _ _ _ _ f (mate f (i + 1)) k hk T (m + 1) k 0 (by omega) (fun q _ hq => y3' q hq), f_X8_plan_l141, if_neg (nI_ne (by omega) (by omega) y1), if_neg (nI_ne (by omega) (by omega) y2), lett_e]
  have fin : ∀ (v : Nat) (T1 : St), (if nI v ≤ x9 then f_X8_plan_b226 (f_X8_plan_l101 n) (nI x) (nI s) (nI f) x9 (nI i) (nI v) x8 T1 else f_X8_plan_b226 (f_X8_plan_l101 n) (nI x) (nI s) (nI f) x9 (nI i) (nI v) (nI i) T1) = if nI v ≤ x9 then f_X8_plan_l101 n (nI x) (nI s) (nI f) x8 x9 (nI (i + 1)) T1 else f_X8_plan_l101 n (nI x) (nI s) (nI f) (nI i) (nI v) (nI (i + 1)) T1 := by
    intro v T1
    unfold f_X8_plan_b226 f_X8_plan_b242
    rw [lett_e, lett_e, lett_e, lett_e, nI_1]
    by_cases h : nI v ≤ x9
    · rw [if_pos h, if_pos h, if_pos h]
    · rw [if_neg h, if_neg h, if_neg h]
  rcases y4 with ⟨⟨z1, z2⟩, z3⟩ | ⟨⟨z1, z2⟩, z3⟩
  · rw [z2, inb_nI hf (by decide), inb_nI m2 (by decide), inb_nI hk (by decide), inb_nI z3 (by decide), grd_t, grd_t, grd_t, grd_t, cl_nI (by omega), cl_nI (by omega), cl_nI (by omega), cl_nI (by omega), h71 _ hf, h71 _ m2, h71 _ hk, h71 _ z3]
    obtain ⟨T1, e1, k1⟩ := f_winsOf hR hO hj h0 hx hs hf m2 hk z3
    refine ⟨T1, ?_, k1⟩
    rw [e1, bnd_some, fin]
    unfold vN
    rw [← z1]
  · rw [z2, inb_nI hf (by decide), inb_nI m2 (by decide), inb_nI hk (by decide), inb_nI z3 (by decide), grd_t, grd_t, grd_t, grd_t, cl_nI (by omega), cl_nI (by omega), cl_nI (by omega), cl_nI (by omega), h71 _ hf, h71 _ m2, h71 _ hk, h71 _ z3]
    obtain ⟨T1, e1, k1⟩ := f_winsOf hR hO hj h0 hx hs hf m2 hk z3
    refine ⟨T1, ?_, k1⟩
    rw [e1, bnd_some, fin, winN_sw]
    unfold vN
    rw [← z1]
def plN (t : Nat → Nat) (s f : Nat) : Nat := if vN t s f 1 ≤ vN t s f 0 then (if vN t s f 2 ≤ vN t s f 0 then 0 else 2) else (if vN t s f 2 ≤ vN t s f 1 then 1 else 2)
theorem nlem1 {v : Nat} (h : v < 2 ^ 31) : ¬ nI v ≤ (-1 : Int32) := by
  rw [Int32.le_iff_toInt_le, nI_toInt h, show ((-1 : Int32)).toInt = -1 from by decide]
  omega
theorem f_plan7 {t : Nat → Nat} {S : St} (ht : ∀ i, i < 4 → S 53 i = encT (t i) ∧ t i ≤ 12001) {s f : Nat} (hs : 1 ≤ s ∧ s ≤ 99) (hf : f < 4) : f_X7_plan_l67 FU (nI s) (nI f) (-1) 0 0 S = some (nI (plN t s f), S) := by
  obtain ⟨n, hn⟩ : ∃ n, FU = n + 4 := ⟨FU - 4, by unfold FU; omega⟩
  have h0 := vN_le t s f 0
  have h1 := vN_le t s f 1
  have h2 := vN_le t s f 2
  have en : ∀ x9 x10, f_X7_plan_l67 (n + 1) (nI s) (nI f) x9 x10 (nI 3) S = some (x10, S) := fun x9 x10 => by rw [f_X7_plan_l67, if_pos (by decide)]
  rw [hn]
  have e := plan7 ht hs hf (n + 3) (-1) 0 (i := 0) (by decide)
  rw [show nI 0 = (0 : Int32) from rfl] at e
  rw [e, if_neg (nlem1 (by omega)), plan7 ht hs hf (n + 2) _ _ (i := 1) (by decide), plan7 ht hs hf (n + 1) _ _ (i := 2) (by decide), plan7 ht hs hf (n + 1) _ _ (i := 2) (by decide), en, en, en, ifle (by omega) (by omega), ifle (by omega) (by omega), ifle (by omega) (by omega)]
  unfold plN
  split <;> split <;> rfl
theorem f_plan8 {P : Dt} {t x s : Nat} {j : Nat → Nat} {T : St} (hR : RM P T) (hO : OK P t) (hj : ∀ i, i < 4 → j i < P 20 3) (h71 : ∀ i, i < 4 → T 71 i = nI (j i)) (h0 : P 20 1 ≠ 0) (hx : x ≤ 17000) (hs : 1 ≤ s ∧ s ≤ 99) {f : Nat} (hf : f < 4) : ∃ T1, f_X8_plan_l101 FU (nI x) (nI s) (nI f) (-1) (-1) 0 T = some (nI (plN (fun i => tN (dtOf P (j i)) x) s f), T1) ∧ KM T T1 := by
  have h8 := hO.h8
  obtain ⟨n, hn⟩ : ∃ n, FU = n + 4 := ⟨FU - 4, by unfold FU; omega⟩
  have v0 := vN_le (fun i => tN (dtOf P (j i)) x) s f 0
  have v1 := vN_le (fun i => tN (dtOf P (j i)) x) s f 1
  have v2 := vN_le (fun i => tN (dtOf P (j i)) x) s f 2
  have up : ∀ T1, KM T T1 → ∀ i, i < 4 → T1 71 i = nI (j i) := fun T1 k i hi => by rw [k 71 i (by unfold pmB; omega)]; exact h71 i hi
  have en : ∀ x8 x9 T, f_X8_plan_l101 (n + 1) (nI x) (nI s) (nI f) x8 x9 (nI 3) T = some (x8, T) := fun x8 x9 T => by rw [f_X8_plan_l101, if_pos (by decide)]
  rw [hn]
  obtain ⟨T1, e1, k1⟩ := plan8 hR hO hj h71 h0 hx hs hf (n + 3) (-1) (-1) (i := 0) (by decide)
  rw [show nI 0 = (0 : Int32) from rfl] at e1
  rw [e1, if_neg (nlem1 (by omega))]
  obtain ⟨T2, e2, k2⟩ := plan8 (hR.km h8 k1) hO hj (up _ k1) h0 hx hs hf (n + 2) 0 (nI (vN (fun i => tN (dtOf P (j i)) x) s f 0)) (i := 1) (by decide)
  rw [e2]
  have last : ∀ x8 x9, ∃ T3, f_X8_plan_l101 (n + 2) (nI x) (nI s) (nI f) x8 x9 (nI 2) T2 = (if nI (vN (fun i => tN (dtOf P (j i)) x) s f 2) ≤ x9 then some (x8, T3) else some (nI 2, T3)) ∧ KM T2 T3 := by
    intro x8 x9
    obtain ⟨T3, e3, k3⟩ := plan8 (hR.km h8 (k1.tr k2)) hO hj (up _ (k1.tr k2)) h0 hx hs hf (n + 1) x8 x9 (i := 2) (by decide)
    refine ⟨T3, ?_, k3⟩
    rw [e3, en, en]
  unfold plN
  rw [ifle (show vN (fun i => tN (dtOf P (j i)) x) s f 1 < 2 ^ 31 by omega) (by omega)]
  by_cases q1 : vN (fun i => tN (dtOf P (j i)) x) s f 1 ≤ vN (fun i => tN (dtOf P (j i)) x) s f 0
  · rw [if_pos q1, if_pos q1]
    obtain ⟨T3, e3, k3⟩ := last 0 (nI (vN (fun i => tN (dtOf P (j i)) x) s f 0))
    refine ⟨T3, ?_, (k1.tr k2).tr k3⟩
    rw [e3, ifle (by omega) (by omega)]
    split <;> rfl
  · rw [if_neg q1, if_neg q1]
    obtain ⟨T3, e3, k3⟩ := last (nI 1) (nI (vN (fun i => tN (dtOf P (j i)) x) s f 1))
    refine ⟨T3, ?_, (k1.tr k2).tr k3⟩
    rw [e3, ifle (by omega) (by omega)]
    split <;> rfl
theorem f_planM {P : Dt} {t a b c d x s : Nat} {T : St} (hR : RM P T) (hO : OK P t) (hF : isF P (nI a) (nI b) (nI c) (nI d)) (hh : P 20 1 ≠ 0) (hun : unl (nI a) (nI b) (nI c) (nI d)) (hs : isSw (nI x)) (hw : 1 ≤ nI s ∧ nI s ≤ 99) (ha : a < P 20 3) (hb : b < P 20 3) (hc : c < P 20 3) (hd : d < P 20 3) (hx : x ≤ 9999) (hsl : 1 ≤ s ∧ s ≤ 99) : ∃ T1, f_X8_plan (nI a) (nI b) (nI c) (nI d) (nI x) (nI s) T = some (nI (plN (tf P x a b c d) s (qN (tf P x a b c d))), T1) ∧ ∃ q : Nat → Int32, KM (sr T 71 q) T1 := by
  have h8 := hO.h8
  unfold f_X8_plan
  rw [f8y hO hR hF, bnd_some, if_neg i10, l8y hO hR hh, bnd_some, if_pos i00, u8y hun, bnd_some, if_neg i10, s8y hs, bnd_some, if_neg i10, sl8y hw, bnd_some, if_neg i10]
  rw [show inb 0 4 = true from by decide, grd_t, lett_e, show inb 1 4 = true from by decide, grd_t, lett_e, show inb 2 4 = true from by decide, grd_t, lett_e, show inb 3 4 = true from by decide, grd_t, lett_e, show (0 : Int32).toNatClampNeg = 0 from by decide, show (1 : Int32).toNatClampNeg = 1 from by decide, show (2 : Int32).toNatClampNeg = 2 from by decide, show (3 : Int32).toNatClampNeg = 3 from by decide, tf_j4]
  have hT : su (su (su (su T 71 0 (nI a)) 71 1 (nI b)) 71 2 (nI c)) 71 3 (nI d) = sr T 71 (su (su (su (su T 71 0 (nI a)) 71 1 (nI b)) 71 2 (nI c)) 71 3 (nI d) 71) := by
    funext e k
    by_cases h : e = 71
    · subst h; rw [sr_s]
    · rw [sr_o h, su_o h, su_o h, su_o h, su_o h]
  have hR' := hR.sr71 (su (su (su (su T 71 0 (nI a)) 71 1 (nI b)) 71 2 (nI c)) 71 3 (nI d) 71)
  rw [← hT] at hR'
  have hj : ∀ i, i < 4 → j4 a b c d i < P 20 3 := by
    intro i hi
    unfold j4
    split
    · exact ha
    split
    · exact hb
    split
    · exact hc
    exact hd
  have h71 : ∀ i, i < 4 → su (su (su (su T 71 0 (nI a)) 71 1 (nI b)) 71 2 (nI c)) 71 3 (nI d) 71 i = nI (j4 a b c d i) := by
    intro i hi
    rcases (show i = 0 ∨ i = 1 ∨ i = 2 ∨ i = 3 by omega) with rfl | rfl | rfl | rfl
    · rw [su_k (by decide), su_k (by decide), su_k (by decide), su_s]; rfl
    · rw [su_k (by decide), su_k (by decide), su_s]; rfl
    · rw [su_k (by decide), su_s]; rfl
    · rw [su_s]; rfl
  obtain ⟨T1, e1, k1⟩ := f_quick8 hR' hO hj h71 hh (show x ≤ 17000 by omega)
  obtain ⟨T2, e2, k2⟩ := f_plan8 (hR'.km h8 k1) hO hj (fun i hi => by rw [k1 71 i (by unfold pmB; omega)]; exact h71 i hi) hh (show x ≤ 17000 by omega) hsl (qN_lt (fun i => tN (dtOf P (j4 a b c d i)) x))
  refine ⟨T2, ?_, su (su (su (su T 71 0 (nI a)) 71 1 (nI b)) 71 2 (nI c)) 71 3 (nI d) 71, ?_⟩
  · rw [e1, bnd_some]; exact e2
  · rw [← hT]; exact k1.tr k2
theorem op_plan (x1 x2 x3 x4 x5 x6 : Int32) : Op (f_X7_plan x1 x2 x3 x4 x5 x6) (f_X8_plan x1 x2 x3 x4 x5 x6) := by
  refine Op.ask2 (fun t P hO => ?_)
  have h8 := hO.h8
  have rf : ∀ T : St, ∃ q : Nat → Int32, KM (sr T 71 q) T := fun T => ⟨T 71, fun c k _ => by
    by_cases h : c = 71
    · subst h; rw [sr_s]
    · rw [sr_o h]⟩
  by_cases hF : isF P x1 x2 x3 x4
  · by_cases hu : P 20 1 = 0 ∨ ¬ unl x1 x2 x3 x4
    · refine ⟨-103, fun S hR => ⟨S, ?_, KC.rf S⟩, fun T hR => ⟨T, ?_, rf T⟩⟩
      · unfold f_X7_plan
        rw [f7h hO hR hF hu, bnd_some, if_neg n103]
      · by_cases hh : P 20 1 = 0
        · unfold f_X8_plan
          rw [f8y hO hR hF, bnd_some, if_neg i10, l8n hR hh, bnd_some, if_neg i10]
        · unfold f_X8_plan
          rw [f8y hO hR hF, bnd_some, if_neg i10, l8y hO hR hh, bnd_some, if_pos i00, u8n (hu.resolve_left hh), bnd_some, if_pos i00]
    · have hh : P 20 1 ≠ 0 := fun q => hu (Or.inl q)
      have hun : unl x1 x2 x3 x4 := Classical.not_not.mp (fun q => hu (Or.inr q))
      by_cases hs : isSw x5
      · by_cases hw : 1 ≤ x6 ∧ x6 ≤ 99
        · obtain ⟨a, ha, rfl⟩ := rng (by omega) hF.1
          obtain ⟨b, hb, rfl⟩ := rng (by omega) hF.2.1
          obtain ⟨c, hc, rfl⟩ := rng (by omega) hF.2.2.1
          obtain ⟨d, hd, rfl⟩ := rng (by omega) hF.2.2.2
          obtain ⟨x, hx, rfl⟩ := isSw_nI hs
          obtain ⟨s, hsl, rfl⟩ := isSl_nI hw
          refine ⟨nI (plN (tf P x a b c d) s (qN (tf P x a b c d))), fun S hR => ?_, fun T hR => ?_⟩
          · obtain ⟨S1, e1, k1, t1⟩ := f_takeTimes hR hO ha hb hc hd hh (show x ≤ 17000 by omega)
            refine ⟨S1, ?_, k1⟩
            unfold f_X7_plan
            rw [f7y hO hR hF hh hun, bnd_some, if_pos i00, s7y hs, bnd_some, if_neg i10, w7y hw, bnd_some, if_neg i10, e1, bnd_some, f_quick7 t1, bnd_some, f_plan7 t1 hsl (qN_lt _)]
          · exact f_planM hR hO hF hh hun hs hw ha hb hc hd hx hsl
        · refine ⟨-102, fun S hR => ⟨S, ?_, KC.rf S⟩, fun T hR => ⟨T, ?_, rf T⟩⟩
          · unfold f_X7_plan
            rw [f7y hO hR hF hh hun, bnd_some, if_pos i00, s7y hs, bnd_some, if_neg i10, w7n hw, bnd_some, if_pos i00]
          · unfold f_X8_plan
            rw [f8y hO hR hF, bnd_some, if_neg i10, l8y hO hR hh, bnd_some, if_pos i00, u8y hun, bnd_some, if_neg i10, s8y hs, bnd_some, if_neg i10, sl8n hw, bnd_some, if_pos i00]
      · refine ⟨-102, fun S hR => ⟨S, ?_, KC.rf S⟩, fun T hR => ⟨T, ?_, rf T⟩⟩
        · unfold f_X7_plan
          rw [f7y hO hR hF hh hun, bnd_some, if_pos i00, s7n hs, bnd_some, if_pos i00]
        · unfold f_X8_plan
          rw [f8y hO hR hF, bnd_some, if_neg i10, l8y hO hR hh, bnd_some, if_pos i00, u8y hun, bnd_some, if_neg i10, s8n hs, bnd_some, if_pos i00]
  · refine ⟨-101, fun S hR => ⟨S, ?_, KC.rf S⟩, fun T hR => ⟨T, ?_, rf T⟩⟩
    · unfold f_X7_plan
      rw [f7n hR hF, bnd_some, if_neg n101]
    · unfold f_X8_plan
      rw [f8n hO hR hF, bnd_some, if_pos i00]
