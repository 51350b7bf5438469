-- ===== the flat =====
def tkF (D : Dt) (hd k : Nat) : Nat := takesN (D 4 k) (D 5 k) (D 6 2) hd 0 0 0
def accF (D : Dt) (r hd : Nat) : Nat := sumT (tkF D hd) (D 6 1) + 2 * r
def flR (D : Dt) (r : Nat) : Nat → Nat → Nat → Nat
  | 0, _, c => c
  | d + 1, x, c => if x ≤ accF D r x then c else flR D r d (x - accF D r x) (c + 1)
theorem flR_ge (D : Dt) (r : Nat) : ∀ d x c, c ≤ flR D r d x c ∧ flR D r d x c ≤ c + d := by
  intro d
  induction d with
  | zero => intro x c; exact ⟨Nat.le_refl _, Nat.le_refl _⟩
  | succ d ih =>
    intro x c
    rw [flR]
    by_cases h : x ≤ accF D r x
    · rw [if_pos h]; omega
    · rw [if_neg h]
      have := ih (x - accF D r x) (c + 1)
      omega
theorem flR_z (D : Dt) (r : Nat) {x : Nat} (h0 : accF D r x = 0) (hx : 0 < x) : ∀ d c, flR D r d x c = c + d := by
  intro d
  induction d with
  | zero => intro c; rfl
  | succ d ih =>
    intro c
    rw [flR, if_neg (by omega), h0, Nat.sub_zero, ih]
    omega
theorem flR_cut (D : Dt) (r e : Nat) : ∀ d x c, flR D r d x c = if flR D r (d + e) x c ≤ c + d then flR D r (d + e) x c else c + d := by
  intro d
  induction d with
  | zero =>
    intro x c
    have := flR_ge D r (0 + e) x c
    rw [flR]
    split <;> omega
  | succ d ih =>
    intro x c
    rw [show d + 1 + e = (d + e) + 1 by omega, flR, flR]
    by_cases h : x ≤ accF D r x
    · rw [if_pos h, if_pos h, if_pos (by omega)]
    · rw [if_neg h, if_neg h, ih, show c + 1 + d = c + (d + 1) by omega]
theorem sumF_b {D : Dt} (hB : MB D) {hd k : Nat} (hh : hd ≤ 20000) (hk : k ≤ D 6 1) : sumT (tkF D hd) k ≤ 100000 := by
  have h1 : sumT (tkF D hd) k ≤ k * 20000 := sumT_le k (fun j hj => takesN_le (hB.2.2.2.2.2.2.2 j (by omega)).2 hB.2.2.1 hh (by omega) (by omega) (by omega))
  have h2 := hB.2.1
  have h3 : k * 20000 ≤ 5 * 20000 := mul_le (by omega) (Nat.le_refl _)
  omega
theorem flat20 {D : Dt} (hB : MB D) {r M : Nat} (hr : r ≤ 9) {S : St} (hM : MC D S) (K : Int32 → Int32 → Int32 → Int32 → St → Option (Int32 × St)) {x : Nat} (hx : x ≤ 20000) (x5 : Int32) : ∀ (d n k : Nat), k + d = D 6 1 → d < n → f_X6_goFlat_l20 K n (nI r) (nI M) (nI x) x5 (nI (sumT (tkF D x) k + 2 * r)) (nI k) S = (if x ≤ accF D r x then some (x5, S) else if accF D r x = 0 then some (nI M, S) else K (nI r) (nI M) (nI (x - accF D r x)) (x5 + 1) S) := by
  have hm5 := hB.2.1
  intro d
  induction d with
  | zero =>
    intro n k hk hn
    obtain ⟨n, rfl⟩ : ∃ a, n = a + 1 := ⟨n - 1, by omega⟩
    obtain rfl : k = D 6 1 := by omega
    have hb := sumF_b hB hx (Nat.le_refl (D 6 1))
    have ea : sumT (tkF D x) (D 6 1) + 2 * r = accF D r x := rfl
    rw [f_X6_goFlat_l20, hM.2.1, if_pos (nI_le (Nat.le_refl _) (by omega)), lett_e, lett_e, ea]
    by_cases h : x ≤ accF D r x
    · rw [if_neg (fun q => absurd ((sub_le0 (by omega) (by omega)).mpr h) (Int32.not_le.mpr q)), if_pos h]
    · rw [if_pos (Int32.not_le.mp (fun q => h ((sub_le0 (by omega) (by omega)).mp q))), if_neg h]
      by_cases h0 : accF D r x = 0
      · rw [if_pos h0, h0, if_pos (by decide)]
      · rw [if_neg h0, if_neg (fun q => h0 ((nI0 (by omega)).mp q)), pk_sub (by omega)]
  | succ d ih =>
    intro n k hk hn
    obtain ⟨n, rfl⟩ : ∃ a, n = a + 1 := ⟨n - 1, by omega⟩
    have hks := hM.2.2.2.2.2 k (by omega)
    have hbk := hB.2.2.2.2.2.2.2 k (by omega)
    have et := f_takes7 S k (D 4 k) (D 5 k) (D 6 2) x 0 0 0 (by omega) hks.1 hks.2 hM.2.2.1 hbk.1 hbk.2 ⟨hB.2.2.1, hB.2.2.2.1⟩ hx (by omega) (by omega) (by omega)
    have et' : f_X6_takes (nI k) (nI x) 0 0 0 S = some (nI (tkF D x k), S) := et
    rw [f_X6_goFlat_l20, hM.2.1, if_neg (nI_ge (by omega) (by omega)), et', bnd_some, nI_add, lett_e, lett_e, nI_1, show sumT (tkF D x) k + 2 * r + tkF D x k = sumT (tkF D x) (k + 1) + 2 * r by rw [sumT]; omega]
    exact ih n (k + 1) (by omega) (by omega)
theorem flat7 {D : Dt} (hB : MB D) {r M : Nat} (hr : r ≤ 9) (hM9 : M ≤ 999) {S : St} (hM : MC D S) : ∀ (d n x c : Nat), c + d = M → d < n → x ≤ 20000 → f_X6_goFlat_l6 n (nI r) (nI M) (nI x) (nI c) S = some (nI (flR D r d x c), S) := by
  intro d
  induction d with
  | zero =>
    intro n x c hc hn hx
    obtain ⟨n, rfl⟩ : ∃ a, n = a + 1 := ⟨n - 1, by omega⟩
    rw [f_X6_goFlat_l6, if_pos (nI_le (by omega) (by omega)), flR, show c = M by omega]
  | succ d ih =>
    intro n x c hc hn hx
    obtain ⟨n, rfl⟩ : ∃ a, n = a + 1 := ⟨n - 1, by omega⟩
    have hm5 := hB.2.1
    have e0 := flat20 hB hr (M := M) hM (f_X6_goFlat_l6 n) hx (nI c) (D 6 1) FU 0 (by omega) (by unfold FU; omega)
    rw [show sumT (tkF D x) 0 + 2 * r = 2 * r from Nat.zero_add _] at e0
    have e0' : f_X6_goFlat_l20 (f_X6_goFlat_l6 n) FU (nI r) (nI M) (nI x) (nI c) (nI (2 * r)) 0 S = _ := e0
    rw [f_X6_goFlat_l6, if_neg (nI_ge (by omega) (by omega)), lett_e, show (2 : Int32) * nI r = nI (2 * r) from pk_mul 2 r, e0', nI_1]
    by_cases h : x ≤ accF D r x
    · rw [if_pos h, flR, if_pos h]
    · rw [if_neg h]
      by_cases h0 : accF D r x = 0
      · rw [if_pos h0, flR_z D r h0 (by omega), show c + (d + 1) = M by omega]
      · rw [if_neg h0, flR, if_neg h]
        exact ih n (x - accF D r x) (c + 1) (by omega) (by omega) (by omega)
theorem f_flat {D : Dt} (hB : MB D) {r M x : Nat} (hr : r ≤ 9) (hM9 : M ≤ 999) (hx : x ≤ 20000) {S : St} (hM : MC D S) : f_X6_goFlat (nI x) (nI r) (nI M) S = some (nI (flR D r M x 0), S) :=
  flat7 hB hr hM9 hM M FU x 0 (by omega) (by unfold FU; omega) hx
/-- what the reference has, one more loss put on -/
def ME (D : Dt) (r : Nat) (T : St) : Prop := T 55 18 = nI (D 6 1 + 1) ∧ T 55 17 = nI (D 6 2) ∧ T 65 (D 6 1) = nI 1 ∧ T 66 (D 6 1) = nI r ∧ ∀ k, k < D 6 1 → T 65 k = nI (D 4 k) ∧ T 66 k = nI (D 5 k)
def tkE (D : Dt) (r hd k : Nat) : Nat := if k < D 6 1 then tkF D hd k else 2 * r
theorem tkE_sum (D : Dt) (r hd : Nat) : sumT (tkE D r hd) (D 6 1 + 1) = accF D r hd := by
  rw [sumT, sumT_congr (f := tkE D r hd) (g := tkF D hd) _ (fun k hk => if_pos hk)]
  unfold tkE accF
  rw [if_neg (Nat.lt_irrefl _)]
theorem flat56 {D : Dt} (hB : MB D) {r : Nat} (hr : r ≤ 9) {T : St} (hM : ME D r T) (K : Int32 → Int32 → St → Option (Int32 × St)) {x : Nat} (hx : x ≤ 20000) (x5 : Int32) : ∀ (d n k : Nat), k + d = D 6 1 + 1 → d < n → f_X8_farthestBy_l56 K n (nI x - nI (sumT (tkE D r x) k)) x5 (nI x) (nI k) T = (if x ≤ accF D r x then some (x5, T) else K (nI (x - accF D r x)) (x5 + 1) T) := by
  have hm5 := hB.2.1
  have hb := sumF_b hB hx (Nat.le_refl (D 6 1))
  have hacc : accF D r x ≤ 200000 := by unfold accF; omega
  intro d
  induction d with
  | zero =>
    intro n k hk hn
    obtain ⟨n, rfl⟩ : ∃ a, n = a + 1 := ⟨n - 1, by omega⟩
    obtain rfl : k = D 6 1 + 1 := by omega
    rw [f_X8_farthestBy_l56, hM.1, if_pos (nI_le (Nat.le_refl _) (by omega)), tkE_sum, lett_e]
    by_cases h : x ≤ accF D r x
    · rw [if_neg (fun q => absurd ((sub_le0 (by omega) (by omega)).mpr h) (Int32.not_le.mpr q)), if_pos h]
    · rw [if_pos (Int32.not_le.mp (fun q => h ((sub_le0 (by omega) (by omega)).mp q))), if_neg h, pk_sub (by omega)]
  | succ d ih =>
    intro n k hk hn
    obtain ⟨n, rfl⟩ : ∃ a, n = a + 1 := ⟨n - 1, by omega⟩
    have et : f_X8_takes (nI k) (nI x) 0 0 0 T = some (nI (tkE D r x k), T) := by
      unfold tkE
      by_cases hkm : k < D 6 1
      · rw [if_pos hkm]
        have hks := hM.2.2.2.2 k hkm
        have hbk := hB.2.2.2.2.2.2.2 k hkm
        exact f_takes8 T k (D 4 k) (D 5 k) (D 6 2) x 0 0 0 (by omega) hks.1 hks.2 hM.2.1 hbk.1 hbk.2 ⟨hB.2.2.1, hB.2.2.2.1⟩ hx (by omega) (by omega) (by omega)
      · rw [if_neg hkm]
        obtain rfl : k = D 6 1 := by omega
        exact f_takes8 T (D 6 1) 1 r (D 6 2) x 0 0 0 (by omega) hM.2.2.1 hM.2.2.2.1 hM.2.1 (by omega) hr ⟨hB.2.2.1, hB.2.2.2.1⟩ hx (by omega) (by omega) (by omega)
    rw [f_X8_farthestBy_l56, hM.1, if_neg (nI_ge (by omega) (by omega)), et, bnd_some, sub3, lett_e, lett_e, nI_1]
    exact ih n (k + 1) (by omega) (by omega)
theorem flat41 {D : Dt} (hB : MB D) {r : Nat} (hr : r ≤ 9) {T : St} (hM : ME D r T) : ∀ (d n x c : Nat), c + d = 999 → d < n → x ≤ 20000 → f_X8_farthestBy_l41 n (nI x) (nI c) T = some (nI (flR D r d x c), T) := by
  have hm5 := hB.2.1
  intro d
  induction d with
  | zero =>
    intro n x c hc hn hx
    obtain ⟨n, rfl⟩ : ∃ a, n = a + 1 := ⟨n - 1, by omega⟩
    obtain rfl : c = 999 := by omega
    rw [f_X8_farthestBy_l41, if_pos (by decide), flR]
    rfl
  | succ d ih =>
    intro n x c hc hn hx
    obtain ⟨n, rfl⟩ : ∃ a, n = a + 1 := ⟨n - 1, by omega⟩
    have e0 := flat56 hB hr hM (f_X8_farthestBy_l41 n) hx (nI c) (D 6 1 + 1) FU 0 (by omega) (by unfold FU; omega)
    rw [show nI x - nI (sumT (tkE D r x) 0) = nI x from pk_sub (a := x) (b := 0) (Nat.zero_le _)] at e0
    rw [f_X8_farthestBy_l41, if_neg (show ¬ (999 : Int32) ≤ nI c from nI_ge (b := 999) (by omega) (by decide)), show (0 : Int32) = nI 0 from rfl, e0, nI_1, flR]
    by_cases h : x ≤ accF D r x
    · rw [if_pos h, if_pos h]
    · rw [if_neg h, if_neg h]
      exact ih n (x - accF D r x) (c + 1) (by omega) (by omega) (by omega)
theorem f_farBy {P : Dt} {t j x r : Nat} {T : St} (hR : RM P T) (hO : OK P t) (hj : j < P 20 3) (hr : r ≤ 9) (hx : x ≤ 20000) : ∃ T1, f_X8_farthestBy (nI j) (nI x) (nI r) T = some (nI (flR (dtOf P j) r 999 x 0), T1) ∧ KM T T1 := by
  have hB := MB_of hO hj
  have hm5 : dtOf P j 6 1 ≤ 5 := hB.2.1
  obtain ⟨T1, e1, k1, m1⟩ := f_take hR hO hj
  unfold f_X8_farthestBy
  rw [e1, bnd_some, m1.2.1, inb_nI (show dtOf P j 6 1 < 6 by omega) (by decide), grd_t, lett_e, cl_nI (by omega), su_o (show (55 : Nat) ≠ 65 by decide), m1.2.1, inb_nI (show dtOf P j 6 1 < 6 by omega) (by decide), grd_t, lett_e, cl_nI (by omega), su_o (show (55 : Nat) ≠ 66 by decide), su_o (show (55 : Nat) ≠ 65 by decide), m1.2.1, lett_e, nI_1]
  have hE : ME (dtOf P j) r (su (su (su T1 65 (dtOf P j 6 1) 1) 66 (dtOf P j 6 1) (nI r)) 55 18 (nI (dtOf P j 6 1 + 1))) := by
    refine ⟨su_s, ?_, ?_, ?_, fun k hk => ⟨?_, ?_⟩⟩
    · rw [su_k (by decide), su_o (by decide), su_o (by decide)]; exact m1.2.2.1
    · rw [su_o (by decide), su_o (by decide), su_s]; rfl
    · rw [su_o (by decide), su_s]
    · rw [su_o (by decide), su_o (by decide), su_k (by omega)]; exact (m1.2.2.2.2.2 k hk).1
    · rw [su_o (by decide), su_k (by omega), su_o (by decide)]; exact (m1.2.2.2.2.2 k hk).2
  refine ⟨_, flat41 hB hr hE 999 FU x 0 (by omega) (by unfold FU; omega) hx, ((k1.su 65 _ _ (by unfold pmB; omega)).su 66 _ _ (by unfold pmB; omega)).su 55 18 _ (by unfold pmB; omega)⟩
theorem op_farthest (x1 x2 : Int32) : Op (f_X7_farthest x1 x2) (f_X8_farthest x1 x2) := by
  refine Op.ask (fun t P hO => ?_)
  have h8 := hO.h8
  by_cases hc : isC P x1
  · by_cases hs : isSw x2
    · obtain ⟨j, hj, rfl⟩ := rng (by omega) hc
      obtain ⟨x, hx, rfl⟩ := isSw_nI hs
      refine ⟨nI (flR (dtOf P j) 0 999 x 0), fun S hR => ?_, fun T hR => ?_⟩
      · obtain ⟨S1, e1, k1, m1, -⟩ := f_mount hR hO hj
        refine ⟨S1, ?_, k1.kc⟩
        have e2 : f_X6_goFlat (nI x) 0 999 S1 = some (nI (flR (dtOf P j) 0 999 x 0), S1) := f_flat (MB_of hO hj) (r := 0) (M := 999) (by omega) (by omega) (show x ≤ 20000 by omega) m1
        unfold f_X7_farthest f_X7_flatCells
        rw [c7y hR hc, bnd_some, if_neg i10, s7y hs, bnd_some, if_neg i10, inb_nI (show j < 8 by omega) (by decide), grd_t, cl_nI (by omega), hR.2.2.2.2.2.2.2.1, e1, bnd_some, e2, bnd_some, bnd_some]
      · obtain ⟨T1, e1, k1⟩ := f_farBy (r := 0) hR hO hj (by omega) (show x ≤ 20000 by omega)
        refine ⟨T1, ?_, k1⟩
        have e1' : f_X8_farthestBy (nI j) (nI x) 0 T = _ := e1
        unfold f_X8_farthest
        rw [c8y hO hR hc, bnd_some, if_neg i10, s8y hs, bnd_some, if_neg i10, e1', bnd_some]
    · refine ⟨-102, fun S hR => ⟨S, ?_, KC.rf S⟩, fun T hR => ⟨T, ?_, KM.rf T⟩⟩
      · unfold f_X7_farthest
        rw [c7y hR hc, bnd_some, if_neg i10, s7n hs, bnd_some, if_pos i00]
      · unfold f_X8_farthest
        rw [c8y hO hR hc, bnd_some, if_neg i10, s8n hs, bnd_some, if_pos i00]
  · refine ⟨-101, fun S hR => ⟨S, ?_, KC.rf S⟩, fun T hR => ⟨T, ?_, KM.rf T⟩⟩
    · unfold f_X7_farthest
      rw [c7n hR hc, bnd_some, if_pos i00]
    · unfold f_X8_farthest
      rw [c8n hO hR hc, bnd_some, if_pos i00]
