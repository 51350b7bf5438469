-- ===== a run: its data D (0 drop, 1 sharp, 2 bump, 3 brakes, 4 kinds, 5 n; 6: cells, losses, weight, grip), its answer =====
abbrev Dt : Type := Nat → Nat → Nat
def sumT (f : Nat → Nat) : Nat → Nat
  | 0 => 0
  | n + 1 => sumT f n + f n
theorem sumT_le {f : Nat → Nat} {b : Nat} (n : Nat) (h : ∀ k, k < n → f k ≤ b) : sumT f n ≤ n * b := by
  induction n with
  | zero => simp [sumT]
  | succ n ih =>
    have h1 := ih (fun k hk => h k (by omega))
    have h2 := h n (by omega)
    rw [sumT, Nat.succ_mul]
    omega
theorem sumT_congr {f g : Nat → Nat} (n : Nat) (h : ∀ k, k < n → f k = g k) : sumT f n = sumT g n := by
  induction n with
  | zero => rfl
  | succ n ih => rw [sumT, sumT, ih (fun k hk => h k (by omega)), h n (by omega)]
def rootUp : Nat → Nat → Nat → Nat
  | 0, _, r => r
  | d + 1, v, r => if v < (r + 1) * (r + 1) then r else rootUp d v (r + 1)
def rootN (v : Nat) : Nat := rootUp 256 v 0
theorem rootUp_is (v : Nat) (hv : v < 65536) : ∀ d r, r + d = 256 → r * r ≤ v → isRoot v (rootUp d v r) := by
  intro d
  induction d with
  | zero =>
    intro r h1 h2
    obtain rfl : r = 256 := by omega
    omega
  | succ d ih =>
    intro r h1 h2
    rw [rootUp]
    by_cases hc : v < (r + 1) * (r + 1)
    · rw [if_pos hc]; exact ⟨h2, hc⟩
    · rw [if_neg hc]; exact ih (r + 1) (by omega) (Nat.not_lt.mp hc)
theorem rootN_is {v : Nat} (hv : v < 65536) : isRoot v (rootN v) := rootUp_is v hv 256 0 (by omega) (by omega)
theorem f_root7 {v : Nat} (hv : v < 65536) (S : St) : f_X6_root (nI v) S = some (nI (rootN v), S) := by
  obtain ⟨r, a1, a2, -⟩ := root7 v hv S
  rw [isRoot_u (rootN_is hv) a2]; exact a1
theorem f_root8 {v : Nat} (hv : v < 65536) (S : St) : f_X8_root (nI v) S = some (nI (rootN v), S) := by
  obtain ⟨r, a1, a2, -⟩ := root8 v hv S
  rw [isRoot_u (rootN_is hv) a2]; exact a1
theorem rootN_b {v : Nat} (h0 : 0 < v) (hv : v < 65536) : 0 < rootN v ∧ rootN v < 256 := by
  obtain ⟨r, a1, a2, a3⟩ := root7 v hv (fun _ _ => 0)
  have e := isRoot_u (rootN_is hv) a2
  rw [e]
  refine ⟨?_, a3⟩
  rcases Nat.eq_zero_or_pos r with h | h
  · subst h
    have := a2.2
    omega
  · exact h
/-- what loss k takes in cell c with swing hd -/
def tkN (D : Dt) (c hd k : Nat) : Nat := takesN (D 4 k) (D 5 k) (D 6 2) hd (D 0 c) (D 1 c) (D 2 c)
def accN (D : Dt) (c hd : Nat) : Nat := sumT (tkN D c hd) (D 6 1)
def brkN (D : Dt) (c hd : Nat) : Nat := (hd - accN D c hd) * D 3 c / 10
def leftN (D : Dt) (c hd : Nat) : Nat := hd - accN D c hd - brkN D c hd
def upN (f : Nat → Nat) (k v : Nat) : Nat → Nat := fun j => if j = k then v else f j
def addT (D : Dt) (c hd : Nat) (tk : Nat → Nat) : Nat → Nat := fun k => if k < D 6 1 then tk k + tkN D c hd k else tk k
def mkR (a b c d e : Nat) (tk en : Nat → Nat) : Dt := fun i j => if i = 0 then (if j = 0 then a else if j = 1 then b else if j = 2 then c else if j = 3 then d else e) else if i = 1 then tk j else en j
def goR (D : Dt) : Nat → Nat → Nat → Nat → Nat → (Nat → Nat) → (Nat → Nat) → Dt
  | 0, _, x, tm, bk, tk, en => mkR 0 (D 6 0 - 1) tm x bk tk en
  | d + 1, c, x, tm, bk, tk, en =>
    if leftN D c (x + 20 * D 0 c) = 0 then mkR 1 c tm 0 (bk + brkN D c (x + 20 * D 0 c)) (addT D c (x + 20 * D 0 c) tk) en
    else if 0 < D 1 c ∧ 100 * D 6 3 / D 1 c < leftN D c (x + 20 * D 0 c) then mkR 2 c (tm + 1000 / rootN (leftN D c (x + 20 * D 0 c))) (leftN D c (x + 20 * D 0 c)) (bk + brkN D c (x + 20 * D 0 c)) (addT D c (x + 20 * D 0 c) tk) (upN en c (leftN D c (x + 20 * D 0 c)))
    else goR D d (c + 1) (leftN D c (x + 20 * D 0 c)) (tm + 1000 / rootN (leftN D c (x + 20 * D 0 c))) (bk + brkN D c (x + 20 * D 0 c)) (addT D c (x + 20 * D 0 c) tk) (upN en c (leftN D c (x + 20 * D 0 c)))
/-- the whole run from swing x -/
def goN (D : Dt) (x : Nat) : Dt := goR D (D 6 0) 0 x 0 0 (fun _ => 0) (fun _ => 0)
/-- the data are as the document has them -/
def MB (D : Dt) : Prop := D 6 0 ≤ 12 ∧ D 6 1 ≤ 5 ∧ 10 ≤ D 6 2 ∧ D 6 2 ≤ 99 ∧ 1 ≤ D 6 3 ∧ D 6 3 ≤ 99 ∧ (∀ c, c < D 6 0 → D 0 c ≤ 9 ∧ D 1 c ≤ 9 ∧ D 2 c ≤ 1 ∧ D 3 c ≤ 9) ∧ ∀ k, k < D 6 1 → D 4 k ≤ 5 ∧ D 5 k ≤ 9
def MC (D : Dt) (S : St) : Prop := S 3 4 = nI (D 6 0) ∧ S 44 5 = nI (D 6 1) ∧ S 44 6 = nI (D 6 2) ∧ S 44 7 = nI (D 6 3) ∧ (∀ c, c < D 6 0 → S 4 c = nI (D 0 c) ∧ S 5 c = nI (D 1 c) ∧ S 6 c = nI (D 2 c) ∧ S 48 c = nI (D 3 c)) ∧ ∀ k, k < D 6 1 → S 45 k = nI (D 4 k) ∧ S 46 k = nI (D 5 k)
def MM (D : Dt) (T : St) : Prop := T 55 6 = nI (D 6 0) ∧ T 55 18 = nI (D 6 1) ∧ T 55 17 = nI (D 6 2) ∧ T 55 16 = nI (D 6 3) ∧ (∀ c, c < D 6 0 → T 58 c = nI (D 0 c) ∧ T 59 c = nI (D 1 c) ∧ T 60 c = nI (D 2 c) ∧ T 67 c = nI (D 3 c)) ∧ ∀ k, k < D 6 1 → T 65 k = nI (D 4 k) ∧ T 66 k = nI (D 5 k)
theorem tkN_le {D : Dt} (hB : MB D) {c hd k : Nat} (hc : c < D 6 0) (hh : hd ≤ 20000) (hk : k < D 6 1) : tkN D c hd k ≤ 20000 :=
  takesN_le (hB.2.2.2.2.2.2.2 k hk).2 hB.2.2.1 hh (hB.2.2.2.2.2.2.1 c hc).1 (hB.2.2.2.2.2.2.1 c hc).2.1 (hB.2.2.2.2.2.2.1 c hc).2.2.1
theorem sumT_b {D : Dt} (hB : MB D) {c hd : Nat} (hc : c < D 6 0) (hh : hd ≤ 20000) {k : Nat} (hk : k ≤ D 6 1) : sumT (tkN D c hd) k ≤ 100000 := by
  have h1 : sumT (tkN D c hd) k ≤ k * 20000 := sumT_le k (fun j hj => tkN_le hB hc hh (k := j) (by omega))
  have h2 := hB.2.1
  have h3 : k * 20000 ≤ 5 * 20000 := mul_le (by omega) (Nat.le_refl _)
  omega
theorem sub3 (a b c : Nat) : nI a - nI b - nI c = nI a - nI (b + c) := by
  rw [← nI_add]
  apply Int32.toBitVec_inj.mp
  simp only [Int32.toBitVec_sub, Int32.toBitVec_add]
  rw [BitVec.sub_sub]
theorem sub_le0 {a b : Nat} (ha : a < 2 ^ 30) (hb : b < 2 ^ 30) : (nI a - nI b ≤ 0) ↔ a ≤ b := by
  rw [Int32.le_iff_toInt_le, pk_sub_toInt ha hb]
  show (a : Int) - b ≤ 0 ↔ _
  omega
/-- numbers added to a row -/
def addS (S : St) (cA k m : Nat) (tk : Nat → Nat) : St := fun c j => if c = cA then (if k ≤ j ∧ j < m then S c j + nI (tk j) else S c j) else S c j
theorem addS_o {S : St} {cA k m : Nat} {tk : Nat → Nat} {c : Nat} (h : c ≠ cA) : addS S cA k m tk c = S c := by
  funext j
  unfold addS
  rw [if_neg h]
theorem addS_0 (S : St) (cA m : Nat) (tk : Nat → Nat) : addS S cA m m tk = S := by
  funext c j
  unfold addS
  by_cases hc : c = cA
  · rw [if_pos hc, if_neg (by omega)]
  · rw [if_neg hc]
theorem addS_1 (S : St) (cA k m : Nat) (tk : Nat → Nat) (h : k < m) : addS (su S cA k (S cA k + nI (tk k))) cA (k + 1) m tk = addS S cA k m tk := by
  funext c j
  unfold addS
  by_cases hc : c = cA
  · subst hc
    rw [if_pos rfl, if_pos rfl]
    by_cases hj : j = k
    · subst hj
      rw [if_neg (by omega), if_pos (by omega), su_s]
    · rw [su_k hj]
      by_cases h2 : k + 1 ≤ j ∧ j < m
      · rw [if_pos h2, if_pos (by omega)]
      · rw [if_neg h2, if_neg (by omega)]
  · rw [if_neg hc, if_neg hc, su_o hc]
/-- behind the losses, the class -/
def exitC (x1 x3 : Int32) (S : St) : Option (Unit × St) := if x3 ≤ 0 then f_X6_goThrough_b110 x1 x3 0 S else grd (inb x1 12) <| grd (nz 10) <| f_X6_goThrough_b110 x1 x3 ((x3 * (S 48 (x1 : Int32).toNatClampNeg)) / 10) S
theorem through_loop {D : Dt} (hB : MB D) {c hd : Nat} (hc : c < D 6 0) (hh : hd ≤ 20000) : ∀ (e n k : Nat) (S : St), k + e = D 6 1 → e < n → MC D S → f_X6_goThrough_l23 n (nI c) (nI hd) (nI hd - nI (sumT (tkN D c hd) k)) (nI k) S = exitC (nI c) (nI hd - nI (accN D c hd)) (addS S 49 k (D 6 1) (tkN D c hd)) := by
  have h12 := hB.1
  have hm5 := hB.2.1
  intro e
  induction e with
  | zero =>
    intro n k S hk hn hM
    obtain ⟨n, rfl⟩ : ∃ j, n = j + 1 := ⟨n - 1, by omega⟩
    obtain rfl : k = D 6 1 := by omega
    rw [f_X6_goThrough_l23, hM.2.1, if_pos (nI_le (Nat.le_refl _) (by omega)), addS_0]
    rfl
  | succ e ih =>
    intro n k S hk hn hM
    obtain ⟨n, rfl⟩ : ∃ j, n = j + 1 := ⟨n - 1, by omega⟩
    have hcs := hM.2.2.2.2.1 c hc
    have hks := hM.2.2.2.2.2 k (by omega)
    have hbc := hB.2.2.2.2.2.2.1 c hc
    have hbk := hB.2.2.2.2.2.2.2 k (by omega)
    rw [f_X6_goThrough_l23, hM.2.1, if_neg (nI_ge (by omega) (by omega)), inb_nI (by omega) (by decide), grd_t, grd_t, grd_t, cl_nI (by omega), hcs.1, hcs.2.1, hcs.2.2.1]
    rw [f_takes7 S k (D 4 k) (D 5 k) (D 6 2) hd (D 0 c) (D 1 c) (D 2 c) (by omega) hks.1 hks.2 hM.2.2.1 hbk.1 hbk.2 ⟨hB.2.2.1, hB.2.2.2.1⟩ hh hbc.1 hbc.2.1 hbc.2.2.1, bnd_some]
    rw [inb_nI (by omega) (by decide), grd_t, grd_t, lett_e, lett_e, lett_e, cl_nI (by omega), nI_1, sub3]
    have hM' : MC D (su S 49 k (S 49 k + nI (takesN (D 4 k) (D 5 k) (D 6 2) hd (D 0 c) (D 1 c) (D 2 c)))) := by
      unfold MC
      simp only [su_o (show (3 : Nat) ≠ 49 by decide), su_o (show (44 : Nat) ≠ 49 by decide), su_o (show (4 : Nat) ≠ 49 by decide), su_o (show (5 : Nat) ≠ 49 by decide), su_o (show (6 : Nat) ≠ 49 by decide), su_o (show (48 : Nat) ≠ 49 by decide), su_o (show (45 : Nat) ≠ 49 by decide), su_o (show (46 : Nat) ≠ 49 by decide)]
      exact hM
    have h9 := ih n (k + 1) _ (by omega) (by omega) hM'
    rw [sumT] at h9
    rw [show takesN (D 4 k) (D 5 k) (D 6 2) hd (D 0 c) (D 1 c) (D 2 c) = tkN D c hd k from rfl] at *
    rw [h9, addS_1 S 49 k (D 6 1) (tkN D c hd) (by omega)]

def enc (v : Nat) : Int32 := if v = 0 then -1 else nI v
/-- what a run of the class leaves as it was -/
def FC (S S1 : St) : Prop := ∀ c j : Nat, c ≠ 49 → c ≠ 50 → (c ≠ 44 ∨ j < 8 ∨ 12 < j) → S1 c j = S c j
theorem FC.rf (S : St) : FC S S := fun _ _ _ _ _ => rfl
theorem FC.tr {S S1 S2 : St} (h1 : FC S S1) (h2 : FC S1 S2) : FC S S2 := fun c j a b e => (h2 c j a b e).trans (h1 c j a b e)
theorem FC.s44 {S S1 : St} (h : FC S S1) (k : Nat) (v : Int32) (hk : 8 ≤ k ∧ k ≤ 12) : FC S (su S1 44 k v) := fun c j a b e => by
  rw [su_g (by omega)]; exact h c j a b e
theorem FC.s50 {S S1 : St} (h : FC S S1) (k : Nat) (v : Int32) : FC S (su S1 50 k v) := fun c j a b e => by
  rw [su_o b]; exact h c j a b e
theorem FC.a49 {S S1 : St} (h : FC S S1) (k m : Nat) (tk : Nat → Nat) : FC S (addS S1 49 k m tk) := fun c j a b e => by
  rw [addS_o a]; exact h c j a b e
theorem FC.f49 {S S1 : St} (h : FC S S1) (i n : Nat) (x : Int32) : FC S (fillS S1 49 i n x) := fun c j a b e => by
  rw [fillS_o a]; exact h c j a b e
theorem FC.f50 {S S1 : St} (h : FC S S1) (i n : Nat) (x : Int32) : FC S (fillS S1 50 i n x) := fun c j a b e => by
  rw [fillS_o b]; exact h c j a b e
theorem MC.fc {D : Dt} {S S1 : St} (h : MC D S) (hF : FC S S1) : MC D S1 := by
  obtain ⟨h1, h2, h3, h4, h5, h6⟩ := h
  refine ⟨?_, ?_, ?_, ?_, fun c hc => ?_, fun k hk => ?_⟩
  · rw [hF 3 4 (by decide) (by decide) (Or.inl (by decide))]; exact h1
  · rw [hF 44 5 (by decide) (by decide) (Or.inr (Or.inl (by decide)))]; exact h2
  · rw [hF 44 6 (by decide) (by decide) (Or.inr (Or.inl (by decide)))]; exact h3
  · rw [hF 44 7 (by decide) (by decide) (Or.inr (Or.inl (by decide)))]; exact h4
  · rw [hF 4 c (by decide) (by decide) (Or.inl (by decide)), hF 5 c (by decide) (by decide) (Or.inl (by decide)), hF 6 c (by decide) (by decide) (Or.inl (by decide)), hF 48 c (by decide) (by decide) (Or.inl (by decide))]; exact h5 c hc
  · rw [hF 45 k (by decide) (by decide) (Or.inl (by decide)), hF 46 k (by decide) (by decide) (Or.inl (by decide))]; exact h6 k hk
def GC (D : Dt) (S : St) (c x tm bk : Nat) (tk en : Nat → Nat) : Prop := MC D S ∧ S 44 8 = 0 ∧ S 44 10 = nI tm ∧ S 44 11 = nI x ∧ S 44 12 = nI bk ∧ (∀ k, k < D 6 1 → S 49 k = nI (tk k)) ∧ (∀ j, j < 12 → S 50 j = enc (en j)) ∧ (0 < c → S 44 9 = nI (c - 1))
def RCo (D : Dt) (S : St) (R : Dt) : Prop := S 44 8 = nI (R 0 0) ∧ S 44 9 = nI (R 0 1) ∧ S 44 10 = nI (R 0 2) ∧ S 44 11 = nI (R 0 3) ∧ S 44 12 = nI (R 0 4) ∧ (∀ k, k < D 6 1 → S 49 k = nI (R 1 k)) ∧ (∀ j, j < 12 → S 50 j = enc (R 2 j))
theorem leftN_le (D : Dt) (c hd : Nat) : leftN D c hd ≤ hd := by unfold leftN; omega
theorem brk_le {D : Dt} (hB : MB D) {c hd : Nat} (hc : c < D 6 0) : (hd - accN D c hd) * D 3 c ≤ hd * 9 := mul_le (by omega) (hB.2.2.2.2.2.2.1 c hc).2.2.2
/-- one cell of the class -/
theorem f_through {D : Dt} (hB : MB D) {c x tm bk : Nat} {tk en : Nat → Nat} {S : St} (hc : c < D 6 0) (hx : x + 180 ≤ 20000) (hG : GC D S c x tm bk tk en) :
    ∃ S1, f_X6_goThrough (nI c) (su S 44 9 (nI c)) = some ((), S1) ∧ FC S S1 ∧
      ((leftN D c (x + 20 * D 0 c) = 0 ∧ RCo D S1 (mkR 1 c tm 0 (bk + brkN D c (x + 20 * D 0 c)) (addT D c (x + 20 * D 0 c) tk) en)) ∨
       (leftN D c (x + 20 * D 0 c) ≠ 0 ∧ (0 < D 1 c ∧ 100 * D 6 3 / D 1 c < leftN D c (x + 20 * D 0 c)) ∧ RCo D S1 (mkR 2 c (tm + 1000 / rootN (leftN D c (x + 20 * D 0 c))) (leftN D c (x + 20 * D 0 c)) (bk + brkN D c (x + 20 * D 0 c)) (addT D c (x + 20 * D 0 c) tk) (upN en c (leftN D c (x + 20 * D 0 c))))) ∨
       (leftN D c (x + 20 * D 0 c) ≠ 0 ∧ ¬ (0 < D 1 c ∧ 100 * D 6 3 / D 1 c < leftN D c (x + 20 * D 0 c)) ∧ GC D S1 (c + 1) (leftN D c (x + 20 * D 0 c)) (tm + 1000 / rootN (leftN D c (x + 20 * D 0 c))) (bk + brkN D c (x + 20 * D 0 c)) (addT D c (x + 20 * D 0 c) tk) (upN en c (leftN D c (x + 20 * D 0 c))))) := by
  obtain ⟨hM, g8, g10, g11, g12, g49, g50, -⟩ := hG
  have h12 := hB.1
  have hm5 := hB.2.1
  have hbc := hB.2.2.2.2.2.2.1 c hc
  have hF0 : FC S (su S 44 9 (nI c)) := (FC.rf S).s44 9 _ (by omega)
  have hM0 := hM.fc hF0
  generalize hS0 : su S 44 9 (nI c) = S0' at hF0 hM0
  have e11 : S0' 44 11 = nI x := by rw [← hS0, su_k (by decide)]; exact g11
  have e12 : S0' 44 12 = nI bk := by rw [← hS0, su_k (by decide)]; exact g12
  have e10 : S0' 44 10 = nI tm := by rw [← hS0, su_k (by decide)]; exact g10
  have e8 : S0' 44 8 = 0 := by rw [← hS0, su_k (by decide)]; exact g8
  have e9 : S0' 44 9 = nI c := by rw [← hS0, su_s]
  have e49 : ∀ k, k < D 6 1 → S0' 49 k = nI (tk k) := fun k hk => by rw [← hS0, su_o (by decide)]; exact g49 k hk
  have e50 : ∀ j, j < 12 → S0' 50 j = enc (en j) := fun j hj => by rw [← hS0, su_o (by decide)]; exact g50 j hj
  have ehd : S0' 44 11 + 20 * S0' 4 c = nI (x + 20 * D 0 c) := by
    rw [e11, (hM0.2.2.2.2.1 c hc).1, show (20 : Int32) = nI 20 from rfl, pk_mul, nI_add]
  generalize hhd : x + 20 * D 0 c = hd at *
  have hh : hd ≤ 20000 := by omega
  unfold f_X6_goThrough
  rw [inb_nI (by omega) (by decide), grd_t, lett_e, cl_nI (by omega), ehd]
  have hloop := through_loop hB hc hh (D 6 1) FU 0 S0' (by omega) (by unfold FU; omega) hM0
  rw [show nI hd - nI (sumT (tkN D c hd) 0) = nI hd from by rw [sumT, pk_sub (by omega)]; rfl, show (nI 0 : Int32) = 0 from rfl] at hloop
  rw [hloop]
  clear hloop
  have hacc : accN D c hd ≤ 100000 := sumT_b hB hc hh (Nat.le_refl _)
  have hbr := brk_le hB (hd := hd) hc
  have hF1 : FC S (addS S0' 49 0 (D 6 1) (tkN D c hd)) := hF0.a49 _ _ _
  have hM1 := hM.fc hF1
  have a49 : ∀ k, k < D 6 1 → addS S0' 49 0 (D 6 1) (tkN D c hd) 49 k = nI (addT D c hd tk k) := fun k hk => by
    unfold addS addT
    rw [if_pos rfl, if_pos (by omega), if_pos hk, e49 k hk, nI_add]
  have a44 : ∀ k, addS S0' 49 0 (D 6 1) (tkN D c hd) 44 k = S0' 44 k := fun k => by rw [addS_o (by decide)]
  have a50 : ∀ j, j < 12 → addS S0' 49 0 (D 6 1) (tkN D c hd) 50 j = enc (en j) := fun j hj => by rw [addS_o (by decide)]; exact e50 j hj
  generalize addS S0' 49 0 (D 6 1) (tkN D c hd) = S1 at hF1 hM1 a49 a44 a50
  unfold exitC
  by_cases hle : hd ≤ accN D c hd
  · have hl0 : leftN D c hd = 0 := by unfold leftN; omega
    have hb0 : brkN D c hd = 0 := by unfold brkN; rw [show hd - accN D c hd = 0 by omega]; simp
    rw [if_pos ((sub_le0 (by omega) (by omega)).mpr hle)]
    unfold f_X6_goThrough_b110
    rw [lett_e, lett_e, if_neg (by
      rw [show nI hd - nI (accN D c hd) - 0 = nI hd - nI (accN D c hd) from by rw [show (0 : Int32) = nI 0 from rfl, sub3]; rfl]
      exact Int32.not_lt.mpr ((sub_le0 (by omega) (by omega)).mpr hle)), lett_e, lett_e]
    refine ⟨_, rfl, ((hF1.s44 12 _ (by omega)).s44 11 _ (by omega)).s44 8 _ (by omega), Or.inl ⟨hl0, ?_⟩⟩
    rw [hb0]
    refine ⟨su_s, ?_, ?_, ?_, ?_, fun k hk => ?_, fun j hj => ?_⟩
    · rw [su_k (by decide), su_k (by decide), su_k (by decide), a44]; exact e9
    · rw [su_k (by decide), su_k (by decide), su_k (by decide), a44]; exact e10
    · rw [su_k (by decide), su_s]; rfl
    · rw [su_k (by decide), su_k (by decide), su_s, a44, e12, show (0 : Int32) = nI 0 from rfl, nI_add]; rfl
    · rw [su_o (by decide), su_o (by decide), su_o (by decide)]; exact a49 k hk
    · rw [su_o (by decide), su_o (by decide), su_o (by decide)]; exact a50 j hj
  · have hlt : accN D c hd < hd := by omega
    rw [if_neg (fun q => hle ((sub_le0 (by omega) (by omega)).mp q)), inb_nI (by omega) (by decide), grd_t, nz10, grd_t, cl_nI (by omega), (hM1.2.2.2.2.1 c hc).2.2.2, pk_sub (by omega), pk_mul, show (10 : Int32) = nI 10 from rfl, pk_div (by omega) (by decide) (by decide)]
    have hbe : (hd - accN D c hd) * D 3 c / 10 = brkN D c hd := rfl
    have hble : brkN D c hd ≤ hd - accN D c hd := by
      unfold brkN
      have h7 : (hd - accN D c hd) * D 3 c ≤ (hd - accN D c hd) * 10 := mul_le (Nat.le_refl _) (by omega)
      have := Nat.div_le_div_right (c := 10) h7
      rw [Nat.mul_div_cancel _ (by decide)] at this
      exact this
    rw [hbe]
    unfold f_X6_goThrough_b110
    rw [lett_e, lett_e, pk_sub hble, show hd - accN D c hd - brkN D c hd = leftN D c hd from rfl]
    by_cases hl : leftN D c hd = 0
    · rw [hl, if_neg (by decide), lett_e, lett_e]
      refine ⟨_, rfl, ((hF1.s44 12 _ (by omega)).s44 11 _ (by omega)).s44 8 _ (by omega), Or.inl ⟨rfl, ?_⟩⟩
      refine ⟨su_s, ?_, ?_, ?_, ?_, fun k hk => ?_, fun j hj => ?_⟩
      · rw [su_k (by decide), su_k (by decide), su_k (by decide), a44]; exact e9
      · rw [su_k (by decide), su_k (by decide), su_k (by decide), a44]; exact e10
      · rw [su_k (by decide), su_s]; rfl
      · rw [su_k (by decide), su_k (by decide), su_s, a44, e12, nI_add]; rfl
      · rw [su_o (by decide), su_o (by decide), su_o (by decide)]; exact a49 k hk
      · rw [su_o (by decide), su_o (by decide), su_o (by decide)]; exact a50 j hj
    · have hl0 : 0 < leftN D c hd := by omega
      have hlle := leftN_le D c hd
      have hrt := rootN_b hl0 (show leftN D c hd < 65536 by omega)
      rw [if_pos (show (0 : Int32) < nI (leftN D c hd) from nI_lt (a := 0) hl0 (by omega)), lett_e, inb_nI (show c < 12 by omega) (by decide), grd_t, lett_e, cl_nI (show c < 2 ^ 31 by omega), f_root7 (by omega), bnd_some, show (1000 : Int32) = nI 1000 from rfl, f_by _ _ (by decide) hrt.1 (by omega), bnd_some, lett_e, grd_t]
      have hF2 : FC S (su (su (su (su S1 44 12 (S1 44 12 + nI (brkN D c hd))) 44 11 (nI (leftN D c hd))) 50 c (nI (leftN D c hd))) 44 10 ((su (su (su S1 44 12 (S1 44 12 + nI (brkN D c hd))) 44 11 (nI (leftN D c hd))) 50 c (nI (leftN D c hd))) 44 10 + nI (1000 / rootN (leftN D c hd)))) := (((hF1.s44 12 _ (by omega)).s44 11 _ (by omega)).s50 c _).s44 10 _ (by omega)
      have b44 : ∀ S2 : St, S2 = su (su (su (su S1 44 12 (S1 44 12 + nI (brkN D c hd))) 44 11 (nI (leftN D c hd))) 50 c (nI (leftN D c hd))) 44 10 ((su (su (su S1 44 12 (S1 44 12 + nI (brkN D c hd))) 44 11 (nI (leftN D c hd))) 50 c (nI (leftN D c hd))) 44 10 + nI (1000 / rootN (leftN D c hd))) → S2 44 8 = 0 ∧ S2 44 9 = nI c ∧ S2 44 10 = nI (tm + 1000 / rootN (leftN D c hd)) ∧ S2 44 11 = nI (leftN D c hd) ∧ S2 44 12 = nI (bk + brkN D c hd) ∧ (∀ k, k < D 6 1 → S2 49 k = nI (addT D c hd tk k)) ∧ (∀ j, j < 12 → S2 50 j = enc (upN en c (leftN D c hd) j)) := by
        intro S2 h2
        subst h2
        refine ⟨?_, ?_, ?_, ?_, ?_, fun k hk => ?_, fun j hj => ?_⟩
        · rw [su_k (by decide), su_o (by decide), su_k (by decide), su_k (by decide), a44]; exact e8
        · rw [su_k (by decide), su_o (by decide), su_k (by decide), su_k (by decide), a44]; exact e9
        · rw [su_s, su_o (by decide), su_k (by decide), su_k (by decide), a44, e10, nI_add]
        · rw [su_k (by decide), su_o (by decide), su_s]
        · rw [su_k (by decide), su_o (by decide), su_k (by decide), su_s, a44, e12, nI_add]
        · rw [su_o (by decide), su_o (by decide), su_o (by decide), su_o (by decide)]; exact a49 k hk
        · rw [su_o (by decide)]
          by_cases hj2 : j = c
          · subst hj2
            rw [su_s]
            unfold upN enc
            rw [if_pos rfl, if_neg hl]
          · rw [su_k hj2, su_o (by decide), su_o (by decide), a50 j hj]
            unfold upN
            rw [if_neg hj2]
      have hM2 := hM.fc hF2
      have hb2 := b44 _ rfl
      generalize su (su (su (su S1 44 12 (S1 44 12 + nI (brkN D c hd))) 44 11 (nI (leftN D c hd))) 50 c (nI (leftN D c hd))) 44 10 ((su (su (su S1 44 12 (S1 44 12 + nI (brkN D c hd))) 44 11 (nI (leftN D c hd))) 50 c (nI (leftN D c hd))) 44 10 + nI (1000 / rootN (leftN D c hd))) = S2 at hF2 hM2 hb2
      clear b44
      obtain ⟨q8, q9, q10, q11, q12, q49, q50⟩ := hb2
      have hmc := hM2.2.2.2.2.1 c hc
      rw [hmc.2.1]
      have hGC : GC D S2 (c + 1) (leftN D c hd) (tm + 1000 / rootN (leftN D c hd)) (bk + brkN D c hd) (addT D c hd tk) (upN en c (leftN D c hd)) := ⟨hM2, q8, q10, q11, q12, q49, q50, fun _ => q9⟩
      by_cases hs : D 1 c = 0
      · rw [hs, if_pos (by decide)]
        exact ⟨S2, rfl, hF2, Or.inr (Or.inr ⟨hl, by omega, hGC⟩)⟩
      · have hs0 : 0 < D 1 c := by omega
        rw [if_neg (nI_nle hs0 (by omega))]
        have hg := hB.2.2.2.2.1
        have hg2 := hB.2.2.2.2.2.1
        unfold f_X6_bearable
        rw [inb_nI (by omega) (by decide), grd_t, cl_nI (by omega), hM2.2.2.2.1, hmc.2.1, show (100 : Int32) = nI 100 from rfl, pk_mul, f_by _ _ (by omega) hs0 (by omega), bnd_some, bnd_some]
        have hqle : 100 * D 6 3 / D 1 c ≤ 100 * D 6 3 := Nat.div_le_self _ _
        by_cases hv : 100 * D 6 3 / D 1 c < leftN D c hd
        · rw [if_neg (nI_ge hv (by omega)), lett_e]
          refine ⟨_, rfl, hF2.s44 8 _ (by omega), Or.inr (Or.inl ⟨hl, ⟨hs0, hv⟩, ?_⟩)⟩
          refine ⟨su_s, ?_, ?_, ?_, ?_, fun k hk => ?_, fun j hj => ?_⟩
          · rw [su_k (by decide)]; exact q9
          · rw [su_k (by decide)]; exact q10
          · rw [su_k (by decide)]; exact q11
          · rw [su_k (by decide)]; exact q12
          · rw [su_o (by decide)]; exact q49 k hk
          · rw [su_o (by decide)]; exact q50 j hj
        · rw [if_pos (nI_le (by omega) (by omega))]
          exact ⟨S2, rfl, hF2, Or.inr (Or.inr ⟨hl, fun q => hv q.2, hGC⟩)⟩
