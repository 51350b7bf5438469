-- ===== the whole run: class =====
theorem go7_loop {D : Dt} (hB : MB D) : ∀ (d n c x tm bk : Nat) (tk en : Nat → Nat) (S : St), c + d = D 6 0 → d + 1 < n → x + 180 * d ≤ 20000 → 0 < D 6 0 → GC D S c x tm bk tk en → ∃ S1, f_X6_go_l38 n (nI c) S = some ((), S1) ∧ FC S S1 ∧ RCo D S1 (goR D d c x tm bk tk en) := by
  have h12 := hB.1
  intro d
  induction d with
  | zero =>
    intro n c x tm bk tk en S hc hn hx h0 hG
    obtain ⟨n, rfl⟩ : ∃ k, n = k + 1 := ⟨n - 1, by omega⟩
    obtain rfl : c = D 6 0 := by omega
    obtain ⟨hM, g8, g10, g11, g12, g49, g50, g9⟩ := hG
    rw [f_X6_go_l38, if_pos g8, hM.1, if_pos (nI_le (Nat.le_refl _) (by omega))]
    exact ⟨S, rfl, FC.rf S, g8, g9 h0, g10, g11, g12, g49, g50⟩
  | succ d ih =>
    intro n c x tm bk tk en S hc hn hx h0 hG
    obtain ⟨n, rfl⟩ : ∃ k, n = k + 2 := ⟨n - 2, by omega⟩
    obtain ⟨S1, e1, hF, hcase⟩ := f_through hB (show c < D 6 0 by omega) (show x + 180 ≤ 20000 by omega) hG
    have hd9 := (hB.2.2.2.2.2.2.1 c (by omega)).1
    rw [f_X6_go_l38, if_pos hG.2.1, hG.1.1, if_neg (nI_ge (by omega) (by omega)), lett_e, e1, bnd_some, lett_e, nI_1]
    rw [goR]
    rcases hcase with ⟨hl, hR⟩ | ⟨hl, hs, hR⟩ | ⟨hl, hs, hG'⟩
    · rw [if_pos hl, f_X6_go_l38, if_neg (by rw [hR.1]; show ¬ nI 1 = (0 : Int32); decide)]
      exact ⟨S1, rfl, hF, hR⟩
    · rw [if_neg hl, if_pos hs, f_X6_go_l38, if_neg (by rw [hR.1]; show ¬ nI 2 = (0 : Int32); decide)]
      exact ⟨S1, rfl, hF, hR⟩
    · rw [if_neg hl, if_neg hs]
      have hle := leftN_le D c (x + 20 * D 0 c)
      obtain ⟨S2, e2, hF2, hR2⟩ := ih (n + 1) (c + 1) _ _ _ _ _ S1 (by omega) (by omega) (by omega) h0 hG'
      exact ⟨S2, e2, hF.tr hF2, hR2⟩
theorem f_go7 {D : Dt} (hB : MB D) (h0 : 0 < D 6 0) {x : Nat} (hx : x ≤ 17000) {S : St} (hM : MC D S) : ∃ S1, f_X6_go (nI x) S = some ((), S1) ∧ FC S S1 ∧ RCo D S1 (goN D x) := by
  have h12 := hB.1
  have hm5 := hB.2.1
  unfold f_X6_go
  rw [f_fill_eq 49 5 (by decide), bnd_some, f_fill_eq 50 12 (by decide), bnd_some, lett_e, lett_e, lett_e, lett_e]
  have hF : FC S (su (su (su (su (fillS (fillS S 49 0 5 0) 50 0 12 (-1)) 44 8 0) 44 10 0) 44 11 (nI x)) 44 12 0) := ((((((FC.rf S).f49 0 5 0).f50 0 12 (-1)).s44 8 _ (by omega)).s44 10 _ (by omega)).s44 11 _ (by omega)).s44 12 _ (by omega)
  have hG : GC D (su (su (su (su (fillS (fillS S 49 0 5 0) 50 0 12 (-1)) 44 8 0) 44 10 0) 44 11 (nI x)) 44 12 0) 0 x 0 0 (fun _ => 0) (fun _ => 0) := by
    refine ⟨hM.fc hF, ?_, ?_, ?_, su_s, fun k hk => ?_, fun j hj => ?_, fun h => absurd h (by decide)⟩
    · rw [su_k (by decide), su_k (by decide), su_k (by decide), su_s]
    · rw [su_k (by decide), su_k (by decide), su_s]; rfl
    · rw [su_k (by decide), su_s]
    · rw [su_o (by decide), su_o (by decide), su_o (by decide), su_o (by decide), fillS_o (by decide), fillS_in (by omega)]; rfl
    · rw [su_o (by decide), su_o (by decide), su_o (by decide), su_o (by decide), fillS_in (by omega)]; rfl
  obtain ⟨S1, e1, hF1, hR⟩ := go7_loop hB (D 6 0) FU 0 x 0 0 _ _ _ (by omega) (by unfold FU; omega) (by omega) h0 hG
  exact ⟨S1, e1, hF.tr hF1, hR⟩
-- ===== the reference =====
def FM (T T1 : St) : Prop := ∀ c j : Nat, c ≠ 68 → c ≠ 69 → (c ≠ 55 ∨ j < 22 ∨ (25 < j ∧ j ≠ 28)) → T1 c j = T c j
theorem FM.rf (S : St) : FM S S := fun _ _ _ _ _ => rfl
theorem FM.tr {S S1 S2 : St} (h1 : FM S S1) (h2 : FM S1 S2) : FM S S2 := fun c j a b e => (h2 c j a b e).trans (h1 c j a b e)
theorem FM.s55 {S S1 : St} (h : FM S S1) (k : Nat) (v : Int32) (hk : (22 ≤ k ∧ k ≤ 25) ∨ k = 28) : FM S (su S1 55 k v) := fun c j a b e => by
  rw [su_g (by omega)]; exact h c j a b e
theorem FM.s68 {S S1 : St} (h : FM S S1) (k : Nat) (v : Int32) : FM S (su S1 68 k v) := fun c j a b e => by
  rw [su_o a]; exact h c j a b e
theorem FM.a69 {S S1 : St} (h : FM S S1) (k m : Nat) (tk : Nat → Nat) : FM S (addS S1 69 k m tk) := fun c j a b e => by
  rw [addS_o b]; exact h c j a b e
theorem FM.f68 {S S1 : St} (h : FM S S1) (i n : Nat) (x : Int32) : FM S (fillS S1 68 i n x) := fun c j a b e => by
  rw [fillS_o a]; exact h c j a b e
theorem FM.f69 {S S1 : St} (h : FM S S1) (i n : Nat) (x : Int32) : FM S (fillS S1 69 i n x) := fun c j a b e => by
  rw [fillS_o b]; exact h c j a b e
theorem MM.fm {D : Dt} {S S1 : St} (h : MM D S) (hF : FM S S1) : MM D S1 := by
  obtain ⟨h1, h2, h3, h4, h5, h6⟩ := h
  refine ⟨?_, ?_, ?_, ?_, fun c hc => ?_, fun k hk => ?_⟩
  · rw [hF 55 6 (by decide) (by decide) (Or.inr (Or.inl (by decide)))]; exact h1
  · rw [hF 55 18 (by decide) (by decide) (Or.inr (Or.inl (by decide)))]; exact h2
  · rw [hF 55 17 (by decide) (by decide) (Or.inr (Or.inl (by decide)))]; exact h3
  · rw [hF 55 16 (by decide) (by decide) (Or.inr (Or.inl (by decide)))]; exact h4
  · rw [hF 58 c (by decide) (by decide) (Or.inl (by decide)), hF 59 c (by decide) (by decide) (Or.inl (by decide)), hF 60 c (by decide) (by decide) (Or.inl (by decide)), hF 67 c (by decide) (by decide) (Or.inl (by decide))]; exact h5 c hc
  · rw [hF 65 k (by decide) (by decide) (Or.inl (by decide)), hF 66 k (by decide) (by decide) (Or.inl (by decide))]; exact h6 k hk
def GM (D : Dt) (S : St) (x tm bk : Nat) (tk en : Nat → Nat) : Prop := MM D S ∧ S 55 22 = 0 ∧ S 55 24 = nI tm ∧ S 55 25 = nI x ∧ S 55 28 = nI bk ∧ (∀ k, k < D 6 1 → S 69 k = nI (tk k)) ∧ (∀ j, j < 12 → S 68 j = enc (en j)) ∧ S 55 23 = nI (D 6 0 - 1)
def RMo (D : Dt) (S : St) (R : Dt) : Prop := S 55 22 = nI (R 0 0) ∧ S 55 23 = nI (R 0 1) ∧ S 55 24 = nI (R 0 2) ∧ S 55 25 = nI (R 0 3) ∧ S 55 28 = nI (R 0 4) ∧ (∀ k, k < D 6 1 → S 69 k = nI (R 1 k)) ∧ (∀ j, j < 12 → S 68 j = enc (R 2 j))
def exitM (x1 x3 : Int32) (S : St) : Option (Int32 × St) := if x3 ≤ 0 then f_X8_goCell_b98 x3 0 S else grd (inb x1 12) <| grd (nz 10) <| f_X8_goCell_b98 x3 ((x3 * (S 67 (x1 : Int32).toNatClampNeg)) / 10) S
theorem cell_loop {D : Dt} (hB : MB D) {c hd : Nat} (hc : c < D 6 0) (hh : hd ≤ 20000) : ∀ (e n k : Nat) (S : St), k + e = D 6 1 → e < n → MM D S → f_X8_goCell_l20 n (nI c) (nI hd) (nI hd - nI (sumT (tkN D c hd) k)) (nI k) S = exitM (nI c) (nI hd - nI (accN D c hd)) (addS S 69 k (D 6 1) (tkN D c hd)) := by
  have h12 := hB.1
  have hm5 := hB.2.1
  intro e
  induction e with
  | zero =>
    intro n k S hk hn hM
    obtain ⟨n, rfl⟩ : ∃ j, n = j + 1 := ⟨n - 1, by omega⟩
    obtain rfl : k = D 6 1 := by omega
    rw [f_X8_goCell_l20, hM.2.1, if_pos (nI_le (Nat.le_refl _) (by omega)), addS_0]
    rfl
  | succ e ih =>
    intro n k S hk hn hM
    obtain ⟨n, rfl⟩ : ∃ j, n = j + 1 := ⟨n - 1, by omega⟩
    have hcs := hM.2.2.2.2.1 c hc
    have hks := hM.2.2.2.2.2 k (by omega)
    have hbc := hB.2.2.2.2.2.2.1 c hc
    have hbk := hB.2.2.2.2.2.2.2 k (by omega)
    rw [f_X8_goCell_l20, hM.2.1, if_neg (nI_ge (by omega) (by omega)), inb_nI (by omega) (by decide), grd_t, grd_t, grd_t, cl_nI (by omega), hcs.1, hcs.2.1, hcs.2.2.1]
    rw [f_takes8 S k (D 4 k) (D 5 k) (D 6 2) hd (D 0 c) (D 1 c) (D 2 c) (by omega) hks.1 hks.2 hM.2.2.1 hbk.1 hbk.2 ⟨hB.2.2.1, hB.2.2.2.1⟩ hh hbc.1 hbc.2.1 hbc.2.2.1, bnd_some]
    rw [inb_nI (by omega) (by decide), grd_t, grd_t, lett_e, lett_e, lett_e, cl_nI (by omega), nI_1, sub3]
    have hM' : MM D (su S 69 k (S 69 k + nI (takesN (D 4 k) (D 5 k) (D 6 2) hd (D 0 c) (D 1 c) (D 2 c)))) := hM.fm (fun c j a b e => by rw [su_o b])
    have h9 := ih n (k + 1) _ (by omega) (by omega) hM'
    rw [sumT] at h9
    rw [show takesN (D 4 k) (D 5 k) (D 6 2) hd (D 0 c) (D 1 c) (D 2 c) = tkN D c hd k from rfl] at *
    rw [h9, addS_1 S 69 k (D 6 1) (tkN D c hd) (by omega)]
/-- one cell of the reference: what is left -/
theorem f_cell8 {D : Dt} (hB : MB D) {c x tm bk : Nat} {tk en : Nat → Nat} {S : St} (hc : c < D 6 0) (hx : x + 180 ≤ 20000) (hG : GM D S x tm bk tk en) :
    ∃ (S1 : St) (v : Int32), f_X8_goCell (nI c) S = some (v, S1) ∧ FM S S1 ∧ GM D S1 x tm (bk + brkN D c (x + 20 * D 0 c)) (addT D c (x + 20 * D 0 c) tk) en ∧
      ((leftN D c (x + 20 * D 0 c) = 0 ∧ ¬ 0 < v) ∨ (leftN D c (x + 20 * D 0 c) ≠ 0 ∧ v = nI (leftN D c (x + 20 * D 0 c)))) := by
  obtain ⟨hM, g22, g24, g25, g28, g69, g68, g23⟩ := hG
  have h12 := hB.1
  have hm5 := hB.2.1
  have hbc := hB.2.2.2.2.2.2.1 c hc
  have ehd : S 55 25 + 20 * S 58 c = nI (x + 20 * D 0 c) := by
    rw [g25, (hM.2.2.2.2.1 c hc).1, show (20 : Int32) = nI 20 from rfl, pk_mul, nI_add]
  generalize hhd : x + 20 * D 0 c = hd at *
  have hh : hd ≤ 20000 := by omega
  unfold f_X8_goCell
  rw [inb_nI (by omega) (by decide), grd_t, lett_e, cl_nI (by omega), ehd]
  have hloop := cell_loop hB hc hh (D 6 1) FU 0 S (by omega) (by unfold FU; omega) hM
  rw [show nI hd - nI (sumT (tkN D c hd) 0) = nI hd from by rw [sumT, pk_sub (by omega)]; rfl, show (nI 0 : Int32) = 0 from rfl] at hloop
  rw [hloop]
  clear hloop
  have hacc : accN D c hd ≤ 100000 := sumT_b hB hc hh (Nat.le_refl _)
  have hbr := brk_le hB (hd := hd) hc
  have hF1 : FM S (addS S 69 0 (D 6 1) (tkN D c hd)) := (FM.rf S).a69 _ _ _
  have hM1 := hM.fm hF1
  have a69 : ∀ k, k < D 6 1 → addS S 69 0 (D 6 1) (tkN D c hd) 69 k = nI (addT D c hd tk k) := fun k hk => by
    unfold addS addT
    rw [if_pos rfl, if_pos (by omega), if_pos hk, g69 k hk, nI_add]
  have a55 : ∀ k, addS S 69 0 (D 6 1) (tkN D c hd) 55 k = S 55 k := fun k => by rw [addS_o (by decide)]
  have a68 : ∀ j, j < 12 → addS S 69 0 (D 6 1) (tkN D c hd) 68 j = enc (en j) := fun j hj => by rw [addS_o (by decide)]; exact g68 j hj
  generalize addS S 69 0 (D 6 1) (tkN D c hd) = S1 at hF1 hM1 a69 a55 a68
  have fin : ∀ b : Nat, GM D (su S1 55 28 (S1 55 28 + nI b)) x tm (bk + b) (addT D c hd tk) en := fun b =>
    ⟨hM.fm (hF1.s55 28 _ (by omega)), by rw [su_k (by decide), a55]; exact g22, by rw [su_k (by decide), a55]; exact g24, by rw [su_k (by decide), a55]; exact g25, by rw [su_s, a55, g28, nI_add], fun k hk => by rw [su_o (by decide)]; exact a69 k hk, fun j hj => by rw [su_o (by decide)]; exact a68 j hj, by rw [su_k (by decide), a55]; exact g23⟩
  unfold exitM
  by_cases hle : hd ≤ accN D c hd
  · have hl0 : leftN D c hd = 0 := by unfold leftN; omega
    have hb0 : brkN D c hd = 0 := by unfold brkN; rw [show hd - accN D c hd = 0 by omega]; simp
    rw [if_pos ((sub_le0 (by omega) (by omega)).mpr hle)]
    unfold f_X8_goCell_b98
    rw [lett_e]
    refine ⟨_, _, rfl, hF1.s55 28 _ (by omega), ?_, Or.inl ⟨hl0, ?_⟩⟩
    · rw [hb0]; exact fin 0
    · rw [show nI hd - nI (accN D c hd) - 0 = nI hd - nI (accN D c hd) from by rw [show (0 : Int32) = nI 0 from rfl, sub3]; rfl]
      exact Int32.not_lt.mpr ((sub_le0 (by omega) (by omega)).mpr hle)
  · have hlt : accN D c hd < hd := by omega
    rw [if_neg (fun q => hle ((sub_le0 (by omega) (by omega)).mp q)), inb_nI (by omega) (by decide), grd_t, nz10, grd_t, cl_nI (by omega), (hM1.2.2.2.2.1 c hc).2.2.2, pk_sub (by omega), pk_mul, show (10 : Int32) = nI 10 from rfl, pk_div (by omega) (by decide) (by decide)]
    have hbe : (hd - accN D c hd) * D 3 c / 10 = brkN D c hd := rfl
    have hble : brkN D c hd ≤ hd - accN D c hd := by
      unfold brkN
      have h7 : (hd - accN D c hd) * D 3 c ≤ (hd - accN D c hd) * 10 := mul_le (Nat.le_refl _) (by omega)
      have := Nat.div_le_div_right (c := 10) h7
      rw [Nat.mul_div_cancel _ (by decide)] at this
      exact this
    rw [hbe]
    unfold f_X8_goCell_b98
    rw [lett_e, pk_sub hble, show hd - accN D c hd - brkN D c hd = leftN D c hd from rfl]
    refine ⟨_, _, rfl, hF1.s55 28 _ (by omega), fin _, ?_⟩
    by_cases hl : leftN D c hd = 0
    · exact Or.inl ⟨hl, by rw [hl]; decide⟩
    · exact Or.inr ⟨hl, rfl⟩
theorem go8_loop {D : Dt} (hB : MB D) : ∀ (d n c x tm bk : Nat) (tk en : Nat → Nat) (S : St), c + d = D 6 0 → d < n → x + 180 * d ≤ 20000 → GM D S x tm bk tk en → ∃ S1, f_X8_go_l74 n (nI c) S = some ((), S1) ∧ FM S S1 ∧ RMo D S1 (goR D d c x tm bk tk en) := by
  have h12 := hB.1
  intro d
  induction d with
  | zero =>
    intro n c x tm bk tk en S hc hn hx hG
    obtain ⟨n, rfl⟩ : ∃ k, n = k + 1 := ⟨n - 1, by omega⟩
    obtain rfl : c = D 6 0 := by omega
    obtain ⟨hM, g22, g24, g25, g28, g69, g68, g23⟩ := hG
    rw [f_X8_go_l74, hM.1, if_pos (nI_le (Nat.le_refl _) (by omega))]
    exact ⟨S, rfl, FM.rf S, g22, g23, g24, g25, g28, g69, g68⟩
  | succ d ih =>
    intro n c x tm bk tk en S hc hn hx hG
    obtain ⟨n, rfl⟩ : ∃ k, n = k + 1 := ⟨n - 1, by omega⟩
    have hcl : c < D 6 0 := by omega
    obtain ⟨S1, v, e1, hF, hG1, hcase⟩ := f_cell8 hB hcl (show x + 180 ≤ 20000 by omega) hG
    have hd9 := (hB.2.2.2.2.2.2.1 c hcl).1
    have hs9 := (hB.2.2.2.2.2.2.1 c hcl).2.1
    rw [f_X8_go_l74, hG.1.1, if_neg (nI_ge (by omega) (by omega)), e1, bnd_some, lett_e, su_s, goR]
    obtain ⟨hM1, g22, g24, g25, g28, g69, g68, g23⟩ := hG1
    have hle := leftN_le D c (x + 20 * D 0 c)
    rcases hcase with ⟨hl, hv⟩ | ⟨hl, hv⟩
    · rw [if_neg hv, if_pos hl, lett_e, lett_e, lett_e]
      refine ⟨_, rfl, (((hF.s55 25 _ (by omega)).s55 25 _ (by omega)).s55 22 _ (by omega)).s55 23 _ (by omega), ?_, su_s, ?_, ?_, ?_, fun k hk => ?_, fun j hj => ?_⟩
      · rw [su_k (by decide), su_s]; rfl
      · rw [su_k (by decide), su_k (by decide), su_k (by decide), su_k (by decide)]; exact g24
      · rw [su_k (by decide), su_k (by decide), su_s]; rfl
      · rw [su_k (by decide), su_k (by decide), su_k (by decide), su_k (by decide)]; exact g28
      · rw [su_o (by decide), su_o (by decide), su_o (by decide), su_o (by decide)]; exact g69 k hk
      · rw [su_o (by decide), su_o (by decide), su_o (by decide), su_o (by decide)]; exact g68 j hj
    · subst hv
      generalize hL : leftN D c (x + 20 * D 0 c) = lf at *
      have hl0 : 0 < lf := by omega
      have hrt := rootN_b hl0 (show lf < 65536 by omega)
      rw [if_pos (show (0 : Int32) < nI lf from nI_lt (a := 0) hl0 (by omega)), inb_nI (show c < 12 by omega) (by decide), grd_t, lett_e, cl_nI (show c < 2 ^ 31 by omega), su_o (show (55 : Nat) ≠ 68 by decide), su_s, f_root8 (show lf < 65536 by omega), bnd_some, nz_nI hrt.1 (by omega), grd_t, lett_e, grd_t, if_neg hl]
      rw [su_k (show (24 : Nat) ≠ 25 by decide), g24, show (1000 : Int32) = nI 1000 from rfl, pk_div (by decide) hrt.1 (by omega), nI_add]
      have hF2 : FM S (su (su (su S1 55 25 (nI lf)) 68 c (nI lf)) 55 24 (nI (tm + 1000 / rootN lf))) := ((hF.s55 25 _ (by omega)).s68 c _).s55 24 _ (by omega)
      have hG2 : GM D (su (su (su S1 55 25 (nI lf)) 68 c (nI lf)) 55 24 (nI (tm + 1000 / rootN lf))) lf (tm + 1000 / rootN lf) (bk + brkN D c (x + 20 * D 0 c)) (addT D c (x + 20 * D 0 c) tk) (upN en c lf) := by
        refine ⟨hG.1.fm hF2, ?_, su_s, ?_, ?_, fun k hk => ?_, fun j hj => ?_, ?_⟩
        · rw [su_k (by decide), su_o (by decide), su_k (by decide)]; exact g22
        · rw [su_k (by decide), su_o (by decide), su_s]
        · rw [su_k (by decide), su_o (by decide), su_k (by decide)]; exact g28
        · rw [su_o (by decide), su_o (by decide), su_o (by decide)]; exact g69 k hk
        · rw [su_o (by decide)]
          by_cases hj2 : j = c
          · subst hj2
            rw [su_s]
            unfold upN enc
            rw [if_pos rfl, if_neg hl]
          · rw [su_k hj2, su_o (by decide), g68 j hj]
            unfold upN
            rw [if_neg hj2]
        · rw [su_k (by decide), su_o (by decide), su_k (by decide)]; exact g23
      generalize su (su (su S1 55 25 (nI lf)) 68 c (nI lf)) 55 24 (nI (tm + 1000 / rootN lf)) = S2 at hF2 hG2
      have hmc := hG2.1.2.2.2.2.1 c hcl
      rw [hmc.2.1]
      have next : ∀ _ : Unit, ¬ (0 < D 1 c ∧ 100 * D 6 3 / D 1 c < lf) → ∃ S3, f_X8_go_b176 (f_X8_go_l74 n) (nI c) S2 = some ((), S3) ∧ FM S S3 ∧ RMo D S3 (goR D d (c + 1) lf (tm + 1000 / rootN lf) (bk + brkN D c (x + 20 * D 0 c)) (addT D c (x + 20 * D 0 c) tk) (upN en c lf)) := by
        intro _ _
        unfold f_X8_go_b176
        rw [lett_e, nI_1]
        obtain ⟨S3, e3, hF3, hR3⟩ := ih n (c + 1) _ _ _ _ _ S2 (by omega) (by omega) (by omega) hG2
        exact ⟨S3, e3, hF2.tr hF3, hR3⟩
      by_cases hs : D 1 c = 0
      · rw [hs, if_pos (by decide), if_neg (by omega)]
        exact next () (by omega)
      · have hs0 : 0 < D 1 c := by omega
        have hg := hB.2.2.2.2.1
        have hg2 := hB.2.2.2.2.2.1
        have hqle : 100 * D 6 3 / D 1 c ≤ 100 * D 6 3 := Nat.div_le_self _ _
        rw [if_neg (nI_nle hs0 (by omega))]
        unfold f_X8_bearable
        rw [inb_nI (by omega) (by decide), grd_t, cl_nI (by omega), hmc.2.1, nz_nI hs0 (by omega), grd_t, hG2.1.2.2.2.1, show (100 : Int32) = nI 100 from rfl, pk_mul, pk_div (by omega) hs0 (by omega), bnd_some, hG2.2.2.2.1]
        by_cases hv : 100 * D 6 3 / D 1 c < lf
        · rw [if_neg (nI_ge hv (by omega)), if_pos ⟨hs0, hv⟩, lett_e, lett_e]
          obtain ⟨-, k22, k24, k25, k28, k69, k68, k23⟩ := hG2
          refine ⟨_, rfl, (hF2.s55 22 _ (by omega)).s55 23 _ (by omega), ?_, su_s, ?_, ?_, ?_, fun k hk => ?_, fun j hj => ?_⟩
          · rw [su_k (by decide), su_s]; rfl
          · rw [su_k (by decide), su_k (by decide)]; exact k24
          · rw [su_k (by decide), su_k (by decide)]; exact k25
          · rw [su_k (by decide), su_k (by decide)]; exact k28
          · rw [su_o (by decide), su_o (by decide)]; exact k69 k hk
          · rw [su_o (by decide), su_o (by decide)]; exact k68 j hj
        · rw [if_pos (nI_le (by omega) (by omega)), if_neg (fun q => hv q.2)]
          exact next () (fun q => hv q.2)
theorem fill8_53 : ∀ (d n i : Nat) (S : St), i + d = 12 → d < n → f_X8_go_l53 n (nI i) S = f_X8_go_l74 FU 0 (fillS S 68 i 12 (-1)) := by
  intro d
  induction d with
  | zero =>
    intro n i S hi hd
    obtain ⟨n, rfl⟩ : ∃ k, n = k + 1 := ⟨n - 1, by omega⟩
    obtain rfl : i = 12 := by omega
    rw [f_X8_go_l53, if_pos (by decide)]
    congr 1
    funext c j
    unfold fillS
    by_cases hc : c = 68
    · rw [if_pos hc, if_neg (by omega)]
    · rw [if_neg hc]
  | succ d ih =>
    intro n i S hi hd
    obtain ⟨n, rfl⟩ : ∃ k, n = k + 1 := ⟨n - 1, by omega⟩
    rw [f_X8_go_l53, if_neg (show ¬ (12 : Int32) ≤ nI i from nI_ge (b := 12) (by omega) (by decide)), inb_nI (by omega) (by omega), grd_t, lett_e, lett_e, nI_1, cl_nI (by omega), ih n (i + 1) _ (by omega) (by omega)]
    congr 1
    exact fillS_1 S 68 i 12 (-1) (by omega)
theorem fill8_32 : ∀ (d n i : Nat) (S : St), i + d = 6 → d < n → f_X8_go_l32 n (nI i) S = f_X8_go_l53 FU 0 (fillS S 69 i 6 0) := by
  intro d
  induction d with
  | zero =>
    intro n i S hi hd
    obtain ⟨n, rfl⟩ : ∃ k, n = k + 1 := ⟨n - 1, by omega⟩
    obtain rfl : i = 6 := by omega
    rw [f_X8_go_l32, if_pos (by decide)]
    congr 1
    funext c j
    unfold fillS
    by_cases hc : c = 69
    · rw [if_pos hc, if_neg (by omega)]
    · rw [if_neg hc]
  | succ d ih =>
    intro n i S hi hd
    obtain ⟨n, rfl⟩ : ∃ k, n = k + 1 := ⟨n - 1, by omega⟩
    rw [f_X8_go_l32, if_neg (show ¬ (6 : Int32) ≤ nI i from nI_ge (b := 6) (by omega) (by decide)), inb_nI (by omega) (by omega), grd_t, lett_e, lett_e, nI_1, cl_nI (by omega), ih n (i + 1) _ (by omega) (by omega)]
    congr 1
    exact fillS_1 S 69 i 6 0 (by omega)
theorem f_go8 {D : Dt} (hB : MB D) (h0 : 0 < D 6 0) {x : Nat} (hx : x ≤ 17000) {S : St} (hM : MM D S) : ∃ S1, f_X8_go (nI x) S = some ((), S1) ∧ FM S S1 ∧ RMo D S1 (goN D x) := by
  have h12 := hB.1
  have hm5 := hB.2.1
  unfold f_X8_go
  rw [lett_e, lett_e, lett_e, lett_e, lett_e]
  rw [show (su (su (su S 55 25 (nI x)) 55 24 0) 55 22 0) 55 6 = nI (D 6 0) from by rw [su_k (by decide), su_k (by decide), su_k (by decide)]; exact hM.1]
  rw [show nI (D 6 0) - 1 = nI (D 6 0 - 1) from pk_sub (a := D 6 0) (b := 1) h0]
  rw [show (0 : Int32) = nI 0 from rfl, fill8_32 6 FU 0 _ (by omega) (by unfold FU; omega), show (0 : Int32) = nI 0 from rfl, fill8_53 12 FU 0 _ (by omega) (by unfold FU; omega)]
  have hF : FM S (fillS (fillS (su (su (su (su (su S 55 25 (nI x)) 55 24 (nI 0)) 55 22 (nI 0)) 55 23 (nI (D 6 0 - 1))) 55 28 (nI 0)) 69 0 6 (nI 0)) 68 0 12 (-1)) := (((((((FM.rf S).s55 25 _ (by omega)).s55 24 _ (by omega)).s55 22 _ (by omega)).s55 23 _ (by omega)).s55 28 _ (by omega)).f69 0 6 _).f68 0 12 _
  have hG : GM D (fillS (fillS (su (su (su (su (su S 55 25 (nI x)) 55 24 (nI 0)) 55 22 (nI 0)) 55 23 (nI (D 6 0 - 1))) 55 28 (nI 0)) 69 0 6 (nI 0)) 68 0 12 (-1)) x 0 0 (fun _ => 0) (fun _ => 0) := by
    refine ⟨hM.fm hF, ?_, ?_, ?_, ?_, fun k hk => ?_, fun j hj => ?_, ?_⟩
    · rw [fillS_o (by decide), fillS_o (by decide), su_k (by decide), su_k (by decide), su_s]; rfl
    · rw [fillS_o (by decide), fillS_o (by decide), su_k (by decide), su_k (by decide), su_k (by decide), su_s]
    · rw [fillS_o (by decide), fillS_o (by decide), su_k (by decide), su_k (by decide), su_k (by decide), su_k (by decide), su_s]
    · rw [fillS_o (by decide), fillS_o (by decide), su_s]
    · rw [fillS_o (by decide), fillS_in (by omega)]
    · rw [fillS_in (by omega)]; rfl
    · rw [fillS_o (by decide), fillS_o (by decide), su_k (by decide), su_s]
  obtain ⟨S1, e1, hF1, hR⟩ := go8_loop hB (D 6 0) FU 0 x 0 0 _ _ _ (by omega) (by unfold FU; omega) (by omega) hG
  exact ⟨S1, e1, hF.tr hF1, hR⟩
