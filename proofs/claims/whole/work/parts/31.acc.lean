-- ===== what is told and changed one by one =====
def pu (P : Dt) (i k v : Nat) : Dt := fun a b => if a = i ∧ b = k then v else P a b
theorem pu_o {P : Dt} {i k v a : Nat} (h : a ≠ i) : pu P i k v a = P a := by
  funext b
  unfold pu
  rw [if_neg (fun q => h q.1)]
theorem pu_k {P : Dt} {i k v b : Nat} (h : b ≠ k) : pu P i k v i b = P i b := by
  unfold pu
  rw [if_neg (fun q => h q.2)]
theorem pu_s {P : Dt} {i k v : Nat} : pu P i k v i k = v := by
  unfold pu
  rw [if_pos ⟨rfl, rfl⟩]
-- cell
theorem op_cell (x1 x2 : Int32) : Op (f_X7_cell x1 x2) (f_X8_cell x1 x2) := by
  refine Op.ask (fun t P hO => ?_)
  have h12 := hO.h12
  by_cases hh : isH P x1
  · obtain ⟨c, hc, rfl⟩ := rng (by omega) hh
    by_cases q0 : x2 = 0
    · refine ⟨nI (P 1 c), fun S hR => ⟨S, ?_, KC.rf S⟩, fun T hR => ⟨T, ?_, KM.rf T⟩⟩
      · unfold f_X7_cell
        rw [h7y hR hh, bnd_some, if_neg i10, if_pos q0, inb_nI (by omega) (by omega), grd_t, cl_nI (by omega), (hR.2.2.2.1 c hc).1]
      · unfold f_X8_cell f_X8_cellOf
        rw [h8y hO hR hh, bnd_some, if_neg i10, if_pos q0, inb_nI (by omega) (by omega), grd_t, cl_nI (by omega), (hR.2.2.2.1 c hc).1, bnd_some]
    by_cases q1 : x2 = 1
    · refine ⟨nI (P 2 c), fun S hR => ⟨S, ?_, KC.rf S⟩, fun T hR => ⟨T, ?_, KM.rf T⟩⟩
      · unfold f_X7_cell
        rw [h7y hR hh, bnd_some, if_neg i10, if_neg q0, if_pos q1, inb_nI (by omega) (by omega), grd_t, cl_nI (by omega), (hR.2.2.2.1 c hc).2.1]
      · unfold f_X8_cell f_X8_cellOf
        rw [h8y hO hR hh, bnd_some, if_neg i10, if_neg q0, if_pos q1, inb_nI (by omega) (by omega), grd_t, cl_nI (by omega), (hR.2.2.2.1 c hc).2.1, bnd_some]
    by_cases q2 : x2 = 2
    · refine ⟨nI (P 3 c), fun S hR => ⟨S, ?_, KC.rf S⟩, fun T hR => ⟨T, ?_, KM.rf T⟩⟩
      · unfold f_X7_cell
        rw [h7y hR hh, bnd_some, if_neg i10, if_neg q0, if_neg q1, if_pos q2, inb_nI (by omega) (by omega), grd_t, cl_nI (by omega), (hR.2.2.2.1 c hc).2.2.1]
      · unfold f_X8_cell f_X8_cellOf
        rw [h8y hO hR hh, bnd_some, if_neg i10, if_neg q0, if_neg q1, if_pos q2, inb_nI (by omega) (by omega), grd_t, cl_nI (by omega), (hR.2.2.2.1 c hc).2.2.1, bnd_some]
    by_cases q3 : x2 = 3
    · refine ⟨nI (P 4 c), fun S hR => ⟨S, ?_, KC.rf S⟩, fun T hR => ⟨T, ?_, KM.rf T⟩⟩
      · unfold f_X7_cell
        rw [h7y hR hh, bnd_some, if_neg i10, if_neg q0, if_neg q1, if_neg q2, if_pos q3, inb_nI (by omega) (by omega), grd_t, cl_nI (by omega), (hR.2.2.2.1 c hc).2.2.2]
      · unfold f_X8_cell f_X8_cellOf
        rw [h8y hO hR hh, bnd_some, if_neg i10, if_neg q0, if_neg q1, if_neg q2, if_pos q3, inb_nI (by omega) (by omega), grd_t, cl_nI (by omega), (hR.2.2.2.1 c hc).2.2.2, bnd_some]
    refine ⟨-102, fun S hR => ⟨S, ?_, KC.rf S⟩, fun T hR => ⟨T, ?_, KM.rf T⟩⟩
    · unfold f_X7_cell
      rw [h7y hR hh, bnd_some, if_neg i10, if_neg q0, if_neg q1, if_neg q2, if_neg q3]
    · unfold f_X8_cell f_X8_cellOf
      rw [h8y hO hR hh, bnd_some, if_neg i10, if_neg q0, if_neg q1, if_neg q2, if_neg q3, bnd_some]
  · refine ⟨-101, fun S hR => ⟨S, ?_, KC.rf S⟩, fun T hR => ⟨T, ?_, KM.rf T⟩⟩
    · unfold f_X7_cell
      rw [h7n hR hh, bnd_some, if_pos i00]
    · unfold f_X8_cell
      rw [h8n hO hR hh, bnd_some, if_pos i00]
-- about
theorem op_about (x1 x2 : Int32) : Op (f_X7_about x1 x2) (f_X8_about x1 x2) := by
  refine Op.ask (fun t P hO => ?_)
  have h8 := hO.h8
  by_cases hc : isC P x1
  · obtain ⟨j, hj, rfl⟩ := rng (by omega) hc
    by_cases q0 : x2 = 0
    · refine ⟨nI (P 5 j), fun S hR => ⟨S, ?_, KC.rf S⟩, fun T hR => ⟨T, ?_, KM.rf T⟩⟩
      · unfold f_X7_about
        rw [c7y hR hc, bnd_some, if_neg i10, if_pos q0, inb_nI (by omega) (by omega), grd_t, cl_nI (by omega), (hR.2.2.2.2.2.2.1 j hj).1]
      · unfold f_X8_about
        rw [c8y hO hR hc, bnd_some, if_neg i10, if_pos q0, inb_nI (by omega) (by omega), grd_t, cl_nI (by omega), (hR.2.2.2.2.2.2.1 j hj).1]
    by_cases q1 : x2 = 1
    · refine ⟨nI (P 6 j), fun S hR => ⟨S, ?_, KC.rf S⟩, fun T hR => ⟨T, ?_, KM.rf T⟩⟩
      · unfold f_X7_about
        rw [c7y hR hc, bnd_some, if_neg i10, if_neg q0, if_pos q1, inb_nI (by omega) (by omega), grd_t, cl_nI (by omega), (hR.2.2.2.2.2.2.1 j hj).2.1]
      · unfold f_X8_about
        rw [c8y hO hR hc, bnd_some, if_neg i10, if_neg q0, if_pos q1, inb_nI (by omega) (by omega), grd_t, cl_nI (by omega), (hR.2.2.2.2.2.2.1 j hj).2.1]
    refine ⟨-102, fun S hR => ⟨S, ?_, KC.rf S⟩, fun T hR => ⟨T, ?_, KM.rf T⟩⟩
    · unfold f_X7_about
      rw [c7y hR hc, bnd_some, if_neg i10, if_neg q0, if_neg q1]
    · unfold f_X8_about
      rw [c8y hO hR hc, bnd_some, if_neg i10, if_neg q0, if_neg q1]
  · refine ⟨-101, fun S hR => ⟨S, ?_, KC.rf S⟩, fun T hR => ⟨T, ?_, KM.rf T⟩⟩
    · unfold f_X7_about
      rw [c7n hR hc, bnd_some, if_pos i00]
    · unfold f_X8_about
      rw [c8n hO hR hc, bnd_some, if_pos i00]
theorem isL_nI {P : Dt} {t : Nat} (hO : OK P t) {x1 x2 : Int32} (h : isL P x1 x2) : ∃ j k : Nat, j < P 20 3 ∧ k < P 6 j ∧ k < 5 ∧ x1 = nI j ∧ x2 = nI k := by
  have h8 := hO.h8
  obtain ⟨j, hj, rfl⟩ := rng (by omega) h.1
  have h5 := (hO.2.2.2.2.2.2.1 j hj).2.2.1
  have h2 := h.2
  rw [cl_nI (by omega)] at h2
  obtain ⟨k, hk, rfl⟩ := rng (by omega) h2
  exact ⟨j, k, hj, hk, by omega, rfl, rfl⟩
-- loss
theorem op_loss (x1 x2 x3 : Int32) : Op (f_X7_loss x1 x2 x3) (f_X8_loss x1 x2 x3) := by
  refine Op.ask (fun t P hO => ?_)
  have h8 := hO.h8
  by_cases hl : isL P x1 x2
  · obtain ⟨j, k, hj, hk, hk5, rfl, rfl⟩ := isL_nI hO hl
    by_cases q0 : x3 = 0
    · refine ⟨nI (P (30 + j) k), fun S hR => ⟨S, ?_, KC.rf S⟩, fun T hR => ⟨T, ?_, KM.rf T⟩⟩
      · unfold f_X7_loss
        rw [(ls7 hO hR _ _).1 hl, bnd_some, if_neg i10, if_pos q0, inb_nI (show j < 8 by omega) (by omega), grd_t, inb_nI hk5 (by decide), grd_t, cl_nI (by omega), cl_nI (by omega), ((hR.2.2.2.2.2.2.1 j hj).2.2 k hk).1]
      · subst q0
        unfold f_X8_loss
        rw [(ls8 hO hR _ _).1 hl, bnd_some, if_neg i10, in1y (by decide), bnd_some, if_neg i10, mul10, Int32.add_zero, inb_nI (show 10 * j + 2 * k < 80 by omega) (by decide), grd_t, cl_nI (by omega), ((hR.2.2.2.2.2.2.1 j hj).2.2 k hk).1]
    by_cases q1 : x3 = 1
    · refine ⟨nI (P (40 + j) k), fun S hR => ⟨S, ?_, KC.rf S⟩, fun T hR => ⟨T, ?_, KM.rf T⟩⟩
      · unfold f_X7_loss
        rw [(ls7 hO hR _ _).1 hl, bnd_some, if_neg i10, if_neg q0, if_pos q1, inb_nI (show j < 8 by omega) (by omega), grd_t, inb_nI hk5 (by decide), grd_t, cl_nI (by omega), cl_nI (by omega), ((hR.2.2.2.2.2.2.1 j hj).2.2 k hk).2]
      · subst q1
        unfold f_X8_loss
        rw [(ls8 hO hR _ _).1 hl, bnd_some, if_neg i10, in1y (by decide), bnd_some, if_neg i10, mul10, nI_1, inb_nI (show 10 * j + 2 * k + 1 < 80 by omega) (by decide), grd_t, cl_nI (by omega), ((hR.2.2.2.2.2.2.1 j hj).2.2 k hk).2]
    refine ⟨-102, fun S hR => ⟨S, ?_, KC.rf S⟩, fun T hR => ⟨T, ?_, KM.rf T⟩⟩
    · unfold f_X7_loss
      rw [(ls7 hO hR _ _).1 hl, bnd_some, if_neg i10, if_neg q0, if_neg q1]
    · unfold f_X8_loss
      have hn : ¬ (0 ≤ x3 ∧ x3 ≤ 1) := fun q => by
        obtain ⟨v, hv, rfl⟩ := rngle (n := 1) (by decide) q.1 q.2
        rcases (show v = 0 ∨ v = 1 by omega) with rfl | rfl
        · exact q0 rfl
        · exact q1 rfl
      rw [(ls8 hO hR _ _).1 hl, bnd_some, if_neg i10, in1n hn, bnd_some, if_pos i00]
  · refine ⟨-101, fun S hR => ⟨S, ?_, KC.rf S⟩, fun T hR => ⟨T, ?_, KM.rf T⟩⟩
    · unfold f_X7_loss
      rw [(ls7 hO hR _ _).2 hl, bnd_some, if_pos i00]
    · unfold f_X8_loss
      rw [(ls8 hO hR _ _).2 hl, bnd_some, if_pos i00]
-- as
theorem op_as (x1 x2 x3 : Int32) : Op (f_X7_as x1 x2 x3) (f_X8_as x1 x2 x3) := by
  refine Op.ask (fun t P hO => ?_)
  have h8 := hO.h8
  by_cases hl : isL P x1 x2
  · obtain ⟨j, k, hj, hk, hk5, rfl, rfl⟩ := isL_nI hO hl
    by_cases hw : 0 ≤ x3 ∧ x3 ≤ 5
    · refine ⟨if x3 = 0 ∨ x3 = nI (P (30 + j) k) ∨ (x3 = 1 ∧ nI (P (30 + j) k) = 2) then nI k else -1, fun S hR => ⟨S, ?_, KC.rf S⟩, fun T hR => ⟨T, ?_, KM.rf T⟩⟩
      · unfold f_X7_as f_X7_isOfKind f_X7_isOfKind_b19
        rw [(ls7 hO hR _ _).1 hl, bnd_some, if_neg i10, w7y hw, bnd_some, if_neg i10, inb_nI (show j < 8 by omega) (by omega), grd_t, inb_nI hk5 (by decide), grd_t, cl_nI (by omega), cl_nI (by omega), ((hR.2.2.2.2.2.2.1 j hj).2.2 k hk).1]
        by_cases q0 : x3 = 0
        · rw [if_pos q0, bnd_some, if_neg i10, if_pos (Or.inl q0)]
        by_cases q1 : x3 = nI (P (30 + j) k)
        · rw [if_neg q0, if_pos q1, bnd_some, if_neg i10, if_pos (Or.inr (Or.inl q1))]
        by_cases q2 : x3 = 1
        · by_cases q3 : nI (P (30 + j) k) = 2
          · rw [if_neg q0, if_neg q1, if_pos q2, if_pos q3, bnd_some, if_neg i10, if_pos (Or.inr (Or.inr ⟨q2, q3⟩))]
          · rw [if_neg q0, if_neg q1, if_pos q2, if_neg q3, bnd_some, if_pos i00, if_neg (fun q => q.elim q0 (fun q => q.elim q1 (fun q => q3 q.2)))]
        · rw [if_neg q0, if_neg q1, if_neg q2, bnd_some, if_pos i00, if_neg (fun q => q.elim q0 (fun q => q.elim q1 (fun q => q2 q.1)))]
      · unfold f_X8_as f_X8_as_b63 f_X8_as_b67 f_X8_as_b68
        rw [(ls8 hO hR _ _).1 hl, bnd_some, if_neg i10, w8y (a := 0) (b := 5) hw, bnd_some, if_neg i10, mul10, inb_nI (show 10 * j + 2 * k < 80 by omega) (by decide), grd_t, lett_e, cl_nI (by omega), ((hR.2.2.2.2.2.2.1 j hj).2.2 k hk).1, if_neg i10, if_pos i00]
        by_cases q0 : x3 = 0
        · rw [if_pos q0, if_pos (Or.inl q0)]
        by_cases q1 : x3 = nI (P (30 + j) k)
        · rw [if_neg q0, if_pos q1, if_pos (Or.inr (Or.inl q1))]
        by_cases q2 : x3 = 1
        · by_cases q3 : nI (P (30 + j) k) = 2
          · rw [if_neg q0, if_neg q1, if_pos q2, if_pos q3, if_pos (Or.inr (Or.inr ⟨q2, q3⟩))]
          · rw [if_neg q0, if_neg q1, if_pos q2, if_neg q3, if_neg (fun q => q.elim q0 (fun q => q.elim q1 (fun q => q3 q.2)))]
        · rw [if_neg q0, if_neg q1, if_neg q2, if_neg (fun q => q.elim q0 (fun q => q.elim q1 (fun q => q2 q.1)))]
    · refine ⟨-102, fun S hR => ⟨S, ?_, KC.rf S⟩, fun T hR => ⟨T, ?_, KM.rf T⟩⟩
      · unfold f_X7_as
        rw [(ls7 hO hR _ _).1 hl, bnd_some, if_neg i10, w7n hw, bnd_some, if_pos i00]
      · unfold f_X8_as
        rw [(ls8 hO hR _ _).1 hl, bnd_some, if_neg i10, w8n (a := 0) (b := 5) hw, bnd_some, if_pos i00]
  · refine ⟨-101, fun S hR => ⟨S, ?_, KC.rf S⟩, fun T hR => ⟨T, ?_, KM.rf T⟩⟩
    · unfold f_X7_as
      rw [(ls7 hO hR _ _).2 hl, bnd_some, if_pos i00]
    · unfold f_X8_as
      rw [(ls8 hO hR _ _).2 hl, bnd_some, if_pos i00]
/-- a refusal: nothing changes -/
theorem ClsR {α : Type} {f : St → Option (α × St)} {P : Dt} {r : α} (h : ∀ S, RC P S → f S = some (r, S)) : Cls f P P r := fun S hR => ⟨S, h S hR, hR, fun _ _ => rfl⟩
theorem MdlR {α : Type} {f : St → Option (α × St)} {P : Dt} {r : α} (h : ∀ S, RM P S → f S = some (r, S)) : Mdl f P P r := fun S hR => ⟨S, h S hR, hR, fun _ _ => rfl⟩
-- grip
theorem op_grip (x1 : Int32) : Op (f_X7_grip x1) (f_X8_grip x1) := by
  intro t P hO ht
  by_cases hw : 1 ≤ x1 ∧ x1 ≤ 99
  · obtain ⟨g, hg, rfl⟩ := isSl_nI hw
    refine ⟨nI (P 20 4), pu P 20 4 g, ?_, fun S hR => ?_, fun T hR => ?_⟩
    · obtain ⟨b1, b2, b3, b4, b5, b6, b7, b8, b9, b10, b11, b12, b13⟩ := hO.next ht
      exact ⟨b1, b2, b3, b4, b5, b6, fun j hj => by rw [pu_o (show (5 : Nat) ≠ 20 by decide), pu_o (show (6 : Nat) ≠ 20 by decide), pu_o (show 30 + j ≠ 20 by omega), pu_o (show 40 + j ≠ 20 by omega)]; exact b7 j hj, hg, b9, b10, b11, b12, b13⟩
    · refine ⟨su S 0 10 (nI g), ?_, ?_, fun c hc => su_o (by omega)⟩
      · unfold f_X7_grip
        rw [w7y hw, bnd_some, if_neg i10, lett_e, lett_e, hR.2.2.2.2.2.2.2.1]
      · obtain ⟨a1, a2, a3, a4, a5, a6, a7, a8, a9, a10, a11, a12⟩ := hR
        refine ⟨a1, a2, a3, a4, a5, ?_, fun j hj => ?_, su_s, a9, a10, a11, a12⟩
        · rw [su_k (by decide)]; exact a6
        · rw [pu_o (show (5 : Nat) ≠ 20 by decide), pu_o (show (6 : Nat) ≠ 20 by decide), pu_o (show 30 + j ≠ 20 by omega), pu_o (show 40 + j ≠ 20 by omega)]; rw [su_o (by omega), su_o (by omega), su_o (by omega)]; exact a7 j hj
    · refine ⟨su T 55 16 (nI g), ?_, ?_, fun c hc => su_o (by omega)⟩
      · unfold f_X8_grip
        rw [w8y (a := 1) (b := 99) hw, bnd_some, if_neg i10, lett_e, lett_e, hR.2.2.2.2.2.2.2.1]
      · obtain ⟨a1, a2, a3, a4, a5, a6, a7, a8, a9, a10, a11, a12⟩ := hR
        refine ⟨?_, a2, ?_, a4, ?_, ?_, fun j hj => by rw [pu_o (show (5 : Nat) ≠ 20 by decide), pu_o (show (6 : Nat) ≠ 20 by decide), pu_o (show 30 + j ≠ 20 by omega), pu_o (show 40 + j ≠ 20 by omega)]; exact a7 j hj, su_s, ?_, a10, ?_, fun hn => ?_⟩
        · rw [su_k (by decide)]; exact a1
        · rw [su_k (by decide)]; exact a3
        · rw [su_k (by decide)]; exact a5
        · rw [su_k (by decide)]; exact a6
        · rw [su_k (by decide)]; exact a9
        · rw [su_k (by decide)]; exact a11
        · rw [su_k (by decide), su_k (by decide), su_k (by decide)]; exact a12 hn
  · refine ⟨-102, P, hO.next ht, ClsR (fun S hR => ?_), MdlR (fun T hR => ?_)⟩
    · unfold f_X7_grip
      rw [w7n hw, bnd_some, if_pos i00]
    · unfold f_X8_grip
      rw [w8n (a := 1) (b := 99) hw, bnd_some, if_pos i00]
-- blank
theorem op_blank : Op f_X7_blank f_X8_blank := by
  intro t P hO ht
  refine ⟨nI (P 20 0), pu P 20 0 0, ?_, fun S hR => ?_, fun T hR => ?_⟩
  · obtain ⟨b1, b2, b3, b4, b5, b6, b7, b8, b9, b10, b11, b12, b13⟩ := hO.next ht
    exact ⟨Nat.zero_le _, fun j hj => absurd hj (Nat.not_lt_zero _), b3, b4, b5, b6, fun j hj => by rw [pu_o (show (5 : Nat) ≠ 20 by decide), pu_o (show (6 : Nat) ≠ 20 by decide), pu_o (show 30 + j ≠ 20 by omega), pu_o (show 40 + j ≠ 20 by omega)]; exact b7 j hj, b8, b9, b10, b11, b12, b13⟩
  · refine ⟨su S 1 1 0, ?_, ?_, fun c hc => su_o (by omega)⟩
    · unfold f_X7_blank
      rw [lett_e, lett_e, hR.1]
    · obtain ⟨a1, a2, a3, a4, a5, a6, a7, a8, a9, a10, a11, a12⟩ := hR
      refine ⟨su_s, fun j hj => absurd hj (Nat.not_lt_zero _), a3, a4, a5, a6, fun j hj => ?_, a8, a9, a10, a11, a12⟩
      rw [pu_o (show (5 : Nat) ≠ 20 by decide), pu_o (show (6 : Nat) ≠ 20 by decide), pu_o (show 30 + j ≠ 20 by omega), pu_o (show 40 + j ≠ 20 by omega)]; rw [su_o (by omega), su_o (by omega), su_o (by omega)]; exact a7 j hj
  · refine ⟨su T 55 1 0, ?_, ?_, fun c hc => su_o (by omega)⟩
    · unfold f_X8_blank
      rw [lett_e, lett_e, hR.1]
    · obtain ⟨a1, a2, a3, a4, a5, a6, a7, a8, a9, a10, a11, a12⟩ := hR
      refine ⟨su_s, fun j hj => absurd hj (Nat.not_lt_zero _), ?_, a4, ?_, ?_, fun j hj => by rw [pu_o (show (5 : Nat) ≠ 20 by decide), pu_o (show (6 : Nat) ≠ 20 by decide), pu_o (show 30 + j ≠ 20 by omega), pu_o (show 40 + j ≠ 20 by omega)]; exact a7 j hj, ?_, ?_, a10, ?_, fun hn => ?_⟩
      · rw [su_k (by decide)]; exact a3
      · rw [su_k (by decide)]; exact a5
      · rw [su_k (by decide)]; exact a6
      · rw [su_k (by decide)]; exact a8
      · rw [su_k (by decide)]; exact a9
      · rw [su_k (by decide)]; exact a11
      · rw [su_k (by decide), su_k (by decide), su_k (by decide)]; exact a12 hn
-- weigh
theorem op_weigh (x1 x2 : Int32) : Op (f_X7_weigh x1 x2) (f_X8_weigh x1 x2) := by
  intro t P hO ht
  have h8 := hO.h8
  by_cases hc : isC P x1
  · by_cases hw : 10 ≤ x2 ∧ x2 ≤ 99
    · obtain ⟨j, hj, rfl⟩ := rng (by omega) hc
      obtain ⟨w, hw99, rfl⟩ := rngle (n := 99) (by decide) (Int32.le_trans (by decide) hw.1) hw.2
      have hw10 : 10 ≤ w := (nI_leI (a := 10) (by decide) (by omega)).mp hw.1
      have hp : ∀ i, pu P 5 j w 5 i = if i = j then w else P 5 i := fun i => by
        by_cases h : i = j
        · subst h; rw [pu_s, if_pos rfl]
        · rw [pu_k h, if_neg h]
      refine ⟨nI (P 5 j), pu P 5 j w, ?_, fun S hR => ?_, fun T hR => ?_⟩
      · obtain ⟨b1, b2, b3, b4, b5, b6, b7, b8, b9, b10, b11, b12, b13⟩ := hO.next ht
        refine ⟨b1, b2, b3, b4, b5, b6, fun i hi => ?_, b8, b9, b10, b11, b12, b13⟩
        rw [hp, pu_o (show (6 : Nat) ≠ 5 by decide), pu_o (show 30 + i ≠ 5 by omega), pu_o (show 40 + i ≠ 5 by omega)]
        obtain ⟨c1, c2, c3⟩ := b7 i hi
        by_cases h : i = j
        · rw [if_pos h]; exact ⟨hw10, hw99, c3⟩
        · rw [if_neg h]; exact ⟨c1, c2, c3⟩
      · refine ⟨su S (9 + 3 * j) 3 (nI w), ?_, ?_, fun c hc => su_o (by omega)⟩
        · unfold f_X7_weigh
          rw [c7y hR hc, bnd_some, if_neg i10, w7y hw, bnd_some, if_neg i10, inb_nI (show j < 8 by omega) (by decide), grd_t, lett_e, grd_t, lett_e, cl_nI (by omega), (hR.2.2.2.2.2.2.1 j hj).1]
        · obtain ⟨a1, a2, a3, a4, a5, a6, a7, a8, a9, a10, a11, a12⟩ := hR
          unfold RC
          rw [su_o (show 1 ≠ 9 + 3 * j by omega), su_o (show 2 ≠ 9 + 3 * j by omega), su_o (show 3 ≠ 9 + 3 * j by omega), su_o (show 4 ≠ 9 + 3 * j by omega), su_o (show 5 ≠ 9 + 3 * j by omega), su_o (show 6 ≠ 9 + 3 * j by omega), su_o (show 7 ≠ 9 + 3 * j by omega), su_o (show 0 ≠ 9 + 3 * j by omega), su_o (show 33 ≠ 9 + 3 * j by omega), su_o (show 34 ≠ 9 + 3 * j by omega), su_o (show 35 ≠ 9 + 3 * j by omega), su_o (show 36 ≠ 9 + 3 * j by omega), su_o (show 37 ≠ 9 + 3 * j by omega), su_o (show 38 ≠ 9 + 3 * j by omega), su_o (show 39 ≠ 9 + 3 * j by omega), su_o (show 40 ≠ 9 + 3 * j by omega), su_o (show 41 ≠ 9 + 3 * j by omega), su_o (show 42 ≠ 9 + 3 * j by omega), su_o (show 43 ≠ 9 + 3 * j by omega)]
          refine ⟨a1, a2, a3, a4, a5, a6, fun i hi => ?_, a8, a9, a10, a11, a12⟩
          rw [hp, pu_o (show (6 : Nat) ≠ 5 by decide), pu_o (show 30 + i ≠ 5 by omega), pu_o (show 40 + i ≠ 5 by omega), su_o (show 9 + 3 * i + 1 ≠ 9 + 3 * j by omega), su_o (show 9 + 3 * i + 2 ≠ 9 + 3 * j by omega)]
          obtain ⟨c1, c2, c3⟩ := a7 i hi
          by_cases h : i = j
          · subst h; rw [if_pos rfl, su_s, su_k (by decide)]; exact ⟨rfl, c2, c3⟩
          · rw [if_neg h, su_o (by omega)]; exact ⟨c1, c2, c3⟩
      · refine ⟨su T 62 j (nI w), ?_, ?_, fun c hc => su_o (by omega)⟩
        · unfold f_X8_weigh
          rw [c8y hO hR hc, bnd_some, if_neg i10, w8y (a := 10) (b := 99) hw, bnd_some, if_neg i10, inb_nI (show j < 8 by omega) (by decide), grd_t, lett_e, grd_t, lett_e, cl_nI (by omega), (hR.2.2.2.2.2.2.1 j hj).1]
        · obtain ⟨a1, a2, a3, a4, a5, a6, a7, a8, a9, a10, a11, a12⟩ := hR
          refine ⟨a1, a2, a3, a4, a5, a6, fun i hi => ?_, a8, a9, a10, a11, a12⟩
          rw [hp, pu_o (show (6 : Nat) ≠ 5 by decide), pu_o (show 30 + i ≠ 5 by omega), pu_o (show 40 + i ≠ 5 by omega), su_o (show 63 ≠ 62 by decide), su_o (show 64 ≠ 62 by decide)]
          obtain ⟨c1, c2, c3⟩ := a7 i hi
          by_cases h : i = j
          · subst h; rw [if_pos rfl, su_s]; exact ⟨rfl, c2, c3⟩
          · rw [if_neg h, su_k h]; exact ⟨c1, c2, c3⟩
    · refine ⟨-102, P, hO.next ht, ClsR (fun S hR => ?_), MdlR (fun T hR => ?_)⟩
      · unfold f_X7_weigh
        rw [c7y hR hc, bnd_some, if_neg i10, w7n hw, bnd_some, if_pos i00]
      · unfold f_X8_weigh
        rw [c8y hO hR hc, bnd_some, if_neg i10, w8n (a := 10) (b := 99) hw, bnd_some, if_pos i00]
  · refine ⟨-101, P, hO.next ht, ClsR (fun S hR => ?_), MdlR (fun T hR => ?_)⟩
    · unfold f_X7_weigh
      rw [c7n hR hc, bnd_some, if_pos i00]
    · unfold f_X8_weigh
      rw [c8n hO hR hc, bnd_some, if_pos i00]
-- brake
theorem op_brake (x1 x2 : Int32) : Op (f_X7_brake x1 x2) (f_X8_brake x1 x2) := by
  intro t P hO ht
  have h12 := hO.h12
  by_cases hc : isH P x1
  · by_cases hw : 0 ≤ x2 ∧ x2 ≤ 9
    · obtain ⟨j, hj, rfl⟩ := rng (by omega) hc
      obtain ⟨w, hw9, rfl⟩ := rngle (n := 9) (by decide) hw.1 hw.2
      have hp : ∀ i, pu P 4 j w 4 i = if i = j then w else P 4 i := fun i => by
        by_cases h : i = j
        · subst h; rw [pu_s, if_pos rfl]
        · rw [pu_k h, if_neg h]
      refine ⟨nI (P 4 j), pu P 4 j w, ?_, fun S hR => ?_, fun T hR => ?_⟩
      · obtain ⟨b1, b2, b3, b4, b5, b6, b7, b8, b9, b10, b11, b12, b13⟩ := hO.next ht
        refine ⟨b1, b2, b3, fun i hi => ?_, b5, b6, fun i hi => ?_, b8, b9, b10, b11, b12, b13⟩
        · rw [hp, pu_o (show (1 : Nat) ≠ 4 by decide), pu_o (show (2 : Nat) ≠ 4 by decide), pu_o (show (3 : Nat) ≠ 4 by decide)]
          obtain ⟨c1, c2, c3, c4⟩ := b4 i hi
          by_cases h : i = j
          · rw [if_pos h]; exact ⟨c1, c2, c3, hw9⟩
          · rw [if_neg h]; exact ⟨c1, c2, c3, c4⟩
        · rw [pu_o (show (5 : Nat) ≠ 4 by decide), pu_o (show (6 : Nat) ≠ 4 by decide), pu_o (show 30 + i ≠ 4 by omega), pu_o (show 40 + i ≠ 4 by omega)]
          exact b7 i hi
      · refine ⟨su S 7 j (nI w), ?_, ?_, fun c hc => su_o (by omega)⟩
        · unfold f_X7_brake
          rw [h7y hR hc, bnd_some, if_neg i10, w7y hw, bnd_some, if_neg i10, inb_nI (show j < 12 by omega) (by decide), grd_t, lett_e, grd_t, lett_e, cl_nI (by omega), (hR.2.2.2.1 j hj).2.2.2]
        · obtain ⟨a1, a2, a3, a4, a5, a6, a7, a8, a9, a10, a11, a12⟩ := hR
          refine ⟨a1, a2, a3, fun i hi => ?_, a5, a6, fun i hi => ?_, a8, a9, a10, a11, a12⟩
          · rw [hp, pu_o (show (1 : Nat) ≠ 4 by decide), pu_o (show (2 : Nat) ≠ 4 by decide), pu_o (show (3 : Nat) ≠ 4 by decide), su_o (show 4 ≠ 7 by decide), su_o (show 5 ≠ 7 by decide), su_o (show 6 ≠ 7 by decide)]
            obtain ⟨c1, c2, c3, c4⟩ := a4 i hi
            by_cases h : i = j
            · subst h; rw [if_pos rfl, su_s]; exact ⟨c1, c2, c3, rfl⟩
            · rw [if_neg h, su_k h]; exact ⟨c1, c2, c3, c4⟩
          · rw [pu_o (show (5 : Nat) ≠ 4 by decide), pu_o (show (6 : Nat) ≠ 4 by decide), pu_o (show 30 + i ≠ 4 by omega), pu_o (show 40 + i ≠ 4 by omega), su_o (by omega), su_o (by omega), su_o (by omega)]
            exact a7 i hi
      · refine ⟨su T 61 j (nI w), ?_, ?_, fun c hc => su_o (by omega)⟩
        · unfold f_X8_brake
          rw [h8y hO hR hc, bnd_some, if_neg i10, w8y (a := 0) (b := 9) hw, bnd_some, if_neg i10, inb_nI (show j < 12 by omega) (by decide), grd_t, lett_e, grd_t, lett_e, cl_nI (by omega), (hR.2.2.2.1 j hj).2.2.2]
        · obtain ⟨a1, a2, a3, a4, a5, a6, a7, a8, a9, a10, a11, a12⟩ := hR
          refine ⟨a1, a2, a3, fun i hi => ?_, a5, a6, fun i hi => ?_, a8, a9, a10, a11, a12⟩
          · rw [hp, pu_o (show (1 : Nat) ≠ 4 by decide), pu_o (show (2 : Nat) ≠ 4 by decide), pu_o (show (3 : Nat) ≠ 4 by decide), su_o (show 58 ≠ 61 by decide), su_o (show 59 ≠ 61 by decide), su_o (show 60 ≠ 61 by decide)]
            obtain ⟨c1, c2, c3, c4⟩ := a4 i hi
            by_cases h : i = j
            · subst h; rw [if_pos rfl, su_s]; exact ⟨c1, c2, c3, rfl⟩
            · rw [if_neg h, su_k h]; exact ⟨c1, c2, c3, c4⟩
          · rw [pu_o (show (5 : Nat) ≠ 4 by decide), pu_o (show (6 : Nat) ≠ 4 by decide), pu_o (show 30 + i ≠ 4 by omega), pu_o (show 40 + i ≠ 4 by omega), su_o (by omega), su_o (by omega), su_o (by omega)]
            exact a7 i hi
    · refine ⟨-102, P, hO.next ht, ClsR (fun S hR => ?_), MdlR (fun T hR => ?_)⟩
      · unfold f_X7_brake
        rw [h7y hR hc, bnd_some, if_neg i10, w7n hw, bnd_some, if_pos i00]
      · unfold f_X8_brake
        rw [h8y hO hR hc, bnd_some, if_neg i10, w8n (a := 0) (b := 9) hw, bnd_some, if_pos i00]
  · refine ⟨-101, P, hO.next ht, ClsR (fun S hR => ?_), MdlR (fun T hR => ?_)⟩
    · unfold f_X7_brake
      rw [h7n hR hc, bnd_some, if_pos i00]
    · unfold f_X8_brake
      rw [h8n hO hR hc, bnd_some, if_pos i00]
