-- ===== bestBrakes =====
def dg (w i : Nat) : Nat := w / 4 ^ (3 - i) % 4
theorem dg_tab : (List.range 256).all (fun w => (List.range 4).all (fun i => decide ((nI w >>> ((6 - (2 * nI i)) &&& 31)) &&& 3 = nI (dg w i)))) = true := by decide +kernel
theorem dg_of {w i : Nat} (hw : w < 256) (hi : i < 4) : (nI w >>> ((6 - (2 * nI i)) &&& 31)) &&& 3 = nI (dg w i) := by
  have h := List.all_eq_true.mp (List.all_eq_true.mp dg_tab w (List.mem_range.mpr hw)) i (List.mem_range.mpr hi)
  simpa using h
theorem dg8_tab : (List.range 4).all (fun i => decide ((8 : Int32) - (2 * nI (i + 1)) = 6 - 2 * nI i)) = true := by decide +kernel
theorem dg8 {i : Nat} (hi : i < 4) : (8 : Int32) - (2 * nI (i + 1)) = 6 - 2 * nI i := by
  have h := List.all_eq_true.mp dg8_tab i (List.mem_range.mpr hi)
  simpa using h
theorem dg_lt (w i : Nat) : dg w i < 4 := Nat.mod_lt _ (by decide)
/-- the brakes after the first i bends -/
def rwN (sh : Nat → Nat) (m w : Nat) : Nat → Nat → Nat
  | 0 => fun _ => 0
  | i + 1 => if baN sh i m 0 ≤ 1 then rwN sh m w i else upN (rwN sh m w i) (baN sh i m 0 - 2) (3 * dg w i)
def flN (sh : Nat → Nat) (m w : Nat) : Nat → Nat
  | 0 => 1
  | i + 1 => if flN sh m w i = 1 ∧ (2 ≤ baN sh i m 0 ∨ dg w i = 0) then 1 else 0
theorem rwN_le (sh : Nat → Nat) (m w : Nat) : ∀ i c, rwN sh m w i c ≤ 9 := by
  intro i
  induction i with
  | zero => intro c; exact Nat.zero_le _
  | succ i ih =>
    intro c
    rw [rwN]
    by_cases h : baN sh i m 0 ≤ 1
    · rw [if_pos h]; exact ih c
    · rw [if_neg h]
      unfold upN
      have := ih c
      have := dg_lt w i
      split <;> omega
theorem flN_z {sh : Nat → Nat} {m w : Nat} : ∀ d i, flN sh m w i = 0 → flN sh m w (i + d) = 0 := by
  intro d
  induction d with
  | zero => intro i h; exact h
  | succ d ih =>
    intro i h
    rw [← Nat.add_assoc, flN, if_neg (by rw [ih i h]; omega)]
theorem flN_01 (sh : Nat → Nat) (m w i : Nat) : flN sh m w i = 0 ∨ flN sh m w i = 1 := by
  cases i with
  | zero => exact Or.inr rfl
  | succ i => rw [flN]; split <;> omega
def dR (D : Dt) (r : Nat → Nat) : Dt := fun i k => if i = 3 then r k else D i k
theorem dR_MB {D : Dt} (h : MB D) {r : Nat → Nat} (hr : ∀ c, r c ≤ 9) : MB (dR D r) := by
  obtain ⟨h1, h2, h3, h4, h5, h6, h7, h8⟩ := h
  exact ⟨h1, h2, h3, h4, h5, h6, fun c hc => ⟨(h7 c hc).1, (h7 c hc).2.1, (h7 c hc).2.2.1, hr c⟩, h8⟩
def brN (D : Dt) (x w : Nat) : Nat := if flN (D 1) (D 6 0) w 4 = 1 then tN (dR D (rwN (D 1) (D 6 0) w 4)) x else 0
theorem brN_le {D : Dt} (hB : MB D) (x w : Nat) : brN D x w ≤ 12001 := by
  unfold brN
  have := tN_le (dR_MB hB (rwN_le (D 1) (D 6 0) w 4)) x
  split <;> omega
def MX (D : Dt) (S : St) : Prop := S 3 4 = nI (D 6 0) ∧ S 44 5 = nI (D 6 1) ∧ S 44 6 = nI (D 6 2) ∧ S 44 7 = nI (D 6 3) ∧ (∀ c, c < D 6 0 → S 4 c = nI (D 0 c) ∧ S 5 c = nI (D 1 c) ∧ S 6 c = nI (D 2 c)) ∧ ∀ k, k < D 6 1 → S 45 k = nI (D 4 k) ∧ S 46 k = nI (D 5 k)
theorem MC.mx {D : Dt} {S : St} (h : MC D S) : MX D S := ⟨h.1, h.2.1, h.2.2.1, h.2.2.2.1, fun c hc => ⟨(h.2.2.2.2.1 c hc).1, (h.2.2.2.2.1 c hc).2.1, (h.2.2.2.2.1 c hc).2.2.1⟩, h.2.2.2.2.2⟩
theorem MX.mc {D : Dt} {S : St} (h : MX D S) {r : Nat → Nat} (hr : ∀ c, c < D 6 0 → S 48 c = nI (r c)) : MC (dR D r) S := ⟨h.1, h.2.1, h.2.2.1, h.2.2.2.1, fun c hc => ⟨(h.2.2.2.2.1 c hc).1, (h.2.2.2.2.1 c hc).2.1, (h.2.2.2.2.1 c hc).2.2, hr c hc⟩, h.2.2.2.2.2⟩
def FB (S S1 : St) : Prop := ∀ c j : Nat, c ≠ 48 → c ≠ 49 → c ≠ 50 → c ≠ 51 → (c ≠ 44 ∨ j < 8 ∨ 12 < j) → S1 c j = S c j
theorem FB.rf (S : St) : FB S S := fun _ _ _ _ _ _ _ => rfl
theorem FB.tr {S S1 S2 : St} (h1 : FB S S1) (h2 : FB S1 S2) : FB S S2 := fun c j a b d e f => (h2 c j a b d e f).trans (h1 c j a b d e f)
theorem FP.fb {S S1 : St} (h : FP S S1) : FB S S1 := fun c j _ a b e f => h c j a b e f
theorem FB.o48 {S S1 : St} (h : ∀ c, c ≠ 48 → S1 c = S c) : FB S S1 := fun c j a _ _ _ _ => by rw [h c a]
theorem FB.kc {S S1 : St} (h : FB S S1) : KC S S1 := fun c hc => by
  funext j
  exact h c j (by omega) (by omega) (by omega) (by omega) (Or.inl (by omega))
theorem MX.fb {D : Dt} {S S1 : St} (h : MX D S) (hF : FB S S1) : MX D S1 := by
  obtain ⟨h1, h2, h3, h4, h5, h6⟩ := h
  refine ⟨?_, ?_, ?_, ?_, fun c hc => ?_, fun k hk => ?_⟩
  · rw [hF 3 4 (by decide) (by decide) (by decide) (by decide) (Or.inl (by decide))]; exact h1
  · rw [hF 44 5 (by decide) (by decide) (by decide) (by decide) (Or.inr (Or.inl (by decide)))]; exact h2
  · rw [hF 44 6 (by decide) (by decide) (by decide) (by decide) (Or.inr (Or.inl (by decide)))]; exact h3
  · rw [hF 44 7 (by decide) (by decide) (by decide) (by decide) (Or.inr (Or.inl (by decide)))]; exact h4
  · rw [hF 4 c (by decide) (by decide) (by decide) (by decide) (Or.inl (by decide)), hF 5 c (by decide) (by decide) (by decide) (by decide) (Or.inl (by decide)), hF 6 c (by decide) (by decide) (by decide) (by decide) (Or.inl (by decide))]; exact h5 c hc
  · rw [hF 45 k (by decide) (by decide) (by decide) (by decide) (Or.inl (by decide)), hF 46 k (by decide) (by decide) (by decide) (by decide) (Or.inl (by decide))]; exact h6 k hk
theorem baX {D : Dt} (hB : MB D) {S : St} (h : MX D S) {k : Nat} (hk : k ≤ 100) : f_X3_bendAt (nI k) S = some (encT (baN (D 1) k (D 6 0) 0), S) := bd7_a hB.1 h.1 (fun c hc => ⟨(h.2.2.2.2.1 c hc).2.1, (hB.2.2.2.2.2.2.1 c hc).2.1⟩) hk
/-- a best kept against one more way -/
def BO' (bt bw tv i : Nat) (S : St) : Prop := if tv ≠ 0 ∧ (bt = 0 ∨ tv < bt) then BO tv i S else BO bt bw S
theorem try7 {D : Dt} (hB : MB D) (h0 : 0 < D 6 0) {x w bt bw : Nat} (hx : x ≤ 17000) (hw : w < 256) (hbt : bt ≤ 12001) : ∀ (d n i : Nat) (S : St), i + d = 4 → d < n → MX D S → (∀ c, c < 12 → S 48 c = nI (rwN (D 1) (D 6 0) w i c)) → BO bt bw S → flN (D 1) (D 6 0) w i = 1 → ∃ S1, f_X7_tryBrakes_l13 n (nI w) (nI x) (nI i) S = some ((), S1) ∧ FB S S1 ∧ BO' bt bw (brN D x w) w S1 := by
  intro d
  induction d with
  | zero =>
    intro n i S hi hn hM h48 hO hf
    obtain ⟨n, rfl⟩ : ∃ m, n = m + 1 := ⟨n - 1, by omega⟩
    obtain rfl : i = 4 := by omega
    have hB' := dR_MB hB (rwN_le (D 1) (D 6 0) w 4)
    have h12 := hB.1
    have mc : MC (dR D (rwN (D 1) (D 6 0) w 4)) S := hM.mc (fun c hc => h48 c (by omega))
    obtain ⟨S1, e1, k1, r1⟩ := f_go7 hB' (show 0 < dR D (rwN (D 1) (D 6 0) w 4) 6 0 from h0) hx mc
    have hO1 : BO bt bw S1 := ⟨(k1 51 0 (by decide) (by decide) (Or.inl (by decide))).trans hO.1, (k1 51 1 (by decide) (by decide) (Or.inl (by decide))).trans hO.2⟩
    have hb2 : goN (dR D (rwN (D 1) (D 6 0) w 4)) x 0 0 ≤ 2 := (goR_b _ _ 0 _ 0 0 (fun _ => 0) (fun _ => 0)).1
    rw [f_X7_tryBrakes_l13, if_pos (by decide), e1, bnd_some, r1.1, r1.2.2.1]
    have etv : brN D x w = tN (dR D (rwN (D 1) (D 6 0) w 4)) x := by unfold brN; rw [if_pos hf]
    have ht := tN_le hB' x
    unfold BO'
    rw [etv]
    by_cases hz : goN (dR D (rwN (D 1) (D 6 0) w 4)) x 0 0 = 0
    · have etn : tN (dR D (rwN (D 1) (D 6 0) w 4)) x = goN (dR D (rwN (D 1) (D 6 0) w 4)) x 0 2 + 1 := by unfold tN; rw [if_pos hz]
      obtain ⟨S2, e2, k2, b2⟩ := f_offer (i := w) hO1 (show tN (dR D (rwN (D 1) (D 6 0) w 4)) x ≠ 0 by omega) (by omega) (by omega)
      rw [hz, if_pos (by decide), show goN (dR D (rwN (D 1) (D 6 0) w 4)) x 0 2 = tN (dR D (rwN (D 1) (D 6 0) w 4)) x - 1 by omega, e2, bnd_some]
      refine ⟨S2, rfl, (k1.fp.tr (FP.o51 k2)).fb, ?_⟩
      by_cases hq : bt = 0 ∨ tN (dR D (rwN (D 1) (D 6 0) w 4)) x < bt
      · rw [if_pos hq] at b2
        rw [if_pos ⟨by omega, hq⟩]; exact b2
      · rw [if_neg hq] at b2
        rw [if_neg (fun q => hq q.2)]; exact b2
    · have etn : tN (dR D (rwN (D 1) (D 6 0) w 4)) x = 0 := by unfold tN; rw [if_neg hz]
      rw [if_neg (fun q => hz ((nI0 (by omega)).mp q))]
      refine ⟨S1, rfl, k1.fp.fb, ?_⟩
      rw [if_neg (fun q => q.1 etn)]
      exact hO1
  | succ d ih =>
    intro n i S hi hn hM h48 hO hf
    obtain ⟨n, rfl⟩ : ∃ m, n = m + 1 := ⟨n - 1, by omega⟩
    have h12 := hB.1
    have hdl := dg_lt w i
    have hba := baN_le (D 1) (D 6 0) i 0
    rw [f_X7_tryBrakes_l13, if_neg (show ¬ (4 : Int32) ≤ nI i from nI_ge (b := 4) (by omega) (by decide))]
    unfold f_X7_choice f_X7_tryBrakes_b65
    rw [dg_of hw (by omega), bnd_some, lett_e, baX hB hM (show i ≤ 100 by omega), bnd_some, lett_e, lett_e, nI_1, show (3 : Int32) * nI (dg w i) = nI (3 * dg w i) from pk_mul 3 _]
    by_cases hb1 : baN (D 1) i (D 6 0) 0 ≤ 1
    · have hneg : encT (baN (D 1) i (D 6 0) 0) - 1 < 0 := by
        unfold encT
        rcases (show baN (D 1) i (D 6 0) 0 = 0 ∨ baN (D 1) i (D 6 0) 0 = 1 by omega) with q | q
        · rw [q]; decide
        · rw [q]; decide
      rw [if_pos hneg]
      by_cases hd : dg w i = 0
      · rw [hd, if_pos (by decide)]
        obtain ⟨S1, e1, k1, b1⟩ := ih n (i + 1) S (by omega) (by omega) hM (fun c hc => by rw [rwN, if_pos hb1]; exact h48 c hc) hO (by rw [flN, if_pos ⟨hf, Or.inr hd⟩])
        exact ⟨S1, e1, k1, b1⟩
      · rw [if_neg (nI_nle (by omega) (by omega))]
        refine ⟨S, rfl, FB.rf S, ?_⟩
        have hz : flN (D 1) (D 6 0) w (i + 1) = 0 := by rw [flN, if_neg (fun q => q.2.elim (fun a => by omega) hd)]
        have hz4 := flN_z d (i + 1) hz
        rw [show i + 1 + d = 4 by omega] at hz4
        unfold BO' brN
        rw [hz4, if_neg (show ¬ (0 : Nat) = 1 by decide), if_neg (fun q => q.1 rfl)]
        exact hO
    · have hba := hba.resolve_left (by omega)
      have hnn : encT (baN (D 1) i (D 6 0) 0) - 1 = nI (baN (D 1) i (D 6 0) 0 - 2) := by
        unfold encT
        rw [if_neg (by omega), show baN (D 1) i (D 6 0) 0 - 1 = (baN (D 1) i (D 6 0) 0 - 2) + 1 by omega]
        exact nI_pred _
      rw [hnn, if_neg (Int32.not_lt.mpr (nI_pos' (by omega))), inb_nI (show baN (D 1) i (D 6 0) 0 - 2 < 12 by omega) (by decide), grd_t, cl_nI (by omega), lett_e, lett_e]
      have k0 : ∀ c, c ≠ 48 → su S 48 (baN (D 1) i (D 6 0) 0 - 2) (nI (3 * dg w i)) c = S c := fun c hc => su_o hc
      obtain ⟨S1, e1, k1, b1⟩ := ih n (i + 1) (su S 48 (baN (D 1) i (D 6 0) 0 - 2) (nI (3 * dg w i))) (by omega) (by omega) (hM.fb (FB.o48 k0)) (fun c hc => by
        rw [rwN, if_neg hb1]
        unfold upN
        by_cases hcc : c = baN (D 1) i (D 6 0) 0 - 2
        · rw [if_pos hcc, hcc, su_s]
        · rw [if_neg hcc, su_k hcc]; exact h48 c hc) ⟨by rw [k0 51 (by decide)]; exact hO.1, by rw [k0 51 (by decide)]; exact hO.2⟩ (by rw [flN, if_pos ⟨hf, Or.inl (by omega)⟩])
      exact ⟨S1, e1, (FB.o48 k0).tr k1, b1⟩
theorem f_try {D : Dt} (hB : MB D) (h0 : 0 < D 6 0) {x w bt bw : Nat} (hx : x ≤ 17000) (hw : w < 256) (hbt : bt ≤ 12001) {S : St} (hM : MX D S) (hO : BO bt bw S) : ∃ S1, f_X7_tryBrakes (nI w) (nI x) S = some ((), S1) ∧ FB S S1 ∧ BO' bt bw (brN D x w) w S1 := by
  unfold f_X7_tryBrakes
  rw [f_fill_eq 48 12 (by decide), bnd_some]
  have k0 : ∀ c, c ≠ 48 → fillS S 48 0 12 0 c = S c := fun c hc => fillS_o hc
  obtain ⟨S1, e1, k1, b1⟩ := try7 hB h0 hx hw hbt 4 FU 0 (fillS S 48 0 12 0) (by omega) (by unfold FU; omega) (hM.fb (FB.o48 k0)) (fun c hc => by rw [fillS_in ⟨Nat.zero_le _, hc⟩]; rfl) ⟨by rw [k0 51 (by decide)]; exact hO.1, by rw [k0 51 (by decide)]; exact hO.2⟩ rfl
  exact ⟨S1, e1, (FB.o48 k0).tr k1, b1⟩
/-- the answer -/
def bbR (D : Dt) (q bt bw : Nat) : Int32 := if bt = 0 then -1 else if q = 0 then nI (bt - 1) else if baN (D 1) (q - 1) (D 6 0) 0 ≤ 1 then -1 else nI (3 * dg bw (q - 1))
theorem brk_pos {b : Nat} (hb : b ≤ 12) : (encT b ≤ 0) ↔ b ≤ 1 := by
  unfold encT
  by_cases h : b = 0
  · rw [if_pos h]; exact ⟨fun _ => by omega, fun _ => by decide⟩
  · rw [if_neg h]
    by_cases h1 : b ≤ 1
    · rw [show b - 1 = 0 by omega]; exact ⟨fun _ => h1, fun _ => by decide⟩
    · exact ⟨fun q => absurd q (nI_nle (by omega) (by omega)), fun q => absurd q h1⟩
theorem brakes7 {D : Dt} (hB : MB D) (h0 : 0 < D 6 0) {x q : Nat} (hx : x ≤ 17000) (hq : q ≤ 4) : ∀ (d n w bt bw : Nat) (S : St), w + d = 256 → d < n → bt ≤ 12001 → (bt = 0 ∨ bw < 256) → MX D S → BO bt bw S → ∃ S1, f_X7_bestBrakes_l49 n (nI x) (nI q) (nI w) S = some (bbR D q (bB (brN D x) d w bt bw).1 (bB (brN D x) d w bt bw).2, S1) ∧ FB S S1 := by
  intro d
  induction d with
  | zero =>
    intro n w bt bw S hw hn hb hbw hM hO
    obtain ⟨n, rfl⟩ : ∃ m, n = m + 1 := ⟨n - 1, by omega⟩
    refine ⟨S, ?_, FB.rf S⟩
    rw [f_X7_bestBrakes_l49, if_pos (show (256 : Int32) ≤ nI w from nI_le (a := 256) (by omega) (by omega)), bB]
    unfold f_X7_bestBrakes_b85 bbR
    rw [hO.1]
    by_cases hb0 : bt = 0
    · rw [if_pos hb0, hb0]
      by_cases hq0 : q = 0
      · rw [hq0, if_pos (by decide)]; rfl
      · rw [if_neg (fun z => hq0 ((nI0 (by omega)).mp z)), if_pos (by decide)]; rfl
    · rw [if_neg hb0, show encT bt = nI (bt - 1) from by unfold encT; rw [if_neg hb0]]
      by_cases hq0 : q = 0
      · rw [hq0, if_pos (by decide), if_pos rfl]
      · have hbw := hbw.resolve_left hb0
        obtain ⟨p, rfl⟩ : ∃ p, q = p + 1 := ⟨q - 1, by omega⟩
        rw [if_neg (fun z => hq0 ((nI0 (by omega)).mp z)), if_neg (fun z => by
          have := congrArg Int32.toInt z
          rw [nI_toInt (by omega), show ((-1 : Int32)).toInt = -1 from by decide] at this
          omega), if_neg hq0, nI_pred, Nat.add_sub_cancel]
        unfold f_X7_isBraked f_X7_choice
        have hba := baN_le (D 1) (D 6 0) p 0
        have h12 := hB.1
        rw [baX hB hM (show p ≤ 100 by omega), bnd_some]
        by_cases hb1 : baN (D 1) p (D 6 0) 0 ≤ 1
        · rw [if_pos ((brk_pos (by omega)).mpr hb1), bnd_some, if_pos i00, if_pos hb1]
        · rw [if_neg (fun z => hb1 ((brk_pos (by omega)).mp z)), bnd_some, if_neg i10, hO.2, show encW bt bw = nI bw from by unfold encW; rw [if_neg hb0], dg_of hbw (by omega), bnd_some, if_neg hb1, show (3 : Int32) * nI (dg bw p) = nI (3 * dg bw p) from pk_mul 3 _]
  | succ d ih =>
    intro n w bt bw S hw hn hb hbw hM hO
    obtain ⟨n, rfl⟩ : ∃ m, n = m + 1 := ⟨n - 1, by omega⟩
    obtain ⟨S1, e1, k1, b1⟩ := f_try hB h0 hx (show w < 256 by omega) hb hM hO
    rw [f_X7_bestBrakes_l49, if_neg (show ¬ (256 : Int32) ≤ nI w from nI_ge (b := 256) (by omega) (by decide)), e1, bnd_some, lett_e, nI_1]
    unfold BO' at b1
    by_cases hc : brN D x w ≠ 0 ∧ (bt = 0 ∨ brN D x w < bt)
    · rw [if_pos hc] at b1
      rw [bB_y hc]
      obtain ⟨S2, e2, k2⟩ := ih n (w + 1) (brN D x w) w S1 (by omega) (by omega) (brN_le hB x w) (Or.inr (by omega)) (hM.fb k1) b1
      exact ⟨S2, e2, k1.tr k2⟩
    · rw [if_neg hc] at b1
      rw [bB_n hc]
      obtain ⟨S2, e2, k2⟩ := ih n (w + 1) bt bw S1 (by omega) (by omega) hb hbw (hM.fb k1) b1
      exact ⟨S2, e2, k1.tr k2⟩
-- the reference
def MY (D : Dt) (T : St) : Prop := T 55 6 = nI (D 6 0) ∧ T 55 18 = nI (D 6 1) ∧ T 55 17 = nI (D 6 2) ∧ T 55 16 = nI (D 6 3) ∧ (∀ c, c < D 6 0 → T 58 c = nI (D 0 c) ∧ T 59 c = nI (D 1 c) ∧ T 60 c = nI (D 2 c)) ∧ ∀ k, k < D 6 1 → T 65 k = nI (D 4 k) ∧ T 66 k = nI (D 5 k)
theorem MM.my {D : Dt} {S : St} (h : MM D S) : MY D S := ⟨h.1, h.2.1, h.2.2.1, h.2.2.2.1, fun c hc => ⟨(h.2.2.2.2.1 c hc).1, (h.2.2.2.2.1 c hc).2.1, (h.2.2.2.2.1 c hc).2.2.1⟩, h.2.2.2.2.2⟩
theorem MY.mm {D : Dt} {S : St} (h : MY D S) {r : Nat → Nat} (hr : ∀ c, c < D 6 0 → S 67 c = nI (r c)) : MM (dR D r) S := ⟨h.1, h.2.1, h.2.2.1, h.2.2.2.1, fun c hc => ⟨(h.2.2.2.2.1 c hc).1, (h.2.2.2.2.1 c hc).2.1, (h.2.2.2.2.1 c hc).2.2, hr c hc⟩, h.2.2.2.2.2⟩
def FN (T T1 : St) : Prop := ∀ c j : Nat, c ≠ 67 → c ≠ 68 → c ≠ 69 → (c ≠ 55 ∨ j < 22 ∨ (25 < j ∧ j ≠ 28)) → T1 c j = T c j
theorem FN.rf (S : St) : FN S S := fun _ _ _ _ _ _ => rfl
theorem FN.tr {S S1 S2 : St} (h1 : FN S S1) (h2 : FN S1 S2) : FN S S2 := fun c j a b d e => (h2 c j a b d e).trans (h1 c j a b d e)
theorem FM.fn {S S1 : St} (h : FM S S1) : FN S S1 := fun c j _ b d e => h c j b d e
theorem FN.o67 {S S1 : St} (h : ∀ c, c ≠ 67 → S1 c = S c) : FN S S1 := fun c j a _ _ _ => by rw [h c a]
theorem FN.km {S S1 : St} (h : FN S S1) : KM S S1 := fun c k hp => by
  unfold pmB at hp
  exact h c k (by omega) (by omega) (by omega) (by omega)
theorem MY.fn {D : Dt} {S S1 : St} (h : MY D S) (hF : FN S S1) : MY D S1 := by
  obtain ⟨h1, h2, h3, h4, h5, h6⟩ := h
  refine ⟨?_, ?_, ?_, ?_, fun c hc => ?_, fun k hk => ?_⟩
  · rw [hF 55 6 (by decide) (by decide) (by decide) (Or.inr (Or.inl (by decide)))]; exact h1
  · rw [hF 55 18 (by decide) (by decide) (by decide) (Or.inr (Or.inl (by decide)))]; exact h2
  · rw [hF 55 17 (by decide) (by decide) (by decide) (Or.inr (Or.inl (by decide)))]; exact h3
  · rw [hF 55 16 (by decide) (by decide) (by decide) (Or.inr (Or.inl (by decide)))]; exact h4
  · rw [hF 58 c (by decide) (by decide) (by decide) (Or.inl (by decide)), hF 59 c (by decide) (by decide) (by decide) (Or.inl (by decide)), hF 60 c (by decide) (by decide) (by decide) (Or.inl (by decide))]; exact h5 c hc
  · rw [hF 65 k (by decide) (by decide) (by decide) (Or.inl (by decide)), hF 66 k (by decide) (by decide) (by decide) (Or.inl (by decide))]; exact h6 k hk
theorem baY {D : Dt} (hB : MB D) {S : St} (h : MY D S) {k : Nat} (hk : k ≤ 100) : f_X8_bendAt (nI k) S = some (encT (baN (D 1) k (D 6 0) 0), S) := bd8_a hB.1 h.1 (fun c hc => ⟨(h.2.2.2.2.1 c hc).2.1, (hB.2.2.2.2.2.2.1 c hc).2.1⟩) hk
theorem isbY {D : Dt} (hB : MB D) {S : St} (h : MY D S) {k : Nat} (hk : k ≤ 100) : f_X8_isBraked (nI k) S = some (if baN (D 1) k (D 6 0) 0 ≤ 1 then 0 else 1, S) := by
  have hba := baN_le (D 1) (D 6 0) k 0
  have h12 := hB.1
  unfold f_X8_isBraked
  rw [baY hB h hk, bnd_some]
  by_cases hb1 : baN (D 1) k (D 6 0) 0 ≤ 1
  · rw [if_pos ((brk_pos (by omega)).mpr hb1), if_pos hb1]
  · rw [if_neg (fun z => hb1 ((brk_pos (by omega)).mp z)), if_neg hb1]
theorem fill71 (K : Int32 → Int32 → Int32 → Int32 → Int32 → St → Option (Int32 × St)) (x2 x3 x4 x5 x6 x7 : Int32) : ∀ (d n i : Nat) (T : St), i + d = 12 → d < n → f_X8_bestBrakes_l71 K n x2 x3 x4 x5 x6 x7 (nI i) T = f_X8_bestBrakes_l95 K FU x2 x3 x4 x5 x6 x7 0 (fillS T 67 i 12 0) := by
  intro d
  induction d with
  | zero =>
    intro n i T hi hn
    obtain ⟨n, rfl⟩ : ∃ m, n = m + 1 := ⟨n - 1, by omega⟩
    obtain rfl : i = 12 := by omega
    rw [f_X8_bestBrakes_l71, if_pos (by decide)]
    congr 1
    funext c j
    unfold fillS
    by_cases hc : c = 67
    · rw [if_pos hc, if_neg (by omega)]
    · rw [if_neg hc]
  | succ d ih =>
    intro n i T hi hn
    obtain ⟨n, rfl⟩ : ∃ m, n = m + 1 := ⟨n - 1, by omega⟩
    rw [f_X8_bestBrakes_l71, if_neg (show ¬ (12 : Int32) ≤ nI i from nI_ge (b := 12) (by omega) (by decide)), inb_nI (by omega) (by decide), grd_t, lett_e, lett_e, nI_1, cl_nI (by omega), ih n (i + 1) _ (by omega) (by omega), fillS_1 _ _ _ _ _ (by omega)]
theorem step95 {D : Dt} (hB : MB D) (K : Int32 → Int32 → Int32 → Int32 → Int32 → St → Option (Int32 × St)) (x2 x3 x4 x5 : Int32) {w : Nat} (hw : w < 256) (n : Nat) {i : Nat} (hi : i < 4) {T : St} (hM : MY D T) (h67 : ∀ c, c < 12 → T 67 c = nI (rwN (D 1) (D 6 0) w i c)) : ∃ T1, f_X8_bestBrakes_l95 K (n + 1) x2 x3 x4 x5 (nI w) (nI (flN (D 1) (D 6 0) w i)) (nI i) T = f_X8_bestBrakes_l95 K n x2 x3 x4 x5 (nI w) (nI (flN (D 1) (D 6 0) w (i + 1))) (nI (i + 1)) T1 ∧ FN T T1 ∧ ∀ c, c < 12 → T1 67 c = nI (rwN (D 1) (D 6 0) w (i + 1) c) := by
  have h12 := hB.1
  have hdl := dg_lt w i
  have hba := baN_le (D 1) (D 6 0) i 0
  rw [f_X8_bestBrakes_l95, if_neg (show ¬ (4 : Int32) ≤ nI i from nI_ge (b := 4) hi (by decide)), dg_of hw hi, lett_e, isbY hB hM (show i ≤ 100 by omega), bnd_some]
  have b139 : ∀ s0 : Int32, ∃ T1, f_X8_bestBrakes_b139 K (f_X8_bestBrakes_l95 K n) x2 x3 x4 x5 (nI w) (nI i) (nI (dg w i)) s0 T = f_X8_bestBrakes_l95 K n x2 x3 x4 x5 (nI w) s0 (nI (i + 1)) T1 ∧ FN T T1 ∧ ∀ c, c < 12 → T1 67 c = nI (rwN (D 1) (D 6 0) w (i + 1) c) := by
    intro s0
    unfold f_X8_bestBrakes_b139 f_X8_bestBrakes_b167
    rw [isbY hB hM (show i ≤ 100 by omega), bnd_some, lett_e, nI_1, rwN]
    by_cases hb1 : baN (D 1) i (D 6 0) 0 ≤ 1
    · rw [if_pos hb1, if_pos i00, if_pos hb1]
      exact ⟨T, rfl, FN.rf T, h67⟩
    · have hba := hba.resolve_left (by omega)
      have hnn : encT (baN (D 1) i (D 6 0) 0) - 1 = nI (baN (D 1) i (D 6 0) 0 - 2) := by
        unfold encT
        rw [if_neg (by omega), show baN (D 1) i (D 6 0) 0 - 1 = (baN (D 1) i (D 6 0) 0 - 2) + 1 by omega]
        exact nI_pred _
      rw [if_neg hb1, if_neg i10, baY hB hM (show i ≤ 100 by omega), bnd_some, hnn, inb_nI (show baN (D 1) i (D 6 0) 0 - 2 < 12 by omega) (by decide), grd_t, lett_e, lett_e, cl_nI (by omega), if_neg hb1, show (3 : Int32) * nI (dg w i) = nI (3 * dg w i) from pk_mul 3 _]
      refine ⟨_, rfl, FN.o67 (fun c hc => su_o hc), fun c hc => ?_⟩
      unfold upN
      by_cases hcc : c = baN (D 1) i (D 6 0) 0 - 2
      · rw [if_pos hcc, hcc, su_s]
      · rw [if_neg hcc, su_k hcc]; exact h67 c hc
  unfold f_X8_bestBrakes_b138 f_X8_bestBrakes_b134
  obtain ⟨T0, y1, y2, y3⟩ := b139 0
  obtain ⟨T1, z1, z2, z3⟩ := b139 1
  rw [y1, z1, flN]
  rcases flN_01 (D 1) (D 6 0) w i with f0 | f1
  · rw [f0, if_pos (by decide), if_neg (fun q => absurd q.1 (by decide))]
    exact ⟨T0, rfl, y2, y3⟩
  · rw [f1, if_neg (by decide)]
    by_cases hd : dg w i = 0
    · rw [hd, if_pos (by decide), if_pos ⟨rfl, Or.inr rfl⟩]
      exact ⟨T1, rfl, z2, z3⟩
    · rw [if_neg (fun q => hd ((nI0 (by omega)).mp q))]
      by_cases hb1 : baN (D 1) i (D 6 0) 0 ≤ 1
      · rw [if_pos hb1, if_pos i00, if_neg (fun q => q.2.elim (fun a => by omega) hd)]
        exact ⟨T0, rfl, y2, y3⟩
      · rw [if_neg hb1, if_neg i10, if_pos ⟨rfl, Or.inl (by omega)⟩]
        exact ⟨T1, rfl, z2, z3⟩
theorem brakes8 {D : Dt} (hB : MB D) (h0 : 0 < D 6 0) {x q : Nat} (hx : x ≤ 17000) (hq : q ≤ 4) : ∀ (d n w bt bw : Nat) (T : St), w + d = 256 → d < n → bt ≤ 12001 → (bt = 0 ∨ bw < 256) → MY D T → ∃ T1, f_X8_bestBrakes_l57 n (nI x) (nI q) (encW bt bw) (nI (bt - 1)) (nI w) T = some (bbR D q (bB (brN D x) d w bt bw).1 (bB (brN D x) d w bt bw).2, T1) ∧ FN T T1 := by
  intro d
  induction d with
  | zero =>
    intro n w bt bw T hw hn hb hbw hM
    obtain ⟨n, rfl⟩ : ∃ m, n = m + 1 := ⟨n - 1, by omega⟩
    refine ⟨T, ?_, FN.rf T⟩
    rw [f_X8_bestBrakes_l57, if_pos (show (256 : Int32) ≤ nI w from nI_le (a := 256) (by omega) (by omega)), bB]
    unfold f_X8_bestBrakes_b258 bbR
    by_cases hb0 : bt = 0
    · rw [if_pos (show encW bt bw = -1 from by rw [hb0]; rfl), if_pos (show encW bt bw = -1 from by rw [hb0]; rfl), if_pos hb0]
    · have hbw := hbw.resolve_left hb0
      have hne : ¬ encW bt bw = -1 := fun z => hb0 ((encW_n (by omega)).mp z)
      rw [if_neg hne, if_neg hne, if_neg hb0]
      by_cases hq0 : q = 0
      · rw [hq0, if_pos (by decide), if_pos rfl]
      · obtain ⟨p, rfl⟩ : ∃ p, q = p + 1 := ⟨q - 1, by omega⟩
        rw [if_neg (fun z => hq0 ((nI0 (by omega)).mp z)), if_neg hq0, nI_pred, Nat.add_sub_cancel, isbY hB hM (show p ≤ 100 by omega), bnd_some, dg8 (by omega), show encW bt bw = nI bw from by unfold encW; rw [if_neg hb0], dg_of hbw (by omega), show (3 : Int32) * nI (dg bw p) = nI (3 * dg bw p) from pk_mul 3 _]
        by_cases hb1 : baN (D 1) p (D 6 0) 0 ≤ 1
        · rw [if_pos hb1, if_pos i00, if_pos hb1]
        · rw [if_neg hb1, if_neg i10, if_neg hb1]
  | succ d ih =>
    intro n w bt bw T hw hn hb hbw hM
    obtain ⟨n, rfl⟩ : ∃ m, n = m + 1 := ⟨n - 1, by omega⟩
    rw [f_X8_bestBrakes_l57, if_neg (show ¬ (256 : Int32) ≤ nI w from nI_ge (b := 256) (by omega) (by decide)), show (0 : Int32) = nI 0 from rfl, fill71 _ _ _ _ _ _ _ 12 FU 0 T (by omega) (by unfold FU; omega)]
    have k0 : FN T (fillS T 67 0 12 0) := FN.o67 (fun c hc => fillS_o hc)
    obtain ⟨m, hm⟩ : ∃ m, FU = m + 5 := ⟨FU - 5, by unfold FU; omega⟩
    obtain ⟨T1, e1, k1, r1⟩ := step95 hB (f_X8_bestBrakes_l57 n) (nI x) (nI q) (encW bt bw) (nI (bt - 1)) (show w < 256 by omega) (m + 4) (i := 0) (by decide) (hM.fn k0) (fun c hc => by rw [fillS_in ⟨Nat.zero_le _, hc⟩]; rfl)
    obtain ⟨T2, e2, k2, r2⟩ := step95 hB (f_X8_bestBrakes_l57 n) (nI x) (nI q) (encW bt bw) (nI (bt - 1)) (show w < 256 by omega) (m + 3) (i := 1) (by decide) (hM.fn (k0.tr k1)) r1
    obtain ⟨T3, e3, k3, r3⟩ := step95 hB (f_X8_bestBrakes_l57 n) (nI x) (nI q) (encW bt bw) (nI (bt - 1)) (show w < 256 by omega) (m + 2) (i := 2) (by decide) (hM.fn ((k0.tr k1).tr k2)) r2
    obtain ⟨T4, e4, k4, r4⟩ := step95 hB (f_X8_bestBrakes_l57 n) (nI x) (nI q) (encW bt bw) (nI (bt - 1)) (show w < 256 by omega) (m + 1) (i := 3) (by decide) (hM.fn (((k0.tr k1).tr k2).tr k3)) r3
    have K4 := (((k0.tr k1).tr k2).tr k3).tr k4
    have e1' : f_X8_bestBrakes_l95 (f_X8_bestBrakes_l57 n) (m + 5) (nI x) (nI q) (encW bt bw) (nI (bt - 1)) (nI w) 1 0 (fillS T 67 0 12 0) = _ := e1
    rw [hm, e1', e2, e3, e4]
    rw [f_X8_bestBrakes_l95, if_pos (by decide)]
    have hB' := dR_MB hB (rwN_le (D 1) (D 6 0) w 4)
    have h12 := hB.1
    have hM4 := hM.fn K4
    have mm : MM (dR D (rwN (D 1) (D 6 0) w 4)) T4 := hM4.mm (fun c hc => r4 c (by omega))
    unfold f_X8_bestBrakes_b205 f_X8_bestBrakes_b209 f_X8_bestBrakes_b210 f_X8_bestBrakes_b224 f_X8_bestBrakes_b240 f_X8_bestBrakes_b242
    rcases flN_01 (D 1) (D 6 0) w 4 with f0 | f1
    · have ebr : brN D x w = 0 := by unfold brN; rw [f0]; rfl
      rw [f0, if_pos (by decide), bB_n (fun z => z.1 ebr), lett_e, nI_1]
      obtain ⟨T5, e5, k5⟩ := ih n (w + 1) bt bw T4 (by omega) (by omega) hb hbw hM4
      exact ⟨T5, e5, K4.tr k5⟩
    · have ebr : brN D x w = tN (dR D (rwN (D 1) (D 6 0) w 4)) x := by unfold brN; rw [if_pos f1]
      obtain ⟨T5, e5, k5, r5⟩ := f_go8 hB' (show 0 < dR D (rwN (D 1) (D 6 0) w 4) 6 0 from h0) hx mm
      have hb2 : goN (dR D (rwN (D 1) (D 6 0) w 4)) x 0 0 ≤ 2 := (goR_b _ _ 0 _ 0 0 (fun _ => 0) (fun _ => 0)).1
      have ht := tN_le hB' x
      rw [f1, if_neg (by decide), e5, bnd_some, r5.1, r5.2.2.1, if_neg i10, if_neg i10, if_pos i00, if_pos i00, lett_e, lett_e, nI_1]
      obtain ⟨T6, e6, k6⟩ := ih n (w + 1) bt bw T5 (by omega) (by omega) hb hbw (hM4.fn k5.fn)
      have hfin : FN T T5 := K4.tr k5.fn
      by_cases hz : goN (dR D (rwN (D 1) (D 6 0) w 4)) x 0 0 = 0
      · have etn : tN (dR D (rwN (D 1) (D 6 0) w 4)) x = goN (dR D (rwN (D 1) (D 6 0) w 4)) x 0 2 + 1 := by unfold tN; rw [if_pos hz]
        obtain ⟨T7, e7, k7⟩ := ih n (w + 1) (brN D x w) w T5 (by omega) (by omega) (brN_le hB x w) (Or.inr (by omega)) (hM4.fn k5.fn)
        rw [show encW (brN D x w) w = nI w from by unfold encW; rw [if_neg (by omega)], show brN D x w - 1 = goN (dR D (rwN (D 1) (D 6 0) w 4)) x 0 2 by omega] at e7
        rw [hz, if_pos (by decide)]
        by_cases hb0 : bt = 0
        · rw [if_pos (show encW bt bw = -1 from by rw [hb0]; rfl), bB_y ⟨by omega, Or.inl hb0⟩]
          exact ⟨T7, e7, hfin.tr k7⟩
        · have hbw := hbw.resolve_left hb0
          rw [if_neg (fun z => hb0 ((encW_n (by omega)).mp z))]
          by_cases hlt : brN D x w < bt
          · rw [if_neg (nI_ge (by omega) (by omega)), bB_y ⟨by omega, Or.inr hlt⟩]
            exact ⟨T7, e7, hfin.tr k7⟩
          · rw [if_pos (nI_le (by omega) (by omega)), bB_n (fun z => z.2.elim hb0 hlt)]
            exact ⟨T6, e6, hfin.tr k6⟩
      · have etn : tN (dR D (rwN (D 1) (D 6 0) w 4)) x = 0 := by unfold tN; rw [if_neg hz]
        rw [if_neg (fun z => hz ((nI0 (by omega)).mp z)), bB_n (fun z => z.1 (by omega))]
        exact ⟨T6, e6, hfin.tr k6⟩
theorem in4y {x : Int32} {S : St} (h : 0 ≤ x ∧ x ≤ 4) : f_X8_in x.toInt64 0 4 S = some (1, S) := w8y h
theorem in4n {x : Int32} {S : St} (h : ¬ (0 ≤ x ∧ x ≤ 4)) : f_X8_in x.toInt64 0 4 S = some (0, S) := w8n h
theorem op_bestBrakes (x1 x2 x3 : Int32) : Op (f_X7_bestBrakes x1 x2 x3) (f_X8_bestBrakes x1 x2 x3) := by
  refine Op.ask (fun t P hO => ?_)
  have h8 := hO.h8
  by_cases hc : isC P x1
  · by_cases hh : P 20 1 = 0
    · refine ⟨-103, fun S hR => ⟨S, ?_, KC.rf S⟩, fun T hR => ⟨T, ?_, KM.rf T⟩⟩
      · unfold f_X7_bestBrakes
        rw [f_isWithin, bnd_some, r7h hR hc hh, bnd_some, if_neg n103]
      · unfold f_X8_bestBrakes
        rw [c8y hO hR hc, bnd_some, if_neg i10, l8n hR hh, bnd_some, if_neg i10]
    · by_cases hs : isSw x2
      · by_cases hw : 0 ≤ x3 ∧ x3 ≤ 4
        · obtain ⟨j, hj, rfl⟩ := rng (by omega) hc
          obtain ⟨x, hx, rfl⟩ := isSw_nI hs
          obtain ⟨q, hq, rfl⟩ := rngle (n := 4) (by decide) hw.1 hw.2
          have hB := MB_of hO hj
          have hm0 : 0 < dtOf P j 6 0 := Nat.pos_of_ne_zero hh
          refine ⟨bbR (dtOf P j) q (bB (brN (dtOf P j) x) 256 0 0 0).1 (bB (brN (dtOf P j) x) 256 0 0 0).2, fun S hR => ?_, fun T hR => ?_⟩
          · obtain ⟨S1, e1, k1, m1, -⟩ := f_mount hR hO hj
            obtain ⟨S2, e2, k2, b2⟩ := f_clear S1
            obtain ⟨S3, e3, k3⟩ := brakes7 hB hm0 (show x ≤ 17000 by omega) hq 256 FU 0 0 0 S2 (by omega) (by unfold FU; omega) (by omega) (Or.inl rfl) ((m1.fp (FP.o51 k2)).mx) b2
            refine ⟨S3, ?_, (k1.kc.tr (FP.o51 k2).kc).tr k3.kc⟩
            unfold f_X7_bestBrakes
            rw [w7y hw, bnd_some, r7y hO hR hc hh hs, bnd_some, if_pos i00, inb_nI (show j < 8 by omega) (by decide), grd_t, cl_nI (by omega), hR.2.2.2.2.2.2.2.1, e1, bnd_some, e2, bnd_some]
            exact e3
          · obtain ⟨T1, e1, k1, m1⟩ := f_take hR hO hj
            obtain ⟨T2, e2, k2⟩ := brakes8 hB hm0 (show x ≤ 17000 by omega) hq 256 FU 0 0 0 T1 (by omega) (by unfold FU; omega) (by omega) (Or.inl rfl) m1.my
            refine ⟨T2, ?_, k1.tr k2.km⟩
            unfold f_X8_bestBrakes
            rw [c8y hO hR hc, bnd_some, if_neg i10, l8y hO hR hh, bnd_some, if_pos i00, s8y hs, bnd_some, if_neg i10, in4y hw, bnd_some, if_neg i10, e1, bnd_some]
            exact e2
        · refine ⟨-102, fun S hR => ⟨S, ?_, KC.rf S⟩, fun T hR => ⟨T, ?_, KM.rf T⟩⟩
          · unfold f_X7_bestBrakes
            rw [w7n hw, bnd_some, r7w hO hR hc hh hs, bnd_some, if_neg n102]
          · unfold f_X8_bestBrakes
            rw [c8y hO hR hc, bnd_some, if_neg i10, l8y hO hR hh, bnd_some, if_pos i00, s8y hs, bnd_some, if_neg i10, in4n hw, bnd_some, if_pos i00]
      · refine ⟨-102, fun S hR => ⟨S, ?_, KC.rf S⟩, fun T hR => ⟨T, ?_, KM.rf T⟩⟩
        · unfold f_X7_bestBrakes
          rw [f_isWithin, bnd_some, r7s hO hR hc hh hs, bnd_some, if_neg n102]
        · unfold f_X8_bestBrakes
          rw [c8y hO hR hc, bnd_some, if_neg i10, l8y hO hR hh, bnd_some, if_pos i00, s8n hs, bnd_some, if_pos i00]
  · refine ⟨-101, fun S hR => ⟨S, ?_, KC.rf S⟩, fun T hR => ⟨T, ?_, KM.rf T⟩⟩
    · unfold f_X7_bestBrakes
      rw [f_isWithin, bnd_some, r7c hR hc, bnd_some, if_neg n101]
    · unfold f_X8_bestBrakes
      rw [c8n hO hR hc, bnd_some, if_pos i00]
