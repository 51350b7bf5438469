-- ===== the best of a row of ways =====
/-- f i: the time + 1 of way i, 0 none; bt, bw: the best so far -/
def bB (f : Nat → Nat) : Nat → Nat → Nat → Nat → Nat × Nat
  | 0, _, bt, bw => (bt, bw)
  | d + 1, i, bt, bw => if f i ≠ 0 ∧ (bt = 0 ∨ f i < bt) then bB f d (i + 1) (f i) i else bB f d (i + 1) bt bw
theorem bB_y {f : Nat → Nat} {d i bt bw : Nat} (h : f i ≠ 0 ∧ (bt = 0 ∨ f i < bt)) : bB f (d + 1) i bt bw = bB f d (i + 1) (f i) i := by rw [bB, if_pos h]
theorem bB_n {f : Nat → Nat} {d i bt bw : Nat} (h : ¬ (f i ≠ 0 ∧ (bt = 0 ∨ f i < bt))) : bB f (d + 1) i bt bw = bB f d (i + 1) bt bw := by rw [bB, if_neg h]
def encW (bt bw : Nat) : Int32 := if bt = 0 then -1 else nI bw
def BO (bt bw : Nat) (S : St) : Prop := S 51 0 = encT bt ∧ S 51 1 = encW bt bw
theorem bB_le {f : Nat → Nat} {B : Nat} (hf : ∀ i, f i ≤ B) : ∀ (d i bt bw : Nat), bt ≤ B → (bB f d i bt bw).1 ≤ B := by
  intro d
  induction d with
  | zero => intro i bt bw h; exact h
  | succ d ih =>
    intro i bt bw h
    rw [bB]
    by_cases q : f i ≠ 0 ∧ (bt = 0 ∨ f i < bt)
    · rw [if_pos q]; exact ih _ _ _ (hf i)
    · rw [if_neg q]; exact ih _ _ _ h
theorem bB_w {f : Nat → Nat} : ∀ (d i bt bw : Nat), (bt = 0 ∨ bw < i) → ((bB f d i bt bw).1 = 0 ∨ (bB f d i bt bw).2 < i + d) := by
  intro d
  induction d with
  | zero => intro i bt bw h; exact h
  | succ d ih =>
    intro i bt bw h
    rw [bB]
    by_cases q : f i ≠ 0 ∧ (bt = 0 ∨ f i < bt)
    · rw [if_pos q]
      rcases ih (i + 1) (f i) i (Or.inr (by omega)) with w | w
      · exact Or.inl w
      · exact Or.inr (by omega)
    · rw [if_neg q]
      rcases ih (i + 1) bt bw (h.elim Or.inl (fun w => Or.inr (by omega))) with w | w
      · exact Or.inl w
      · exact Or.inr (by omega)
theorem encT_nn {u : Nat} (hu : u ≤ 60000) : (encT u = -1) ↔ u = 0 := by
  unfold encT
  by_cases h : u = 0
  · rw [if_pos h]; exact ⟨fun _ => h, fun _ => rfl⟩
  · rw [if_neg h]
    refine ⟨fun q => ?_, fun q => absurd q h⟩
    have := congrArg Int32.toInt q
    rw [nI_toInt (by omega), show ((-1 : Int32)).toInt = -1 from by decide] at this
    omega
theorem encW_n {bt bw : Nat} (hw : bw < 100000) : (encW bt bw = -1) ↔ bt = 0 := by
  unfold encW
  by_cases h : bt = 0
  · rw [if_pos h]; exact ⟨fun _ => h, fun _ => rfl⟩
  · rw [if_neg h]
    refine ⟨fun q => ?_, fun q => absurd q h⟩
    have := congrArg Int32.toInt q
    rw [nI_toInt (by omega), show ((-1 : Int32)).toInt = -1 from by decide] at this
    omega
theorem f_clear (S : St) : ∃ S1, f_X0_clear S = some ((), S1) ∧ (∀ c, c ≠ 51 → S1 c = S c) ∧ BO 0 0 S1 := by
  refine ⟨su (su S 51 0 (-1)) 51 1 (-1), rfl, fun c hc => ?_, ?_, ?_⟩
  · rw [su_o hc, su_o hc]
  · rw [su_k (by decide), su_s]; rfl
  · rw [su_s]; rfl
theorem f_offer {bt bw tv i : Nat} {S : St} (h : BO bt bw S) (h0 : tv ≠ 0) (hv : tv ≤ 60000) (hb : bt ≤ 60000) : ∃ S1, f_X0_offer (nI (tv - 1)) (nI i) S = some (if bt = 0 ∨ tv < bt then 1 else 0, S1) ∧ (∀ c, c ≠ 51 → S1 c = S c) ∧ (if bt = 0 ∨ tv < bt then BO tv i S1 else BO bt bw S1) := by
  unfold f_X0_offer f_X0_offer_b18
  rw [h.1, lett_e, lett_e]
  have ok : BO tv i (su (su S 51 0 (nI (tv - 1))) 51 1 (nI i)) := by
    refine ⟨?_, ?_⟩
    · rw [su_k (by decide), su_s]; unfold encT; rw [if_neg h0]
    · rw [su_s]; unfold encW; rw [if_neg h0]
  have kk : ∀ c, c ≠ 51 → su (su S 51 0 (nI (tv - 1))) 51 1 (nI i) c = S c := fun c hc => by rw [su_o hc, su_o hc]
  by_cases hb0 : bt = 0
  · rw [if_pos ((encT_nn hb).mpr hb0), if_pos (Or.inl hb0)]
    exact ⟨_, rfl, kk, by rw [if_pos (Or.inl hb0)]; exact ok⟩
  · rw [if_neg (fun q => hb0 ((encT_nn hb).mp q)), show encT bt = nI (bt - 1) from by unfold encT; rw [if_neg hb0]]
    by_cases hlt : tv < bt
    · rw [if_pos ((nI_ltI (by omega) (by omega)).mpr (by omega)), if_pos (Or.inr hlt)]
      exact ⟨_, rfl, kk, by rw [if_pos (Or.inr hlt)]; exact ok⟩
    · rw [if_neg (fun q => hlt (by have := (nI_ltI (by omega) (by omega)).mp q; omega)), if_neg (fun q => q.elim hb0 hlt)]
      exact ⟨S, rfl, fun _ _ => rfl, by rw [if_neg (fun q => q.elim hb0 hlt)]; exact h⟩
-- ===== bestPush =====
def pushX (D : Dt) (p k : Nat) : Nat := k * p * 10 / D 6 2
def pushN (D : Dt) (p k : Nat) : Nat := if tN D (pushX D p k) = 0 then 0 else tN D (pushX D p k) + 60 * k
theorem pushX_le {D : Dt} (hB : MB D) {p k : Nat} (hp : p ≤ 99) (hk : k ≤ 20) : pushX D p k ≤ 17000 ∧ k * p * 10 ≤ 20000 := by
  unfold pushX
  have h1 : k * p ≤ 20 * 99 := mul_le hk hp
  have h2 := Nat.div_le_self (k * p * 10) (D 6 2)
  have h3 : k * p * 10 / D 6 2 ≤ k * p * 10 / 10 := Nat.div_le_div_left hB.2.2.1 (by decide)
  omega
def FP (S S1 : St) : Prop := ∀ c j : Nat, c ≠ 49 → c ≠ 50 → c ≠ 51 → (c ≠ 44 ∨ j < 8 ∨ 12 < j) → S1 c j = S c j
theorem FP.rf (S : St) : FP S S := fun _ _ _ _ _ _ => rfl
theorem FP.tr {S S1 S2 : St} (h1 : FP S S1) (h2 : FP S1 S2) : FP S S2 := fun c j a b d e => (h2 c j a b d e).trans (h1 c j a b d e)
theorem FC.fp {S S1 : St} (h : FC S S1) : FP S S1 := fun c j a b _ e => h c j a b e
theorem FP.o51 {S S1 : St} (h : ∀ c, c ≠ 51 → S1 c = S c) : FP S S1 := fun c j _ _ d _ => by rw [h c d]
theorem FP.kc {S S1 : St} (h : FP S S1) : KC S S1 := fun c hc => by
  funext j
  exact h c j (by omega) (by omega) (by omega) (Or.inl (by omega))
theorem MC.fp {D : Dt} {S S1 : St} (h : MC D S) (hF : FP S S1) : MC D S1 := by
  obtain ⟨h1, h2, h3, h4, h5, h6⟩ := h
  refine ⟨?_, ?_, ?_, ?_, fun c hc => ?_, fun k hk => ?_⟩
  · rw [hF 3 4 (by decide) (by decide) (by decide) (Or.inl (by decide))]; exact h1
  · rw [hF 44 5 (by decide) (by decide) (by decide) (Or.inr (Or.inl (by decide)))]; exact h2
  · rw [hF 44 6 (by decide) (by decide) (by decide) (Or.inr (Or.inl (by decide)))]; exact h3
  · rw [hF 44 7 (by decide) (by decide) (by decide) (Or.inr (Or.inl (by decide)))]; exact h4
  · rw [hF 4 c (by decide) (by decide) (by decide) (Or.inl (by decide)), hF 5 c (by decide) (by decide) (by decide) (Or.inl (by decide)), hF 6 c (by decide) (by decide) (by decide) (Or.inl (by decide)), hF 48 c (by decide) (by decide) (by decide) (Or.inl (by decide))]; exact h5 c hc
  · rw [hF 45 k (by decide) (by decide) (by decide) (Or.inl (by decide)), hF 46 k (by decide) (by decide) (by decide) (Or.inl (by decide))]; exact h6 k hk
theorem push7 {D : Dt} (hB : MB D) (h0 : 0 < D 6 0) {p : Nat} (hp : p ≤ 99) (x3 : Int32) : ∀ (d n k bt bw : Nat) (S : St), k + d = 21 → d < n → bt ≤ 60000 → MC D S → BO bt bw S → ∃ S1, f_X7_bestPush_l67 n (nI p) x3 (nI k) S = some (if x3 = 0 then encW (bB (pushN D p) d k bt bw).1 (bB (pushN D p) d k bt bw).2 else encT (bB (pushN D p) d k bt bw).1, S1) ∧ FP S S1 := by
  intro d
  induction d with
  | zero =>
    intro n k bt bw S hk hn hb hM hO
    obtain ⟨n, rfl⟩ : ∃ m, n = m + 1 := ⟨n - 1, by omega⟩
    refine ⟨S, ?_, FP.rf S⟩
    rw [f_X7_bestPush_l67, if_pos (show (20 : Int32) < nI k from (nI_ltI (a := 20) (by decide) (by omega)).mpr (by omega)), hO.1, hO.2, bB]
    by_cases h : x3 = 0
    · rw [if_pos h, if_pos h]
    · rw [if_neg h, if_neg h]
  | succ d ih =>
    intro n k bt bw S hk hn hb hM hO
    obtain ⟨n, rfl⟩ : ∃ m, n = m + 1 := ⟨n - 1, by omega⟩
    obtain ⟨x1, x2⟩ := pushX_le hB hp (show k ≤ 20 by omega)
    have hw := hB.2.2.1
    have hw2 := hB.2.2.2.1
    rw [f_X7_bestPush_l67, if_neg (show ¬ (20 : Int32) < nI k from fun q => by have := (nI_ltI (a := 20) (by decide) (by omega)).mp q; omega), hM.2.2.1, pk_mul, show (10 : Int32) = nI 10 from rfl, pk_mul, f_by _ _ (by omega) (by omega) (by omega), bnd_some]
    obtain ⟨S1, e1, k1, r1⟩ := f_go7 hB h0 (x := pushX D p k) x1 hM
    have e1' : f_X6_go (nI (k * p * 10 / D 6 2)) S = some ((), S1) := e1
    rw [e1', bnd_some, r1.1, r1.2.2.1]
    have hb2 : goN D (pushX D p k) 0 0 ≤ 2 := (goR_b D (D 6 0) 0 _ 0 0 (fun _ => 0) (fun _ => 0)).1
    have ht := tN_le hB (pushX D p k)
    unfold f_X7_bestPush_b131
    rw [lett_e, nI_1]
    have hO1 : BO bt bw S1 := ⟨(k1 51 0 (by decide) (by decide) (Or.inl (by decide))).trans hO.1, (k1 51 1 (by decide) (by decide) (Or.inl (by decide))).trans hO.2⟩
    by_cases hz : goN D (pushX D p k) 0 0 = 0
    · have etn : tN D (pushX D p k) = goN D (pushX D p k) 0 2 + 1 := by unfold tN; rw [if_pos hz]
      have epn : pushN D p k = goN D (pushX D p k) 0 2 + 60 * k + 1 := by unfold pushN; rw [etn, if_neg (by omega)]; omega
      rw [hz, if_pos (by decide), show (60 : Int32) = nI 60 from rfl, pk_mul, nI_add]
      obtain ⟨S2, e2, k2, b2⟩ := f_offer (i := k) hO1 (show pushN D p k ≠ 0 by omega) (by omega) hb
      rw [show goN D (pushX D p k) 0 2 + 60 * k = pushN D p k - 1 by omega, e2, bnd_some, lett_e]
      by_cases hq : bt = 0 ∨ pushN D p k < bt
      · rw [if_pos hq] at b2
        rw [bB_y ⟨by omega, hq⟩]
        obtain ⟨S3, e3, k3⟩ := ih n (k + 1) (pushN D p k) k S2 (by omega) (by omega) (by omega) ((hM.fp k1.fp).fp (FP.o51 k2)) b2
        exact ⟨S3, e3, (k1.fp.tr (FP.o51 k2)).tr k3⟩
      · rw [if_neg hq] at b2
        rw [bB_n (fun q => hq q.2)]
        obtain ⟨S3, e3, k3⟩ := ih n (k + 1) bt bw S2 (by omega) (by omega) (by omega) ((hM.fp k1.fp).fp (FP.o51 k2)) b2
        exact ⟨S3, e3, (k1.fp.tr (FP.o51 k2)).tr k3⟩
    · have epn : pushN D p k = 0 := by unfold pushN tN; rw [if_neg hz, if_pos rfl]
      rw [if_neg (fun q => hz ((nI0 (by omega)).mp q)), bB_n (fun q => q.1 epn)]
      obtain ⟨S3, e3, k3⟩ := ih n (k + 1) bt bw S1 (by omega) (by omega) (by omega) (hM.fp k1.fp) hO1
      exact ⟨S3, e3, k1.fp.tr k3⟩
theorem push8 {D : Dt} (hB : MB D) (h0 : 0 < D 6 0) {p : Nat} (hp : p ≤ 99) (x3 : Int32) : ∀ (d n k bt bw : Nat) (T : St), k + d = 21 → d < n → bt ≤ 60000 → (bt = 0 ∨ bw < k) → MM D T → ∃ T1, f_X8_bestPush_l60 n (nI p) x3 (encW bt bw) (nI (bt - 1)) (nI k) T = some (if x3 = 0 then encW (bB (pushN D p) d k bt bw).1 (bB (pushN D p) d k bt bw).2 else encT (bB (pushN D p) d k bt bw).1, T1) ∧ FM T T1 := by
  intro d
  induction d with
  | zero =>
    intro n k bt bw T hk hn hb hw hM
    obtain ⟨n, rfl⟩ : ∃ m, n = m + 1 := ⟨n - 1, by omega⟩
    refine ⟨T, ?_, FM.rf T⟩
    rw [f_X8_bestPush_l60, if_pos (show (20 : Int32) < nI k from (nI_ltI (a := 20) (by decide) (by omega)).mpr (by omega)), bB]
    unfold f_X8_bestPush_b166
    by_cases hb0 : bt = 0
    · subst hb0
      rw [if_pos (show encW 0 bw = -1 from rfl)]
      by_cases h : x3 = 0
      · rw [if_pos h]
      · rw [if_neg h]; rfl
    · rw [if_neg (fun q => hb0 ((encW_n (by omega)).mp q))]
      by_cases h : x3 = 0
      · rw [if_pos h, if_pos h]
      · rw [if_neg h, if_neg h]
        unfold encT
        rw [if_neg hb0]
  | succ d ih =>
    intro n k bt bw T hk hn hb hbw hM
    obtain ⟨n, rfl⟩ : ∃ m, n = m + 1 := ⟨n - 1, by omega⟩
    obtain ⟨x1, x2⟩ := pushX_le hB hp (show k ≤ 20 by omega)
    have hw := hB.2.2.1
    have hw2 := hB.2.2.2.1
    rw [f_X8_bestPush_l60, if_neg (show ¬ (20 : Int32) < nI k from fun q => by have := (nI_ltI (a := 20) (by decide) (by omega)).mp q; omega), hM.2.2.1, nz_nI (by omega) (by omega), grd_t, pk_mul, show (10 : Int32) = nI 10 from rfl, pk_mul, pk_div (by omega) (by omega) (by omega)]
    obtain ⟨T1, e1, k1, r1⟩ := f_go8 hB h0 (x := pushX D p k) x1 hM
    have e1' : f_X8_go (nI (k * p * 10 / D 6 2)) T = some ((), T1) := e1
    rw [e1', bnd_some, lett_e, r1.1, r1.2.2.1]
    have hb2 : goN D (pushX D p k) 0 0 ≤ 2 := (goR_b D (D 6 0) 0 _ 0 0 (fun _ => 0) (fun _ => 0)).1
    have ht := tN_le hB (pushX D p k)
    have h2 : goN D (pushX D p k) 0 2 ≤ 12000 := by
      have h := (goR_b D (D 6 0) 0 (pushX D p k) 0 0 (fun _ => 0) (fun _ => 0)).2
      have h12 := hB.1
      have : goN D (pushX D p k) 0 2 ≤ 0 + 1000 * D 6 0 := h
      omega
    rw [show (60 : Int32) = nI 60 from rfl, pk_mul, nI_add]
    unfold f_X8_bestPush_b115 f_X8_bestPush_b119 f_X8_bestPush_b120 f_X8_bestPush_b134 f_X8_bestPush_b148
    rw [if_neg i10, if_neg i10, if_pos i00, if_pos i00, lett_e, lett_e, nI_1]
    obtain ⟨T2, e2, k2⟩ := ih n (k + 1) bt bw T1 (by omega) (by omega) (by omega) (hbw.elim Or.inl (fun w => Or.inr (by omega))) (hM.fm k1)
    by_cases hz : goN D (pushX D p k) 0 0 = 0
    · have etn : tN D (pushX D p k) = goN D (pushX D p k) 0 2 + 1 := by unfold tN; rw [if_pos hz]
      have epn : pushN D p k = goN D (pushX D p k) 0 2 + 60 * k + 1 := by unfold pushN; rw [etn, if_neg (by omega)]; omega
      obtain ⟨T3, e3, k3⟩ := ih n (k + 1) (pushN D p k) k T1 (by omega) (by omega) (by omega) (Or.inr (by omega)) (hM.fm k1)
      rw [show encW (pushN D p k) k = nI k from by unfold encW; rw [if_neg (by omega)], show pushN D p k - 1 = goN D (pushX D p k) 0 2 + 60 * k by omega] at e3
      rw [hz, if_pos (by decide)]
      by_cases hb0 : bt = 0
      · rw [if_pos (show encW bt bw = -1 from by rw [hb0]; rfl), bB_y ⟨by omega, Or.inl hb0⟩]
        exact ⟨T3, e3, k1.tr k3⟩
      · rw [if_neg (fun q => hb0 ((encW_n (by omega)).mp q))]
        by_cases hq : pushN D p k < bt
        · rw [if_neg (nI_ge (by omega) (by omega)), bB_y ⟨by omega, Or.inr hq⟩]
          exact ⟨T3, e3, k1.tr k3⟩
        · rw [if_pos (nI_le (by omega) (by omega)), bB_n (fun q => q.2.elim hb0 hq)]
          exact ⟨T2, e2, k1.tr k2⟩
    · have epn : pushN D p k = 0 := by unfold pushN tN; rw [if_neg hz, if_pos rfl]
      rw [if_neg (fun q => hz ((nI0 (by omega)).mp q)), bB_n (fun q => q.1 epn)]
      exact ⟨T2, e2, k1.tr k2⟩
theorem op_bestPush (x1 x2 x3 : Int32) : Op (f_X7_bestPush x1 x2 x3) (f_X8_bestPush x1 x2 x3) := by
  refine Op.ask (fun t P hO => ?_)
  have h8 := hO.h8
  have e7 : ∀ S : St, ∃ s0 : Int32, f_X7_bestPush x1 x2 x3 S = f_X7_bestPush_b27 x1 x2 x3 s0 0 x1 S ∧ (((1 ≤ x2 ∧ x2 ≤ 99) ∧ (0 ≤ x3 ∧ x3 ≤ 1)) → s0 = 1) ∧ (¬ ((1 ≤ x2 ∧ x2 ≤ 99) ∧ (0 ≤ x3 ∧ x3 ≤ 1)) → s0 = 0) := by
    intro S
    unfold f_X7_bestPush f_X7_bestPush_b26
    by_cases a3 : 1 ≤ x2 ∧ x2 ≤ 99
    · rw [w7y a3, bnd_some, if_neg i10]
      by_cases a4 : 0 ≤ x3 ∧ x3 ≤ 1
      · rw [w7y a4, bnd_some, if_neg i10]
        exact ⟨1, rfl, fun _ => rfl, fun q => absurd ⟨a3, a4⟩ q⟩
      · rw [w7n a4, bnd_some, if_pos i00]
        exact ⟨0, rfl, fun q => absurd q.2 a4, fun _ => rfl⟩
    · rw [w7n a3, bnd_some, if_pos i00]
      exact ⟨0, rfl, fun q => absurd q.1 a3, fun _ => rfl⟩
  have hs : isSw 0 := by unfold isSw; decide
  by_cases hc : isC P x1
  · by_cases hh : P 20 1 = 0
    · refine ⟨-103, fun S hR => ⟨S, ?_, KC.rf S⟩, fun T hR => ⟨T, ?_, KM.rf T⟩⟩
      · obtain ⟨s0, e, -⟩ := e7 S
        rw [e]
        unfold f_X7_bestPush_b27
        rw [r7h hR hc hh, bnd_some, if_neg n103]
      · unfold f_X8_bestPush
        rw [c8y hO hR hc, bnd_some, if_neg i10, l8n hR hh, bnd_some, if_neg i10]
    · by_cases ha : (1 ≤ x2 ∧ x2 ≤ 99) ∧ (0 ≤ x3 ∧ x3 ≤ 1)
      · obtain ⟨j, hj, rfl⟩ := rng (by omega) hc
        obtain ⟨p, hp, rfl⟩ := isSl_nI ha.1
        have hB := MB_of hO hj
        have hm0 : 0 < dtOf P j 6 0 := Nat.pos_of_ne_zero hh
        refine ⟨if x3 = 0 then encW (bB (pushN (dtOf P j) p) 21 0 0 0).1 (bB (pushN (dtOf P j) p) 21 0 0 0).2 else encT (bB (pushN (dtOf P j) p) 21 0 0 0).1, fun S hR => ?_, fun T hR => ?_⟩
        · obtain ⟨s0, e, q1, -⟩ := e7 S
          rw [e, q1 ha]
          unfold f_X7_bestPush_b27
          obtain ⟨S1, e1, k1, m1, -⟩ := f_mount hR hO hj
          obtain ⟨S2, e2, k2, b2⟩ := f_clear S1
          obtain ⟨S3, e3, k3⟩ := push7 hB hm0 hp.2 x3 21 FU 0 0 0 S2 (by omega) (by unfold FU; omega) (by omega) (m1.fp (FP.o51 k2)) b2
          refine ⟨S3, ?_, (k1.kc.tr (FP.o51 k2).kc).tr k3.kc⟩
          rw [r7y hO hR hc hh hs, bnd_some, if_pos i00, inb_nI (show j < 8 by omega) (by decide), grd_t, cl_nI (by omega), hR.2.2.2.2.2.2.2.1, e1, bnd_some, e2, bnd_some]
          exact e3
        · obtain ⟨T1, e1, k1, m1⟩ := f_take hR hO hj
          obtain ⟨T2, e2, k2⟩ := push8 hB hm0 hp.2 x3 21 FU 0 0 0 T1 (by omega) (by unfold FU; omega) (by omega) (Or.inl rfl) m1
          refine ⟨T2, ?_, k1.tr k2.km⟩
          unfold f_X8_bestPush
          rw [c8y hO hR hc, bnd_some, if_neg i10, l8y hO hR hh, bnd_some, if_pos i00, w8y (a := 1) (b := 99) ha.1, bnd_some, if_neg i10, in1y ha.2, bnd_some, if_neg i10, e1, bnd_some]
          exact e2
      · refine ⟨-102, fun S hR => ⟨S, ?_, KC.rf S⟩, fun T hR => ⟨T, ?_, KM.rf T⟩⟩
        · obtain ⟨s0, e, -, q⟩ := e7 S
          rw [e, q ha]
          unfold f_X7_bestPush_b27
          rw [r7w hO hR hc hh hs, bnd_some, if_neg n102]
        · unfold f_X8_bestPush
          rw [c8y hO hR hc, bnd_some, if_neg i10, l8y hO hR hh, bnd_some, if_pos i00]
          by_cases a3 : 1 ≤ x2 ∧ x2 ≤ 99
          · rw [w8y (a := 1) (b := 99) a3, bnd_some, if_neg i10, in1n (fun q => ha ⟨a3, q⟩), bnd_some, if_pos i00]
          · rw [w8n (a := 1) (b := 99) a3, bnd_some, if_pos i00]
  · refine ⟨-101, fun S hR => ⟨S, ?_, KC.rf S⟩, fun T hR => ⟨T, ?_, KM.rf T⟩⟩
    · obtain ⟨s0, e, -⟩ := e7 S
      rw [e]
      unfold f_X7_bestPush_b27
      rw [r7c hR hc, bnd_some, if_neg n101]
    · unfold f_X8_bestPush
      rw [c8n hO hR hc, bnd_some, if_pos i00]
