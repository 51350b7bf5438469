-- ===== work, the reference =====
theorem MM.n {D : Dt} {T T1 : St} (h : MM D T) (hK : ∀ c, c ≠ 66 → T1 c = T c) {r : Nat → Nat} (hr : ∀ k, k < D 6 1 → T1 66 k = nI (r k)) : MM (dNn D r) T1 := by
  obtain ⟨h1, h2, h3, h4, h5, h6⟩ := h
  refine ⟨?_, ?_, ?_, ?_, fun c hc => ?_, fun k hk => ⟨?_, hr k hk⟩⟩
  · rw [hK 55 (by decide)]; exact h1
  · rw [hK 55 (by decide)]; exact h2
  · rw [hK 55 (by decide)]; exact h3
  · rw [hK 55 (by decide)]; exact h4
  · rw [hK 58 (by decide), hK 59 (by decide), hK 60 (by decide), hK 67 (by decide)]; exact h5 c hc
  · rw [hK 65 (by decide)]; exact (h6 k hk).1
theorem q7 {v : Nat} (hv : v ≤ 20000) : nI v - nI v / 7 * 7 = nI (v % 7) ∧ nI v / 7 = nI (v / 7) := by
  rw [show (7 : Int32) = nI 7 from rfl]
  exact ⟨pk_rem (by omega) (by decide) (by decide), pk_div (by omega) (by decide) (by decide)⟩
def flg (b : Bool) : Int32 := if b = true then 1 else 0
/-- the digits taken one by one: after d of them -/
theorem dig8 {m : Nat} {nn : Nat → Nat} {c : Nat} (hm : m ≤ 5) (hc : c ≤ 20000) (hn9 : ∀ k, k < m → nn k ≤ 9) (K : Int32 → Int32 → Int32 → Int32 → Int32 → Int32 → Int32 → Int32 → St → Option (Int32 × St)) (x1 x2 x3 x4 x5 x6 x7 x8 : Int32) (T0 : St) : ∀ (e n d : Nat) (T : St), d + e = m → e < n → (∀ c, c ≠ 66 → T c = T0 c) → (∀ k, k < m - d → T 66 k = nI (nn k)) → (vW m nn c d = true → ∀ k, m - d ≤ k → k < m → T 66 k = nI (nn k - ed c (m - 1 - k))) → ∃ T1 n1, f_X8_work_l125 K n x1 x2 x3 x4 x5 x6 x7 x8 (nI (c / 7 ^ d)) (nI (sumT (ed c) d)) (flg (vW m nn c d)) (nI (m - d) - 1) T = f_X8_work_l125 K (n1 + 1) x1 x2 x3 x4 x5 x6 x7 x8 (nI (c / 7 ^ m)) (nI (sumT (ed c) m)) (flg (vW m nn c m)) (-1) T1 ∧ (∀ c, c ≠ 66 → T1 c = T0 c) ∧ (vW m nn c m = true → ∀ k, k < m → T1 66 k = nI (nn k - ed c (m - 1 - k))) := by
  intro e
  induction e with
  | zero =>
    intro n d T hd hn hK h1 h2
    obtain ⟨n, rfl⟩ : ∃ a, n = a + 1 := ⟨n - 1, by omega⟩
    obtain rfl : d = m := by omega
    refine ⟨T, n, ?_, hK, fun z k hk => h2 z k (by omega) hk⟩
    rw [Nat.sub_self]
    rfl
  | succ e ih =>
    intro n d T hd hn hK h1 h2
    obtain ⟨n, rfl⟩ : ∃ a, n = a + 1 := ⟨n - 1, by omega⟩
    have hv : c / 7 ^ d ≤ 20000 := Nat.le_trans (Nat.div_le_self _ _) hc
    obtain ⟨r1, r2⟩ := q7 hv
    have hel := ed_lt c d
    have h9 := hn9 (m - 1 - d) (by omega)
    have e7 : c / 7 ^ d / 7 = c / 7 ^ (d + 1) := by rw [dd, Nat.pow_one]
    have h66 := h1 (m - 1 - d) (by omega)
    rw [f_X8_work_l125, nI_km (by omega), show m - d - 1 = m - 1 - d by omega, if_neg (nI_pos (by omega)), nz7, grd_t, lett_e, grd_t, lett_e, lett_e, r1, r2, e7, show c / 7 ^ d % 7 = ed c d from rfl, nI_add, show sumT (ed c) d + ed c d = sumT (ed c) (d + 1) from rfl, inb_nI (show m - 1 - d < 6 by omega) (by decide), grd_t, cl_nI (by omega), h66]
    have b173 : ∀ b : Bool, (b = true → vW m nn c d = true ∧ ed c d ≤ nn (m - 1 - d)) → b = vW m nn c (d + 1) → ∃ T1 n1, f_X8_work_b173 K (f_X8_work_l125 K n) x1 x2 x3 x4 x5 x6 x7 x8 (nI (c / 7 ^ (d + 1))) (nI (sumT (ed c) (d + 1))) (nI (m - 1 - d)) (nI (ed c d)) (flg b) T = f_X8_work_l125 K (n1 + 1) x1 x2 x3 x4 x5 x6 x7 x8 (nI (c / 7 ^ m)) (nI (sumT (ed c) m)) (flg (vW m nn c m)) (-1) T1 ∧ (∀ c, c ≠ 66 → T1 c = T0 c) ∧ (vW m nn c m = true → ∀ k, k < m → T1 66 k = nI (nn k - ed c (m - 1 - k))) := by
      intro b hb hbe
      unfold f_X8_work_b173
      rw [inb_nI (show m - 1 - d < 6 by omega) (by decide), grd_t, grd_t, lett_e, lett_e, cl_nI (by omega), h66, pm1, hbe]
      have := ih n (d + 1) (su T 66 (m - 1 - d) (nI (nn (m - 1 - d)) - nI (ed c d))) (by omega) (by omega) (fun c hc => by rw [su_o hc]; exact hK c hc) (fun k hk => by rw [su_k (by omega)]; exact h1 k (by omega)) (fun z k hk1 hk2 => by
        obtain ⟨y1, y2⟩ := hb (by rw [hbe]; exact z)
        by_cases hkk : k = m - 1 - d
        · subst hkk
          rw [su_s, pk_sub y2, show m - 1 - (m - 1 - d) = d by omega]
        · rw [su_k hkk]
          exact h2 y1 k (by omega) hk2)
      rw [show m - (d + 1) = m - 1 - d by omega] at this
      exact this
    unfold f_X8_work_b172
    by_cases hvd : vW m nn c d = true
    · rw [show flg (vW m nn c d) = 1 from by unfold flg; rw [if_pos hvd], if_neg i10]
      by_cases hle : ed c d ≤ nn (m - 1 - d)
      · have hb : true = vW m nn c (d + 1) := by rw [vW, hvd, Bool.true_and, decide_eq_true hle]
        rw [if_neg (nI_nlt hle (by omega))]
        exact b173 true (fun _ => ⟨hvd, hle⟩) hb
      · have hb : false = vW m nn c (d + 1) := by rw [vW, hvd, Bool.true_and, decide_eq_false hle]
        rw [if_pos ((nI_ltI (by omega) (by omega)).mpr (by omega))]
        exact b173 false (fun z => absurd z (by decide)) hb
    · have hvf : vW m nn c d = false := by
        cases h : vW m nn c d with
        | true => exact absurd h hvd
        | false => rfl
      have hb : false = vW m nn c (d + 1) := by rw [vW, hvf, Bool.false_and]
      rw [show flg (vW m nn c d) = 0 from by unfold flg; rw [if_neg hvd], if_pos i00]
      exact b173 false (fun z => absurd z (by decide)) hb
theorem l319 {q : Nat} (hq : q ≤ 5) (S : St) : ∀ (d n a v : Nat), q + d = a → d < n → a ≤ 5 → v ≤ 20000 → f_X8_work_l319 n (nI q) (nI v) (nI a) S = some (nI (ed v (a - q)), S) := by
  intro d
  induction d with
  | zero =>
    intro n a v ha hn h5 hv
    obtain ⟨n, rfl⟩ : ∃ a, n = a + 1 := ⟨n - 1, by omega⟩
    obtain rfl : a = q := by omega
    rw [f_X8_work_l319, if_pos (nI_le (Nat.le_refl _) (by omega)), nz7, grd_t, (q7 hv).1, Nat.sub_self]
    unfold ed
    rw [Nat.pow_zero, Nat.div_one]
  | succ d ih =>
    intro n a v ha hn h5 hv
    obtain ⟨n, rfl⟩ : ∃ a, n = a + 1 := ⟨n - 1, by omega⟩
    rw [f_X8_work_l319, if_neg (nI_ge (by omega) (by omega)), nz7, grd_t, lett_e, lett_e, (q7 hv).2, pm1, nI_km (by omega), ih n (a - 1) (v / 7) (by omega) (by omega) (by omega) (Nat.le_trans (Nat.div_le_self _ _) hv)]
    unfold ed
    rw [show a - q = 1 + (a - 1 - q) by omega, dd, Nat.pow_one]
theorem work8 {P : Dt} {t j x B q : Nat} (hO : OK P t) (hj : j < P 20 3) (h0 : P 20 1 ≠ 0) (hx : x ≤ 17000) (hB6 : B ≤ 6) (hq : q ≤ 5) : ∀ (d n c bt bw : Nat) (T : St), c + d = 7 ^ P 6 j → d < n → RM P T → bt ≤ 12001 → (bt = 0 ∨ bw < 7 ^ P 6 j) → ∃ T1, f_X8_work_l95 n (nI j) (nI x) (nI B) (nI q) (encW bt bw) (nI (bt - 1)) (nI (7 ^ P 6 j)) (nI c) T = some (wkR (dtOf P j) q (bB (wkN (dtOf P j) B x) d c bt bw), T1) ∧ KM T T1 := by
  have h8 := hO.h8
  have hB := MB_of hO hj
  have hm5 : P 6 j ≤ 5 := hB.2.1
  obtain ⟨p7, p1⟩ := pow7 hm5
  intro d
  induction d with
  | zero =>
    intro n c bt bw T hc hn hR hb hbw
    obtain ⟨n, rfl⟩ : ∃ a, n = a + 1 := ⟨n - 1, by omega⟩
    refine ⟨T, ?_, KM.rf T⟩
    rw [f_X8_work_l95, if_pos (nI_le (by omega) (by omega)), bB]
    unfold f_X8_work_b285 wkR
    by_cases hb0 : bt = 0
    · rw [if_pos (show encW bt bw = -1 from by rw [hb0]; rfl), if_pos (show encW bt bw = -1 from by rw [hb0]; rfl)]
      by_cases hq0 : q = 0
      · rw [if_pos hq0, hb0]; rfl
      · rw [if_neg hq0, if_pos hb0]
    · have hbw := hbw.resolve_left hb0
      have hne : ¬ encW bt bw = -1 := fun z => hb0 ((encW_n (by omega)).mp z)
      rw [if_neg hne, if_neg hne]
      by_cases hq0 : q = 0
      · rw [hq0, if_pos (by decide), if_pos rfl]
        unfold encT
        rw [if_neg hb0]
      · rw [if_neg (fun z => hq0 ((nI0 (by omega)).mp z)), if_neg hq0, if_neg hb0, inb_nI (show j < 8 by omega) (by decide), grd_t, grd_t, cl_nI (by omega), (hR.2.2.2.2.2.2.1 j hj).2.1, show encW bt bw = nI bw from by unfold encW; rw [if_neg hb0], lett_e]
        by_cases hmq : P 6 j < q
        · rw [if_neg (nI_ge (by omega) (by omega))]
          exact congrArg (fun z => some (z, T)) (if_pos hmq).symm
        · rw [if_pos (nI_le (by omega) (by omega)), l319 hq T (P 6 j - q) FU (P 6 j) bw (by omega) (by unfold FU; omega) hm5 (by omega)]
          exact congrArg (fun z => some (z, T)) (if_neg hmq).symm
  | succ d ih =>
    intro n c bt bw T hc hn hR hb hbw
    obtain ⟨n, rfl⟩ : ∃ a, n = a + 1 := ⟨n - 1, by omega⟩
    obtain ⟨T1, e1, k1, m1⟩ := f_take hR hO hj
    rw [f_X8_work_l95, if_neg (nI_ge (by omega) (by omega)), e1, bnd_some, lett_e, m1.2.1]
    obtain ⟨T2, n2, e2, k2, r2⟩ := dig8 (m := P 6 j) (nn := dtOf P j 5) (c := c) hm5 (by omega) (fun k hk => (hB.2.2.2.2.2.2.2 k hk).2) (f_X8_work_l95 n) (nI j) (nI x) (nI B) (nI q) (encW bt bw) (nI (bt - 1)) (nI (7 ^ P 6 j)) (nI c) T1 (P 6 j) FU 0 T1 (by omega) (by unfold FU; omega) (fun _ _ => rfl) (fun k hk => (m1.2.2.2.2.2 k hk).2) (fun _ k hk1 hk2 => absurd hk2 (by omega))
    rw [Nat.pow_zero, Nat.div_one] at e2
    have e2' : f_X8_work_l125 (f_X8_work_l95 n) FU (nI j) (nI x) (nI B) (nI q) (encW bt bw) (nI (bt - 1)) (nI (7 ^ P 6 j)) (nI c) (nI c) 0 1 (nI (dtOf P j 6 1) - 1) T1 = _ := e2
    rw [e2', f_X8_work_l125, if_pos (by decide)]
    have hK2 : KM T T2 := k1.tr (fun c k hp => by
      unfold pmB at hp
      rw [k2 c (by omega)])
    unfold f_X8_work_b231 f_X8_work_b235 f_X8_work_b236 f_X8_work_b250 f_X8_work_b266 f_X8_work_b268
    rw [lett_e, nI_1]
    obtain ⟨T3, e3, k3⟩ := ih n (c + 1) bt bw T2 (by omega) (by omega) (hR.km h8 hK2) hb hbw
    have hst := sumT_le (f := ed c) (b := 6) (P 6 j) (fun k _ => by have := ed_lt c k; omega)
    have hst2 : P 6 j * 6 ≤ 5 * 6 := Nat.mul_le_mul_right 6 hm5
    by_cases hv : vW (P 6 j) (dtOf P j 5) c (P 6 j) = true
    · rw [show flg (vW (P 6 j) (dtOf P j 5) c (P 6 j)) = 1 from by unfold flg; rw [if_pos hv], if_neg i10]
      by_cases hs : sumT (ed c) (P 6 j) ≤ B
      · have hok : okW (dtOf P j 6 1) B (dtOf P j 5) c := ⟨hv, hs⟩
        rw [if_neg (nI_nlt hs (by omega))]
        have hB' := dNn_MB hB c
        have mm : MM (dNn (dtOf P j) (spN (dtOf P j) c)) T2 := m1.n k2 (fun k hk => r2 hv k hk)
        obtain ⟨T4, e4, k4, r4⟩ := f_go8 hB' (show 0 < dNn (dtOf P j) (spN (dtOf P j) c) 6 0 from Nat.pos_of_ne_zero h0) hx mm
        have hb2 : goN (dNn (dtOf P j) (spN (dtOf P j) c)) x 0 0 ≤ 2 := (goR_b _ _ 0 _ 0 0 (fun _ => 0) (fun _ => 0)).1
        have ht := tN_le hB' x
        have ewk : wkN (dtOf P j) B x c = tN (dNn (dtOf P j) (spN (dtOf P j) c)) x := wkN_y hok
        have hK4 : KM T T4 := hK2.tr k4.km
        rw [e4, bnd_some, r4.1, r4.2.2.1, if_neg i10, if_neg i10, if_pos i00, if_pos i00, lett_e, lett_e]
        obtain ⟨T5, e5, k5⟩ := ih n (c + 1) bt bw T4 (by omega) (by omega) (hR.km h8 hK4) hb hbw
        by_cases hz : goN (dNn (dtOf P j) (spN (dtOf P j) c)) x 0 0 = 0
        · have etn : tN (dNn (dtOf P j) (spN (dtOf P j) c)) x = goN (dNn (dtOf P j) (spN (dtOf P j) c)) x 0 2 + 1 := by unfold tN; rw [if_pos hz]
          obtain ⟨T6, e6, k6⟩ := ih n (c + 1) (wkN (dtOf P j) B x c) c T4 (by omega) (by omega) (hR.km h8 hK4) (by omega) (Or.inr (by omega))
          rw [show encW (wkN (dtOf P j) B x c) c = nI c from by unfold encW; rw [if_neg (by omega)], show wkN (dtOf P j) B x c - 1 = goN (dNn (dtOf P j) (spN (dtOf P j) c)) x 0 2 by omega] at e6
          rw [hz, if_pos (by decide)]
          by_cases hb0 : bt = 0
          · rw [if_pos (show encW bt bw = -1 from by rw [hb0]; rfl), bB_y ⟨by omega, Or.inl hb0⟩]
            exact ⟨T6, e6, hK4.tr k6⟩
          · have hbw := hbw.resolve_left hb0
            rw [if_neg (fun z => hb0 ((encW_n (by omega)).mp z))]
            by_cases hlt : wkN (dtOf P j) B x c < bt
            · rw [if_neg (nI_ge (by omega) (by omega)), bB_y ⟨by omega, Or.inr hlt⟩]
              exact ⟨T6, e6, hK4.tr k6⟩
            · rw [if_pos (nI_le (by omega) (by omega)), bB_n (fun z => z.2.elim hb0 hlt)]
              exact ⟨T5, e5, hK4.tr k5⟩
        · have etn : tN (dNn (dtOf P j) (spN (dtOf P j) c)) x = 0 := by unfold tN; rw [if_neg hz]
          rw [if_neg (fun z => hz ((nI0 (by omega)).mp z)), bB_n (fun z => z.1 (by omega))]
          exact ⟨T5, e5, hK4.tr k5⟩
      · rw [if_pos ((nI_ltI (by omega) (by omega)).mpr (by omega)), bB_n (fun z => z.1 (wkN_z (fun h => hs h.2)))]
        exact ⟨T3, e3, hK2.tr k3⟩
    · rw [show flg (vW (P 6 j) (dtOf P j 5) c (P 6 j)) = 0 from by unfold flg; rw [if_neg hv], if_pos i00, bB_n (fun z => z.1 (wkN_z (fun h => hv h.1)))]
      exact ⟨T3, e3, hK2.tr k3⟩
theorem pow68 {P : Dt} {t j : Nat} {T : St} (hR : RM P T) (hO : OK P t) (hj : j < P 20 3) (x2 x3 x4 x5 x6 : Int32) : ∀ (d n i : Nat), i + d = P 6 j → d < n → f_X8_work_l68 n (nI j) x2 x3 x4 x5 x6 (nI (7 ^ i)) (nI i) T = f_X8_work_l95 FU (nI j) x2 x3 x4 x5 x6 (nI (7 ^ P 6 j)) 0 T := by
  have h8 := hO.h8
  have hm5 := (hO.2.2.2.2.2.2.1 j hj).2.2.1
  intro d
  induction d with
  | zero =>
    intro n i hi hn
    obtain ⟨n, rfl⟩ : ∃ a, n = a + 1 := ⟨n - 1, by omega⟩
    rw [f_X8_work_l68, inb_nI (show j < 8 by omega) (by decide), grd_t, cl_nI (by omega), (hR.2.2.2.2.2.2.1 j hj).2.1, if_pos (nI_le (by omega) (by omega)), show i = P 6 j by omega]
  | succ d ih =>
    intro n i hi hn
    obtain ⟨n, rfl⟩ : ∃ a, n = a + 1 := ⟨n - 1, by omega⟩
    rw [f_X8_work_l68, inb_nI (show j < 8 by omega) (by decide), grd_t, cl_nI (by omega), (hR.2.2.2.2.2.2.1 j hj).2.1, if_neg (nI_ge (by omega) (by omega)), lett_e, lett_e, nI_1, show (7 : Int32) = nI 7 from rfl, pk_mul, ← Nat.pow_succ]
    exact ih n (i + 1) (by omega) (by omega)
theorem in6y {x : Int32} {S : St} (h : 0 ≤ x ∧ x ≤ 6) : f_X8_in x.toInt64 0 6 S = some (1, S) := w8y h
theorem in6n {x : Int32} {S : St} (h : ¬ (0 ≤ x ∧ x ≤ 6)) : f_X8_in x.toInt64 0 6 S = some (0, S) := w8n h
theorem in5y {x : Int32} {S : St} (h : 0 ≤ x ∧ x ≤ 5) : f_X8_in x.toInt64 0 5 S = some (1, S) := w8y h
theorem in5n {x : Int32} {S : St} (h : ¬ (0 ≤ x ∧ x ≤ 5)) : f_X8_in x.toInt64 0 5 S = some (0, S) := w8n h
theorem ed_0 (d : Nat) : ed 0 d = 0 := by unfold ed; rw [Nat.zero_div]
theorem op_work (x1 x2 x3 x4 : Int32) : Op (f_X7_work x1 x2 x3 x4) (f_X8_work x1 x2 x3 x4) := by
  refine Op.ask (fun t P hO => ?_)
  have h8 := hO.h8
  have e7 : ∀ S : St, ∃ s0 : Int32, f_X7_work x1 x2 x3 x4 S = f_X7_work_b28 x1 x2 x3 x4 s0 x2 x1 S ∧ (((0 ≤ x3 ∧ x3 ≤ 6) ∧ (0 ≤ x4 ∧ x4 ≤ 5)) → s0 = 1) ∧ (¬ ((0 ≤ x3 ∧ x3 ≤ 6) ∧ (0 ≤ x4 ∧ x4 ≤ 5)) → s0 = 0) := by
    intro S
    unfold f_X7_work f_X7_work_b27
    by_cases a3 : 0 ≤ x3 ∧ x3 ≤ 6
    · rw [w7y a3, bnd_some, if_neg i10]
      by_cases a4 : 0 ≤ x4 ∧ x4 ≤ 5
      · rw [w7y a4, bnd_some, if_neg i10]
        exact ⟨1, rfl, fun _ => rfl, fun q => absurd ⟨a3, a4⟩ q⟩
      · rw [w7n a4, bnd_some, if_pos i00]
        exact ⟨0, rfl, fun q => absurd q.2 a4, fun _ => rfl⟩
    · rw [w7n a3, bnd_some, if_pos i00]
      exact ⟨0, rfl, fun q => absurd q.1 a3, fun _ => rfl⟩
  by_cases hc : isC P x1
  · by_cases hh : P 20 1 = 0
    · refine ⟨-103, fun S hR => ⟨S, ?_, KC.rf S⟩, fun T hR => ⟨T, ?_, KM.rf T⟩⟩
      · obtain ⟨s0, e, -⟩ := e7 S
        rw [e]
        unfold f_X7_work_b28
        rw [r7h hR hc hh, bnd_some, if_neg n103]
      · unfold f_X8_work
        rw [c8y hO hR hc, bnd_some, if_neg i10, l8n hR hh, bnd_some, if_neg i10]
    · by_cases hs : isSw x2
      · by_cases ha : (0 ≤ x3 ∧ x3 ≤ 6) ∧ (0 ≤ x4 ∧ x4 ≤ 5)
        · obtain ⟨j, hj, rfl⟩ := rng (by omega) hc
          obtain ⟨x, hx, rfl⟩ := isSw_nI hs
          obtain ⟨B, hB6, rfl⟩ := rngle (n := 6) (by decide) ha.1.1 ha.1.2
          obtain ⟨q, hq, rfl⟩ := rngle (n := 5) (by decide) ha.2.1 ha.2.2
          have hB := MB_of hO hj
          have hm0 : 0 < dtOf P j 6 0 := Nat.pos_of_ne_zero hh
          have hm5 : P 6 j ≤ 5 := hB.2.1
          obtain ⟨p7, p1⟩ := pow7 hm5
          have hok0 : okW (dtOf P j 6 1) B (dtOf P j 5) 0 := ⟨(vW_iff _).mpr (fun d _ => by rw [ed_0]; omega), by rw [sumT_z _ (fun k _ => ed_0 k)]; omega⟩
          refine ⟨wkR (dtOf P j) q (bB (wkN (dtOf P j) B x) (7 ^ P 6 j) 0 0 0), fun S hR => ?_, fun T hR => ?_⟩
          · obtain ⟨s0, e, q1, -⟩ := e7 S
            rw [e, q1 ha]
            unfold f_X7_work_b28
            obtain ⟨S1, e1, k1, m1, z1⟩ := f_mount hR hO hj
            obtain ⟨S2, e2, k2, b2⟩ := f_clear S1
            have hG : WG (dtOf P j 6 1) (dtOf P j 5) (ed 0) S2 := fun k hk => by
              have hk' : k < P 6 j := hk
              rw [k2 47 (by decide), k2 46 (by decide), ed_0, Nat.sub_zero]
              exact ⟨z1 k (by omega), (m1.2.2.2.2.2 k hk).2⟩
            obtain ⟨S3, e3, k3⟩ := work7 hB hm0 (show x ≤ 17000 by omega) hB6 hq (7 ^ P 6 j) FU 0 0 0 0 0 S2 (by rw [Nat.zero_add]; rfl) (by omega) (by unfold FU; omega) hok0 (Nat.zero_le _) (by omega) ((m1.fp (FP.o51 k2)).mz) hG b2 (fun z => absurd rfl z)
            refine ⟨S3, ?_, (k1.kc.tr (FP.o51 k2).kc).tr k3.kc⟩
            rw [r7y hO hR hc hh hs, bnd_some, if_pos i00, inb_nI (show j < 8 by omega) (by decide), grd_t, cl_nI (by omega), hR.2.2.2.2.2.2.2.1, e1, bnd_some, e2, bnd_some]
            exact e3
          · obtain ⟨T1, e1, k1⟩ := work8 hO hj hh (show x ≤ 17000 by omega) hB6 hq (7 ^ P 6 j) FU 0 0 0 T (by omega) (by unfold FU; omega) hR (by omega) (Or.inl rfl)
            refine ⟨T1, ?_, k1⟩
            unfold f_X8_work
            rw [c8y hO hR hc, bnd_some, if_neg i10, l8y hO hR hh, bnd_some, if_pos i00, s8y hs, bnd_some, if_neg i10, in6y ha.1, bnd_some, if_neg i10, in5y ha.2, bnd_some, if_neg i10]
            have e0 := pow68 hR hO hj (nI x) (nI B) (nI q) (-1) 0 (P 6 j) FU 0 (by omega) (by unfold FU; omega)
            have e0' : f_X8_work_l68 FU (nI j) (nI x) (nI B) (nI q) (-1) 0 1 0 T = _ := e0
            rw [e0']
            exact e1
        · refine ⟨-102, fun S hR => ⟨S, ?_, KC.rf S⟩, fun T hR => ⟨T, ?_, KM.rf T⟩⟩
          · obtain ⟨s0, e, -, q⟩ := e7 S
            rw [e, q ha]
            unfold f_X7_work_b28
            rw [r7w hO hR hc hh hs, bnd_some, if_neg n102]
          · unfold f_X8_work
            rw [c8y hO hR hc, bnd_some, if_neg i10, l8y hO hR hh, bnd_some, if_pos i00, s8y hs, bnd_some, if_neg i10]
            by_cases a3 : 0 ≤ x3 ∧ x3 ≤ 6
            · rw [in6y a3, bnd_some, if_neg i10, in5n (fun q => ha ⟨a3, q⟩), bnd_some, if_pos i00]
            · rw [in6n a3, bnd_some, if_pos i00]
      · refine ⟨-102, fun S hR => ⟨S, ?_, KC.rf S⟩, fun T hR => ⟨T, ?_, KM.rf T⟩⟩
        · obtain ⟨s0, e, -⟩ := e7 S
          rw [e]
          unfold f_X7_work_b28
          rw [r7s hO hR hc hh hs, bnd_some, if_neg n102]
        · unfold f_X8_work
          rw [c8y hO hR hc, bnd_some, if_neg i10, l8y hO hR hh, bnd_some, if_pos i00, s8n hs, bnd_some, if_pos i00]
  · refine ⟨-101, fun S hR => ⟨S, ?_, KC.rf S⟩, fun T hR => ⟨T, ?_, KM.rf T⟩⟩
    · obtain ⟨s0, e, -⟩ := e7 S
      rw [e]
      unfold f_X7_work_b28
      rw [r7c hR hc, bnd_some, if_neg n101]
    · unfold f_X8_work
      rw [c8n hO hR hc, bnd_some, if_pos i00]
