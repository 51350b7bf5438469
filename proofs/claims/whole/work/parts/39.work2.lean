-- ===== work =====
def dNn (D : Dt) (r : Nat → Nat) : Dt := fun i k => if i = 5 then r k else D i k
def spN (D : Dt) (c : Nat) : Nat → Nat := fun k => D 5 k - ed c (D 6 1 - 1 - k)
def wkN (D : Dt) (B x c : Nat) : Nat := if vW (D 6 1) (D 5) c (D 6 1) = true ∧ sumT (ed c) (D 6 1) ≤ B then tN (dNn D (spN D c)) x else 0
theorem dNn_MB {D : Dt} (h : MB D) (c : Nat) : MB (dNn D (spN D c)) := by
  obtain ⟨h1, h2, h3, h4, h5, h6, h7, h8⟩ := h
  exact ⟨h1, h2, h3, h4, h5, h6, h7, fun k hk => ⟨(h8 k hk).1, by show D 5 k - _ ≤ 9; have := (h8 k hk).2; omega⟩⟩
theorem wkN_le {D : Dt} (hB : MB D) (B x c : Nat) : wkN D B x c ≤ 12001 := by
  unfold wkN
  have := tN_le (dNn_MB hB c) x
  split <;> omega
theorem wkN_z {D : Dt} {B x c : Nat} (h : ¬ okW (D 6 1) B (D 5) c) : wkN D B x c = 0 := if_neg h
theorem wkN_y {D : Dt} {B x c : Nat} (h : okW (D 6 1) B (D 5) c) : wkN D B x c = tN (dNn D (spN D c)) x := if_pos h
def WG (m : Nat) (nn g : Nat → Nat) (S : St) : Prop := ∀ k, k < m → S 47 k = nI (g (m - 1 - k)) ∧ S 46 k = nI (nn k - g (m - 1 - k))
def MZ (D : Dt) (S : St) : Prop := S 3 4 = nI (D 6 0) ∧ S 44 5 = nI (D 6 1) ∧ S 44 6 = nI (D 6 2) ∧ S 44 7 = nI (D 6 3) ∧ (∀ c, c < D 6 0 → S 4 c = nI (D 0 c) ∧ S 5 c = nI (D 1 c) ∧ S 6 c = nI (D 2 c) ∧ S 48 c = nI (D 3 c)) ∧ ∀ k, k < D 6 1 → S 45 k = nI (D 4 k)
theorem MC.mz {D : Dt} {S : St} (h : MC D S) : MZ D S := ⟨h.1, h.2.1, h.2.2.1, h.2.2.2.1, h.2.2.2.2.1, fun k hk => (h.2.2.2.2.2 k hk).1⟩
theorem MZ.mc {D : Dt} {S : St} {c : Nat} (h : MZ D S) (hG : WG (D 6 1) (D 5) (ed c) S) : MC (dNn D (spN D c)) S := ⟨h.1, h.2.1, h.2.2.1, h.2.2.2.1, h.2.2.2.2.1, fun k hk => ⟨h.2.2.2.2.2 k hk, (hG k hk).2⟩⟩
def FW (S S1 : St) : Prop := ∀ c j : Nat, c ≠ 46 → c ≠ 47 → c ≠ 49 → c ≠ 50 → c ≠ 51 → c ≠ 52 → (c ≠ 44 ∨ j < 8 ∨ 12 < j) → S1 c j = S c j
theorem FW.rf (S : St) : FW S S := fun _ _ _ _ _ _ _ _ _ => rfl
theorem FW.tr {S S1 S2 : St} (h1 : FW S S1) (h2 : FW S1 S2) : FW S S2 := fun c j a b d e f g k => (h2 c j a b d e f g k).trans (h1 c j a b d e f g k)
theorem FP.fw {S S1 : St} (h : FP S S1) : FW S S1 := fun c j _ _ a b e _ f => h c j a b e f
theorem FW.o {S S1 : St} (h : ∀ c, c ≠ 46 → c ≠ 47 → S1 c = S c) : FW S S1 := fun c j a b _ _ _ _ _ => by rw [h c a b]
theorem FW.o52 {S S1 : St} (h : ∀ c, c ≠ 52 → S1 c = S c) : FW S S1 := fun c j _ _ _ _ _ a _ => by rw [h c a]
theorem FW.kc {S S1 : St} (h : FW S S1) : KC S S1 := fun c hc => by
  funext j
  exact h c j (by omega) (by omega) (by omega) (by omega) (by omega) (by omega) (Or.inl (by omega))
theorem MZ.fw {D : Dt} {S S1 : St} (h : MZ D S) (hF : FW S S1) : MZ D S1 := by
  obtain ⟨h1, h2, h3, h4, h5, h6⟩ := h
  refine ⟨?_, ?_, ?_, ?_, fun c hc => ?_, fun k hk => ?_⟩
  · rw [hF 3 4 (by decide) (by decide) (by decide) (by decide) (by decide) (by decide) (Or.inl (by decide))]; exact h1
  · rw [hF 44 5 (by decide) (by decide) (by decide) (by decide) (by decide) (by decide) (Or.inr (Or.inl (by decide)))]; exact h2
  · rw [hF 44 6 (by decide) (by decide) (by decide) (by decide) (by decide) (by decide) (Or.inr (Or.inl (by decide)))]; exact h3
  · rw [hF 44 7 (by decide) (by decide) (by decide) (by decide) (by decide) (by decide) (Or.inr (Or.inl (by decide)))]; exact h4
  · rw [hF 4 c (by decide) (by decide) (by decide) (by decide) (by decide) (by decide) (Or.inl (by decide)), hF 5 c (by decide) (by decide) (by decide) (by decide) (by decide) (by decide) (Or.inl (by decide)), hF 6 c (by decide) (by decide) (by decide) (by decide) (by decide) (by decide) (Or.inl (by decide)), hF 48 c (by decide) (by decide) (by decide) (by decide) (by decide) (by decide) (Or.inl (by decide))]; exact h5 c hc
  · rw [hF 45 k (by decide) (by decide) (by decide) (by decide) (by decide) (by decide) (Or.inl (by decide))]; exact h6 k hk
theorem pm1 (x : Int32) : x + (-1) = x - 1 := by rw [Int32.sub_eq_add_neg]
theorem nI_km {a : Nat} (h : 0 < a) : nI a - 1 = nI (a - 1) := by
  obtain ⟨b, rfl⟩ : ∃ b, a = b + 1 := ⟨a - 1, by omega⟩
  rw [nI_pred, Nat.add_sub_cancel]
theorem spend34 {m B : Nat} {nn : Nat → Nat} {c : Nat} (hm : m ≤ 5) (hB : B ≤ 6) (hn9 : ∀ k, k < m → nn k ≤ 9) (hc : c < 7 ^ m) (hok : okW m B nn c) : ∀ (d n q : Nat) (S : St), q + d = m → d < n → deadW m B nn c q → WG m nn (fun i => if i < q then 0 else ed c i) S → ∃ r S1, f_X6_spendNext_l34 n (nI B) (nI (sumT (ed c) m - sumT (ed c) q)) (nI (m - q) - 1) S = some (r, S1) ∧ (∀ c', c' ≠ 46 → c' ≠ 47 → S1 c' = S c') ∧ ((r = 0 ∧ ∀ e, c < e → e < 7 ^ m → ¬ okW m B nn e) ∨ (r = 1 ∧ ∃ c', c < c' ∧ c' < 7 ^ m ∧ okW m B nn c' ∧ (∀ e, c < e → e < c' → ¬ okW m B nn e) ∧ WG m nn (ed c') S1)) := by
  have htot : sumT (ed c) m ≤ 6 := by have := hok.2; omega
  intro d
  induction d with
  | zero =>
    intro n q S hq hn hD hG
    obtain ⟨n, rfl⟩ : ∃ a, n = a + 1 := ⟨n - 1, by omega⟩
    obtain rfl : q = m := by omega
    refine ⟨0, S, ?_, fun _ _ _ => rfl, Or.inl ⟨rfl, fun e h1 h2 => hD e h1 (by rw [Nat.div_eq_of_lt h2, Nat.div_eq_of_lt hc])⟩⟩
    rw [f_X6_spendNext_l34, Nat.sub_self, if_pos (by decide)]
  | succ d ih =>
    intro n q S hq hn hD hG
    obtain ⟨n, rfl⟩ : ∃ a, n = a + 1 := ⟨n - 1, by omega⟩
    have hqm : q < m := by omega
    have hsp := sum_split c m q hqm
    have hv := (vW_iff m).mp hok.1 q hqm
    have hk := hG (m - 1 - q) (by omega)
    rw [show m - 1 - (m - 1 - q) = q by omega] at hk
    have g0 : (if q < q then 0 else ed c q) = ed c q := if_neg (Nat.lt_irrefl _)
    have hk47 : S 47 (m - 1 - q) = nI (ed c q) := by rw [hk.1]; exact congrArg nI g0
    have hk46 : S 46 (m - 1 - q) = nI (nn (m - 1 - q) - ed c q) := by rw [hk.2]; exact congrArg (fun z => nI (nn (m - 1 - q) - z)) g0
    have h9 := hn9 (m - 1 - q) (by omega)
    rw [f_X6_spendNext_l34, nI_km (by omega), show m - q - 1 = m - 1 - q by omega, if_neg (nI_pos (by omega)), inb_nI (show m - 1 - q < 5 by omega) (by decide), grd_t, cl_nI (by omega), hk46]
    have reset : (B ≤ sumT (ed c) m - sumT (ed c) q ∨ nn (m - 1 - q) ≤ ed c q) → ∃ r S1, f_X6_spendNext_b74 (f_X6_spendNext_l34 n) (nI B) (nI (sumT (ed c) m - sumT (ed c) q)) (nI (m - 1 - q)) S = some (r, S1) ∧ (∀ c', c' ≠ 46 → c' ≠ 47 → S1 c' = S c') ∧ ((r = 0 ∧ ∀ e, c < e → e < 7 ^ m → ¬ okW m B nn e) ∨ (r = 1 ∧ ∃ c', c < c' ∧ c' < 7 ^ m ∧ okW m B nn c' ∧ (∀ e, c < e → e < c' → ¬ okW m B nn e) ∧ WG m nn (ed c') S1)) := by
      intro hf
      unfold f_X6_spendNext_b74
      rw [inb_nI (show m - 1 - q < 5 by omega) (by decide), grd_t, lett_e, grd_t, grd_t, grd_t, lett_e, grd_t, lett_e, lett_e, cl_nI (by omega), hk46, hk47, pk_sub (show ed c q ≤ sumT (ed c) m - sumT (ed c) q by omega), nI_add, pm1, show sumT (ed c) m - sumT (ed c) q - ed c q = sumT (ed c) m - sumT (ed c) (q + 1) by rw [sumT]; omega, show m - 1 - q = m - (q + 1) by omega]
      obtain ⟨r, S1, e1, k1, o1⟩ := ih n (q + 1) (su (su S 46 (m - (q + 1)) (nI (nn (m - (q + 1)) - ed c q + ed c q))) 47 (m - (q + 1)) 0) (by omega) (by omega) (dead1 hqm hD hf) (fun k hk => by
        by_cases hkk : k = m - (q + 1)
        · subst hkk
          rw [su_s, su_o (by decide), su_s]
          have e0 : (if m - 1 - (m - (q + 1)) < q + 1 then 0 else ed c (m - 1 - (m - (q + 1)))) = 0 := if_pos (by omega)
          refine ⟨?_, ?_⟩
          · exact (congrArg nI e0).symm
          · rw [show nn (m - (q + 1)) - ed c q + ed c q = nn (m - (q + 1)) - 0 by rw [show m - (q + 1) = m - 1 - q by omega]; omega]
            exact (congrArg (fun z => nI (nn (m - (q + 1)) - z)) e0).symm
        · rw [su_k hkk, su_o (by decide), su_o (by decide), su_k hkk]
          have e0 : (if m - 1 - k < q + 1 then 0 else ed c (m - 1 - k)) = (if m - 1 - k < q then 0 else ed c (m - 1 - k)) := by
            by_cases h1 : m - 1 - k < q
            · rw [if_pos h1, if_pos (by omega)]
            · rw [if_neg h1, if_neg (by omega)]
          obtain ⟨g1, g2⟩ := hG k hk
          refine ⟨?_, ?_⟩
          · rw [g1]; exact (congrArg nI e0).symm
          · rw [g2]; exact (congrArg (fun z => nI (nn k - z)) e0).symm)
      refine ⟨r, S1, e1, fun c' h1 h2 => ?_, o1⟩
      rw [k1 c' h1 h2, su_o h2, su_o h1]
    by_cases f1 : B ≤ sumT (ed c) m - sumT (ed c) q
    · rw [if_pos (nI_le f1 (by omega))]
      exact reset (Or.inl f1)
    · rw [if_neg (nI_ge (by omega) (by omega))]
      by_cases f2 : nn (m - 1 - q) ≤ ed c q
      · rw [show nn (m - 1 - q) - ed c q = 0 by omega, if_pos (by decide)]
        exact reset (Or.inr f2)
      · have h6 : ed c q < 6 := by omega
        rw [if_neg (nI_nle (by omega) (by omega)), grd_t, grd_t, lett_e, grd_t, grd_t, lett_e, su_o (show (46 : Nat) ≠ 47 by decide), hk46, hk47, nI_1, nI_km (by omega)]
        refine ⟨1, _, rfl, fun c' h1 h2 => by rw [su_o h1, su_o h2], Or.inr ⟨rfl, nxW c q, nx_gt c q, nx_lt hqm h6 hc, nx_ok hqm h6 hok.1 (by omega) (by omega), fun e h1 h2 => nx_dead hD h1 h2, fun k hk => ?_⟩⟩
        by_cases hkk : k = m - 1 - q
        · subst hkk
          rw [su_o (by decide), su_s, su_s, show m - 1 - (m - 1 - q) = q by omega, nx_ed h6, if_neg (Nat.lt_irrefl _), if_pos rfl]
          exact ⟨rfl, by rw [Nat.sub_sub]⟩
        · rw [su_o (by decide), su_k hkk, su_k hkk, su_o (by decide)]
          obtain ⟨g1, g2⟩ := hG k hk
          have e0 : (if m - 1 - k < q then 0 else ed c (m - 1 - k)) = ed (nxW c q) (m - 1 - k) := by
            rw [nx_ed h6]
            by_cases h1 : m - 1 - k < q
            · rw [if_pos h1, if_pos h1]
            · rw [if_neg h1, if_neg h1, if_neg (by omega)]
          refine ⟨?_, ?_⟩
          · rw [g1]; exact congrArg nI e0
          · rw [g2]; exact congrArg (fun z => nI (nn k - z)) e0
theorem spend4 {m : Nat} {g : Nat → Nat} (hm : m ≤ 5) (hg : ∀ i, g i < 7) {S : St} (h5 : S 44 5 = nI m) (h47 : ∀ k, k < m → S 47 k = nI (g (m - 1 - k))) (x1 : Int32) : ∀ (d n k : Nat), k + d = m → d < n → f_X6_spendNext_l4 n x1 (nI (sumT (fun k => g (m - 1 - k)) k)) (nI k) S = f_X6_spendNext_l34 FU x1 (nI (sumT g m)) (nI m - 1) S := by
  intro d
  induction d with
  | zero =>
    intro n k hk hn
    obtain ⟨n, rfl⟩ : ∃ a, n = a + 1 := ⟨n - 1, by omega⟩
    obtain rfl : k = m := by omega
    rw [f_X6_spendNext_l4, h5, if_pos (nI_le (Nat.le_refl _) (by omega)), lett_e, sumT_rev]
  | succ d ih =>
    intro n k hk hn
    obtain ⟨n, rfl⟩ : ∃ a, n = a + 1 := ⟨n - 1, by omega⟩
    rw [f_X6_spendNext_l4, h5, if_neg (nI_ge (by omega) (by omega)), inb_nI (show k < 5 by omega) (by decide), grd_t, cl_nI (by omega), h47 k (by omega), nI_add, lett_e, lett_e, nI_1]
    exact ih n (k + 1) (by omega) (by omega)
theorem f_spend {m B : Nat} {nn : Nat → Nat} {c : Nat} (hm : m ≤ 5) (hB : B ≤ 6) (hn9 : ∀ k, k < m → nn k ≤ 9) (hc : c < 7 ^ m) (hok : okW m B nn c) {S : St} (h5 : S 44 5 = nI m) (hG : WG m nn (ed c) S) : ∃ r S1, f_X6_spendNext (nI B) S = some (r, S1) ∧ (∀ c', c' ≠ 46 → c' ≠ 47 → S1 c' = S c') ∧ ((r = 0 ∧ ∀ e, c < e → e < 7 ^ m → ¬ okW m B nn e) ∨ (r = 1 ∧ ∃ c', c < c' ∧ c' < 7 ^ m ∧ okW m B nn c' ∧ (∀ e, c < e → e < c' → ¬ okW m B nn e) ∧ WG m nn (ed c') S1)) := by
  unfold f_X6_spendNext
  have e0 := spend4 hm (ed_lt c) h5 (fun k hk => (hG k hk).1) (nI B) m FU 0 (by omega) (by unfold FU; omega)
  have e0' : f_X6_spendNext_l4 FU (nI B) 0 0 S = _ := e0
  rw [e0']
  exact spend34 hm hB hn9 hc hok m FU 0 S (by omega) (by unfold FU; omega) (dead0 m B nn c) hG
/-- the answer -/
def wkR (D : Dt) (q : Nat) (b : Nat × Nat) : Int32 := if q = 0 then encT b.1 else if b.1 = 0 then -1 else if D 6 1 < q then -1 else nI (ed b.2 (D 6 1 - q))
theorem work7 {D : Dt} (hB : MB D) (h0 : 0 < D 6 0) {x B q : Nat} (hx : x ≤ 17000) (hB6 : B ≤ 6) (hq : q ≤ 5) : ∀ (e n c i bt bw w : Nat) (S : St), c + e = 7 ^ D 6 1 → 0 < e → e + 1 < n → okW (D 6 1) B (D 5) c → i ≤ rk c → bt ≤ 12001 → MZ D S → WG (D 6 1) (D 5) (ed c) S → BO bt w S → (bt ≠ 0 → ∀ k, k < D 6 1 → S 52 k = nI (ed bw (D 6 1 - 1 - k))) → ∃ S1, f_X7_work_l71 n (nI x) (nI B) (nI q) 1 (nI i) S = some (wkR D q (bB (wkN D B x) e c bt bw), S1) ∧ FW S S1 := by
  have hm5 := hB.2.1
  obtain ⟨p7, p1⟩ := pow7 hm5
  have fin : ∀ (n bt bw w i : Nat) (S : St), MZ D S → bt ≤ 12001 → BO bt w S → (bt ≠ 0 → ∀ k, k < D 6 1 → S 52 k = nI (ed bw (D 6 1 - 1 - k))) → f_X7_work_l71 (n + 1) (nI x) (nI B) (nI q) 0 (nI i) S = some (wkR D q (bt, bw), S) := by
    intro n bt bw w i S hM hb hO h52
    rw [f_X7_work_l71, if_pos i00]
    unfold f_X7_work_b151 f_X7_work_b167 wkR
    rw [hO.1, hM.2.1]
    by_cases hq0 : q = 0
    · rw [hq0, if_pos (by decide), if_pos rfl]
    · rw [if_neg (fun z => hq0 ((nI0 (by omega)).mp z)), if_neg hq0]
      by_cases hb0 : bt = 0
      · rw [if_pos ((encT_n hb).mpr hb0), if_pos hb0, hb0]; rfl
      · rw [if_neg (fun z => hb0 ((encT_n hb).mp z)), if_neg hb0]
        by_cases hmq : D 6 1 < q
        · rw [if_pos ((nI_ltI (by omega) (by omega)).mpr hmq), if_pos hmq]
        · rw [if_neg (fun z => hmq ((nI_ltI (by omega) (by omega)).mp z)), if_neg hmq, nI_km (by omega), inb_nI (show q - 1 < 5 by omega) (by decide), grd_t, cl_nI (by omega), h52 hb0 (q - 1) (by omega), show D 6 1 - 1 - (q - 1) = D 6 1 - q by omega]
  intro e
  induction e using Nat.strongRecOn with
  | _ e ih =>
    intro n c i bt bw w S hc he hn hok hi hb hM hG hO h52
    obtain ⟨n, rfl⟩ : ∃ a, n = a + 1 := ⟨n - 1, by omega⟩
    have hrk := rk_le (c := c) (by omega)
    rw [f_X7_work_l71, if_neg i10, if_neg (show ¬ (1000 : Int32) ≤ nI i from nI_ge (b := 1000) (by omega) (by decide))]
    have hB' := dNn_MB hB c
    obtain ⟨S1, e1, k1, r1⟩ := f_go7 hB' (show 0 < dNn D (spN D c) 6 0 from h0) hx (hM.mc hG)
    have hO1 : BO bt w S1 := ⟨(k1 51 0 (by decide) (by decide) (Or.inl (by decide))).trans hO.1, (k1 51 1 (by decide) (by decide) (Or.inl (by decide))).trans hO.2⟩
    have hb2 : goN (dNn D (spN D c)) x 0 0 ≤ 2 := (goR_b _ _ 0 _ 0 0 (fun _ => 0) (fun _ => 0)).1
    have ht := tN_le hB' x
    have ewk : wkN D B x c = tN (dNn D (spN D c)) x := wkN_y hok
    have hG1 : WG (D 6 1) (D 5) (ed c) S1 := fun k hk => by
      rw [k1 47 k (by decide) (by decide) (Or.inl (by decide)), k1 46 k (by decide) (by decide) (Or.inl (by decide))]
      exact hG k hk
    have h521 : bt ≠ 0 → ∀ k, k < D 6 1 → S1 52 k = nI (ed bw (D 6 1 - 1 - k)) := fun z k hk => by
      rw [k1 52 k (by decide) (by decide) (Or.inl (by decide))]; exact h52 z k hk
    rw [e1, bnd_some, r1.1, r1.2.2.1]
    have go : ∀ (bt' bw' w' : Nat) (S2 : St), bt' ≤ 12001 → FW S S2 → WG (D 6 1) (D 5) (ed c) S2 → BO bt' w' S2 → (bt' ≠ 0 → ∀ k, k < D 6 1 → S2 52 k = nI (ed bw' (D 6 1 - 1 - k))) → ∃ S3, f_X7_work_b135 (f_X7_work_l71 n) (nI x) (nI B) (nI q) (nI i) S2 = some (wkR D q (bB (wkN D B x) (e - 1) (c + 1) bt' bw'), S3) ∧ FW S S3 := by
      intro bt' bw' w' S2 hb' hF2 hG2 hO2 h522
      have hM2 := hM.fw hF2
      obtain ⟨r, S3, e3, k3, o3⟩ := f_spend hm5 hB6 (fun k hk => (hB.2.2.2.2.2.2.2 k hk).2) (show c < 7 ^ D 6 1 by omega) hok hM2.2.1 hG2
      have hF3 : FW S S3 := hF2.tr (FW.o k3)
      have hO3 : BO bt' w' S3 := ⟨by rw [k3 51 (by decide) (by decide)]; exact hO2.1, by rw [k3 51 (by decide) (by decide)]; exact hO2.2⟩
      have h523 : bt' ≠ 0 → ∀ k, k < D 6 1 → S3 52 k = nI (ed bw' (D 6 1 - 1 - k)) := fun z k hk => by rw [k3 52 (by decide) (by decide)]; exact h522 z k hk
      unfold f_X7_work_b135
      rw [e3, bnd_some, lett_e, nI_1]
      rcases o3 with ⟨rfl, hno⟩ | ⟨rfl, c', h1, h2, h3, h4, h5⟩
      · obtain ⟨n, rfl⟩ : ∃ a, n = a + 1 := ⟨n - 1, by omega⟩
        refine ⟨S3, ?_, hF3⟩
        rw [fin n bt' bw' w' (i + 1) S3 (hM.fw hF3) hb' hO3 h523]
        have := bB_skip (f := wkN D B x) (d := 0) (e - 1) (c + 1) bt' bw' (fun j h1 h2 => wkN_z (hno j (by omega) (by omega)))
        rw [Nat.add_zero] at this
        rw [this, bB]
      · obtain ⟨S4, e4, k4⟩ := ih (7 ^ D 6 1 - c') (by omega) n c' (i + 1) bt' bw' w' S3 (by omega) (by omega) (by omega) h3 (rk_step hm5 hB6 (by omega) hok h1 hi) hb' (hM.fw hF3) h5 hO3 h523
        refine ⟨S4, ?_, hF3.tr k4⟩
        rw [e4]
        have := bB_skip (f := wkN D B x) (d := 7 ^ D 6 1 - c') (c' - (c + 1)) (c + 1) bt' bw' (fun j h1 h2 => wkN_z (h4 j (by omega) (by omega)))
        rw [show c' - (c + 1) + (7 ^ D 6 1 - c') = e - 1 by omega, show c + 1 + (c' - (c + 1)) = c' by omega] at this
        rw [this]
    obtain ⟨e', rfl⟩ : ∃ e', e = e' + 1 := ⟨e - 1, by omega⟩
    rw [Nat.add_sub_cancel] at go
    by_cases hz : goN (dNn D (spN D c)) x 0 0 = 0
    · have etn : tN (dNn D (spN D c)) x = goN (dNn D (spN D c)) x 0 2 + 1 := by unfold tN; rw [if_pos hz]
      obtain ⟨S2, e2, k2, b2⟩ := f_offer (i := i) hO1 (show tN (dNn D (spN D c)) x ≠ 0 by omega) (by omega) (by omega)
      rw [hz, if_pos (by decide), show goN (dNn D (spN D c)) x 0 2 = tN (dNn D (spN D c)) x - 1 by omega, e2, bnd_some]
      have hF2 : FW S S2 := (k1.fp.tr (FP.o51 k2)).fw
      have hG2 : WG (D 6 1) (D 5) (ed c) S2 := fun k hk => by
        rw [k2 47 (by decide), k2 46 (by decide)]; exact hG1 k hk
      by_cases hqq : bt = 0 ∨ tN (dNn D (spN D c)) x < bt
      · rw [if_pos hqq] at b2
        rw [if_pos hqq, if_neg i10, bB_y ⟨by rw [ewk]; omega, by rw [ewk]; exact hqq⟩]
        unfold f_X0_keepRow
        rw [lett_e, bnd_some, show (0 : Int32).toNatClampNeg = 0 from by decide, show (5 : Int32).toNatClampNeg = 5 from by decide, ewk]
        refine go (tN (dNn D (spN D c)) x) c i _ ht (hF2.tr (FW.o52 (fun c hc => sr_o hc))) (fun k hk => ?_) ⟨?_, ?_⟩ (fun _ k hk => ?_)
        · rw [sr_o (by decide), sr_o (by decide)]; exact hG2 k hk
        · rw [sr_o (by decide)]; exact b2.1
        · rw [sr_o (by decide)]; exact b2.2
        · rw [sr_s, cpy0 (by omega)]; exact (hG2 k hk).1
      · rw [if_neg hqq] at b2
        rw [if_neg hqq, if_pos i00, bB_n (fun z => hqq (by rw [ewk] at z; exact z.2))]
        exact go bt bw w S2 hb hF2 hG2 b2 (fun z k hk => by rw [k2 52 (by decide)]; exact h521 z k hk)
    · have etn : tN (dNn D (spN D c)) x = 0 := by unfold tN; rw [if_neg hz]
      rw [if_neg (fun z => hz ((nI0 (by omega)).mp z)), bB_n (fun z => z.1 (by rw [ewk]; exact etn))]
      exact go bt bw w S1 hb k1.fp.fw hG1 hO1 h521
