-- ===== digest =====
def mx (h : Int64) (v : Int32) : Int64 := 31 * h + v.toInt64
theorem f_mixed (h : Int64) (v : Int32) (S : St) : f_X7_mixed h v S = some (mx h v, S) := rfl
def HM (P : Dt) (h : Int64) (T : St) : Prop := RM P T ∧ getL (T 55) = h
theorem KM.gl {T T1 : St} (h : KM T T1) : getL (T1 55) = getL (T 55) := by
  unfold getL
  rw [h 55 100 (by unfold pmB; omega), h 55 101 (by unfold pmB; omega)]
theorem HM.km {P : Dt} {h : Int64} {T T1 : St} (hH : HM P h T) (h8 : P 20 3 ≤ 8) (hK : KM T T1) : HM P h T1 := ⟨hH.1.km h8 hK, hK.gl.trans hH.2⟩
theorem f_say {P : Dt} {h : Int64} {T : St} (hH : HM P h T) (v : Int32) : ∃ T1, f_X8_say v.toInt64 T = some ((), T1) ∧ KH T T1 ∧ HM P (mx h v) T1 ∧ ∀ c k, (c ≠ 55 ∨ k < 100) → T1 c k = T c k := by
  refine ⟨sr T 55 (setL (T 55) (31 * getL (T 55) + v.toInt64)), rfl, KH.sL T _, ⟨hH.1.sL _, ?_⟩, fun c k hq => ?_⟩
  · rw [sr_s, getL_setL, hH.2]; rfl
  · by_cases h : c = 55
    · subst h; rw [sr_s, setL_lo _ _ (by omega)]
    · rw [sr_o h]
def cv (P : Dt) (c w : Nat) : Int32 := nI (if w = 0 then P 1 c else if w = 1 then P 2 c else if w = 2 then P 3 c else P 4 c)
theorem f_cell7 {P : Dt} {t c w : Nat} {S : St} (hR : RC P S) (hO : OK P t) (hc : c < P 20 1) (hw : w < 4) : f_X7_cell (nI c) (nI w) S = some (cv P c w, S) := by
  have h12 := hO.h12
  obtain ⟨a1, a2, a3, a4⟩ := hR.2.2.2.1 c hc
  have hh : isH P (nI c) := ⟨nI_pos' (by omega), (nI_ltI (by omega) (by omega)).mpr hc⟩
  unfold f_X7_cell
  rw [h7y hR hh, bnd_some, if_neg i10, inb_nI (by omega) (by decide), grd_t, grd_t, grd_t, grd_t, cl_nI (by omega), a1, a2, a3, a4]
  rcases (show w = 0 ∨ w = 1 ∨ w = 2 ∨ w = 3 by omega) with rfl | rfl | rfl | rfl <;> rfl
theorem f_cellO8 {P : Dt} {t c w : Nat} {T : St} (hR : RM P T) (hO : OK P t) (hc : c < P 20 1) (hw : w < 4) : f_X8_cellOf (nI c) (nI w) T = some (cv P c w, T) := by
  have h12 := hO.h12
  obtain ⟨a1, a2, a3, a4⟩ := hR.2.2.2.1 c hc
  unfold f_X8_cellOf
  rw [inb_nI (show c < 12 by omega) (by decide), grd_t, grd_t, grd_t, grd_t, cl_nI (by omega), a1, a2, a3, a4]
  rcases (show w = 0 ∨ w = 1 ∨ w = 2 ∨ w = 3 by omega) with rfl | rfl | rfl | rfl <;> rfl
