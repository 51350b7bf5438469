theorem kcl_L_7 : Cond.classLink RL 7 "CartsDownHill" ∈ WT := mem_WT (List.mem_of_getElem? (i := 99) (by decide +kernel)) rfl
theorem kin_7 : Cond.instantiable "CartsDownHill" 11 ∈ WT := mem_WT (List.mem_of_getElem? (i := 100) (by decide +kernel)) rfl
theorem kit_7 : Cond.initialized "CartsDownHill" ∈ WT := mem_WT (List.mem_of_getElem? (i := 81) (by decide +kernel)) rfl
theorem df_7 : ∀ j, j < 11 → defaultValue (tyX7 j) = vp_V [.null, .null, .null, .null, .null, .null, .null, .null, .null, .int 0, .int 0] j
  | 0, _ => rfl
  | 1, _ => rfl
  | 2, _ => rfl
  | 3, _ => rfl
  | 4, _ => rfl
  | 5, _ => rfl
  | 6, _ => rfl
  | 7, _ => rfl
  | 8, _ => rfl
  | 9, _ => rfl
  | 10, _ => rfl
  | j + 11, h => absurd h (by omega)
theorem kcl_L_10 : Cond.classLink RL 10 "CartsDownHillModel" ∈ WT := mem_WT (List.mem_of_getElem? (i := 848) (by decide +kernel)) rfl
theorem kin_8 : Cond.instantiable "CartsDownHillModel" 40 ∈ WT := mem_WT (List.mem_of_getElem? (i := 849) (by decide +kernel)) rfl
theorem kit_8 : Cond.initialized "CartsDownHillModel" ∈ WT := mem_WT (List.mem_of_getElem? (i := 89) (by decide +kernel)) rfl
theorem df_8 : ∀ j, j < 40 → defaultValue (tyX8 j) = vp_V [.null, .int 0, .int 0, .int 0, .int 0, .null, .int 0, .int 0, .null, .null, .null, .null, .int 0, .null, .null, .null, .int 0, .int 0, .int 0, .null, .null, .null, .int 0, .int 0, .int 0, .int 0, .null, .null, .int 0, .int 0, .null, .null, .int 0, .int 0, .int 0, .int 0, .null, .null, .null, .long 0] j
  | 0, _ => rfl
  | 1, _ => rfl
  | 2, _ => rfl
  | 3, _ => rfl
  | 4, _ => rfl
  | 5, _ => rfl
  | 6, _ => rfl
  | 7, _ => rfl
  | 8, _ => rfl
  | 9, _ => rfl
  | 10, _ => rfl
  | 11, _ => rfl
  | 12, _ => rfl
  | 13, _ => rfl
  | 14, _ => rfl
  | 15, _ => rfl
  | 16, _ => rfl
  | 17, _ => rfl
  | 18, _ => rfl
  | 19, _ => rfl
  | 20, _ => rfl
  | 21, _ => rfl
  | 22, _ => rfl
  | 23, _ => rfl
  | 24, _ => rfl
  | 25, _ => rfl
  | 26, _ => rfl
  | 27, _ => rfl
  | 28, _ => rfl
  | 29, _ => rfl
  | 30, _ => rfl
  | 31, _ => rfl
  | 32, _ => rfl
  | 33, _ => rfl
  | 34, _ => rfl
  | 35, _ => rfl
  | 36, _ => rfl
  | 37, _ => rfl
  | 38, _ => rfl
  | 39, _ => rfl
  | j + 40, h => absurd h (by omega)
theorem li_L_9 : LIn RL 9 yX7_init cX7_init 2 0 := ⟨⟨mem_WT (List.mem_of_getElem? (i := 103) (by decide +kernel)) rfl, mem_WT (List.mem_of_getElem? (i := 81) (by decide +kernel)) rfl, by decide +kernel, by decide, Or.inl (mem_WT (List.mem_of_getElem? (i := 101) (by decide +kernel)) rfl)⟩, mem_WT (List.mem_of_getElem? (i := 102) (by decide +kernel)) rfl, rfl⟩
theorem li_L_12 : LIn RL 12 yX8_init cX8_init 1 0 := ⟨⟨mem_WT (List.mem_of_getElem? (i := 852) (by decide +kernel)) rfl, mem_WT (List.mem_of_getElem? (i := 89) (by decide +kernel)) rfl, by decide +kernel, by decide, Or.inl (mem_WT (List.mem_of_getElem? (i := 850) (by decide +kernel)) rfl)⟩, mem_WT (List.mem_of_getElem? (i := 851) (by decide +kernel)) rfl, rfl⟩
set_option maxRecDepth 100000 in
theorem w0_at {Γ : GA} (b : Nat) (hX : ∀ c, gX Γ c = b + c) : ∀ k : Nat, k < 75 → k ≠ 8 → ([.inr (7, [.ref (b + 1), .ref (b + 3), .ref (b + 8), .ref (b + 33), .ref (b + 37), .ref (b + 44), .ref (b + 51), .ref (b + 53), .ref (b + 54), .int 0, .int 9]), .inr (5, [.ref (b + 2), .int 0]), .inl (gI Γ, 50, .inl (fun _ => 0)), .inr (3, [.ref (b + 4), .ref (b + 5), .ref (b + 6), .ref (b + 7), .int 0, .int 0]), .inl (gI Γ, 12, .inl (fun _ => 0)), .inl (gI Γ, 12, .inl (fun _ => 0)), .inl (gI Γ, 12, .inl (fun _ => 0)), .inl (gI Γ, 12, .inl (fun _ => 0)), .inl (gR Γ, 8, .inr (.inr (.inr (.inr (va_up (va_up (va_up (va_up (va_up (va_up (va_up (va_up (fun _ => none) (0 : Int32).toNatClampNeg (some (b + 9))) (1 : Int32).toNatClampNeg (some (b + 12))) (2 : Int32).toNatClampNeg (some (b + 15))) (3 : Int32).toNatClampNeg (some (b + 18))) (4 : Int32).toNatClampNeg (some (b + 21))) (5 : Int32).toNatClampNeg (some (b + 24))) (6 : Int32).toNatClampNeg (some (b + 27))) (7 : Int32).toNatClampNeg (some (b + 30))))))), .inr (1, [.ref (b + 10), .ref (b + 11), .int 0, .int 10]), .inl (gI Γ, 5, .inl (fun _ => 0)), .inl (gI Γ, 5, .inl (fun _ => 0)), .inr (1, [.ref (b + 13), .ref (b + 14), .int 0, .int 10]), .inl (gI Γ, 5, .inl (fun _ => 0)), .inl (gI Γ, 5, .inl (fun _ => 0)), .inr (1, [.ref (b + 16), .ref (b + 17), .int 0, .int 10]), .inl (gI Γ, 5, .inl (fun _ => 0)), .inl (gI Γ, 5, .inl (fun _ => 0)), .inr (1, [.ref (b + 19), .ref (b + 20), .int 0, .int 10]), .inl (gI Γ, 5, .inl (fun _ => 0)), .inl (gI Γ, 5, .inl (fun _ => 0)), .inr (1, [.ref (b + 22), .ref (b + 23), .int 0, .int 10]), .inl (gI Γ, 5, .inl (fun _ => 0)), .inl (gI Γ, 5, .inl (fun _ => 0)), .inr (1, [.ref (b + 25), .ref (b + 26), .int 0, .int 10]), .inl (gI Γ, 5, .inl (fun _ => 0)), .inl (gI Γ, 5, .inl (fun _ => 0)), .inr (1, [.ref (b + 28), .ref (b + 29), .int 0, .int 10]), .inl (gI Γ, 5, .inl (fun _ => 0)), .inl (gI Γ, 5, .inl (fun _ => 0)), .inr (1, [.ref (b + 31), .ref (b + 32), .int 0, .int 10]), .inl (gI Γ, 5, .inl (fun _ => 0)), .inl (gI Γ, 5, .inl (fun _ => 0)), .inr (2, [.ref (b + 34), .ref (b + 35), .ref (b + 36), .int 0]), .inl (gI Γ, 8, .inl (fun _ => 0)), .inl (gI Γ, 8, .inl (fun _ => 0)), .inl (gI Γ, 8, .inl (fun _ => 0)), .inr (4, [.ref (b + 38), .ref (b + 39), .ref (b + 40), .int 0, .int 0, .int 0]), .inl (gI Γ, 8, .inl (fun _ => 0)), .inl (gI Γ, 12, .inl (fun _ => 0)), .inr (2, [.ref (b + 41), .ref (b + 42), .ref (b + 43), .int 0]), .inl (gI Γ, 8, .inl (fun _ => 0)), .inl (gI Γ, 8, .inl (fun _ => 0)), .inl (gI Γ, 8, .inl (fun _ => 0)), .inr (6, [.ref (b + 3), .ref (b + 45), .ref (b + 46), .ref (b + 47), .ref (b + 48), .int 0, .int 10, .int 1, .int 0, .int 0, .int 0, .int 0, .int 0, .ref (b + 49), .ref (b + 50)]), .inl (gI Γ, 5, .inl (fun _ => 0)), .inl (gI Γ, 5, .inl (fun _ => 0)), .inl (gI Γ, 5, .inl (fun _ => 0)), .inl (gI Γ, 12, .inl (fun _ => 0)), .inl (gI Γ, 5, .inl (fun _ => 0)), .inl (gI Γ, 12, .inl (fun _ => 0)), .inr (0, [.int (-1), .int (-1), .ref (b + 52)]), .inl (gI Γ, 5, .inl (fun _ => 0)), .inl (gI Γ, 4, .inl (fun _ => 0)), .inl (gI Γ, 4, .inl (fun _ => 0)), .inr (8, [.ref (b + 56), .int 0, .int 0, .int 0, .int 0, .ref (b + 57), .int 0, .int 0, .ref (b + 58), .ref (b + 59), .ref (b + 60), .ref (b + 61), .int 0, .ref (b + 62), .ref (b + 63), .ref (b + 64), .int 9, .int 0, .int 0, .ref (b + 65), .ref (b + 66), .ref (b + 67), .int 0, .int 0, .int 0, .int 0, .ref (b + 68), .ref (b + 69), .int 0, .int 0, .ref (b + 70), .ref (b + 71), .int (-1), .int 0, .int 0, .int 0, .ref (b + 72), .ref (b + 73), .ref (b + 74), .long 0]), .inl (gI Γ, 50, .inl (fun _ => 0)), .inl (gI Γ, 36, .inl (fun _ => 0)), .inl (gI Γ, 12, .inl (fun _ => 0)), .inl (gI Γ, 12, .inl (fun _ => 0)), .inl (gI Γ, 12, .inl (fun _ => 0)), .inl (gI Γ, 12, .inl (fun _ => 0)), .inl (gI Γ, 8, .inl (fun _ => 0)), .inl (gI Γ, 8, .inl (fun _ => 0)), .inl (gI Γ, 80, .inl (fun _ => 0)), .inl (gI Γ, 6, .inl (fun _ => 0)), .inl (gI Γ, 6, .inl (fun _ => 0)), .inl (gI Γ, 12, .inl (fun _ => 0)), .inl (gI Γ, 12, .inl (fun _ => 0)), .inl (gI Γ, 6, .inl (fun _ => 0)), .inl (gI Γ, 24, .inl (fun _ => 0)), .inl (gI Γ, 4, .inl (fun _ => 0)), .inl (gI Γ, 12, .inl (fun _ => 0)), .inl (gI Γ, 8, .inl (fun _ => 0)), .inl (gI Γ, 24, .inl (fun _ => 0))] : List va_E)[k]? = some (cellE Γ k (S0 k))
  | 0, _, _ => by
    show some (Sum.inr _) = some (Sum.inr _)
    simp only [hX]
    rfl
  | 1, _, _ => by
    show some (Sum.inr _) = some (Sum.inr _)
    simp only [hX]
    rfl
  | 2, _, _ => rfl
  | 3, _, _ => by
    show some (Sum.inr _) = some (Sum.inr _)
    simp only [hX]
    rfl
  | 4, _, _ => rfl
  | 5, _, _ => rfl
  | 6, _, _ => rfl
  | 7, _, _ => rfl
  | 8, _, h => absurd rfl h
  | 9, _, _ => by
    show some (Sum.inr _) = some (Sum.inr _)
    simp only [hX]
    rfl
  | 10, _, _ => rfl
  | 11, _, _ => rfl
  | 12, _, _ => by
    show some (Sum.inr _) = some (Sum.inr _)
    simp only [hX]
    rfl
  | 13, _, _ => rfl
  | 14, _, _ => rfl
  | 15, _, _ => by
    show some (Sum.inr _) = some (Sum.inr _)
    simp only [hX]
    rfl
  | 16, _, _ => rfl
  | 17, _, _ => rfl
  | 18, _, _ => by
    show some (Sum.inr _) = some (Sum.inr _)
    simp only [hX]
    rfl
  | 19, _, _ => rfl
  | 20, _, _ => rfl
  | 21, _, _ => by
    show some (Sum.inr _) = some (Sum.inr _)
    simp only [hX]
    rfl
  | 22, _, _ => rfl
  | 23, _, _ => rfl
  | 24, _, _ => by
    show some (Sum.inr _) = some (Sum.inr _)
    simp only [hX]
    rfl
  | 25, _, _ => rfl
  | 26, _, _ => rfl
  | 27, _, _ => by
    show some (Sum.inr _) = some (Sum.inr _)
    simp only [hX]
    rfl
  | 28, _, _ => rfl
  | 29, _, _ => rfl
  | 30, _, _ => by
    show some (Sum.inr _) = some (Sum.inr _)
    simp only [hX]
    rfl
  | 31, _, _ => rfl
  | 32, _, _ => rfl
  | 33, _, _ => by
    show some (Sum.inr _) = some (Sum.inr _)
    simp only [hX]
    rfl
  | 34, _, _ => rfl
  | 35, _, _ => rfl
  | 36, _, _ => rfl
  | 37, _, _ => by
    show some (Sum.inr _) = some (Sum.inr _)
    simp only [hX]
    rfl
  | 38, _, _ => rfl
  | 39, _, _ => rfl
  | 40, _, _ => by
    show some (Sum.inr _) = some (Sum.inr _)
    simp only [hX]
    rfl
  | 41, _, _ => rfl
  | 42, _, _ => rfl
  | 43, _, _ => rfl
  | 44, _, _ => by
    show some (Sum.inr _) = some (Sum.inr _)
    simp only [hX]
    rfl
  | 45, _, _ => rfl
  | 46, _, _ => rfl
  | 47, _, _ => rfl
  | 48, _, _ => rfl
  | 49, _, _ => rfl
  | 50, _, _ => rfl
  | 51, _, _ => by
    show some (Sum.inr _) = some (Sum.inr _)
    simp only [hX]
    rfl
  | 52, _, _ => rfl
  | 53, _, _ => rfl
  | 54, _, _ => rfl
  | 55, _, _ => by
    show some (Sum.inr _) = some (Sum.inr _)
    simp only [hX]
    rfl
  | 56, _, _ => rfl
  | 57, _, _ => rfl
  | 58, _, _ => rfl
  | 59, _, _ => rfl
  | 60, _, _ => rfl
  | 61, _, _ => rfl
  | 62, _, _ => rfl
  | 63, _, _ => rfl
  | 64, _, _ => rfl
  | 65, _, _ => rfl
  | 66, _, _ => rfl
  | 67, _, _ => rfl
  | 68, _, _ => rfl
  | 69, _, _ => rfl
  | 70, _, _ => rfl
  | 71, _, _ => rfl
  | 72, _, _ => rfl
  | 73, _, _ => rfl
  | 74, _, _ => rfl
  | k + 75, h, _ => absurd h (by omega)
theorem arrV_eq {cA : ClassId} {n : Nat} {f g : Nat → Value} (h : ∀ j, j < n → f j = g j) : arrV cA n f = arrV cA n g := by
  unfold arrV
  congr 2
  funext j
  exact h j.val j.isLt
set_option maxRecDepth 100000 in
theorem w0_P {Γ : GA} {H : Heap} (b : Nat) (hX : ∀ c, gX Γ c = b + c) (hP : va_P (gD Γ) vwCl (cw b [.inr (7, [.ref (b + 1), .ref (b + 3), .ref (b + 8), .ref (b + 33), .ref (b + 37), .ref (b + 44), .ref (b + 51), .ref (b + 53), .ref (b + 54), .int 0, .int 9]), .inr (5, [.ref (b + 2), .int 0]), .inl (gI Γ, 50, .inl (fun _ => 0)), .inr (3, [.ref (b + 4), .ref (b + 5), .ref (b + 6), .ref (b + 7), .int 0, .int 0]), .inl (gI Γ, 12, .inl (fun _ => 0)), .inl (gI Γ, 12, .inl (fun _ => 0)), .inl (gI Γ, 12, .inl (fun _ => 0)), .inl (gI Γ, 12, .inl (fun _ => 0)), .inl (gR Γ, 8, .inr (.inr (.inr (.inr (va_up (va_up (va_up (va_up (va_up (va_up (va_up (va_up (fun _ => none) (0 : Int32).toNatClampNeg (some (b + 9))) (1 : Int32).toNatClampNeg (some (b + 12))) (2 : Int32).toNatClampNeg (some (b + 15))) (3 : Int32).toNatClampNeg (some (b + 18))) (4 : Int32).toNatClampNeg (some (b + 21))) (5 : Int32).toNatClampNeg (some (b + 24))) (6 : Int32).toNatClampNeg (some (b + 27))) (7 : Int32).toNatClampNeg (some (b + 30))))))), .inr (1, [.ref (b + 10), .ref (b + 11), .int 0, .int 10]), .inl (gI Γ, 5, .inl (fun _ => 0)), .inl (gI Γ, 5, .inl (fun _ => 0)), .inr (1, [.ref (b + 13), .ref (b + 14), .int 0, .int 10]), .inl (gI Γ, 5, .inl (fun _ => 0)), .inl (gI Γ, 5, .inl (fun _ => 0)), .inr (1, [.ref (b + 16), .ref (b + 17), .int 0, .int 10]), .inl (gI Γ, 5, .inl (fun _ => 0)), .inl (gI Γ, 5, .inl (fun _ => 0)), .inr (1, [.ref (b + 19), .ref (b + 20), .int 0, .int 10]), .inl (gI Γ, 5, .inl (fun _ => 0)), .inl (gI Γ, 5, .inl (fun _ => 0)), .inr (1, [.ref (b + 22), .ref (b + 23), .int 0, .int 10]), .inl (gI Γ, 5, .inl (fun _ => 0)), .inl (gI Γ, 5, .inl (fun _ => 0)), .inr (1, [.ref (b + 25), .ref (b + 26), .int 0, .int 10]), .inl (gI Γ, 5, .inl (fun _ => 0)), .inl (gI Γ, 5, .inl (fun _ => 0)), .inr (1, [.ref (b + 28), .ref (b + 29), .int 0, .int 10]), .inl (gI Γ, 5, .inl (fun _ => 0)), .inl (gI Γ, 5, .inl (fun _ => 0)), .inr (1, [.ref (b + 31), .ref (b + 32), .int 0, .int 10]), .inl (gI Γ, 5, .inl (fun _ => 0)), .inl (gI Γ, 5, .inl (fun _ => 0)), .inr (2, [.ref (b + 34), .ref (b + 35), .ref (b + 36), .int 0]), .inl (gI Γ, 8, .inl (fun _ => 0)), .inl (gI Γ, 8, .inl (fun _ => 0)), .inl (gI Γ, 8, .inl (fun _ => 0)), .inr (4, [.ref (b + 38), .ref (b + 39), .ref (b + 40), .int 0, .int 0, .int 0]), .inl (gI Γ, 8, .inl (fun _ => 0)), .inl (gI Γ, 12, .inl (fun _ => 0)), .inr (2, [.ref (b + 41), .ref (b + 42), .ref (b + 43), .int 0]), .inl (gI Γ, 8, .inl (fun _ => 0)), .inl (gI Γ, 8, .inl (fun _ => 0)), .inl (gI Γ, 8, .inl (fun _ => 0)), .inr (6, [.ref (b + 3), .ref (b + 45), .ref (b + 46), .ref (b + 47), .ref (b + 48), .int 0, .int 10, .int 1, .int 0, .int 0, .int 0, .int 0, .int 0, .ref (b + 49), .ref (b + 50)]), .inl (gI Γ, 5, .inl (fun _ => 0)), .inl (gI Γ, 5, .inl (fun _ => 0)), .inl (gI Γ, 5, .inl (fun _ => 0)), .inl (gI Γ, 12, .inl (fun _ => 0)), .inl (gI Γ, 5, .inl (fun _ => 0)), .inl (gI Γ, 12, .inl (fun _ => 0)), .inr (0, [.int (-1), .int (-1), .ref (b + 52)]), .inl (gI Γ, 5, .inl (fun _ => 0)), .inl (gI Γ, 4, .inl (fun _ => 0)), .inl (gI Γ, 4, .inl (fun _ => 0)), .inr (8, [.ref (b + 56), .int 0, .int 0, .int 0, .int 0, .ref (b + 57), .int 0, .int 0, .ref (b + 58), .ref (b + 59), .ref (b + 60), .ref (b + 61), .int 0, .ref (b + 62), .ref (b + 63), .ref (b + 64), .int 9, .int 0, .int 0, .ref (b + 65), .ref (b + 66), .ref (b + 67), .int 0, .int 0, .int 0, .int 0, .ref (b + 68), .ref (b + 69), .int 0, .int 0, .ref (b + 70), .ref (b + 71), .int (-1), .int 0, .int 0, .int 0, .ref (b + 72), .ref (b + 73), .ref (b + 74), .long 0]), .inl (gI Γ, 50, .inl (fun _ => 0)), .inl (gI Γ, 36, .inl (fun _ => 0)), .inl (gI Γ, 12, .inl (fun _ => 0)), .inl (gI Γ, 12, .inl (fun _ => 0)), .inl (gI Γ, 12, .inl (fun _ => 0)), .inl (gI Γ, 12, .inl (fun _ => 0)), .inl (gI Γ, 8, .inl (fun _ => 0)), .inl (gI Γ, 8, .inl (fun _ => 0)), .inl (gI Γ, 80, .inl (fun _ => 0)), .inl (gI Γ, 6, .inl (fun _ => 0)), .inl (gI Γ, 6, .inl (fun _ => 0)), .inl (gI Γ, 12, .inl (fun _ => 0)), .inl (gI Γ, 12, .inl (fun _ => 0)), .inl (gI Γ, 6, .inl (fun _ => 0)), .inl (gI Γ, 24, .inl (fun _ => 0)), .inl (gI Γ, 4, .inl (fun _ => 0)), .inl (gI Γ, 12, .inl (fun _ => 0)), .inl (gI Γ, 8, .inl (fun _ => 0)), .inl (gI Γ, 24, .inl (fun _ => 0))]) H) : va_P (gD Γ) vwCl (wsOf Γ S0) H := by
  intro k q hk
  obtain ⟨hk1, rfl⟩ := ws_inv hk
  by_cases h8 : k = 8
  · subst h8
    have h := hP 8 (b + 8, .inl (gR Γ, 8, .inr (.inr (.inr (.inr (va_up (va_up (va_up (va_up (va_up (va_up (va_up (va_up (fun _ => none) (0 : Int32).toNatClampNeg (some (b + 9))) (1 : Int32).toNatClampNeg (some (b + 12))) (2 : Int32).toNatClampNeg (some (b + 15))) (3 : Int32).toNatClampNeg (some (b + 18))) (4 : Int32).toNatClampNeg (some (b + 21))) (5 : Int32).toNatClampNeg (some (b + 24))) (6 : Int32).toNatClampNeg (some (b + 27))) (7 : Int32).toNatClampNeg (some (b + 30)))))))) rfl
    show H[gX Γ 8]? = some (vp_cell _ _)
    rw [hX]
    have h2 : H[b + 8]? = some (vp_cell _ _) := h
    rw [h2]
    congr 1
    rw [vp_cell_q]
    show arrV _ _ _ = arrV _ _ (fun i => va_rf (some (gX Γ (9 + 3 * i))))
    refine arrV_eq (fun j hj => ?_)
    simp only [hX]
    match j, hj with
    | 0, _ => rfl
    | 1, _ => rfl
    | 2, _ => rfl
    | 3, _ => rfl
    | 4, _ => rfl
    | 5, _ => rfl
    | 6, _ => rfl
    | 7, _ => rfl
    | j + 8, h => exact absurd h (by omega)
  · have h := hP k (b + k, cellE Γ k (S0 k)) (cw_at (w0_at b hX k hk1 h8))
    rw [hX]
    exact h
theorem nest_of {args : Array Value} {s : State} {w : Cond} (h : w.before args s = true) (hn : isNest w = true) : va_Nw w s := by
  cases w <;> first | exact va_Nw.of rfl h | cases hn
set_option maxRecDepth 100000 in
set_option maxHeartbeats 4000000 in
/-- what the Statement gives of the text -/
theorem sc_of {sb : Nat} {s : State} (hts : ∀ w ∈ lw_tbl, w.before #[Value.ref sb] s = true) (hgv : (Jvm.Cond.and given_1 narrow_1).before #[Value.ref sb] s = true) : ∃ kS vS : Nat, vk_R RX5 51 "lrtaus" kS s ∧ vk_S 1 [6] [[108, 114, 116, 97, 117, 115]] (fun _ => kS) (fun _ => vS) (fun q => s.heap.size ≤ q) s s.heap ∧ va_Z "java/lang/String" "COMPACT_STRINGS" "Z" (.int 1) (fun q => s.heap.size ≤ q) s s.heap := by
  have hf := flat_of_before _ hgv
  have hA : ∀ a : Nat, a < s.heap.size → ¬ (fun q => s.heap.size ≤ q) a := fun a h => Nat.not_le.mpr h
  obtain ⟨adK, adV, h1, h2⟩ := vk_Sof (args := #[Value.ref sb]) (s := s) (N := 1) (tm := fun _ => Term.string "CartsDownHill$Page" 51) (len := [6]) (byt := [[108, 114, 116, 97, 117, 115]]) (A := fun q => s.heap.size ≤ q)
    (fun i hi => by rcases (show i = 0 by omega) with rfl; decide) (fun i hi => hf _ (by decide +kernel)) (fun i hi => hf _ (by decide +kernel)) (fun i hi => hf _ (by decide +kernel)) (fun i hi => by rcases (show i = 0 by omega) with rfl; exact hf _ (by decide +kernel))
    (fun i hi j hj => by
      rcases (show i = 0 by omega) with rfl
      have hj' : j < 6 := hj
      match j, hj' with
      | 0, _ => exact hf _ (by decide +kernel)
      | 1, _ => exact hf _ (by decide +kernel)
      | 2, _ => exact hf _ (by decide +kernel)
      | 3, _ => exact hf _ (by decide +kernel)
      | 4, _ => exact hf _ (by decide +kernel)
      | 5, _ => exact hf _ (by decide +kernel)
      | j + 6, h => exact absurd h (by omega)) (fun i j hi hj hn => absurd (show i = j by omega) hn) hA
  refine ⟨adK 0, adV 0, ?_, ⟨fun i hi => ?_, fun i j hi hj _ => by omega⟩, ?_⟩
  · have he := h2 0 (by decide)
    exact vk_R.of (A := #[Value.ref sb]) (hts _ (List.mem_of_getElem? (i := 410) (by decide +kernel))) he
  · rcases (show i = 0 by omega) with rfl
    exact h1.1 0 (by decide)
  · exact va_Zof (args := #[Value.ref sb]) (hts _ (List.mem_of_getElem? (i := 424) (by decide +kernel))) (hts _ (List.mem_of_getElem? (i := 90) (by decide +kernel))) (va_eqi (hf _ (by decide +kernel))) hA
set_option maxRecDepth 100000 in
set_option maxHeartbeats 8000000 in
theorem law_head {Γ : GA} {E : EV} {b sb L : Nat} {xs : Nat → Int32} {S' : St} (CJ0 : Cj Γ E RL cL_law 4 4 75 1000 b 0 ret) (hX : ∀ c, gX Γ c = b + c) (CX : Cx Γ E RL cL_law 4 10 ret) (ML : Lx E sb) (Z : Zx E sb L xs) (hpure : f_law_l18 L xs FU 0 S0 = some (1, S')) : J Γ E b (lw_Z (eB E) #[Value.ref sb] (eS E)) 4 0 [(0, .ref sb)] [] [] 0 0 := by
  refine j_new (pc := 0) (ci := 7) (es' := [.inr (7, [.null, .null, .null, .null, .null, .null, .null, .null, .null, .int 0, .int 0])]) CJ0 tyX7 rfl uw_7 tyX7_ok kcl_L_7 kin_7 kit_7 df_7 rfl (by decide) (by decide) rfl dL_law_0 ?_
  refine j_dup (pc := 3) CJ0 dL_law_3 rfl ?_
  refine j_init (pc := 4) (i := 0) (e0 := .inr (7, [.null, .null, .null, .null, .null, .null, .null, .null, .null, .int 0, .int 0])) (out := [.inr (7, [.ref (b + 1), .ref (b + 3), .ref (b + 8), .ref (b + 33), .ref (b + 37), .ref (b + 44), .ref (b + 51), .ref (b + 53), .ref (b + 54), .int 0, .int 9]), .inr (5, [.ref (b + 2), .int 0]), .inl (gI Γ, 50, .inl (fun _ => 0)), .inr (3, [.ref (b + 4), .ref (b + 5), .ref (b + 6), .ref (b + 7), .int 0, .int 0]), .inl (gI Γ, 12, .inl (fun _ => 0)), .inl (gI Γ, 12, .inl (fun _ => 0)), .inl (gI Γ, 12, .inl (fun _ => 0)), .inl (gI Γ, 12, .inl (fun _ => 0)), .inl (gR Γ, 8, .inr (.inr (.inr (.inr (va_up (va_up (va_up (va_up (va_up (va_up (va_up (va_up (fun _ => none) (0 : Int32).toNatClampNeg (some (b + 9))) (1 : Int32).toNatClampNeg (some (b + 12))) (2 : Int32).toNatClampNeg (some (b + 15))) (3 : Int32).toNatClampNeg (some (b + 18))) (4 : Int32).toNatClampNeg (some (b + 21))) (5 : Int32).toNatClampNeg (some (b + 24))) (6 : Int32).toNatClampNeg (some (b + 27))) (7 : Int32).toNatClampNeg (some (b + 30))))))), .inr (1, [.ref (b + 10), .ref (b + 11), .int 0, .int 10]), .inl (gI Γ, 5, .inl (fun _ => 0)), .inl (gI Γ, 5, .inl (fun _ => 0)), .inr (1, [.ref (b + 13), .ref (b + 14), .int 0, .int 10]), .inl (gI Γ, 5, .inl (fun _ => 0)), .inl (gI Γ, 5, .inl (fun _ => 0)), .inr (1, [.ref (b + 16), .ref (b + 17), .int 0, .int 10]), .inl (gI Γ, 5, .inl (fun _ => 0)), .inl (gI Γ, 5, .inl (fun _ => 0)), .inr (1, [.ref (b + 19), .ref (b + 20), .int 0, .int 10]), .inl (gI Γ, 5, .inl (fun _ => 0)), .inl (gI Γ, 5, .inl (fun _ => 0)), .inr (1, [.ref (b + 22), .ref (b + 23), .int 0, .int 10]), .inl (gI Γ, 5, .inl (fun _ => 0)), .inl (gI Γ, 5, .inl (fun _ => 0)), .inr (1, [.ref (b + 25), .ref (b + 26), .int 0, .int 10]), .inl (gI Γ, 5, .inl (fun _ => 0)), .inl (gI Γ, 5, .inl (fun _ => 0)), .inr (1, [.ref (b + 28), .ref (b + 29), .int 0, .int 10]), .inl (gI Γ, 5, .inl (fun _ => 0)), .inl (gI Γ, 5, .inl (fun _ => 0)), .inr (1, [.ref (b + 31), .ref (b + 32), .int 0, .int 10]), .inl (gI Γ, 5, .inl (fun _ => 0)), .inl (gI Γ, 5, .inl (fun _ => 0)), .inr (2, [.ref (b + 34), .ref (b + 35), .ref (b + 36), .int 0]), .inl (gI Γ, 8, .inl (fun _ => 0)), .inl (gI Γ, 8, .inl (fun _ => 0)), .inl (gI Γ, 8, .inl (fun _ => 0)), .inr (4, [.ref (b + 38), .ref (b + 39), .ref (b + 40), .int 0, .int 0, .int 0]), .inl (gI Γ, 8, .inl (fun _ => 0)), .inl (gI Γ, 12, .inl (fun _ => 0)), .inr (2, [.ref (b + 41), .ref (b + 42), .ref (b + 43), .int 0]), .inl (gI Γ, 8, .inl (fun _ => 0)), .inl (gI Γ, 8, .inl (fun _ => 0)), .inl (gI Γ, 8, .inl (fun _ => 0)), .inr (6, [.ref (b + 3), .ref (b + 45), .ref (b + 46), .ref (b + 47), .ref (b + 48), .int 0, .int 10, .int 1, .int 0, .int 0, .int 0, .int 0, .int 0, .ref (b + 49), .ref (b + 50)]), .inl (gI Γ, 5, .inl (fun _ => 0)), .inl (gI Γ, 5, .inl (fun _ => 0)), .inl (gI Γ, 5, .inl (fun _ => 0)), .inl (gI Γ, 12, .inl (fun _ => 0)), .inl (gI Γ, 5, .inl (fun _ => 0)), .inl (gI Γ, 12, .inl (fun _ => 0)), .inr (0, [.int (-1), .int (-1), .ref (b + 52)]), .inl (gI Γ, 5, .inl (fun _ => 0)), .inl (gI Γ, 4, .inl (fun _ => 0)), .inl (gI Γ, 4, .inl (fun _ => 0))]) (rest := []) (es' := [.inr (7, [.ref (b + 1), .ref (b + 3), .ref (b + 8), .ref (b + 33), .ref (b + 37), .ref (b + 44), .ref (b + 51), .ref (b + 53), .ref (b + 54), .int 0, .int 9]), .inr (5, [.ref (b + 2), .int 0]), .inl (gI Γ, 50, .inl (fun _ => 0)), .inr (3, [.ref (b + 4), .ref (b + 5), .ref (b + 6), .ref (b + 7), .int 0, .int 0]), .inl (gI Γ, 12, .inl (fun _ => 0)), .inl (gI Γ, 12, .inl (fun _ => 0)), .inl (gI Γ, 12, .inl (fun _ => 0)), .inl (gI Γ, 12, .inl (fun _ => 0)), .inl (gR Γ, 8, .inr (.inr (.inr (.inr (va_up (va_up (va_up (va_up (va_up (va_up (va_up (va_up (fun _ => none) (0 : Int32).toNatClampNeg (some (b + 9))) (1 : Int32).toNatClampNeg (some (b + 12))) (2 : Int32).toNatClampNeg (some (b + 15))) (3 : Int32).toNatClampNeg (some (b + 18))) (4 : Int32).toNatClampNeg (some (b + 21))) (5 : Int32).toNatClampNeg (some (b + 24))) (6 : Int32).toNatClampNeg (some (b + 27))) (7 : Int32).toNatClampNeg (some (b + 30))))))), .inr (1, [.ref (b + 10), .ref (b + 11), .int 0, .int 10]), .inl (gI Γ, 5, .inl (fun _ => 0)), .inl (gI Γ, 5, .inl (fun _ => 0)), .inr (1, [.ref (b + 13), .ref (b + 14), .int 0, .int 10]), .inl (gI Γ, 5, .inl (fun _ => 0)), .inl (gI Γ, 5, .inl (fun _ => 0)), .inr (1, [.ref (b + 16), .ref (b + 17), .int 0, .int 10]), .inl (gI Γ, 5, .inl (fun _ => 0)), .inl (gI Γ, 5, .inl (fun _ => 0)), .inr (1, [.ref (b + 19), .ref (b + 20), .int 0, .int 10]), .inl (gI Γ, 5, .inl (fun _ => 0)), .inl (gI Γ, 5, .inl (fun _ => 0)), .inr (1, [.ref (b + 22), .ref (b + 23), .int 0, .int 10]), .inl (gI Γ, 5, .inl (fun _ => 0)), .inl (gI Γ, 5, .inl (fun _ => 0)), .inr (1, [.ref (b + 25), .ref (b + 26), .int 0, .int 10]), .inl (gI Γ, 5, .inl (fun _ => 0)), .inl (gI Γ, 5, .inl (fun _ => 0)), .inr (1, [.ref (b + 28), .ref (b + 29), .int 0, .int 10]), .inl (gI Γ, 5, .inl (fun _ => 0)), .inl (gI Γ, 5, .inl (fun _ => 0)), .inr (1, [.ref (b + 31), .ref (b + 32), .int 0, .int 10]), .inl (gI Γ, 5, .inl (fun _ => 0)), .inl (gI Γ, 5, .inl (fun _ => 0)), .inr (2, [.ref (b + 34), .ref (b + 35), .ref (b + 36), .int 0]), .inl (gI Γ, 8, .inl (fun _ => 0)), .inl (gI Γ, 8, .inl (fun _ => 0)), .inl (gI Γ, 8, .inl (fun _ => 0)), .inr (4, [.ref (b + 38), .ref (b + 39), .ref (b + 40), .int 0, .int 0, .int 0]), .inl (gI Γ, 8, .inl (fun _ => 0)), .inl (gI Γ, 12, .inl (fun _ => 0)), .inr (2, [.ref (b + 41), .ref (b + 42), .ref (b + 43), .int 0]), .inl (gI Γ, 8, .inl (fun _ => 0)), .inl (gI Γ, 8, .inl (fun _ => 0)), .inl (gI Γ, 8, .inl (fun _ => 0)), .inr (6, [.ref (b + 3), .ref (b + 45), .ref (b + 46), .ref (b + 47), .ref (b + 48), .int 0, .int 10, .int 1, .int 0, .int 0, .int 0, .int 0, .int 0, .ref (b + 49), .ref (b + 50)]), .inl (gI Γ, 5, .inl (fun _ => 0)), .inl (gI Γ, 5, .inl (fun _ => 0)), .inl (gI Γ, 5, .inl (fun _ => 0)), .inl (gI Γ, 12, .inl (fun _ => 0)), .inl (gI Γ, 5, .inl (fun _ => 0)), .inl (gI Γ, 12, .inl (fun _ => 0)), .inr (0, [.int (-1), .int (-1), .ref (b + 52)]), .inl (gI Γ, 5, .inl (fun _ => 0)), .inl (gI Γ, 4, .inl (fun _ => 0)), .inl (gI Γ, 4, .inl (fun _ => 0))]) (As := []) (st := [.ref (b + 0)]) CJ0 li_L_9 (c_X7_init (b + 0)) (by decide) rfl rfl rfl rfl rfl rfl (Nat.le_of_ble_eq_true rfl) (by decide) (by decide) dL_law_4 ?_
  refine j_astore_n (pc := 7) CJ0 dL_law_7 rfl (by decide) (lv' := [(1, .ref (b + 0)), (0, .ref sb)]) rfl ?_
  refine j_new (pc := 8) (ci := 8) (es' := [.inr (7, [.ref (b + 1), .ref (b + 3), .ref (b + 8), .ref (b + 33), .ref (b + 37), .ref (b + 44), .ref (b + 51), .ref (b + 53), .ref (b + 54), .int 0, .int 9]), .inr (5, [.ref (b + 2), .int 0]), .inl (gI Γ, 50, .inl (fun _ => 0)), .inr (3, [.ref (b + 4), .ref (b + 5), .ref (b + 6), .ref (b + 7), .int 0, .int 0]), .inl (gI Γ, 12, .inl (fun _ => 0)), .inl (gI Γ, 12, .inl (fun _ => 0)), .inl (gI Γ, 12, .inl (fun _ => 0)), .inl (gI Γ, 12, .inl (fun _ => 0)), .inl (gR Γ, 8, .inr (.inr (.inr (.inr (va_up (va_up (va_up (va_up (va_up (va_up (va_up (va_up (fun _ => none) (0 : Int32).toNatClampNeg (some (b + 9))) (1 : Int32).toNatClampNeg (some (b + 12))) (2 : Int32).toNatClampNeg (some (b + 15))) (3 : Int32).toNatClampNeg (some (b + 18))) (4 : Int32).toNatClampNeg (some (b + 21))) (5 : Int32).toNatClampNeg (some (b + 24))) (6 : Int32).toNatClampNeg (some (b + 27))) (7 : Int32).toNatClampNeg (some (b + 30))))))), .inr (1, [.ref (b + 10), .ref (b + 11), .int 0, .int 10]), .inl (gI Γ, 5, .inl (fun _ => 0)), .inl (gI Γ, 5, .inl (fun _ => 0)), .inr (1, [.ref (b + 13), .ref (b + 14), .int 0, .int 10]), .inl (gI Γ, 5, .inl (fun _ => 0)), .inl (gI Γ, 5, .inl (fun _ => 0)), .inr (1, [.ref (b + 16), .ref (b + 17), .int 0, .int 10]), .inl (gI Γ, 5, .inl (fun _ => 0)), .inl (gI Γ, 5, .inl (fun _ => 0)), .inr (1, [.ref (b + 19), .ref (b + 20), .int 0, .int 10]), .inl (gI Γ, 5, .inl (fun _ => 0)), .inl (gI Γ, 5, .inl (fun _ => 0)), .inr (1, [.ref (b + 22), .ref (b + 23), .int 0, .int 10]), .inl (gI Γ, 5, .inl (fun _ => 0)), .inl (gI Γ, 5, .inl (fun _ => 0)), .inr (1, [.ref (b + 25), .ref (b + 26), .int 0, .int 10]), .inl (gI Γ, 5, .inl (fun _ => 0)), .inl (gI Γ, 5, .inl (fun _ => 0)), .inr (1, [.ref (b + 28), .ref (b + 29), .int 0, .int 10]), .inl (gI Γ, 5, .inl (fun _ => 0)), .inl (gI Γ, 5, .inl (fun _ => 0)), .inr (1, [.ref (b + 31), .ref (b + 32), .int 0, .int 10]), .inl (gI Γ, 5, .inl (fun _ => 0)), .inl (gI Γ, 5, .inl (fun _ => 0)), .inr (2, [.ref (b + 34), .ref (b + 35), .ref (b + 36), .int 0]), .inl (gI Γ, 8, .inl (fun _ => 0)), .inl (gI Γ, 8, .inl (fun _ => 0)), .inl (gI Γ, 8, .inl (fun _ => 0)), .inr (4, [.ref (b + 38), .ref (b + 39), .ref (b + 40), .int 0, .int 0, .int 0]), .inl (gI Γ, 8, .inl (fun _ => 0)), .inl (gI Γ, 12, .inl (fun _ => 0)), .inr (2, [.ref (b + 41), .ref (b + 42), .ref (b + 43), .int 0]), .inl (gI Γ, 8, .inl (fun _ => 0)), .inl (gI Γ, 8, .inl (fun _ => 0)), .inl (gI Γ, 8, .inl (fun _ => 0)), .inr (6, [.ref (b + 3), .ref (b + 45), .ref (b + 46), .ref (b + 47), .ref (b + 48), .int 0, .int 10, .int 1, .int 0, .int 0, .int 0, .int 0, .int 0, .ref (b + 49), .ref (b + 50)]), .inl (gI Γ, 5, .inl (fun _ => 0)), .inl (gI Γ, 5, .inl (fun _ => 0)), .inl (gI Γ, 5, .inl (fun _ => 0)), .inl (gI Γ, 12, .inl (fun _ => 0)), .inl (gI Γ, 5, .inl (fun _ => 0)), .inl (gI Γ, 12, .inl (fun _ => 0)), .inr (0, [.int (-1), .int (-1), .ref (b + 52)]), .inl (gI Γ, 5, .inl (fun _ => 0)), .inl (gI Γ, 4, .inl (fun _ => 0)), .inl (gI Γ, 4, .inl (fun _ => 0)), .inr (8, [.null, .int 0, .int 0, .int 0, .int 0, .null, .int 0, .int 0, .null, .null, .null, .null, .int 0, .null, .null, .null, .int 0, .int 0, .int 0, .null, .null, .null, .int 0, .int 0, .int 0, .int 0, .null, .null, .int 0, .int 0, .null, .null, .int 0, .int 0, .int 0, .int 0, .null, .null, .null, .long 0])]) CJ0 tyX8 rfl uw_8 tyX8_ok kcl_L_10 kin_8 kit_8 df_8 rfl (by decide) (by decide) rfl dL_law_8 ?_
  refine j_dup (pc := 11) CJ0 dL_law_11 rfl ?_
  refine j_init (pc := 12) (i := 55) (e0 := .inr (8, [.null, .int 0, .int 0, .int 0, .int 0, .null, .int 0, .int 0, .null, .null, .null, .null, .int 0, .null, .null, .null, .int 0, .int 0, .int 0, .null, .null, .null, .int 0, .int 0, .int 0, .int 0, .null, .null, .int 0, .int 0, .null, .null, .int 0, .int 0, .int 0, .int 0, .null, .null, .null, .long 0])) (out := [.inr (8, [.ref (b + 56), .int 0, .int 0, .int 0, .int 0, .ref (b + 57), .int 0, .int 0, .ref (b + 58), .ref (b + 59), .ref (b + 60), .ref (b + 61), .int 0, .ref (b + 62), .ref (b + 63), .ref (b + 64), .int 9, .int 0, .int 0, .ref (b + 65), .ref (b + 66), .ref (b + 67), .int 0, .int 0, .int 0, .int 0, .ref (b + 68), .ref (b + 69), .int 0, .int 0, .ref (b + 70), .ref (b + 71), .int (-1), .int 0, .int 0, .int 0, .ref (b + 72), .ref (b + 73), .ref (b + 74), .long 0]), .inl (gI Γ, 50, .inl (fun _ => 0)), .inl (gI Γ, 36, .inl (fun _ => 0)), .inl (gI Γ, 12, .inl (fun _ => 0)), .inl (gI Γ, 12, .inl (fun _ => 0)), .inl (gI Γ, 12, .inl (fun _ => 0)), .inl (gI Γ, 12, .inl (fun _ => 0)), .inl (gI Γ, 8, .inl (fun _ => 0)), .inl (gI Γ, 8, .inl (fun _ => 0)), .inl (gI Γ, 80, .inl (fun _ => 0)), .inl (gI Γ, 6, .inl (fun _ => 0)), .inl (gI Γ, 6, .inl (fun _ => 0)), .inl (gI Γ, 12, .inl (fun _ => 0)), .inl (gI Γ, 12, .inl (fun _ => 0)), .inl (gI Γ, 6, .inl (fun _ => 0)), .inl (gI Γ, 24, .inl (fun _ => 0)), .inl (gI Γ, 4, .inl (fun _ => 0)), .inl (gI Γ, 12, .inl (fun _ => 0)), .inl (gI Γ, 8, .inl (fun _ => 0)), .inl (gI Γ, 24, .inl (fun _ => 0))]) (rest := [.inr (7, [.ref (b + 1), .ref (b + 3), .ref (b + 8), .ref (b + 33), .ref (b + 37), .ref (b + 44), .ref (b + 51), .ref (b + 53), .ref (b + 54), .int 0, .int 9]), .inr (5, [.ref (b + 2), .int 0]), .inl (gI Γ, 50, .inl (fun _ => 0)), .inr (3, [.ref (b + 4), .ref (b + 5), .ref (b + 6), .ref (b + 7), .int 0, .int 0]), .inl (gI Γ, 12, .inl (fun _ => 0)), .inl (gI Γ, 12, .inl (fun _ => 0)), .inl (gI Γ, 12, .inl (fun _ => 0)), .inl (gI Γ, 12, .inl (fun _ => 0)), .inl (gR Γ, 8, .inr (.inr (.inr (.inr (va_up (va_up (va_up (va_up (va_up (va_up (va_up (va_up (fun _ => none) (0 : Int32).toNatClampNeg (some (b + 9))) (1 : Int32).toNatClampNeg (some (b + 12))) (2 : Int32).toNatClampNeg (some (b + 15))) (3 : Int32).toNatClampNeg (some (b + 18))) (4 : Int32).toNatClampNeg (some (b + 21))) (5 : Int32).toNatClampNeg (some (b + 24))) (6 : Int32).toNatClampNeg (some (b + 27))) (7 : Int32).toNatClampNeg (some (b + 30))))))), .inr (1, [.ref (b + 10), .ref (b + 11), .int 0, .int 10]), .inl (gI Γ, 5, .inl (fun _ => 0)), .inl (gI Γ, 5, .inl (fun _ => 0)), .inr (1, [.ref (b + 13), .ref (b + 14), .int 0, .int 10]), .inl (gI Γ, 5, .inl (fun _ => 0)), .inl (gI Γ, 5, .inl (fun _ => 0)), .inr (1, [.ref (b + 16), .ref (b + 17), .int 0, .int 10]), .inl (gI Γ, 5, .inl (fun _ => 0)), .inl (gI Γ, 5, .inl (fun _ => 0)), .inr (1, [.ref (b + 19), .ref (b + 20), .int 0, .int 10]), .inl (gI Γ, 5, .inl (fun _ => 0)), .inl (gI Γ, 5, .inl (fun _ => 0)), .inr (1, [.ref (b + 22), .ref (b + 23), .int 0, .int 10]), .inl (gI Γ, 5, .inl (fun _ => 0)), .inl (gI Γ, 5, .inl (fun _ => 0)), .inr (1, [.ref (b + 25), .ref (b + 26), .int 0, .int 10]), .inl (gI Γ, 5, .inl (fun _ => 0)), .inl (gI Γ, 5, .inl (fun _ => 0)), .inr (1, [.ref (b + 28), .ref (b + 29), .int 0, .int 10]), .inl (gI Γ, 5, .inl (fun _ => 0)), .inl (gI Γ, 5, .inl (fun _ => 0)), .inr (1, [.ref (b + 31), .ref (b + 32), .int 0, .int 10]), .inl (gI Γ, 5, .inl (fun _ => 0)), .inl (gI Γ, 5, .inl (fun _ => 0)), .inr (2, [.ref (b + 34), .ref (b + 35), .ref (b + 36), .int 0]), .inl (gI Γ, 8, .inl (fun _ => 0)), .inl (gI Γ, 8, .inl (fun _ => 0)), .inl (gI Γ, 8, .inl (fun _ => 0)), .inr (4, [.ref (b + 38), .ref (b + 39), .ref (b + 40), .int 0, .int 0, .int 0]), .inl (gI Γ, 8, .inl (fun _ => 0)), .inl (gI Γ, 12, .inl (fun _ => 0)), .inr (2, [.ref (b + 41), .ref (b + 42), .ref (b + 43), .int 0]), .inl (gI Γ, 8, .inl (fun _ => 0)), .inl (gI Γ, 8, .inl (fun _ => 0)), .inl (gI Γ, 8, .inl (fun _ => 0)), .inr (6, [.ref (b + 3), .ref (b + 45), .ref (b + 46), .ref (b + 47), .ref (b + 48), .int 0, .int 10, .int 1, .int 0, .int 0, .int 0, .int 0, .int 0, .ref (b + 49), .ref (b + 50)]), .inl (gI Γ, 5, .inl (fun _ => 0)), .inl (gI Γ, 5, .inl (fun _ => 0)), .inl (gI Γ, 5, .inl (fun _ => 0)), .inl (gI Γ, 12, .inl (fun _ => 0)), .inl (gI Γ, 5, .inl (fun _ => 0)), .inl (gI Γ, 12, .inl (fun _ => 0)), .inr (0, [.int (-1), .int (-1), .ref (b + 52)]), .inl (gI Γ, 5, .inl (fun _ => 0)), .inl (gI Γ, 4, .inl (fun _ => 0)), .inl (gI Γ, 4, .inl (fun _ => 0))]) (es' := [.inr (7, [.ref (b + 1), .ref (b + 3), .ref (b + 8), .ref (b + 33), .ref (b + 37), .ref (b + 44), .ref (b + 51), .ref (b + 53), .ref (b + 54), .int 0, .int 9]), .inr (5, [.ref (b + 2), .int 0]), .inl (gI Γ, 50, .inl (fun _ => 0)), .inr (3, [.ref (b + 4), .ref (b + 5), .ref (b + 6), .ref (b + 7), .int 0, .int 0]), .inl (gI Γ, 12, .inl (fun _ => 0)), .inl (gI Γ, 12, .inl (fun _ => 0)), .inl (gI Γ, 12, .inl (fun _ => 0)), .inl (gI Γ, 12, .inl (fun _ => 0)), .inl (gR Γ, 8, .inr (.inr (.inr (.inr (va_up (va_up (va_up (va_up (va_up (va_up (va_up (va_up (fun _ => none) (0 : Int32).toNatClampNeg (some (b + 9))) (1 : Int32).toNatClampNeg (some (b + 12))) (2 : Int32).toNatClampNeg (some (b + 15))) (3 : Int32).toNatClampNeg (some (b + 18))) (4 : Int32).toNatClampNeg (some (b + 21))) (5 : Int32).toNatClampNeg (some (b + 24))) (6 : Int32).toNatClampNeg (some (b + 27))) (7 : Int32).toNatClampNeg (some (b + 30))))))), .inr (1, [.ref (b + 10), .ref (b + 11), .int 0, .int 10]), .inl (gI Γ, 5, .inl (fun _ => 0)), .inl (gI Γ, 5, .inl (fun _ => 0)), .inr (1, [.ref (b + 13), .ref (b + 14), .int 0, .int 10]), .inl (gI Γ, 5, .inl (fun _ => 0)), .inl (gI Γ, 5, .inl (fun _ => 0)), .inr (1, [.ref (b + 16), .ref (b + 17), .int 0, .int 10]), .inl (gI Γ, 5, .inl (fun _ => 0)), .inl (gI Γ, 5, .inl (fun _ => 0)), .inr (1, [.ref (b + 19), .ref (b + 20), .int 0, .int 10]), .inl (gI Γ, 5, .inl (fun _ => 0)), .inl (gI Γ, 5, .inl (fun _ => 0)), .inr (1, [.ref (b + 22), .ref (b + 23), .int 0, .int 10]), .inl (gI Γ, 5, .inl (fun _ => 0)), .inl (gI Γ, 5, .inl (fun _ => 0)), .inr (1, [.ref (b + 25), .ref (b + 26), .int 0, .int 10]), .inl (gI Γ, 5, .inl (fun _ => 0)), .inl (gI Γ, 5, .inl (fun _ => 0)), .inr (1, [.ref (b + 28), .ref (b + 29), .int 0, .int 10]), .inl (gI Γ, 5, .inl (fun _ => 0)), .inl (gI Γ, 5, .inl (fun _ => 0)), .inr (1, [.ref (b + 31), .ref (b + 32), .int 0, .int 10]), .inl (gI Γ, 5, .inl (fun _ => 0)), .inl (gI Γ, 5, .inl (fun _ => 0)), .inr (2, [.ref (b + 34), .ref (b + 35), .ref (b + 36), .int 0]), .inl (gI Γ, 8, .inl (fun _ => 0)), .inl (gI Γ, 8, .inl (fun _ => 0)), .inl (gI Γ, 8, .inl (fun _ => 0)), .inr (4, [.ref (b + 38), .ref (b + 39), .ref (b + 40), .int 0, .int 0, .int 0]), .inl (gI Γ, 8, .inl (fun _ => 0)), .inl (gI Γ, 12, .inl (fun _ => 0)), .inr (2, [.ref (b + 41), .ref (b + 42), .ref (b + 43), .int 0]), .inl (gI Γ, 8, .inl (fun _ => 0)), .inl (gI Γ, 8, .inl (fun _ => 0)), .inl (gI Γ, 8, .inl (fun _ => 0)), .inr (6, [.ref (b + 3), .ref (b + 45), .ref (b + 46), .ref (b + 47), .ref (b + 48), .int 0, .int 10, .int 1, .int 0, .int 0, .int 0, .int 0, .int 0, .ref (b + 49), .ref (b + 50)]), .inl (gI Γ, 5, .inl (fun _ => 0)), .inl (gI Γ, 5, .inl (fun _ => 0)), .inl (gI Γ, 5, .inl (fun _ => 0)), .inl (gI Γ, 12, .inl (fun _ => 0)), .inl (gI Γ, 5, .inl (fun _ => 0)), .inl (gI Γ, 12, .inl (fun _ => 0)), .inr (0, [.int (-1), .int (-1), .ref (b + 52)]), .inl (gI Γ, 5, .inl (fun _ => 0)), .inl (gI Γ, 4, .inl (fun _ => 0)), .inl (gI Γ, 4, .inl (fun _ => 0)), .inr (8, [.ref (b + 56), .int 0, .int 0, .int 0, .int 0, .ref (b + 57), .int 0, .int 0, .ref (b + 58), .ref (b + 59), .ref (b + 60), .ref (b + 61), .int 0, .ref (b + 62), .ref (b + 63), .ref (b + 64), .int 9, .int 0, .int 0, .ref (b + 65), .ref (b + 66), .ref (b + 67), .int 0, .int 0, .int 0, .int 0, .ref (b + 68), .ref (b + 69), .int 0, .int 0, .ref (b + 70), .ref (b + 71), .int (-1), .int 0, .int 0, .int 0, .ref (b + 72), .ref (b + 73), .ref (b + 74), .long 0]), .inl (gI Γ, 50, .inl (fun _ => 0)), .inl (gI Γ, 36, .inl (fun _ => 0)), .inl (gI Γ, 12, .inl (fun _ => 0)), .inl (gI Γ, 12, .inl (fun _ => 0)), .inl (gI Γ, 12, .inl (fun _ => 0)), .inl (gI Γ, 12, .inl (fun _ => 0)), .inl (gI Γ, 8, .inl (fun _ => 0)), .inl (gI Γ, 8, .inl (fun _ => 0)), .inl (gI Γ, 80, .inl (fun _ => 0)), .inl (gI Γ, 6, .inl (fun _ => 0)), .inl (gI Γ, 6, .inl (fun _ => 0)), .inl (gI Γ, 12, .inl (fun _ => 0)), .inl (gI Γ, 12, .inl (fun _ => 0)), .inl (gI Γ, 6, .inl (fun _ => 0)), .inl (gI Γ, 24, .inl (fun _ => 0)), .inl (gI Γ, 4, .inl (fun _ => 0)), .inl (gI Γ, 12, .inl (fun _ => 0)), .inl (gI Γ, 8, .inl (fun _ => 0)), .inl (gI Γ, 24, .inl (fun _ => 0))]) (As := []) (st := [.ref (b + 55)]) CJ0 li_L_12 (c_X8_init (b + 55)) (by decide) rfl rfl rfl rfl rfl rfl (Nat.le_of_ble_eq_true rfl) (by decide) (by decide) dL_law_12 ?_
  refine j_astore_n (pc := 15) CJ0 dL_law_15 rfl (by decide) (lv' := [(2, .ref (b + 55)), (1, .ref (b + 0)), (0, .ref sb)]) rfl ?_
  refine j_iconst (pc := 16) CJ0 (v := 0) dL_law_16 (by decide) ?_
  refine j_istore_n (pc := 17) CJ0 dL_law_17 rfl (by decide) (lv' := [(3, .int 0), (2, .ref (b + 55)), (1, .ref (b + 0)), (0, .ref sb)]) rfl ?_
  intro H locs ls hP hS h
  refine W.widen (k := 600000) (n := 7302250) (Nat.le_of_ble_eq_true rfl) (Nat.le_of_ble_eq_true rfl) ?_
  have hG := p_law_l18 CX ML L xs Z FU 0 S0 H locs ls (w0_P b hX hP) hS (lv_sub h [3, 2, 1, 0] (by rw [hX, hX]; rfl)) 1 S' hpure
  intro T hT X
  obtain ⟨t, h1, h2⟩ := hG T hT (by rw [ML.2.2.1, ML.2.2.2.1]; exact X)
  exact ⟨t, h1, h2 rfl⟩
set_option maxRecDepth 100000 in
set_option maxHeartbeats 4000000 in
theorem whole_start {p : Program} {e : Env} {s : State} {m : MethodId} {below : List Frame} {meth : Method} {c : Code} (l : Launch) (hflags : l.flags = flags0) {b L : Nat} {xs : Nat → Int32} (hL : L ≤ 4608) (C0 : lw_At p s m meth c b L xs) : W p l e room_1 s m #[Value.ref b] below meth c s.heap [] 0 0 (lw_Z below #[Value.ref b] s) (entryFrame m ([Value.ref b] : List Value).toArray 4) := by
  obtain ⟨hx, hb, hr, hml, hown, hts, hX, hbl, hlocks, hgv⟩ := id C0
  have hWT : ∀ w ∈ WT, w.before #[Value.ref b] s = true := fun w hw => hts w (List.mem_filter.mp hw).1
  have hN : ∀ w ∈ lw_tbl, isNest w = true → va_Nw w s := fun w hw hn => nest_of (hts w hw) hn
  obtain ⟨kS, vS, sc1, sc2, sc3⟩ := sc_of hts hgv
  obtain ⟨c0, iS0, hKn0⟩ := u_known (C := RX0) (T := TX0) (N := 3) (n := 3) hWT uw_0 (hWT _ kin_0)
  obtain ⟨c1, iS1, hKn1⟩ := u_known (C := RX1) (T := TX1) (N := 4) (n := 4) hWT uw_1 (hWT _ kin_1)
  obtain ⟨c2, iS2, hKn2⟩ := u_known (C := RX2) (T := TX2) (N := 4) (n := 4) hWT uw_2 (hWT _ kin_2)
  obtain ⟨c3, iS3, hKn3⟩ := u_known (C := RX3) (T := TX3) (N := 6) (n := 6) hWT uw_3 (hWT _ kin_3)
  obtain ⟨c4, iS4, hKn4⟩ := u_known (C := RX4) (T := TX4) (N := 6) (n := 6) hWT uw_4 (hWT _ kin_4)
  obtain ⟨c5, iS5, hKn5⟩ := u_known (C := RX5) (T := TX5) (N := 2) (n := 2) hWT uw_5 (hWT _ kin_5)
  obtain ⟨c6, iS6, hKn6⟩ := u_known (C := RX6) (T := TX6) (N := 15) (n := 15) hWT uw_6 (hWT _ kin_6)
  obtain ⟨c7, iS7, hKn7⟩ := u_known (C := RX7) (T := TX7) (N := 11) (n := 11) hWT uw_7 (hWT _ kin_7)
  obtain ⟨c8, iS8, hKn8⟩ := u_known (C := RX8) (T := TX8) (N := 40) (n := 40) hWT uw_8 (hWT _ kin_8)
  obtain ⟨cI, kI, compI, i1, i2, i3⟩ := Cond.arrayClass_spec (hWT _ kw_ac)
  have hAO : va_AO "CartsDownHill$Cart" s := va_AO.of (hts _ (List.mem_of_getElem? (i := 162) (by decide +kernel)))
  obtain ⟨compR, cR, kR, r1, -, r3, r4, r5⟩ := Cond.arrayOver_spec hAO
  let dC : Nat → ClassId := fun k => [c0, c1, c2, c3, c4, c5, c6, c7, c8].getD k 0
  let dI : Nat → Nat → Nat := fun k => [iS0, iS1, iS2, iS3, iS4, iS5, iS6, iS7, iS8].getD k iS0
  let Γ : GA := (l, dC, dI, fun c => s.heap.size + c, cI, cR, kS, vS)
  have hK : va_K (gD Γ) vwCl (gT Γ) s := by
    refine ⟨fun k q hq => ?_, fun k q hq => ?_⟩
    · match k, hq with
      | 0, hq => cases hq; exact hKn0
      | 1, hq => cases hq; exact hKn1
      | 2, hq => cases hq; exact hKn2
      | 3, hq => cases hq; exact hKn3
      | 4, hq => cases hq; exact hKn4
      | 5, hq => cases hq; exact hKn5
      | 6, hq => cases hq; exact hKn6
      | 7, hq => cases hq; exact hKn7
      | 8, hq => cases hq; exact hKn8
      | k + 9, hq => simp [vwCl] at hq
    · match k, hq with
      | 0, hq => cases hq; exact ⟨fun n z => ⟨fun k h => (by cases h), kI, i2, compI, i3⟩, i1⟩
      | 1, hq => cases hq; exact ⟨fun n z => ⟨fun k h => (by cases h), kR, r3, compR, r4⟩, kR, compR, r3, r4, r1, r5⟩
      | k + 2, hq => simp [gT] at hq
  let E : EV := (p, e, room_1, s, m, #[Value.ref b], below, meth, c, 600000, 7302250, fun q => s.heap.size ≤ q)
  have CJ0 : Cj Γ E RL cL_law 4 4 75 1000 s.heap.size 0 ret := ⟨hx, hb, hml, hown, hWT, ⟨hK, hN, hAO⟩, fun q h => h, Nat.le_of_ble_eq_true rfl, Nat.le_of_ble_eq_true rfl, Nat.le_of_ble_eq_true rfl, Nat.le_of_ble_eq_true rfl, hlocks, hr, rfl⟩
  have CX : Cx Γ E RL cL_law 4 10 ret := ⟨hx, hb, hml, hown, hWT, hN, hK, fun i j _ _ (h : s.heap.size + i = s.heap.size + j) => by omega, ⟨sc1, sc2, sc3⟩, fun c _ => Nat.le_add_right _ _, Nat.le_of_ble_eq_true rfl, Nat.le_of_ble_eq_true rfl, Nat.le_of_ble_eq_true rfl, Nat.le_of_ble_eq_true rfl, hlocks, hr⟩
  have ML : Lx E b := ⟨rfl, rfl, rfl, rfl, rfl⟩
  have Z : Zx E b L xs := ⟨hX, hbl, Nat.not_le.mpr hbl⟩
  obtain ⟨S', hpure⟩ := law_pure L hL xs
  have hl := lv_entry ([.ref b]) (n := 4) (Nat.le_of_ble_eq_true rfl)
  rw [lg_entry_eq]
  have key : J Γ E s.heap.size (lw_Z below #[Value.ref b] s) 4 0 [(0, .ref b)] [] [] 0 0 := by
    generalize hbb : s.heap.size = bb at CJ0
    have hXX : ∀ c, gX Γ c = bb + c := fun c => by rw [← hbb]; rfl
    exact law_head CJ0 hXX CX ML Z hpure
  exact key s.heap [] _ (fun k q h => by simp [cw] at h) va_S.rf hl

