-- ===== letters =====
def bt (l : Int64) (i : Nat) : Nat := l.toBitVec.toNat / 2 ^ (8 * i) % 256
theorem bt_lt (l : Int64) (i : Nat) : bt l i < 256 := Nat.mod_lt _ (by decide)
theorem sh8_tab : (List.range 8).all (fun i => decide ((((8 * nI i) : Int32).toInt64.toUInt64 &&& Int64.toUInt64 63) = UInt64.ofNat (8 * i))) = true := by decide +kernel
theorem sh8 {i : Nat} (hi : i < 8) : (((8 * nI i) : Int32).toInt64.toUInt64 &&& Int64.toUInt64 63) = UInt64.ofNat (8 * i) := by
  have h := List.all_eq_true.mp sh8_tab i (List.mem_range.mpr hi)
  simpa using h
theorem u_shr (u : UInt64) {k : Nat} (hk : k < 64) : (u >>> UInt64.ofNat k).toNat = u.toNat / 2 ^ k := by
  rw [UInt64.toNat_shiftRight, UInt64.toNat_ofNat', Nat.shiftRight_eq_div_pow]
  congr 2
  omega
theorem i32_and255 (x : Int64) : x.toInt32 &&& 255 = nI (x.toBitVec.toNat % 256) := by
  apply Int32.toBitVec_inj.mp
  apply BitVec.eq_of_toNat_eq
  have h1 : (x.toInt32 &&& 255).toBitVec.toNat = x.toBitVec.toNat % 256 := by
    rw [Int32.toBitVec_and, BitVec.toNat_and, show (255 : Int32).toBitVec.toNat = 2 ^ 8 - 1 from by decide, Nat.and_two_pow_sub_one_eq_mod, Int64.toBitVec_toInt32, BitVec.signExtend_eq_setWidth_of_le _ (by decide), BitVec.toNat_setWidth]
    omega
  rw [h1]
  show _ = (nI (x.toBitVec.toNat % 256)).toBitVec.toNat
  rw [pk_tn (by omega)]
theorem bt_u (l : Int64) {k : Nat} (hk : k < 64) : ((l.toUInt64 >>> UInt64.ofNat k).toInt64).toBitVec.toNat = l.toBitVec.toNat / 2 ^ k := u_shr l.toUInt64 hk
theorem f_code {l : Int64} {i : Nat} (hi : i < 8) (S : St) : f_X7_codeAt l (nI i) S = some (nI (bt l i), S) := by
  unfold f_X7_codeAt bt
  rw [sh8 hi, i32_and255, bt_u l (show 8 * i < 64 by omega)]
theorem i64_and255 (x : Int64) : (x &&& 255).toInt32 = nI (x.toBitVec.toNat % 256) := by
  rw [← i32_and255, Int64.toInt32_and]
  rfl
theorem code8 {l : Int64} {i : Nat} (hi : i < 8) : (((l.toUInt64 >>> (((8 * nI i) : Int32).toInt64.toUInt64 &&& Int64.toUInt64 63)).toInt64) &&& 255 : Int64).toInt32 = nI (bt l i) := by
  unfold bt
  rw [sh8 hi, i64_and255, bt_u l (show 8 * i < 64 by omega)]
