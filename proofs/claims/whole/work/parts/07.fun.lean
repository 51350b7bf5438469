def f_X7_codeAt (l0 : Int64) (x2 : Int32) (S : St) : Option (Int32 × St) :=
  some ((((((l0 : Int64).toUInt64 >>> (((8 * x2) : Int32).toInt64.toUInt64 &&& Int64.toUInt64 63)).toInt64 : Int64).toInt32) &&& 255), S)
def f_X5_put (x1 : Int32) (S : St) : Option (Unit × St) :=
  if 50 ≤ (S 1 1) then
    some ((), S)
  else
    grd (inb (S 1 1) 50) <|
    lett (su S 2 ((S 1 1) : Int32).toNatClampNeg x1) fun S_1 =>
    lett (su S_1 1 1 ((S_1 1 1) + 1)) fun S_2 =>
    some ((), S_2)
def f_X7_letters_l83 : Nat → Int64 → Int32 → Int32 → St → Option (Int32 × St)
  | 0, _, _, _, _ => none
  | n + 1, l1, x3, x5, S =>
    if x3 ≤ x5 then
      some ((S 1 1), S)
    else
      bnd (f_X7_codeAt l1 x5 S) fun r_2 S_1 =>
      bnd (f_X5_put r_2 S_1) fun r_4 S_3 =>
      lett (x5 + 1) fun x5_5 =>
      f_X7_letters_l83 n l1 x3 x5_5 S_3
def f_X7_letters_b57 (k8 : Int64 → Int32 → Int32 → Int32 → St → Option (Int32 × St)) (l1 : Int64) (x3 : Int32) (x4 : Int32) (x5 : Int32) (S : St) : Option (Int32 × St) :=
  lett (x5 + 1) fun x5_8 =>
  k8 l1 x3 x4 x5_8 S
def f_X7_letters_b43 (k8 : Int64 → Int32 → Int32 → Int32 → St → Option (Int32 × St)) (l1 : Int64) (x3 : Int32) (x4 : Int32) (x5 : Int32) (x6 : Int32) (S : St) : Option (Int32 × St) :=
  if x6 = 0 then
    f_X7_letters_b57 k8 l1 x3 1 x5 S
  else
    lett (x3 + 1) fun x3_9 =>
    f_X7_letters_b57 k8 l1 x3_9 x4 x5 S
def f_X7_letters_l8 : Nat → Int64 → Int32 → Int32 → Int32 → St → Option (Int32 × St)
  | 0, _, _, _, _, _ => none
  | n + 1, l1, x3, x4, x5, S =>
    if 8 ≤ x5 then
      if ((S 1 1) + x3) ≤ 50 then
        f_X7_letters_l83 FU l1 x3 0 S
      else
        some ((-104), S)
    else
      bnd (f_X7_codeAt l1 x5 S) fun r_7 S_6 =>
      if 126 < r_7 then
        some ((-102), S_6)
      else
        if x4 = 0 then
          f_X7_letters_b43 (f_X7_letters_l8 n) l1 x3 x4 x5 r_7 S_6
        else
          if r_7 = 0 then
            f_X7_letters_b43 (f_X7_letters_l8 n) l1 x3 x4 x5 r_7 S_6
          else
            some ((-102), S_6)
def f_X7_letters (l1 : Int64) (S : St) : Option (Int32 × St) :=
  f_X7_letters_l8 FU l1 0 0 0 S
def f_X7_blank (S : St) : Option (Int32 × St) :=
  lett (S 1 1) fun x1_1 =>
  lett (su S 1 1 0) fun S_2 =>
  some (x1_1, S_2)
def f_X5_at (x1 : Int32) (S : St) : Option (Int32 × St) :=
  if x1 < 0 then
    some (0, S)
  else
    if (S 1 1) ≤ x1 then
      some (0, S)
    else
      grd (inb x1 50) <|
      some ((S 2 (x1 : Int32).toNatClampNeg), S)
def f_X5_digitAt (x1 : Int32) (S : St) : Option (Int32 × St) :=
  bnd (f_X5_at x1 S) fun r_2 S_1 =>
  some ((r_2 - 48), S_1)
def f_X5_isDigit (x1 : Int32) (x2 : Int32) (S : St) : Option (Int32 × St) :=
  bnd (f_X5_digitAt x1 S) fun r_2 S_1 =>
  if r_2 < x2 then
    some (0, S_1)
  else
    bnd (f_X5_digitAt x1 S_1) fun r_4 S_3 =>
    if 9 < r_4 then
      some (0, S_3)
    else
      some (1, S_3)
def f_X5_fitsHill_b18 (x1 : Int32) (S : St) : Option (Int32 × St) :=
  bnd (f_X5_isDigit x1 0 S) fun r_4 S_3 =>
  grd (isB r_4) (some (r_4, S_3))
def f_X5_fitsHill_b100 (S : St) : Option (Int32 × St) :=
  some (1, S)
def f_X5_fitsHill_b73 (x1 : Int32) (s0 : Int32) (S : St) : Option (Int32 × St) :=
  if s0 = 0 then
    some (0, S)
  else
    bnd (f_X5_at x1 S) fun r_10 S_9 =>
    if r_10 = 98 then
      f_X5_fitsHill_b100 S_9
    else
      bnd (f_X5_at x1 S_9) fun r_12 S_11 =>
      if r_12 = 117 then
        f_X5_fitsHill_b100 S_11
      else
        some (0, S_11)
def f_X5_fitsHill_b72 (x1 : Int32) (S : St) : Option (Int32 × St) :=
  f_X5_fitsHill_b73 x1 0 S
def f_X5_fitsHill (x1 : Int32) (x2 : Int32) (S : St) : Option (Int32 × St) :=
  bnd (f_X5_at (x1 - 1) S) fun r_2 S_1 =>
  if r_2 = 0 then
    f_X5_fitsHill_b18 x1 S_1
  else
    if r_2 = 44 then
      f_X5_fitsHill_b18 x1 S_1
    else
      if r_2 = 98 then
        bnd (f_X5_isDigit x1 1 S_1) fun r_6 S_5 =>
        grd (isB r_6) (some (r_6, S_5))
      else
        bnd (f_X5_at x1 S_1) fun r_8 S_7 =>
        if r_8 = 44 then
          grd (isB x2) (some (x2, S_7))
        else
          if r_2 = 117 then
            f_X5_fitsHill_b72 x1 S_7
          else
            bnd (f_X5_at (x1 - 2) S_7) fun r_14 S_13 =>
            if r_14 = 98 then
              f_X5_fitsHill_b72 x1 S_13
            else
              f_X5_fitsHill_b73 x1 1 S_13
def f_X5_hillFault_b46 (k4 : Int32 → Int32 → St → Option (Int32 × St)) (x1 : Int32) (x2 : Int32) (S : St) : Option (Int32 × St) :=
  lett (x2 + 1) fun x2_6 =>
  k4 x1 x2_6 S
def f_X5_hillFault_b25 (k4 : Int32 → Int32 → St → Option (Int32 × St)) (x1 : Int32) (x2 : Int32) (s0 : Int32) (s1 : Int32) (S : St) : Option (Int32 × St) :=
  bnd (f_X5_fitsHill s1 s0 S) fun r_2 S_1 =>
  if r_2 = 0 then
    some (x2, S_1)
  else
    bnd (f_X5_at x2 S_1) fun r_4 S_3 =>
    if r_4 = 44 then
      lett (x1 + 1) fun x1_5 =>
      f_X5_hillFault_b46 k4 x1_5 x2 S_3
    else
      f_X5_hillFault_b46 k4 x1 x2 S_3
def f_X5_hillFault_l4 : Nat → Int32 → Int32 → St → Option (Int32 × St)
  | 0, _, _, _ => none
  | n + 1, x1, x2, S =>
    if (S 1 1) ≤ x2 then
      some ((S 1 1), S)
    else
      if 12 ≤ x1 then
        f_X5_hillFault_b25 (f_X5_hillFault_l4 n) x1 x2 0 x2 S
      else
        f_X5_hillFault_b25 (f_X5_hillFault_l4 n) x1 x2 1 x2 S
def f_X5_hillFault (S : St) : Option (Int32 × St) :=
  f_X5_hillFault_l4 FU 1 0 S
def f_X5_kindAt (x1 : Int32) (S : St) : Option (Int32 × St) :=
  bnd (f_X5_at x1 S) fun r_2 S_1 =>
  bnd (f_indexOf (((r_2 : Int32).toUInt32 % 65536).toInt32) S_1) fun r_4 S_3 =>
  some (r_4, S_3)
def f_X5_fitsCart_b52 (s0 : Int32) (s1 : Int32) (S : St) : Option (Int32 × St) :=
  if s1 = s0 then
    some (1, S)
  else
    some (0, S)
def f_X5_fitsCart_b102 (s0 : Int32) (s1 : Int32) (S : St) : Option (Int32 × St) :=
  bnd (f_X5_isDigit s1 s0 S) fun r_10 S_9 =>
  grd (isB r_10) (some (r_10, S_9))
def f_X5_fitsCart (x1 : Int32) (S : St) : Option (Int32 × St) :=
  if x1 < 18 then
    grd (nz 3) <|
    if (x1 - x1 / 3 * 3) = 0 then
      bnd (f_X5_at x1 S) fun r_2 S_1 =>
      if x1 = 0 then
        f_X5_fitsCart_b52 119 r_2 S_1
      else
        f_X5_fitsCart_b52 44 r_2 S_1
    else
    if (x1 - x1 / 3 * 3) = 1 then
      if x1 = 1 then
        bnd (f_X5_isDigit x1 1 S) fun r_5 S_4 =>
        grd (isB r_5) (some (r_5, S_4))
      else
        bnd (f_X5_kindAt x1 S) fun r_7 S_6 =>
        if r_7 = (-1) then
          some (0, S_6)
        else
          some (1, S_6)
    else
      if x1 = 2 then
        f_X5_fitsCart_b102 0 x1 S
      else
        f_X5_fitsCart_b102 1 x1 S
  else
    some (0, S)
def f_X5_cartFault_l2 : Nat → Int32 → St → Option (Int32 × St)
  | 0, _, _ => none
  | n + 1, x1, S =>
    if (S 1 1) ≤ x1 then
      some ((S 1 1), S)
    else
      bnd (f_X5_fitsCart x1 S) fun r_2 S_1 =>
      if r_2 = 0 then
        some (x1, S_1)
      else
        lett (x1 + 1) fun x1_3 =>
        f_X5_cartFault_l2 n x1_3 S_1
def f_X5_cartFault (S : St) : Option (Int32 × St) :=
  f_X5_cartFault_l2 FU 0 S
def f_X7_fault (x1 : Int32) (S : St) : Option (Int32 × St) :=
  if x1 = 0 then
    bnd (f_X5_hillFault S) fun r_2 S_1 =>
    some (r_2, S_1)
  else
    if x1 = 1 then
      bnd (f_X5_cartFault S) fun r_4 S_3 =>
      some (r_4, S_3)
    else
      some ((-102), S)
def f_X5_commas_b25 (k4 : Int32 → Int32 → St → Option (Int32 × St)) (x1 : Int32) (x2 : Int32) (S : St) : Option (Int32 × St) :=
  lett (x2 + 1) fun x2_4 =>
  k4 x1 x2_4 S
def f_X5_commas_l4 : Nat → Int32 → Int32 → St → Option (Int32 × St)
  | 0, _, _, _ => none
  | n + 1, x1, x2, S =>
    if (S 1 1) ≤ x2 then
      some (x1, S)
    else
      bnd (f_X5_at x2 S) fun r_2 S_1 =>
      if r_2 = 44 then
        lett (x1 + 1) fun x1_3 =>
        f_X5_commas_b25 (f_X5_commas_l4 n) x1_3 x2 S_1
      else
        f_X5_commas_b25 (f_X5_commas_l4 n) x1 x2 S_1
def f_X5_commas (S : St) : Option (Int32 × St) :=
  f_X5_commas_l4 FU 0 0 S
def f_X5_isHill (S : St) : Option (Int32 × St) :=
  bnd (f_X5_at ((S 1 1) - 1) S) fun r_2 S_1 =>
  bnd (f_X5_hillFault S_1) fun r_4 S_3 =>
  if r_4 = (S_3 1 1) then
    if r_2 = 44 then
      some (0, S_3)
    else
      if r_2 = 98 then
        some (0, S_3)
      else
        bnd (f_X5_commas S_3) fun r_6 S_5 =>
        if r_6 ≤ 0 then
          some (0, S_5)
        else
          some (1, S_5)
  else
    some (0, S_3)
def f_fill_l5 (cA nA : Nat) : Nat → Int32 → Int32 → Int32 → St → Option (Unit × St)
  | 0, _, _, _, _ => none
  | n + 1, x1, x2, x3, S =>
    if x3 ≤ x2 then
      some ((), S)
    else
      grd (inb x2 nA) <|
      lett (su S cA (x2 : Int32).toNatClampNeg x1) fun S_2 =>
      lett (x2 + 1) fun x2_3 =>
      f_fill_l5 cA nA n x1 x2_3 x3 S_2
def f_fill (cA nA : Nat) (x1 : Int32) (S : St) : Option (Unit × St) :=
  lett (nI nA) fun x3_1 =>
  f_fill_l5 cA nA FU x1 0 x3_1 S
def f_X3_readDrop (x2 : Int32) (x3 : Int32) (S : St) : Option (Unit × St) :=
  bnd (f_X5_at (x2 - 1) S) fun r_2 S_1 =>
  if r_2 = 98 then
    some ((), S_1)
  else
    bnd (f_X5_digitAt x2 S_1) fun r_4 S_3 =>
    grd (inb x3 12) <|
    lett (su S_3 4 (x3 : Int32).toNatClampNeg r_4) fun S_5 =>
    some ((), S_5)
def f_X3_read_b125 (x2 : Int32) (S : St) : Option (Unit × St) :=
  lett (su S 3 4 (if 12 < (x2 + 1) then 12 else (x2 + 1))) fun S_7 =>
  lett (su S_7 3 5 ((S_7 3 5) + 1)) fun S_8 =>
  some ((), S_8)
def f_X3_read_b119 (k28 : Int32 → Int32 → St → Option (Unit × St)) (x2 : Int32) (x3 : Int32) (S : St) : Option (Unit × St) :=
  lett (x3 + 1) fun x3_12 =>
  k28 x2 x3_12 S
def f_X3_read_l28 : Nat → Int32 → Int32 → St → Option (Unit × St)
  | 0, _, _, _ => none
  | n + 1, x2, x3, S =>
    if (S 1 1) ≤ x3 then
      f_X3_read_b125 x2 S
    else
      if 12 ≤ x2 then
        f_X3_read_b125 x2 S
      else
        bnd (f_X5_at x3 S) fun r_10 S_9 =>
        if r_10 = 44 then
          lett (x2 + 1) fun x2_11 =>
          f_X3_read_b119 (f_X3_read_l28 n) x2_11 x3 S_9
        else
        if r_10 = 98 then
          bnd (f_X5_digitAt (x3 + 1) S_9) fun r_15 S_14 =>
          grd (inb x2 12) <|
          lett (su S_14 5 (x2 : Int32).toNatClampNeg r_15) fun S_16 =>
          f_X3_read_b119 (f_X3_read_l28 n) x2 x3 S_16
        else
        if r_10 = 117 then
          grd (inb x2 12) <|
          lett (su S_9 6 (x2 : Int32).toNatClampNeg 1) fun S_18 =>
          f_X3_read_b119 (f_X3_read_l28 n) x2 x3 S_18
        else
          bnd (f_X3_readDrop x3 x2 S_9) fun r_21 S_20 =>
          f_X3_read_b119 (f_X3_read_l28 n) x2 x3 S_20
def f_X3_read (S : St) : Option (Unit × St) :=
  bnd (f_fill 5 12 0 S) fun r_2 S_1 =>
  bnd (f_fill 6 12 0 S_1) fun r_4 S_3 =>
  bnd (f_fill 7 12 0 S_3) fun r_6 S_5 =>
  f_X3_read_l28 FU 0 0 S_5
def f_X7_hill (S : St) : Option (Int32 × St) :=
  bnd (f_X5_isHill S) fun r_2 S_1 =>
  if r_2 = 0 then
    some ((-103), S_1)
  else
    bnd (f_X3_read S_1) fun r_4 S_3 =>
    lett (su S_3 1 1 0) fun S_5 =>
    some ((S_5 3 4), S_5)
def f_X5_isCart (S : St) : Option (Int32 × St) :=
  if (S 1 1) ≤ 0 then
    some (0, S)
  else
    grd (nz 3) <|
    if ((S 1 1) - (S 1 1) / 3 * 3) = 0 then
      bnd (f_X5_cartFault S) fun r_2 S_1 =>
      if r_2 = (S_1 1 1) then
        some (1, S_1)
      else
        some (0, S_1)
    else
      some (0, S)
def f_X1_read_l25 (j : Nat) : Nat → Int32 → St → Option (Unit × St)
  | 0, _, _ => none
  | n + 1, x2, S =>
    if (S 1 1) ≤ x2 then
      some ((), S)
    else
      if 5 ≤ (S (9 + 3 * j) 2) then
        some ((), S)
      else
        bnd (f_X5_kindAt (x2 + 1) S) fun r_8 S_7 =>
        grd (inb (S (9 + 3 * j) 2) 5) <|
        lett (su S_7 (9 + 3 * j + 1) ((S (9 + 3 * j) 2) : Int32).toNatClampNeg r_8) fun S_9 =>
        bnd (f_X5_digitAt (x2 + 2) S_9) fun r_11 S_10 =>
        grd (inb (S_9 (9 + 3 * j) 2) 5) <|
        lett (su S_10 (9 + 3 * j + 2) ((S_9 (9 + 3 * j) 2) : Int32).toNatClampNeg r_11) fun S_12 =>
        lett (su S_12 (9 + 3 * j) 2 ((S_12 (9 + 3 * j) 2) + 1)) fun S_13 =>
        lett (x2 + 3) fun x2_14 =>
        f_X1_read_l25 j n x2_14 S_13
def f_X1_read (j : Nat) (S : St) : Option (Unit × St) :=
  bnd (f_X5_digitAt 1 S) fun r_2 S_1 =>
  bnd (f_X5_digitAt 2 S_1) fun r_4 S_3 =>
  lett (su S_3 (9 + 3 * j) 3 ((10 * r_2) + r_4)) fun S_5 =>
  lett (su S_5 (9 + 3 * j) 2 0) fun S_6 =>
  f_X1_read_l25 j FU 3 S_6
def f_X7_cart (S : St) : Option (Int32 × St) :=
  bnd (f_X5_isCart S) fun r_2 S_1 =>
  if r_2 = 0 then
    some ((-103), S_1)
  else
    if (S_1 0 9) < 8 then
      grd (inb (S_1 0 9) 8) <|
      bnd (f_X1_read (((S_1 0 9) : Int32).toNatClampNeg) S_1) fun r_5 S_4 =>
      lett (su S_4 1 1 0) fun S_6 =>
      lett (su S_6 0 9 ((S_6 0 9) + 1)) fun S_7 =>
      some (((S_7 0 9) - 1), S_7)
    else
      some ((-104), S_1)
def f_X7_isCell (x1 : Int32) (S : St) : Option (Int32 × St) :=
  if x1 < 0 then
    some (0, S)
  else
    if (S 3 4) ≤ x1 then
      some (0, S)
    else
      some (1, S)
def f_X7_cell (x1 : Int32) (x2 : Int32) (S : St) : Option (Int32 × St) :=
  bnd (f_X7_isCell x1 S) fun r_2 S_1 =>
  if r_2 = 0 then
    some ((-101), S_1)
  else
    if x2 = 0 then
      grd (inb x1 12) <|
      some ((S_1 4 (x1 : Int32).toNatClampNeg), S_1)
    else
    if x2 = 1 then
      grd (inb x1 12) <|
      some ((S_1 5 (x1 : Int32).toNatClampNeg), S_1)
    else
    if x2 = 2 then
      grd (inb x1 12) <|
      some ((S_1 6 (x1 : Int32).toNatClampNeg), S_1)
    else
    if x2 = 3 then
      grd (inb x1 12) <|
      some ((S_1 7 (x1 : Int32).toNatClampNeg), S_1)
    else
      some ((-102), S_1)
def f_X7_isCart (x1 : Int32) (S : St) : Option (Int32 × St) :=
  if x1 < 0 then
    some (0, S)
  else
    if (S 0 9) ≤ x1 then
      some (0, S)
    else
      some (1, S)
def f_X7_about (x1 : Int32) (x2 : Int32) (S : St) : Option (Int32 × St) :=
  bnd (f_X7_isCart x1 S) fun r_2 S_1 =>
  if r_2 = 0 then
    some ((-101), S_1)
  else
    if x2 = 0 then
      grd (inb x1 8) <|
      some ((S_1 (9 + 3 * (x1 : Int32).toNatClampNeg) 3), S_1)
    else
    if x2 = 1 then
      grd (inb x1 8) <|
      some ((S_1 (9 + 3 * (x1 : Int32).toNatClampNeg) 2), S_1)
    else
      some ((-102), S_1)
def f_X7_isLoss (x1 : Int32) (x2 : Int32) (S : St) : Option (Int32 × St) :=
  bnd (f_X7_isCart x1 S) fun r_2 S_1 =>
  if r_2 = 0 then
    some (0, S_1)
  else
    if x2 < 0 then
      some (0, S_1)
    else
      grd (inb x1 8) <|
      if (S_1 (9 + 3 * (x1 : Int32).toNatClampNeg) 2) ≤ x2 then
        some (0, S_1)
      else
        some (1, S_1)
def f_X7_loss (x1 : Int32) (x2 : Int32) (x3 : Int32) (S : St) : Option (Int32 × St) :=
  bnd (f_X7_isLoss x1 x2 S) fun r_2 S_1 =>
  if r_2 = 0 then
    some ((-101), S_1)
  else
    if x3 = 0 then
      grd (inb x1 8) <|
      grd (inb x2 5) <|
      some ((S_1 (9 + 3 * (x1 : Int32).toNatClampNeg + 1) (x2 : Int32).toNatClampNeg), S_1)
    else
    if x3 = 1 then
      grd (inb x1 8) <|
      grd (inb x2 5) <|
      some ((S_1 (9 + 3 * (x1 : Int32).toNatClampNeg + 2) (x2 : Int32).toNatClampNeg), S_1)
    else
      some ((-102), S_1)
def f_X7_isWithin (x0 : Int32) (x1 : Int32) (x2 : Int32) (S : St) : Option (Int32 × St) :=
  if x0 < x1 then
    some (0, S)
  else
    if x2 < x0 then
      some (0, S)
    else
      some (1, S)
def f_X7_isOfKind_b19 (S : St) : Option (Int32 × St) :=
  some (1, S)
def f_X7_isOfKind (x0 : Int32) (x1 : Int32) (S : St) : Option (Int32 × St) :=
  if x1 = 0 then
    f_X7_isOfKind_b19 S
  else
    if x1 = x0 then
      f_X7_isOfKind_b19 S
    else
      if x1 = 1 then
        if x0 = 2 then
          f_X7_isOfKind_b19 S
        else
          some (0, S)
      else
        some (0, S)
def f_X7_as (x1 : Int32) (x2 : Int32) (x3 : Int32) (S : St) : Option (Int32 × St) :=
  bnd (f_X7_isLoss x1 x2 S) fun r_2 S_1 =>
  if r_2 = 0 then
    some ((-101), S_1)
  else
    bnd (f_X7_isWithin x3 0 5 S_1) fun r_4 S_3 =>
    if r_4 = 0 then
      some ((-102), S_3)
    else
      grd (inb x1 8) <|
      grd (inb x2 5) <|
      bnd (f_X7_isOfKind (S_3 (9 + 3 * (x1 : Int32).toNatClampNeg + 1) (x2 : Int32).toNatClampNeg) x3 S_3) fun r_7 S_6 =>
      if r_7 = 0 then
        some ((-1), S_6)
      else
        some (x2, S_6)
def f_X7_weigh (x1 : Int32) (x2 : Int32) (S : St) : Option (Int32 × St) :=
  bnd (f_X7_isCart x1 S) fun r_2 S_1 =>
  if r_2 = 0 then
    some ((-101), S_1)
  else
    bnd (f_X7_isWithin x2 10 99 S_1) fun r_4 S_3 =>
    if r_4 = 0 then
      some ((-102), S_3)
    else
      grd (inb x1 8) <|
      lett (S_3 (9 + 3 * (x1 : Int32).toNatClampNeg) 3) fun x3_6 =>
      grd (inb x1 8) <|
      lett (su S_3 (9 + 3 * (x1 : Int32).toNatClampNeg) 3 x2) fun S_8 =>
      some (x3_6, S_8)
def f_X7_grip (x1 : Int32) (S : St) : Option (Int32 × St) :=
  bnd (f_X7_isWithin x1 1 99 S) fun r_2 S_1 =>
  if r_2 = 0 then
    some ((-102), S_1)
  else
    lett (S_1 0 10) fun x2_3 =>
    lett (su S_1 0 10 x1) fun S_4 =>
    some (x2_3, S_4)
def f_X7_brake (x1 : Int32) (x2 : Int32) (S : St) : Option (Int32 × St) :=
  bnd (f_X7_isCell x1 S) fun r_2 S_1 =>
  if r_2 = 0 then
    some ((-101), S_1)
  else
    bnd (f_X7_isWithin x2 0 9 S_1) fun r_4 S_3 =>
    if r_4 = 0 then
      some ((-102), S_3)
    else
      grd (inb x1 12) <|
      lett (S_3 7 (x1 : Int32).toNatClampNeg) fun x3_5 =>
      grd (inb x1 12) <|
      lett (su S_3 7 (x1 : Int32).toNatClampNeg x2) fun S_6 =>
      some (x3_5, S_6)
def f_X7_isSwing (x0 : Int32) (S : St) : Option (Int32 × St) :=
  bnd (f_X7_isWithin x0 0 9999 S) fun r_2 S_1 =>
  grd (isB r_2) (some (r_2, S_1))
def f_X7_refusalOfRun (x1 : Int32) (x2 : Int32) (x3 : Int32) (S : St) : Option (Int32 × St) :=
  bnd (f_X7_isCart x1 S) fun r_2 S_1 =>
  if r_2 = 0 then
    some ((-101), S_1)
  else
    if (S_1 3 4) = 0 then
      some ((-103), S_1)
    else
      bnd (f_X7_isSwing x2 S_1) fun r_4 S_3 =>
      if r_4 = 0 then
        some ((-102), S_3)
      else
        if x3 = 0 then
          some ((-102), S_3)
        else
          some (0, S_3)
def f_X6_mount (j : Nat) (x2 : Int32) (S : St) : Option (Unit × St) :=
  lett (sr S 45 (va_cpy (S (9 + 3 * j + 1)) (S 45) (0 : Int32).toNatClampNeg (0 : Int32).toNatClampNeg (5 : Int32).toNatClampNeg)) fun S_1 =>
  lett (sr S_1 46 (va_cpy (S_1 (9 + 3 * j + 2)) (S_1 46) (0 : Int32).toNatClampNeg (0 : Int32).toNatClampNeg (5 : Int32).toNatClampNeg)) fun S_2 =>
  lett (sr S_2 48 (va_cpy (S_2 7) (S_2 48) (0 : Int32).toNatClampNeg (0 : Int32).toNatClampNeg (12 : Int32).toNatClampNeg)) fun S_3 =>
  bnd (f_fill 47 5 0 S_3) fun r_5 S_4 =>
  lett (su S_4 44 5 (S_4 (9 + 3 * j) 2)) fun S_6 =>
  lett (su S_6 44 6 (S_6 (9 + 3 * j) 3)) fun S_7 =>
  lett (su S_7 44 7 x2) fun S_8 =>
  some ((), S_8)
def f_X6_root_b25 (k6 : Int32 → Int32 → Int32 → St → Option (Int32 × St)) (x0 : Int32) (x1 : Int32) (x2 : Int32) (S : St) : Option (Int32 × St) :=
  grd (nz 2) <|
  lett (x2 / 2) fun x2_1 =>
  k6 x0 x1 x2_1 S
def f_X6_root_l6 : Nat → Int32 → Int32 → Int32 → St → Option (Int32 × St)
  | 0, _, _, _, _ => none
  | n + 1, x0, x1, x2, S =>
    if x2 ≤ 0 then
      some (x1, S)
    else
      if x0 < ((x1 + x2) * (x1 + x2)) then
        f_X6_root_b25 (f_X6_root_l6 n) x0 x1 x2 S
      else
        lett (x1 + x2) fun x1_2 =>
        f_X6_root_b25 (f_X6_root_l6 n) x0 x1_2 x2 S
def f_X6_root (x0 : Int32) (S : St) : Option (Int32 × St) :=
  f_X6_root_l6 FU x0 0 128 S
def f_X7_by (x0 : Int32) (x1 : Int32) (S : St) : Option (Int32 × St) :=
  if x1 ≤ 0 then
    some (0, S)
  else
    grd (nz x1) <|
    some ((x0 / x1), S)
def f_X6_bearable (x1 : Int32) (S : St) : Option (Int32 × St) :=
  grd (inb x1 12) <|
  bnd (f_X7_by (100 * (S 44 7)) (S 5 (x1 : Int32).toNatClampNeg) S) fun r_2 S_1 =>
  some (r_2, S_1)
def f_X6_takes (x1 : Int32) (x2 : Int32) (x3 : Int32) (x4 : Int32) (x5 : Int32) (S : St) : Option (Int32 × St) :=
  grd (inb x1 5) <|
  lett (S 46 (x1 : Int32).toNatClampNeg) fun x6_1 =>
  grd (inb x1 5) <|
  if (S 45 (x1 : Int32).toNatClampNeg) = 1 then
    some ((2 * x6_1), S)
  else
  if (S 45 (x1 : Int32).toNatClampNeg) = 2 then
    some ((x6_1 + (x6_1 * x4)), S)
  else
  if (S 45 (x1 : Int32).toNatClampNeg) = 3 then
    bnd (f_X7_by (x2 * x6_1) (10 * (S 44 6)) S) fun r_5 S_4 =>
    some (r_5, S_4)
  else
  if (S 45 (x1 : Int32).toNatClampNeg) = 4 then
    grd (nz 40) <|
    some ((x5 * ((x2 * x6_1) / 40)), S)
  else
  if (S 45 (x1 : Int32).toNatClampNeg) = 5 then
    some ((x6_1 * x3), S)
  else
    some (x6_1, S)
def f_X6_goThrough_b110 (x1 : Int32) (x3 : Int32) (s0 : Int32) (S : St) : Option (Unit × St) :=
  lett (su S 44 12 ((S 44 12) + s0)) fun S_2 =>
  lett (x3 - s0) fun x3_3 =>
  if 0 < x3_3 then
    lett (su S_2 44 11 x3_3) fun S_4 =>
    grd (inb x1 12) <|
    lett (su S_4 50 (x1 : Int32).toNatClampNeg x3_3) fun S_5 =>
    bnd (f_X6_root x3_3 S_5) fun r_7 S_6 =>
    bnd (f_X7_by 1000 r_7 S_6) fun r_9 S_8 =>
    lett (su S_8 44 10 ((S_5 44 10) + r_9)) fun S_10 =>
    grd (inb x1 12) <|
    if (S_10 5 (x1 : Int32).toNatClampNeg) ≤ 0 then
      some ((), S_10)
    else
      bnd (f_X6_bearable x1 S_10) fun r_12 S_11 =>
      if x3_3 ≤ r_12 then
        some ((), S_11)
      else
        lett (su S_11 44 8 2) fun S_13 =>
        some ((), S_13)
  else
    lett (su S_2 44 11 0) fun S_14 =>
    lett (su S_14 44 8 1) fun S_15 =>
    some ((), S_15)
def f_X6_goThrough_l23 : Nat → Int32 → Int32 → Int32 → Int32 → St → Option (Unit × St)
  | 0, _, _, _, _, _ => none
  | n + 1, x1, x2, x3, x4, S =>
    if (S 44 5) ≤ x4 then
      if x3 ≤ 0 then
        f_X6_goThrough_b110 x1 x3 0 S
      else
        grd (inb x1 12) <|
        grd (nz 10) <|
        f_X6_goThrough_b110 x1 x3 ((x3 * (S 48 (x1 : Int32).toNatClampNeg)) / 10) S
    else
      grd (inb x1 12) <|
      grd (inb x1 12) <|
      grd (inb x1 12) <|
      bnd (f_X6_takes x4 x2 (S 4 (x1 : Int32).toNatClampNeg) (S 5 (x1 : Int32).toNatClampNeg) (S 6 (x1 : Int32).toNatClampNeg) S) fun r_17 S_16 =>
      grd (inb x4 5) <|
      grd (inb x4 5) <|
      lett (su S_16 49 (x4 : Int32).toNatClampNeg ((S_16 49 (x4 : Int32).toNatClampNeg) + r_17)) fun S_18 =>
      lett (x3 - r_17) fun x3_19 =>
      lett (x4 + 1) fun x4_20 =>
      f_X6_goThrough_l23 n x1 x2 x3_19 x4_20 S_18
def f_X6_goThrough (x1 : Int32) (S : St) : Option (Unit × St) :=
  grd (inb x1 12) <|
  lett ((S 44 11) + (20 * (S 4 (x1 : Int32).toNatClampNeg))) fun x2_1 =>
  f_X6_goThrough_l23 FU x1 x2_1 x2_1 0 S
def f_X6_go_l38 : Nat → Int32 → St → Option (Unit × St)
  | 0, _, _ => none
  | n + 1, x2, S =>
    if (S 44 8) = 0 then
      if (S 3 4) ≤ x2 then
        some ((), S)
      else
        lett (su S 44 9 x2) fun S_9 =>
        bnd (f_X6_goThrough x2 S_9) fun r_11 S_10 =>
        lett (x2 + 1) fun x2_12 =>
        f_X6_go_l38 n x2_12 S_10
    else
      some ((), S)
def f_X6_go (x1 : Int32) (S : St) : Option (Unit × St) :=
  bnd (f_fill 49 5 0 S) fun r_2 S_1 =>
  bnd (f_fill 50 12 (-1) S_1) fun r_4 S_3 =>
  lett (su S_3 44 8 0) fun S_5 =>
  lett (su S_5 44 10 0) fun S_6 =>
  lett (su S_6 44 11 x1) fun S_7 =>
  lett (su S_7 44 12 0) fun S_8 =>
  f_X6_go_l38 FU 0 S_8
def f_X7_goDown (x1 : Int32) (x2 : Int32) (S : St) : Option (Unit × St) :=
  grd (inb x1 8) <|
  bnd (f_X6_mount ((x1 : Int32).toNatClampNeg) (S 0 10) S) fun r_3 S_2 =>
  bnd (f_X6_go x2 S_2) fun r_5 S_4 =>
  some ((), S_4)
def f_X6_tell (x1 : Int32) (S : St) : Option (Int32 × St) :=
  if x1 = 0 then
    some ((S 44 8), S)
  else
  if x1 = 1 then
    some ((S 44 9), S)
  else
  if x1 = 2 then
    some ((S 44 10), S)
  else
    some ((S 44 11), S)
def f_X7_run (x1 : Int32) (x2 : Int32) (x3 : Int32) (S : St) : Option (Int32 × St) :=
  bnd (f_X7_isWithin x3 0 3 S) fun r_2 S_1 =>
  bnd (f_X7_refusalOfRun x1 x2 r_2 S_1) fun r_4 S_3 =>
  if r_4 = 0 then
    bnd (f_X7_goDown x1 x2 S_3) fun r_6 S_5 =>
    bnd (f_X6_tell x3 S_5) fun r_8 S_7 =>
    some (r_8, S_7)
  else
    some (r_4, S_3)
def f_X7_pace (x1 : Int32) (x2 : Int32) (x3 : Int32) (S : St) : Option (Int32 × St) :=
  bnd (f_X7_isCart x1 S) fun r_2 S_1 =>
  if r_2 = 0 then
    some ((-101), S_1)
  else
    bnd (f_X7_isCell x3 S_1) fun r_4 S_3 =>
    if r_4 = 0 then
      some ((-101), S_3)
    else
      bnd (f_X7_isSwing x2 S_3) fun r_6 S_5 =>
      if r_6 = 0 then
        some ((-102), S_5)
      else
        bnd (f_X7_goDown x1 x2 S_5) fun r_8 S_7 =>
        grd (inb x3 12) <|
        some ((S_7 50 (x3 : Int32).toNatClampNeg), S_7)
def f_X7_lost_b17 (x1 : Int32) (x2 : Int32) (x3 : Int32) (S : St) : Option (Int32 × St) :=
  bnd (f_X7_refusalOfRun x1 x2 1 S) fun r_2 S_1 =>
  if r_2 = 0 then
    bnd (f_X7_goDown x1 x2 S_1) fun r_4 S_3 =>
    if x3 = (-1) then
      some ((S_3 44 12), S_3)
    else
      grd (inb x3 5) <|
      some ((S_3 49 (x3 : Int32).toNatClampNeg), S_3)
  else
    some (r_2, S_1)
def f_X7_lost (x1 : Int32) (x2 : Int32) (x3 : Int32) (S : St) : Option (Int32 × St) :=
  if x3 = (-1) then
    f_X7_lost_b17 x1 x2 x3 S
  else
    bnd (f_X7_isLoss x1 x3 S) fun r_6 S_5 =>
    if r_6 = 0 then
      some ((-101), S_5)
    else
      f_X7_lost_b17 x1 x2 x3 S_5
def f_X0_clear (S : St) : Option (Unit × St) :=
  lett (su S 51 0 (-1)) fun S_1 =>
  lett (su S_1 51 1 (-1)) fun S_2 =>
  some ((), S_2)
def f_X3_bendAt_b31 (k4 : Int32 → Int32 → Int32 → St → Option (Int32 × St)) (x1 : Int32) (x2 : Int32) (x3 : Int32) (S : St) : Option (Int32 × St) :=
  lett (x3 + 1) fun x3_1 =>
  k4 x1 x2 x3_1 S
def f_X3_bendAt_l4 : Nat → Int32 → Int32 → Int32 → St → Option (Int32 × St)
  | 0, _, _, _, _ => none
  | n + 1, x1, x2, x3, S =>
    if (S 3 4) ≤ x3 then
      some ((-1), S)
    else
      grd (inb x3 12) <|
      if (S 5 (x3 : Int32).toNatClampNeg) ≤ 0 then
        f_X3_bendAt_b31 (f_X3_bendAt_l4 n) x1 x2 x3 S
      else
        if x2 = x1 then
          some (x3, S)
        else
          lett (x2 + 1) fun x2_2 =>
          f_X3_bendAt_b31 (f_X3_bendAt_l4 n) x1 x2_2 x3 S
def f_X3_bendAt (x1 : Int32) (S : St) : Option (Int32 × St) :=
  f_X3_bendAt_l4 FU x1 0 0 S
def f_X7_isBraked (x1 : Int32) (S : St) : Option (Int32 × St) :=
  bnd (f_X3_bendAt x1 S) fun r_2 S_1 =>
  if r_2 ≤ 0 then
    some (0, S_1)
  else
    some (1, S_1)
def f_X7_choice (x0 : Int32) (x1 : Int32) (S : St) : Option (Int32 × St) :=
  some (((x0 >>> ((6 - (2 * x1)) &&& 31)) &&& 3), S)
def f_X0_offer_b18 (x1 : Int32) (x2 : Int32) (S : St) : Option (Int32 × St) :=
  lett (su S 51 0 x1) fun S_1 =>
  lett (su S_1 51 1 x2) fun S_2 =>
  some (1, S_2)
def f_X0_offer (x1 : Int32) (x2 : Int32) (S : St) : Option (Int32 × St) :=
  if (S 51 0) = (-1) then
    f_X0_offer_b18 x1 x2 S
  else
    if x1 < (S 51 0) then
      f_X0_offer_b18 x1 x2 S
    else
      some (0, S)
def f_X7_tryBrakes_b65 (k13 : Int32 → Int32 → Int32 → St → Option (Unit × St)) (x1 : Int32) (x2 : Int32) (x3 : Int32) (S : St) : Option (Unit × St) :=
  lett (x3 + 1) fun x3_13 =>
  k13 x1 x2 x3_13 S
def f_X7_tryBrakes_l13 : Nat → Int32 → Int32 → Int32 → St → Option (Unit × St)
  | 0, _, _, _, _ => none
  | n + 1, x1, x2, x3, S =>
    if 4 ≤ x3 then
      bnd (f_X6_go x2 S) fun r_4 S_3 =>
      if (S_3 44 8) = 0 then
        bnd (f_X0_offer (S_3 44 10) x1 S_3) fun r_6 S_5 =>
        some ((), S_5)
      else
        some ((), S_3)
    else
      bnd (f_X7_choice x1 x3 S) fun r_8 S_7 =>
      lett (3 * r_8) fun x4_9 =>
      bnd (f_X3_bendAt x3 S_7) fun r_11 S_10 =>
      lett (r_11 - 1) fun x5_12 =>
      if x5_12 < 0 then
        if x4_9 ≤ 0 then
          f_X7_tryBrakes_b65 (f_X7_tryBrakes_l13 n) x1 x2 x3 S_10
        else
          some ((), S_10)
      else
        grd (inb x5_12 12) <|
        lett (su S_10 48 (x5_12 : Int32).toNatClampNeg x4_9) fun S_14 =>
        f_X7_tryBrakes_b65 (f_X7_tryBrakes_l13 n) x1 x2 x3 S_14
def f_X7_tryBrakes (x1 : Int32) (x2 : Int32) (S : St) : Option (Unit × St) :=
  bnd (f_fill 48 12 0 S) fun r_2 S_1 =>
  f_X7_tryBrakes_l13 FU x1 x2 0 S_1
def f_X7_bestBrakes_b85 (S : St) : Option (Int32 × St) :=
  some ((S 51 0), S)
def f_X7_bestBrakes_l49 : Nat → Int32 → Int32 → Int32 → St → Option (Int32 × St)
  | 0, _, _, _, _ => none
  | n + 1, x2, x3, x5, S =>
    if 256 ≤ x5 then
      if x3 = 0 then
        f_X7_bestBrakes_b85 S
      else
        if (S 51 0) = (-1) then
          f_X7_bestBrakes_b85 S
        else
          bnd (f_X7_isBraked (x3 - 1) S) fun r_11 S_10 =>
          if r_11 = 0 then
            some ((-1), S_10)
          else
            bnd (f_X7_choice (S_10 51 1) (x3 - 1) S_10) fun r_13 S_12 =>
            some ((3 * r_13), S_12)
    else
      bnd (f_X7_tryBrakes x5 x2 S) fun r_15 S_14 =>
      lett (x5 + 1) fun x5_16 =>
      f_X7_bestBrakes_l49 n x2 x3 x5_16 S_14
def f_X7_bestBrakes (x1 : Int32) (x2 : Int32) (x3 : Int32) (S : St) : Option (Int32 × St) :=
  bnd (f_X7_isWithin x3 0 4 S) fun r_2 S_1 =>
  bnd (f_X7_refusalOfRun x1 x2 r_2 S_1) fun r_4 S_3 =>
  if r_4 = 0 then
    grd (inb x1 8) <|
    bnd (f_X6_mount ((x1 : Int32).toNatClampNeg) (S_3 0 10) S_3) fun r_7 S_6 =>
    bnd (f_X0_clear S_6) fun r_9 S_8 =>
    f_X7_bestBrakes_l49 FU x2 x3 0 S_8
  else
    some (r_4, S_3)
def f_X7_bestPush_b131 (k67 : Int32 → Int32 → Int32 → St → Option (Int32 × St)) (x2 : Int32) (x3 : Int32) (x5 : Int32) (S : St) : Option (Int32 × St) :=
  lett (x5 + 1) fun x5_16 =>
  k67 x2 x3 x5_16 S
def f_X7_bestPush_l67 : Nat → Int32 → Int32 → Int32 → St → Option (Int32 × St)
  | 0, _, _, _, _ => none
  | n + 1, x2, x3, x5, S =>
    if 20 < x5 then
      if x3 = 0 then
        some ((S 51 1), S)
      else
        some ((S 51 0), S)
    else
      bnd (f_X7_by ((x5 * x2) * 10) (S 44 6) S) fun r_11 S_10 =>
      bnd (f_X6_go r_11 S_10) fun r_13 S_12 =>
      if (S_12 44 8) = 0 then
        bnd (f_X0_offer ((S_12 44 10) + (60 * x5)) x5 S_12) fun r_15 S_14 =>
        f_X7_bestPush_b131 (f_X7_bestPush_l67 n) x2 x3 x5 S_14
      else
        f_X7_bestPush_b131 (f_X7_bestPush_l67 n) x2 x3 x5 S_12
def f_X7_bestPush_b27 (x1 : Int32) (x2 : Int32) (x3 : Int32) (s0 : Int32) (s1 : Int32) (s2 : Int32) (S : St) : Option (Int32 × St) :=
  bnd (f_X7_refusalOfRun s2 s1 s0 S) fun r_4 S_3 =>
  if r_4 = 0 then
    grd (inb x1 8) <|
    bnd (f_X6_mount ((x1 : Int32).toNatClampNeg) (S_3 0 10) S_3) fun r_7 S_6 =>
    bnd (f_X0_clear S_6) fun r_9 S_8 =>
    f_X7_bestPush_l67 FU x2 x3 0 S_8
  else
    some (r_4, S_3)
def f_X7_bestPush_b26 (x1 : Int32) (x2 : Int32) (x3 : Int32) (s0 : Int32) (s1 : Int32) (S : St) : Option (Int32 × St) :=
  f_X7_bestPush_b27 x1 x2 x3 0 s0 s1 S
def f_X7_bestPush (x1 : Int32) (x2 : Int32) (x3 : Int32) (S : St) : Option (Int32 × St) :=
  bnd (f_X7_isWithin x2 1 99 S) fun r_2 S_1 =>
  if r_2 = 0 then
    f_X7_bestPush_b26 x1 x2 x3 0 x1 S_1
  else
    bnd (f_X7_isWithin x3 0 1 S_1) fun r_18 S_17 =>
    if r_18 = 0 then
      f_X7_bestPush_b26 x1 x2 x3 0 x1 S_17
    else
      f_X7_bestPush_b27 x1 x2 x3 1 0 x1 S_17
def f_X6_spendNext_b74 (k34 : Int32 → Int32 → Int32 → St → Option (Int32 × St)) (x1 : Int32) (x2 : Int32) (x3 : Int32) (S : St) : Option (Int32 × St) :=
  grd (inb x3 5) <|
  lett (x2 - (S 47 (x3 : Int32).toNatClampNeg)) fun x2_2 =>
  grd (inb x3 5) <|
  grd (inb x3 5) <|
  grd (inb x3 5) <|
  lett (su S 46 (x3 : Int32).toNatClampNeg ((S 46 (x3 : Int32).toNatClampNeg) + (S 47 (x3 : Int32).toNatClampNeg))) fun S_3 =>
  grd (inb x3 5) <|
  lett (su S_3 47 (x3 : Int32).toNatClampNeg 0) fun S_4 =>
  lett (x3 + (-1)) fun x3_5 =>
  k34 x1 x2_2 x3_5 S_4
def f_X6_spendNext_l34 : Nat → Int32 → Int32 → Int32 → St → Option (Int32 × St)
  | 0, _, _, _, _ => none
  | n + 1, x1, x2, x3, S =>
    if x3 < 0 then
      some (0, S)
    else
      if x1 ≤ x2 then
        f_X6_spendNext_b74 (f_X6_spendNext_l34 n) x1 x2 x3 S
      else
        grd (inb x3 5) <|
        if (S 46 (x3 : Int32).toNatClampNeg) ≤ 0 then
          f_X6_spendNext_b74 (f_X6_spendNext_l34 n) x1 x2 x3 S
        else
          grd (inb x3 5) <|
          grd (inb x3 5) <|
          lett (su S 47 (x3 : Int32).toNatClampNeg ((S 47 (x3 : Int32).toNatClampNeg) + 1)) fun S_6 =>
          grd (inb x3 5) <|
          grd (inb x3 5) <|
          lett (su S_6 46 (x3 : Int32).toNatClampNeg ((S_6 46 (x3 : Int32).toNatClampNeg) - 1)) fun S_7 =>
          some (1, S_7)
def f_X6_spendNext_l4 : Nat → Int32 → Int32 → Int32 → St → Option (Int32 × St)
  | 0, _, _, _, _ => none
  | n + 1, x1, x2, x3, S =>
    if (S 44 5) ≤ x3 then
      lett ((S 44 5) - 1) fun x3_1 =>
      f_X6_spendNext_l34 FU x1 x2 x3_1 S
    else
      grd (inb x3 5) <|
      lett (x2 + (S 47 (x3 : Int32).toNatClampNeg)) fun x2_8 =>
      lett (x3 + 1) fun x3_9 =>
      f_X6_spendNext_l4 n x1 x2_8 x3_9 S
def f_X6_spendNext (x1 : Int32) (S : St) : Option (Int32 × St) :=
  f_X6_spendNext_l4 FU x1 0 0 S
def f_X0_keepRow (S : St) : Option (Unit × St) :=
  lett (sr S 52 (va_cpy (S 47) (S 52) (0 : Int32).toNatClampNeg (0 : Int32).toNatClampNeg (5 : Int32).toNatClampNeg)) fun S_1 =>
  some ((), S_1)
def f_X7_work_b167 (S : St) : Option (Int32 × St) :=
  some ((S 51 0), S)
def f_X7_work_b151 (x4 : Int32) (S : St) : Option (Int32 × St) :=
  if x4 = 0 then
    f_X7_work_b167 S
  else
    if (S 51 0) = (-1) then
      f_X7_work_b167 S
    else
      if (S 44 5) < x4 then
        some ((-1), S)
      else
        grd (inb (x4 - 1) 5) <|
        some ((S 52 ((x4 - 1) : Int32).toNatClampNeg), S)
def f_X7_work_b135 (k71 : Int32 → Int32 → Int32 → Int32 → Int32 → St → Option (Int32 × St)) (x2 : Int32) (x3 : Int32) (x4 : Int32) (x7 : Int32) (S : St) : Option (Int32 × St) :=
  bnd (f_X6_spendNext x3 S) fun r_15 S_14 =>
  lett (x7 + 1) fun x7_16 =>
  k71 x2 x3 x4 r_15 x7_16 S_14
def f_X7_work_l71 : Nat → Int32 → Int32 → Int32 → Int32 → Int32 → St → Option (Int32 × St)
  | 0, _, _, _, _, _, _ => none
  | n + 1, x2, x3, x4, x6, x7, S =>
    if x6 = 0 then
      f_X7_work_b151 x4 S
    else
      if 1000 ≤ x7 then
        f_X7_work_b151 x4 S
      else
        bnd (f_X6_go x2 S) fun r_11 S_10 =>
        if (S_10 44 8) = 0 then
          bnd (f_X0_offer (S_10 44 10) x7 S_10) fun r_13 S_12 =>
          if r_13 = 0 then
            f_X7_work_b135 (f_X7_work_l71 n) x2 x3 x4 x7 S_12
          else
            bnd (f_X0_keepRow S_12) fun r_18 S_17 =>
            f_X7_work_b135 (f_X7_work_l71 n) x2 x3 x4 x7 S_17
        else
          f_X7_work_b135 (f_X7_work_l71 n) x2 x3 x4 x7 S_10
def f_X7_work_b28 (x1 : Int32) (x2 : Int32) (x3 : Int32) (x4 : Int32) (s0 : Int32) (s1 : Int32) (s2 : Int32) (S : St) : Option (Int32 × St) :=
  bnd (f_X7_refusalOfRun s2 s1 s0 S) fun r_4 S_3 =>
  if r_4 = 0 then
    grd (inb x1 8) <|
    bnd (f_X6_mount ((x1 : Int32).toNatClampNeg) (S_3 0 10) S_3) fun r_7 S_6 =>
    bnd (f_X0_clear S_6) fun r_9 S_8 =>
    f_X7_work_l71 FU x2 x3 x4 1 0 S_8
  else
    some (r_4, S_3)
def f_X7_work_b27 (x1 : Int32) (x2 : Int32) (x3 : Int32) (x4 : Int32) (s0 : Int32) (s1 : Int32) (S : St) : Option (Int32 × St) :=
  f_X7_work_b28 x1 x2 x3 x4 0 s0 s1 S
def f_X7_work (x1 : Int32) (x2 : Int32) (x3 : Int32) (x4 : Int32) (S : St) : Option (Int32 × St) :=
  bnd (f_X7_isWithin x3 0 6 S) fun r_2 S_1 =>
  if r_2 = 0 then
    f_X7_work_b27 x1 x2 x3 x4 x2 x1 S_1
  else
    bnd (f_X7_isWithin x4 0 5 S_1) fun r_20 S_19 =>
    if r_20 = 0 then
      f_X7_work_b27 x1 x2 x3 x4 x2 x1 S_19
    else
      f_X7_work_b28 x1 x2 x3 x4 1 x2 x1 S_19
def f_X6_timeIfDown (S : St) : Option (Int32 × St) :=
  if (S 44 8) = 0 then
    some ((S 44 10), S)
  else
    some ((-1), S)
def f_X7_timeAt (x1 : Int32) (x2 : Int32) (x3 : Int32) (S : St) : Option (Int32 × St) :=
  grd (inb x1 8) <|
  bnd (f_X6_mount ((x1 : Int32).toNatClampNeg) (S 0 10) S) fun r_3 S_2 =>
  lett (su S_2 44 6 x3) fun S_4 =>
  bnd (f_X6_go x2 S_4) fun r_6 S_5 =>
  bnd (f_X6_timeIfDown S_5) fun r_8 S_7 =>
  some (r_8, S_7)
def f_X7_weighed (x1 : Int32) (x2 : Int32) (x3 : Int32) (S : St) : Option (Int32 × St) :=
  bnd (f_X7_isWithin x3 10 99 S) fun r_2 S_1 =>
  bnd (f_X7_refusalOfRun x1 x2 r_2 S_1) fun r_4 S_3 =>
  if r_4 = 0 then
    bnd (f_X7_timeAt x1 x2 x3 S_3) fun r_6 S_5 =>
    some (r_6, S_5)
  else
    some (r_4, S_3)
def f_X7_apartBy_l10 : Nat → Int32 → Int32 → Int32 → Int32 → Int32 → St → Option (Int32 × St)
  | 0, _, _, _, _, _, _ => none
  | n + 1, x1, x2, x3, x4, x5, S =>
    if (S 0 9) ≤ x5 then
      some ((x4 - x3), S)
    else
      grd (inb x5 8) <|
      bnd (f_X7_timeAt x5 x2 (if (S (9 + 3 * (x5 : Int32).toNatClampNeg) 3) < x1 then (S (9 + 3 * (x5 : Int32).toNatClampNeg) 3) else x1) S) fun r_3 S_2 =>
      if r_3 = (-1) then
        some ((-1), S_2)
      else
        lett (if r_3 < x3 then r_3 else x3) fun x3_4 =>
        lett (if x4 < r_3 then r_3 else x4) fun x4_5 =>
        lett (x5 + 1) fun x5_6 =>
        f_X7_apartBy_l10 n x1 x2 x3_4 x4_5 x5_6 S_2
def f_X7_apartBy (x1 : Int32) (x2 : Int32) (S : St) : Option (Int32 × St) :=
  f_X7_apartBy_l10 FU x1 x2 12000 0 0 S
def f_X7_close_b80 (k49 : Int32 → Int32 → Int32 → St → Option (Int32 × St)) (x1 : Int32) (x2 : Int32) (x3 : Int32) (S : St) : Option (Int32 × St) :=
  lett (x3 + (-1)) fun x3_9 =>
  k49 x1 x2 x3_9 S
def f_X7_close_l49 : Nat → Int32 → Int32 → Int32 → St → Option (Int32 × St)
  | 0, _, _, _, _ => none
  | n + 1, x1, x2, x3, S =>
    if x3 < 10 then
      if x2 = 0 then
        some ((S 51 1), S)
      else
        some ((S 51 0), S)
    else
      bnd (f_X7_apartBy x3 x1 S) fun r_8 S_7 =>
      if r_8 = (-1) then
        f_X7_close_b80 (f_X7_close_l49 n) x1 x2 x3 S_7
      else
        bnd (f_X0_offer r_8 x3 S_7) fun r_11 S_10 =>
        f_X7_close_b80 (f_X7_close_l49 n) x1 x2 x3 S_10
def f_X7_close (x1 : Int32) (x2 : Int32) (S : St) : Option (Int32 × St) :=
  if (S 3 4) = 0 then
    some ((-103), S)
  else
    if (S 0 9) = 0 then
      some ((-103), S)
    else
      bnd (f_X7_isSwing x1 S) fun r_2 S_1 =>
      if r_2 = 0 then
        some ((-102), S_1)
      else
        bnd (f_X7_isWithin x2 0 1 S_1) fun r_4 S_3 =>
        if r_4 = 0 then
          some ((-102), S_3)
        else
          bnd (f_X0_clear S_3) fun r_6 S_5 =>
          f_X7_close_l49 FU x1 x2 99 S_5
def f_X6_goFlat_l20 (k6 : Int32 → Int32 → Int32 → Int32 → St → Option (Int32 × St)) : Nat → Int32 → Int32 → Int32 → Int32 → Int32 → Int32 → St → Option (Int32 × St)
  | 0, _, _, _, _, _, _, _ => none
  | n + 1, x2, x3, x4, x5, x6, x7, S =>
    if (S 44 5) ≤ x7 then
      lett (x4 - x6) fun x4_2 =>
      if 0 < x4_2 then
        if x6 = 0 then
          some (x3, S)
        else
          lett (x5 + 1) fun x5_3 =>
          k6 x2 x3 x4_2 x5_3 S
      else
        some (x5, S)
    else
      bnd (f_X6_takes x7 x4 0 0 0 S) fun r_5 S_4 =>
      lett (x6 + r_5) fun x6_6 =>
      lett (x7 + 1) fun x7_7 =>
      f_X6_goFlat_l20 k6 n x2 x3 x4 x5 x6_6 x7_7 S_4
def f_X6_goFlat_l6 : Nat → Int32 → Int32 → Int32 → Int32 → St → Option (Int32 × St)
  | 0, _, _, _, _, _ => none
  | n + 1, x2, x3, x4, x5, S =>
    if x3 ≤ x5 then
      some (x3, S)
    else
      lett (2 * x2) fun x6_1 =>
      f_X6_goFlat_l20 (f_X6_goFlat_l6 n) FU x2 x3 x4 x5 x6_1 0 S
def f_X6_goFlat (x1 : Int32) (x2 : Int32) (x3 : Int32) (S : St) : Option (Int32 × St) :=
  f_X6_goFlat_l6 FU x2 x3 x1 0 S
def f_X7_flatCells (x1 : Int32) (x2 : Int32) (S : St) : Option (Int32 × St) :=
  grd (inb x1 8) <|
  bnd (f_X6_mount ((x1 : Int32).toNatClampNeg) (S 0 10) S) fun r_3 S_2 =>
  bnd (f_X6_goFlat x2 0 999 S_2) fun r_5 S_4 =>
  some (r_5, S_4)
def f_X7_farthest (x1 : Int32) (x2 : Int32) (S : St) : Option (Int32 × St) :=
  bnd (f_X7_isCart x1 S) fun r_2 S_1 =>
  if r_2 = 0 then
    some ((-101), S_1)
  else
    bnd (f_X7_isSwing x2 S_1) fun r_4 S_3 =>
    if r_4 = 0 then
      some ((-102), S_3)
    else
      bnd (f_X7_flatCells x1 x2 S_3) fun r_6 S_5 =>
      some (r_6, S_5)
def f_X2_put (x1 : Int32) (x2 : Int32) (x3 : Int32) (S : St) : Option (Unit × St) :=
  if 8 ≤ (S 33 3) then
    some ((), S)
  else
    grd (inb (S 33 3) 8) <|
    lett (su S 34 ((S 33 3) : Int32).toNatClampNeg x1) fun S_1 =>
    grd (inb (S_1 33 3) 8) <|
    lett (su S_1 35 ((S_1 33 3) : Int32).toNatClampNeg x2) fun S_2 =>
    grd (inb (S_2 33 3) 8) <|
    lett (su S_2 36 ((S_2 33 3) : Int32).toNatClampNeg x3) fun S_3 =>
    lett (su S_3 33 3 ((S_3 33 3) + 1)) fun S_4 =>
    some ((), S_4)
def f_X7_coast (x1 : Int32) (x2 : Int32) (x3 : Int32) (S : St) : Option (Int32 × St) :=
  bnd (f_X7_isCart x1 S) fun r_2 S_1 =>
  if r_2 = 0 then
    some ((-101), S_1)
  else
    bnd (f_X7_isSwing x2 S_1) fun r_4 S_3 =>
    if r_4 = 0 then
      some ((-102), S_3)
    else
      bnd (f_X7_isWithin x3 0 99 S_3) fun r_6 S_5 =>
      if r_6 = 0 then
        some ((-102), S_5)
      else
        if (S_5 33 3) < 8 then
          bnd (f_X2_put x1 x2 x3 S_5) fun r_8 S_7 =>
          some ((S_7 33 3), S_7)
        else
          some ((-104), S_5)
def f_X7_allCoastsAreSo_l2 : Nat → Int32 → Int32 → St → Option (Int32 × St)
  | 0, _, _, _ => none
  | n + 1, x1, x2, S =>
    if (S 33 3) ≤ x2 then
      some (1, S)
    else
      grd (inb x2 8) <|
      grd (inb (S 34 (x2 : Int32).toNatClampNeg) 8) <|
      bnd (f_X6_mount (((S 34 (x2 : Int32).toNatClampNeg) : Int32).toNatClampNeg) (S 0 10) S) fun r_3 S_2 =>
      grd (inb x2 8) <|
      lett (S_2 36 (x2 : Int32).toNatClampNeg) fun x3_4 =>
      grd (inb x2 8) <|
      bnd (f_X6_goFlat (S_2 35 (x2 : Int32).toNatClampNeg) x1 (x3_4 + 1) S_2) fun r_6 S_5 =>
      if r_6 = x3_4 then
        lett (x2 + 1) fun x2_7 =>
        f_X7_allCoastsAreSo_l2 n x1 x2_7 S_5
      else
        some (0, S_5)
def f_X7_allCoastsAreSo (x1 : Int32) (S : St) : Option (Int32 × St) :=
  f_X7_allCoastsAreSo_l2 FU x1 0 S
def f_X7_rubs_b24 (k4 : Int32 → Int32 → St → Option (Int32 × St)) (x1 : Int32) (x2 : Int32) (S : St) : Option (Int32 × St) :=
  lett (x2 + 1) fun x2_3 =>
  k4 x1 x2_3 S
def f_X7_rubs_l4 : Nat → Int32 → Int32 → St → Option (Int32 × St)
  | 0, _, _, _ => none
  | n + 1, x1, x2, S =>
    if 9 < x2 then
      some (x1, S)
    else
      bnd (f_X7_allCoastsAreSo x2 S) fun r_2 S_1 =>
      if r_2 = 0 then
        f_X7_rubs_b24 (f_X7_rubs_l4 n) x1 x2 S_1
      else
        lett (x1 ||| (1 <<< (x2 &&& 31))) fun x1_4 =>
        f_X7_rubs_b24 (f_X7_rubs_l4 n) x1_4 x2 S_1
def f_X7_rubs (S : St) : Option (Int32 × St) :=
  f_X7_rubs_l4 FU 0 0 S
def f_X7_timeOf (x1 : Int32) (x2 : Int32) (S : St) : Option (Int32 × St) :=
  grd (inb x1 8) <|
  bnd (f_X6_mount ((x1 : Int32).toNatClampNeg) (S 0 10) S) fun r_3 S_2 =>
  bnd (f_X6_go x2 S_2) fun r_5 S_4 =>
  bnd (f_X6_timeIfDown S_4) fun r_7 S_6 =>
  some (r_7, S_6)
def f_X7_tenths (x0 : Int32) (x1 : Int32) (x2 : Int32) (S : St) : Option (Int32 × St) :=
  if x0 = x1 then
    some (5, S)
  else
    if x0 = (-1) then
      some (0, S)
    else
      if x1 = (-1) then
        some (10, S)
      else
        bnd (f_X7_by (if 0 ≤ (x1 - x0) then (x1 - x0) else 0 - (x1 - x0)) (100 * x2) S) fun r_2 S_1 =>
        lett (if r_2 < 5 then r_2 else 5) fun x3_3 =>
        if x1 ≤ x0 then
          some ((5 - x3_3), S_1)
        else
          some ((5 + x3_3), S_1)
def f_X7_chance (x1 : Int32) (x2 : Int32) (x3 : Int32) (x4 : Int32) (S : St) : Option (Int32 × St) :=
  bnd (f_X7_isCart x1 S) fun r_2 S_1 =>
  if r_2 = 0 then
    some ((-101), S_1)
  else
    bnd (f_X7_isCart x2 S_1) fun r_4 S_3 =>
    if r_4 = 0 then
      some ((-101), S_3)
    else
      bnd (f_X7_isWithin x4 1 99 S_3) fun r_6 S_5 =>
      bnd (f_X7_refusalOfRun x1 x3 r_6 S_5) fun r_8 S_7 =>
      if r_8 = 0 then
        bnd (f_X7_timeOf x1 x3 S_7) fun r_10 S_9 =>
        bnd (f_X7_timeOf x2 x3 S_9) fun r_12 S_11 =>
        bnd (f_X7_tenths r_10 r_12 x4 S_11) fun r_14 S_13 =>
        some (r_14, S_13)
      else
        some (r_8, S_7)
def f_X7_refusalOfFour_b91 (S : St) : Option (Int32 × St) :=
  some ((-103), S)
def f_X7_refusalOfFour_b74 (s0 : Int32) (S : St) : Option (Int32 × St) :=
  if (S 3 4) = 0 then
    f_X7_refusalOfFour_b91 S
  else
    if s0 = 0 then
      some (0, S)
    else
      f_X7_refusalOfFour_b91 S
def f_X7_refusalOfFour_b69 (S : St) : Option (Int32 × St) :=
  f_X7_refusalOfFour_b74 1 S
def f_X7_refusalOfFour (x1 : Int32) (x2 : Int32) (x3 : Int32) (x4 : Int32) (S : St) : Option (Int32 × St) :=
  bnd (f_X7_isCart x1 S) fun r_2 S_1 =>
  if r_2 = 0 then
    some ((-101), S_1)
  else
    bnd (f_X7_isCart x2 S_1) fun r_4 S_3 =>
    if r_4 = 0 then
      some ((-101), S_3)
    else
      bnd (f_X7_isCart x3 S_3) fun r_6 S_5 =>
      if r_6 = 0 then
        some ((-101), S_5)
      else
        bnd (f_X7_isCart x4 S_5) fun r_8 S_7 =>
        if r_8 = 0 then
          some ((-101), S_7)
        else
          if x1 = x2 then
            f_X7_refusalOfFour_b69 S_7
          else
            if x1 = x3 then
              f_X7_refusalOfFour_b69 S_7
            else
              if x1 = x4 then
                f_X7_refusalOfFour_b69 S_7
              else
                if x2 = x3 then
                  f_X7_refusalOfFour_b69 S_7
                else
                  if x2 = x4 then
                    f_X7_refusalOfFour_b69 S_7
                  else
                    if x3 = x4 then
                      f_X7_refusalOfFour_b69 S_7
                    else
                      f_X7_refusalOfFour_b74 0 S_7
def f_X7_takeTimes (x1 : Int32) (x2 : Int32) (x3 : Int32) (x4 : Int32) (x5 : Int32) (S : St) : Option (Unit × St) :=
  bnd (f_X7_timeOf x1 x5 S) fun r_2 S_1 =>
  grd (inb 0 4) <|
  lett (su S_1 53 (0 : Int32).toNatClampNeg r_2) fun S_3 =>
  bnd (f_X7_timeOf x2 x5 S_3) fun r_5 S_4 =>
  grd (inb 1 4) <|
  lett (su S_4 53 (1 : Int32).toNatClampNeg r_5) fun S_6 =>
  bnd (f_X7_timeOf x3 x5 S_6) fun r_8 S_7 =>
  grd (inb 2 4) <|
  lett (su S_7 53 (2 : Int32).toNatClampNeg r_8) fun S_9 =>
  bnd (f_X7_timeOf x4 x5 S_9) fun r_11 S_10 =>
  grd (inb 3 4) <|
  lett (su S_10 53 (3 : Int32).toNatClampNeg r_11) fun S_12 =>
  some ((), S_12)
def f_X7_thousandths (x1 : Int32) (x2 : Int32) (x3 : Int32) (S : St) : Option (Int32 × St) :=
  grd (inb (x1 &&& 3) 4) <|
  lett (S 53 ((x1 &&& 3) : Int32).toNatClampNeg) fun x4_1 =>
  grd (inb ((x1 ^^^ x2) &&& 3) 4) <|
  lett (S 53 (((x1 ^^^ x2) &&& 3) : Int32).toNatClampNeg) fun x5_2 =>
  grd (nz 3) <|
  grd (inb ((x1 ^^^ ((x2 - x2 / 3 * 3) + 1)) &&& 3) 4) <|
  lett (S 53 (((x1 ^^^ ((x2 - x2 / 3 * 3) + 1)) &&& 3) : Int32).toNatClampNeg) fun x6_3 =>
  grd (nz 3) <|
  grd (inb ((x1 ^^^ (((x2 + 1) - (x2 + 1) / 3 * 3) + 1)) &&& 3) 4) <|
  lett (S 53 (((x1 ^^^ (((x2 + 1) - (x2 + 1) / 3 * 3) + 1)) &&& 3) : Int32).toNatClampNeg) fun x7_4 =>
  bnd (f_X7_tenths x6_3 x7_4 x3 S) fun r_6 S_5 =>
  bnd (f_X7_tenths x4_1 x6_3 x3 S_5) fun r_8 S_7 =>
  lett (r_6 * r_8) fun x8_9 =>
  bnd (f_X7_tenths x7_4 x6_3 x3 S_7) fun r_11 S_10 =>
  bnd (f_X7_tenths x4_1 x7_4 x3 S_10) fun r_13 S_12 =>
  lett (r_11 * r_13) fun x9_14 =>
  bnd (f_X7_tenths x4_1 x5_2 x3 S_12) fun r_16 S_15 =>
  some ((r_16 * (x8_9 + x9_14)), S_15)
def f_X7_lowest_b54 (l5 : Int64) (s0 : Int64) (S : St) : Option (Int64 × St) :=
  if (lg_cmp l5 0) ≤ 0 then
    some (s0, S)
  else
    grd (nzL l5) <|
    some ((s0 / l5), S)
def f_X7_lowest_b44 (l0 : Int64) (l2 : Int64) (x4 : Int32) (l5 : Int64) (S : St) : Option (Int64 × St) :=
  if x4 = 0 then
    f_X7_lowest_b54 l5 l0 S
  else
    f_X7_lowest_b54 l5 l2 S
def f_X7_lowest_l9 : Nat → Int64 → Int64 → Int32 → Int64 → Int64 → Int32 → St → Option (Int64 × St)
  | 0, _, _, _, _, _, _, _ => none
  | n + 1, l0, l2, x4, l5, l7, x9, S =>
    if 100 ≤ x9 then
      f_X7_lowest_b44 l0 l2 x4 l5 S
    else
      if (lg_cmp l7 0) = 0 then
        f_X7_lowest_b44 l0 l2 x4 l5 S
      else
        grd (nzL l7) <|
        lett (l5 - l5 / l7 * l7) fun l10_1 =>
        lett (x9 + 1) fun x9_2 =>
        f_X7_lowest_l9 n l0 l2 x4 l7 l10_1 x9_2 S
def f_X7_lowest (l0 : Int64) (l2 : Int64) (x4 : Int32) (S : St) : Option (Int64 × St) :=
  f_X7_lowest_l9 FU l0 l2 x4 l0 l2 0 S
def f_X7_wins (x1 : Int32) (x2 : Int32) (x3 : Int32) (x4 : Int32) (x5 : Int32) (x6 : Int32) (x7 : Int32) (x8 : Int32) (S : St) : Option (Int32 × St) :=
  bnd (f_X7_refusalOfFour x1 x2 x3 x4 S) fun r_2 S_1 =>
  if r_2 = 0 then
    bnd (f_X7_isSwing x5 S_1) fun r_4 S_3 =>
    if r_4 = 0 then
      some ((-102), S_3)
    else
      bnd (f_X7_isWithin x6 1 99 S_3) fun r_6 S_5 =>
      if r_6 = 0 then
        some ((-102), S_5)
      else
        bnd (f_X7_isWithin x7 0 3 S_5) fun r_8 S_7 =>
        if r_8 = 0 then
          some ((-102), S_7)
        else
          bnd (f_X7_isWithin x8 0 1 S_7) fun r_10 S_9 =>
          if r_10 = 0 then
            some ((-102), S_9)
          else
            bnd (f_X7_takeTimes x1 x2 x3 x4 x5 S_9) fun r_12 S_11 =>
            bnd (f_X7_thousandths x7 1 x6 S_11) fun r_14 S_13 =>
            bnd (f_X7_lowest ((r_14 : Int32).toInt64) 1000 x8 S_13) fun r_16 S_15 =>
            some (((r_16 : Int64).toInt32), S_15)
  else
    some (r_2, S_1)
def f_X7_quickestOfFour_b56 (k4 : Int32 → Int32 → St → Option (Int32 × St)) (x1 : Int32) (x2 : Int32) (S : St) : Option (Int32 × St) :=
  lett (x2 + 1) fun x2_1 =>
  k4 x1 x2_1 S
def f_X7_quickestOfFour_b39 (k4 : Int32 → Int32 → St → Option (Int32 × St)) (x1 : Int32) (x2 : Int32) (s0 : Int32) (S : St) : Option (Int32 × St) :=
  grd (inb x2 4) <|
  if (S 53 (x2 : Int32).toNatClampNeg) = (-1) then
    f_X7_quickestOfFour_b56 k4 x1 x2 S
  else
    if s0 = 0 then
      f_X7_quickestOfFour_b56 k4 x1 x2 S
    else
      f_X7_quickestOfFour_b56 k4 x2 x2 S
def f_X7_quickestOfFour_b34 (k4 : Int32 → Int32 → St → Option (Int32 × St)) (x1 : Int32) (x2 : Int32) (S : St) : Option (Int32 × St) :=
  f_X7_quickestOfFour_b39 k4 x1 x2 1 S
def f_X7_quickestOfFour_l4 : Nat → Int32 → Int32 → St → Option (Int32 × St)
  | 0, _, _, _ => none
  | n + 1, x1, x2, S =>
    if 4 ≤ x2 then
      some (x1, S)
    else
      grd (inb x1 4) <|
      if (S 53 (x1 : Int32).toNatClampNeg) = (-1) then
        f_X7_quickestOfFour_b34 (f_X7_quickestOfFour_l4 n) x1 x2 S
      else
        grd (inb x2 4) <|
        grd (inb x1 4) <|
        if (S 53 (x1 : Int32).toNatClampNeg) ≤ (S 53 (x2 : Int32).toNatClampNeg) then
          f_X7_quickestOfFour_b39 (f_X7_quickestOfFour_l4 n) x1 x2 0 S
        else
          f_X7_quickestOfFour_b34 (f_X7_quickestOfFour_l4 n) x1 x2 S
def f_X7_quickestOfFour (S : St) : Option (Int32 × St) :=
  f_X7_quickestOfFour_l4 FU 0 1 S
def f_X7_plan_b102 (k67 : Int32 → Int32 → Int32 → Int32 → Int32 → St → Option (Int32 × St)) (x6 : Int32) (x8 : Int32) (x9 : Int32) (x10 : Int32) (x11 : Int32) (S : St) : Option (Int32 × St) :=
  lett (x11 + 1) fun x11_13 =>
  k67 x6 x8 x9 x10 x11_13 S
def f_X7_plan_l67 : Nat → Int32 → Int32 → Int32 → Int32 → Int32 → St → Option (Int32 × St)
  | 0, _, _, _, _, _, _ => none
  | n + 1, x6, x8, x9, x10, x11, S =>
    if 3 ≤ x11 then
      some (x10, S)
    else
      bnd (f_X7_thousandths x8 (x11 + 1) x6 S) fun r_12 S_11 =>
      if r_12 ≤ x9 then
        f_X7_plan_b102 (f_X7_plan_l67 n) x6 x8 x9 x10 x11 S_11
      else
        f_X7_plan_b102 (f_X7_plan_l67 n) x6 x8 r_12 x11 x11 S_11
def f_X7_plan (x1 : Int32) (x2 : Int32) (x3 : Int32) (x4 : Int32) (x5 : Int32) (x6 : Int32) (S : St) : Option (Int32 × St) :=
  bnd (f_X7_refusalOfFour x1 x2 x3 x4 S) fun r_2 S_1 =>
  if r_2 = 0 then
    bnd (f_X7_isSwing x5 S_1) fun r_4 S_3 =>
    if r_4 = 0 then
      some ((-102), S_3)
    else
      bnd (f_X7_isWithin x6 1 99 S_3) fun r_6 S_5 =>
      if r_6 = 0 then
        some ((-102), S_5)
      else
        bnd (f_X7_takeTimes x1 x2 x3 x4 x5 S_5) fun r_8 S_7 =>
        bnd (f_X7_quickestOfFour S_7) fun r_10 S_9 =>
        f_X7_plan_l67 FU x6 r_10 (-1) 0 0 S_9
  else
    some (r_2, S_1)
def f_X7_safeHundredths (x0 : Int32) (x1 : Int32) (x2 : Int32) (S : St) : Option (Int32 × St) :=
  if x0 ≤ x1 then
    bnd (f_X7_by (10 * x0) x1 S) fun r_2 S_1 =>
    some ((100 - ((if r_2 < 10 then r_2 else 10) * x2)), S_1)
  else
    some (0, S)
def f_X7_weighBends_b69 (k2 : Int32 → Int32 → St → Option (Unit × St)) (x1 : Int32) (x2 : Int32) (S : St) : Option (Unit × St) :=
  lett (x2 + 1) fun x2_4 =>
  k2 x1 x2_4 S
def f_X7_weighBends_l2 : Nat → Int32 → Int32 → St → Option (Unit × St)
  | 0, _, _, _ => none
  | n + 1, x1, x2, S =>
    if 4 ≤ x2 then
      some ((), S)
    else
      grd (inb x2 4) <|
      lett (su S 54 (x2 : Int32).toNatClampNeg 100) fun S_1 =>
      bnd (f_X3_bendAt x2 S_1) fun r_3 S_2 =>
      if r_3 = (-1) then
        f_X7_weighBends_b69 (f_X7_weighBends_l2 n) x1 x2 S_2
      else
        grd (inb r_3 12) <|
        if (S_2 50 (r_3 : Int32).toNatClampNeg) = (-1) then
          f_X7_weighBends_b69 (f_X7_weighBends_l2 n) x1 x2 S_2
        else
          grd (inb r_3 12) <|
          bnd (f_X6_bearable r_3 S_2) fun r_6 S_5 =>
          bnd (f_X7_safeHundredths (S_2 50 (r_3 : Int32).toNatClampNeg) r_6 x1 S_5) fun r_8 S_7 =>
          grd (inb x2 4) <|
          lett (su S_7 54 (x2 : Int32).toNatClampNeg r_8) fun S_9 =>
          f_X7_weighBends_b69 (f_X7_weighBends_l2 n) x1 x2 S_9
def f_X7_weighBends (x1 : Int32) (S : St) : Option (Unit × St) :=
  f_X7_weighBends_l2 FU x1 0 S
def f_X7_stayingWith_b48 (k5 : Int32 → Int64 → Int32 → St → Option (Int64 × St)) (x1 : Int32) (x4 : Int32) (s0 : Int64) (s1 : Int64) (S : St) : Option (Int64 × St) :=
  lett (s1 * s0) fun l2_1 =>
  lett (x4 + 1) fun x4_2 =>
  k5 x1 l2_1 x4_2 S
def f_X7_stayingWith_b26 (k5 : Int32 → Int64 → Int32 → St → Option (Int64 × St)) (x1 : Int32) (l2 : Int64) (x4 : Int32) (s0 : Int32) (S : St) : Option (Int64 × St) :=
  if s0 = 0 then
    grd (inb x4 4) <|
    f_X7_stayingWith_b48 k5 x1 x4 (((S 54 (x4 : Int32).toNatClampNeg) : Int32).toInt64) l2 S
  else
    f_X7_stayingWith_b48 k5 x1 x4 100 l2 S
def f_X7_stayingWith_l5 : Nat → Int32 → Int64 → Int32 → St → Option (Int64 × St)
  | 0, _, _, _, _ => none
  | n + 1, x1, l2, x4, S =>
    if 4 ≤ x4 then
      some (l2, S)
    else
      if ((x1 >>> (x4 &&& 31)) &&& 1) = 1 then
        f_X7_stayingWith_b26 (f_X7_stayingWith_l5 n) x1 l2 x4 1 S
      else
        f_X7_stayingWith_b26 (f_X7_stayingWith_l5 n) x1 l2 x4 0 S
def f_X7_stayingWith (x1 : Int32) (S : St) : Option (Int64 × St) :=
  f_X7_stayingWith_l5 FU x1 1 0 S
def f_X7_stays_b36 (x1 : Int32) (x2 : Int32) (x3 : Int32) (x4 : Int32) (x5 : Int32) (s0 : Int32) (S : St) : Option (Int64 × St) :=
  bnd (f_X7_refusalOfRun x1 x2 s0 S) fun r_4 S_3 =>
  if r_4 = 0 then
    bnd (f_X7_goDown x1 x2 S_3) fun r_6 S_5 =>
    bnd (f_X7_weighBends x3 S_5) fun r_8 S_7 =>
    bnd (f_X7_stayingWith x4 S_7) fun r_10 S_9 =>
    bnd (f_X7_lowest r_10 100000000 x5 S_9) fun r_12 S_11 =>
    some (r_12, S_11)
  else
    some (((r_4 : Int32).toInt64), S_3)
def f_X7_stays_b35 (x1 : Int32) (x2 : Int32) (x3 : Int32) (x4 : Int32) (x5 : Int32) (S : St) : Option (Int64 × St) :=
  f_X7_stays_b36 x1 x2 x3 x4 x5 0 S
def f_X7_stays (x1 : Int32) (x2 : Int32) (x3 : Int32) (x4 : Int32) (x5 : Int32) (S : St) : Option (Int64 × St) :=
  bnd (f_X7_isWithin x3 0 9 S) fun r_2 S_1 =>
  if r_2 = 0 then
    f_X7_stays_b35 x1 x2 x3 x4 x5 S_1
  else
    bnd (f_X7_isWithin x4 0 15 S_1) fun r_14 S_13 =>
    if r_14 = 0 then
      f_X7_stays_b35 x1 x2 x3 x4 x5 S_13
    else
      bnd (f_X7_isWithin x5 0 1 S_13) fun r_16 S_15 =>
      if r_16 = 0 then
        f_X7_stays_b35 x1 x2 x3 x4 x5 S_15
      else
        f_X7_stays_b36 x1 x2 x3 x4 x5 1 S_15
def f_X3_bends_b24 (k4 : Int32 → Int32 → St → Option (Int32 × St)) (x1 : Int32) (x2 : Int32) (S : St) : Option (Int32 × St) :=
  lett (x2 + 1) fun x2_1 =>
  k4 x1 x2_1 S
def f_X3_bends_l4 : Nat → Int32 → Int32 → St → Option (Int32 × St)
  | 0, _, _, _ => none
  | n + 1, x1, x2, S =>
    if (S 3 4) ≤ x2 then
      some (x1, S)
    else
      grd (inb x2 12) <|
      if (S 5 (x2 : Int32).toNatClampNeg) ≤ 0 then
        f_X3_bends_b24 (f_X3_bends_l4 n) x1 x2 S
      else
        lett (x1 + 1) fun x1_2 =>
        f_X3_bends_b24 (f_X3_bends_l4 n) x1_2 x2 S
def f_X3_bends (S : St) : Option (Int32 × St) :=
  f_X3_bends_l4 FU 0 0 S
def f_bitCount (x0 : Int32) (S : St) : Option (Int32 × St) :=
  lett (x0 - ((((x0 : Int32).toUInt32 >>> ((1 : Int32).toUInt32 &&& Int32.toUInt32 31)).toInt32) &&& 1431655765)) fun x0_1 =>
  lett ((x0_1 &&& 858993459) + ((((x0_1 : Int32).toUInt32 >>> ((2 : Int32).toUInt32 &&& Int32.toUInt32 31)).toInt32) &&& 858993459)) fun x0_2 =>
  lett ((x0_2 + (((x0_2 : Int32).toUInt32 >>> ((4 : Int32).toUInt32 &&& Int32.toUInt32 31)).toInt32)) &&& 252645135) fun x0_3 =>
  lett (x0_3 + (((x0_3 : Int32).toUInt32 >>> ((8 : Int32).toUInt32 &&& Int32.toUInt32 31)).toInt32)) fun x0_4 =>
  lett (x0_4 + (((x0_4 : Int32).toUInt32 >>> ((16 : Int32).toUInt32 &&& Int32.toUInt32 31)).toInt32)) fun x0_5 =>
  some ((x0_5 &&& 63), S)
def f_X7_straw_b129 (k82 : Int32 → Int32 → Int64 → Int32 → Int32 → St → Option (Int32 × St)) (x4 : Int32) (x6 : Int32) (l7 : Int64) (x9 : Int32) (x10 : Int32) (S : St) : Option (Int32 × St) :=
  lett (x10 + 1) fun x10_15 =>
  k82 x4 x6 l7 x9 x10_15 S
def f_X7_straw_l82 : Nat → Int32 → Int32 → Int64 → Int32 → Int32 → St → Option (Int32 × St)
  | 0, _, _, _, _, _, _ => none
  | n + 1, x4, x6, l7, x9, x10, S =>
    if (1 <<< ((if 4 < x6 then 4 else x6) &&& 31)) ≤ x10 then
      some (x9, S)
    else
      bnd (f_bitCount x10 S) fun r_12 S_11 =>
      if r_12 = x4 then
        bnd (f_X7_stayingWith x10 S_11) fun r_14 S_13 =>
        if (lg_cmp r_14 l7) ≤ 0 then
          f_X7_straw_b129 (f_X7_straw_l82 n) x4 x6 l7 x9 x10 S_13
        else
          bnd (f_X7_stayingWith x10 S_13) fun r_17 S_16 =>
          f_X7_straw_b129 (f_X7_straw_l82 n) x4 x6 r_17 x10 x10 S_16
      else
        f_X7_straw_b129 (f_X7_straw_l82 n) x4 x6 l7 x9 x10 S_11
def f_X7_straw_b28 (x1 : Int32) (x2 : Int32) (x3 : Int32) (x4 : Int32) (s0 : Int32) (s1 : Int32) (s2 : Int32) (S : St) : Option (Int32 × St) :=
  bnd (f_X7_refusalOfRun s2 s1 s0 S) fun r_4 S_3 =>
  if r_4 = 0 then
    bnd (f_X3_bends S_3) fun r_6 S_5 =>
    if x4 ≤ r_6 then
      bnd (f_X7_goDown x1 x2 S_5) fun r_8 S_7 =>
      bnd (f_X7_weighBends x3 S_7) fun r_10 S_9 =>
      f_X7_straw_l82 FU x4 r_6 (-1) 0 1 S_9
    else
      some ((-103), S_5)
  else
    some (r_4, S_3)
def f_X7_straw_b27 (x1 : Int32) (x2 : Int32) (x3 : Int32) (x4 : Int32) (s0 : Int32) (s1 : Int32) (S : St) : Option (Int32 × St) :=
  f_X7_straw_b28 x1 x2 x3 x4 0 s0 s1 S
def f_X7_straw (x1 : Int32) (x2 : Int32) (x3 : Int32) (x4 : Int32) (S : St) : Option (Int32 × St) :=
  bnd (f_X7_isWithin x3 0 9 S) fun r_2 S_1 =>
  if r_2 = 0 then
    f_X7_straw_b27 x1 x2 x3 x4 x2 x1 S_1
  else
    bnd (f_X7_isWithin x4 1 4 S_1) fun r_19 S_18 =>
    if r_19 = 0 then
      f_X7_straw_b27 x1 x2 x3 x4 x2 x1 S_18
    else
      f_X7_straw_b28 x1 x2 x3 x4 1 x2 x1 S_18
def f_X2_copy40 (S : St) : Option (Unit × St) :=
  lett (sr S 41 (va_cpy (S 34) (S 41) (0 : Int32).toNatClampNeg (0 : Int32).toNatClampNeg (8 : Int32).toNatClampNeg)) fun S_1 =>
  lett (sr S_1 42 (va_cpy (S_1 35) (S_1 42) (0 : Int32).toNatClampNeg (0 : Int32).toNatClampNeg (8 : Int32).toNatClampNeg)) fun S_2 =>
  lett (sr S_2 43 (va_cpy (S_2 36) (S_2 43) (0 : Int32).toNatClampNeg (0 : Int32).toNatClampNeg (8 : Int32).toNatClampNeg)) fun S_3 =>
  lett (su S_3 40 3 (S_3 33 3)) fun S_4 =>
  some ((), S_4)
def f_X7_image_l51 : Nat → Int32 → St → Option (Int32 × St)
  | 0, _, _ => none
  | n + 1, x1, S =>
    if (S 0 9) ≤ x1 then
      lett (sr S 39 (va_cpy (S 7) (S 39) (0 : Int32).toNatClampNeg (0 : Int32).toNatClampNeg (12 : Int32).toNatClampNeg)) fun S_4 =>
      bnd (f_X2_copy40 S_4) fun r_6 S_5 =>
      some ((S_5 0 9), S_5)
    else
      grd (inb x1 8) <|
      grd (inb x1 8) <|
      lett (su S 38 (x1 : Int32).toNatClampNeg (S (9 + 3 * (x1 : Int32).toNatClampNeg) 3)) fun S_8 =>
      lett (x1 + 1) fun x1_9 =>
      f_X7_image_l51 n x1_9 S_8
def f_X7_image (S : St) : Option (Int32 × St) :=
  if (S 3 4) = 0 then
    some ((-103), S)
  else
    lett (su S 37 5 (S 3 5)) fun S_1 =>
    lett (su S_1 37 4 (S_1 0 10)) fun S_2 =>
    lett (su S_2 37 3 (S_2 0 9)) fun S_3 =>
    f_X7_image_l51 FU 0 S_3
def f_X2_copy33 (S : St) : Option (Unit × St) :=
  lett (sr S 34 (va_cpy (S 41) (S 34) (0 : Int32).toNatClampNeg (0 : Int32).toNatClampNeg (8 : Int32).toNatClampNeg)) fun S_1 =>
  lett (sr S_1 35 (va_cpy (S_1 42) (S_1 35) (0 : Int32).toNatClampNeg (0 : Int32).toNatClampNeg (8 : Int32).toNatClampNeg)) fun S_2 =>
  lett (sr S_2 36 (va_cpy (S_2 43) (S_2 36) (0 : Int32).toNatClampNeg (0 : Int32).toNatClampNeg (8 : Int32).toNatClampNeg)) fun S_3 =>
  lett (su S_3 33 3 (S_3 40 3)) fun S_4 =>
  some ((), S_4)
def f_X7_restore_l43 : Nat → Int32 → St → Option (Int32 × St)
  | 0, _, _ => none
  | n + 1, x1, S =>
    if (S 37 3) ≤ x1 then
      lett (sr S 7 (va_cpy (S 39) (S 7) (0 : Int32).toNatClampNeg (0 : Int32).toNatClampNeg (12 : Int32).toNatClampNeg)) fun S_2 =>
      bnd (f_X2_copy33 S_2) fun r_4 S_3 =>
      some ((S_3 0 9), S_3)
    else
      grd (inb x1 8) <|
      grd (inb x1 8) <|
      lett (su S (9 + 3 * (x1 : Int32).toNatClampNeg) 3 (S 38 (x1 : Int32).toNatClampNeg)) fun S_6 =>
      lett (x1 + 1) fun x1_7 =>
      f_X7_restore_l43 n x1_7 S_6
def f_X7_restore (S : St) : Option (Int32 × St) :=
  if (S 37 5) = 0 then
    some ((-103), S)
  else
    if (S 37 5) = (S 3 5) then
      lett (su S 0 10 (S 37 4)) fun S_1 =>
      f_X7_restore_l43 FU 0 S_1
    else
      some ((-103), S)
def f_X7_count (x1 : Int32) (S : St) : Option (Int32 × St) :=
  if x1 = 0 then
    some ((S 3 4), S)
  else
  if x1 = 1 then
    bnd (f_X3_bends S) fun r_3 S_2 =>
    some (r_3, S_2)
  else
  if x1 = 2 then
    some ((S 0 9), S)
  else
  if x1 = 3 then
    some ((S 33 3), S)
  else
  if x1 = 4 then
    some ((S 1 1), S)
  else
  if x1 = 5 then
    some ((S 3 5), S)
  else
  if x1 = 6 then
    some ((S 0 10), S)
  else
    some ((-102), S)
def f_X7_mixed (l0 : Int64) (x2 : Int32) (S : St) : Option (Int64 × St) :=
  some (((31 * l0) + ((x2 : Int32).toInt64)), S)
def f_X7_mixedCart_l119 : Nat → Int64 → Int32 → St → Option (Int64 × St)
  | 0, _, _, _ => none
  | n + 1, l4, x6, S =>
    if 3 < x6 then
      some (l4, S)
    else
      bnd (f_X6_tell x6 S) fun r_15 S_14 =>
      bnd (f_X7_mixed l4 r_15 S_14) fun r_17 S_16 =>
      lett (x6 + 1) fun x6_18 =>
      f_X7_mixedCart_l119 n r_17 x6_18 S_16
def f_X7_mixedCart_l30 : Nat → Int32 → Int64 → Int32 → St → Option (Int64 × St)
  | 0, _, _, _, _ => none
  | n + 1, x3, l4, x6, S =>
    grd (inb x3 8) <|
    if (S (9 + 3 * (x3 : Int32).toNatClampNeg) 2) ≤ x6 then
      bnd (f_X7_flatCells x3 400 S) fun r_9 S_8 =>
      bnd (f_X7_mixed l4 r_9 S_8) fun r_11 S_10 =>
      if (S_10 3 4) ≤ 0 then
        some (r_11, S_10)
      else
        bnd (f_X7_goDown x3 100 S_10) fun r_13 S_12 =>
        f_X7_mixedCart_l119 FU r_11 0 S_12
    else
      grd (inb x3 8) <|
      grd (inb x6 5) <|
      bnd (f_X7_mixed l4 (S (9 + 3 * (x3 : Int32).toNatClampNeg + 1) (x6 : Int32).toNatClampNeg) S) fun r_21 S_20 =>
      grd (inb x3 8) <|
      grd (inb x6 5) <|
      bnd (f_X7_mixed r_21 (S_20 (9 + 3 * (x3 : Int32).toNatClampNeg + 2) (x6 : Int32).toNatClampNeg) S_20) fun r_24 S_23 =>
      lett (x6 + 1) fun x6_25 =>
      f_X7_mixedCart_l30 n x3 r_24 x6_25 S_23
def f_X7_mixedCart (l1 : Int64) (x3 : Int32) (S : St) : Option (Int64 × St) :=
  grd (inb x3 8) <|
  bnd (f_X7_mixed l1 (S (9 + 3 * (x3 : Int32).toNatClampNeg) 3) S) fun r_3 S_2 =>
  grd (inb x3 8) <|
  bnd (f_X7_mixed r_3 (S_2 (9 + 3 * (x3 : Int32).toNatClampNeg) 2) S_2) fun r_6 S_5 =>
  f_X7_mixedCart_l30 FU x3 r_6 0 S_5
def f_X7_digest_l178 : Nat → Int64 → Int32 → St → Option (Int64 × St)
  | 0, _, _, _ => none
  | n + 1, l1, x3, S =>
    if 6 < x3 then
      some (l1, S)
    else
      bnd (f_X7_count x3 S) fun r_6 S_5 =>
      bnd (f_X7_mixed l1 r_6 S_5) fun r_8 S_7 =>
      lett (x3 + 1) fun x3_9 =>
      f_X7_digest_l178 n r_8 x3_9 S_7
def f_X7_digest_l145 : Nat → Int64 → Int32 → St → Option (Int64 × St)
  | 0, _, _, _ => none
  | n + 1, l1, x3, S =>
    if (S 1 1) ≤ x3 then
      f_X7_digest_l178 FU l1 0 S
    else
      grd (inb x3 50) <|
      bnd (f_X7_mixed l1 (S 2 (x3 : Int32).toNatClampNeg) S) fun r_11 S_10 =>
      lett (x3 + 1) fun x3_12 =>
      f_X7_digest_l145 n r_11 x3_12 S_10
def f_X7_digest_l75 : Nat → Int64 → Int32 → St → Option (Int64 × St)
  | 0, _, _, _ => none
  | n + 1, l1, x3, S =>
    if (S 33 3) ≤ x3 then
      bnd (f_X7_rubs S) fun r_2 S_1 =>
      bnd (f_X7_mixed l1 r_2 S_1) fun r_4 S_3 =>
      f_X7_digest_l145 FU r_4 0 S_3
    else
      grd (inb x3 8) <|
      bnd (f_X7_mixed l1 (S 34 (x3 : Int32).toNatClampNeg) S) fun r_14 S_13 =>
      grd (inb x3 8) <|
      bnd (f_X7_mixed r_14 (S_13 35 (x3 : Int32).toNatClampNeg) S_13) fun r_16 S_15 =>
      grd (inb x3 8) <|
      bnd (f_X7_mixed r_16 (S_15 36 (x3 : Int32).toNatClampNeg) S_15) fun r_18 S_17 =>
      lett (x3 + 1) fun x3_19 =>
      f_X7_digest_l75 n r_18 x3_19 S_17
def f_X7_digest_l52 : Nat → Int64 → Int32 → St → Option (Int64 × St)
  | 0, _, _, _ => none
  | n + 1, l1, x3, S =>
    if (S 0 9) ≤ x3 then
      f_X7_digest_l75 FU l1 0 S
    else
      bnd (f_X7_mixedCart l1 x3 S) fun r_21 S_20 =>
      lett (x3 + 1) fun x3_22 =>
      f_X7_digest_l52 n r_21 x3_22 S_20
def f_X7_digest_l20 (k6 : Int64 → Int32 → St → Option (Int64 × St)) : Nat → Int64 → Int32 → Int32 → St → Option (Int64 × St)
  | 0, _, _, _, _ => none
  | n + 1, l1, x3, x4, S =>
    if 3 < x4 then
      lett (x3 + 1) fun x3_23 =>
      k6 l1 x3_23 S
    else
      bnd (f_X7_cell x3 x4 S) fun r_25 S_24 =>
      bnd (f_X7_mixed l1 r_25 S_24) fun r_27 S_26 =>
      lett (x4 + 1) fun x4_28 =>
      f_X7_digest_l20 k6 n r_27 x3 x4_28 S_26
def f_X7_digest_l6 : Nat → Int64 → Int32 → St → Option (Int64 × St)
  | 0, _, _, _ => none
  | n + 1, l1, x3, S =>
    if (S 3 4) ≤ x3 then
      f_X7_digest_l52 FU l1 0 S
    else
      f_X7_digest_l20 (f_X7_digest_l6 n) FU l1 x3 0 S
def f_X7_digest (S : St) : Option (Int64 × St) :=
  f_X7_digest_l6 FU 491 0 S
def f_X8_letters_l108 : Nat → Int64 → Int32 → Int32 → St → Option (Int32 × St)
  | 0, _, _, _, _ => none
  | n + 1, l1, x3, x7, S =>
    if x3 ≤ x7 then
      some ((S 55 1), S)
    else
      grd (inb (S 55 1) 50) <|
      lett (su S 56 ((S 55 1) : Int32).toNatClampNeg ((((((l1 : Int64).toUInt64 >>> (((8 * x7) : Int32).toInt64.toUInt64 &&& Int64.toUInt64 63)).toInt64) &&& 255) : Int64).toInt32)) fun S_1 =>
      lett (su S_1 55 1 ((S_1 55 1) + 1)) fun S_2 =>
      lett (x7 + 1) fun x7_3 =>
      f_X8_letters_l108 n l1 x3 x7_3 S_2
def f_X8_letters_b75 (k11 : Int64 → Int32 → Int32 → Int64 → Int32 → St → Option (Int32 × St)) (l1 : Int64) (x4 : Int32) (l5 : Int64) (x7 : Int32) (s0 : Int32) (s1 : Int32) (S : St) : Option (Int32 × St) :=
  lett (s1 + s0) fun x3_6 =>
  lett (x7 + 1) fun x7_7 =>
  k11 l1 x3_6 x4 l5 x7_7 S
def f_X8_letters_b62 (k11 : Int64 → Int32 → Int32 → Int64 → Int32 → St → Option (Int32 × St)) (l1 : Int64) (x3 : Int32) (l5 : Int64) (x7 : Int32) (x8 : Int32) (s0 : Int32) (S : St) : Option (Int32 × St) :=
  if x8 ≤ 0 then
    f_X8_letters_b75 k11 l1 s0 l5 x7 0 x3 S
  else
    f_X8_letters_b75 k11 l1 s0 l5 x7 1 x3 S
def f_X8_letters_b61 (k11 : Int64 → Int32 → Int32 → Int64 → Int32 → St → Option (Int32 × St)) (l1 : Int64) (x3 : Int32) (l5 : Int64) (x7 : Int32) (x8 : Int32) (S : St) : Option (Int32 × St) :=
  f_X8_letters_b62 k11 l1 x3 l5 x7 x8 0 S
def f_X8_letters_b57 (k11 : Int64 → Int32 → Int32 → Int64 → Int32 → St → Option (Int32 × St)) (l1 : Int64) (x3 : Int32) (l5 : Int64) (x7 : Int32) (x8 : Int32) (S : St) : Option (Int32 × St) :=
  f_X8_letters_b62 k11 l1 x3 l5 x7 x8 1 S
def f_X8_letters_l11 : Nat → Int64 → Int32 → Int32 → Int64 → Int32 → St → Option (Int32 × St)
  | 0, _, _, _, _, _, _ => none
  | n + 1, l1, x3, x4, l5, x7, S =>
    if 8 ≤ x7 then
      if x4 = 0 then
        some ((-102), S)
      else
        if ((S 55 1) + x3) ≤ 50 then
          f_X8_letters_l108 FU l1 x3 0 S
        else
          some ((-104), S)
    else
      lett (((l5 &&& 255) : Int64).toInt32) fun x8_4 =>
      lett (((l5 : Int64).toUInt64 >>> ((8 : Int32).toInt64.toUInt64 &&& Int64.toUInt64 63)).toInt64) fun l5_5 =>
      if x4 = 0 then
        f_X8_letters_b61 (f_X8_letters_l11 n) l1 x3 l5_5 x7 x8_4 S
      else
        if 126 < x8_4 then
          f_X8_letters_b61 (f_X8_letters_l11 n) l1 x3 l5_5 x7 x8_4 S
        else
          if x8_4 = 0 then
            f_X8_letters_b57 (f_X8_letters_l11 n) l1 x3 l5_5 x7 x8_4 S
          else
            if x3 = x7 then
              f_X8_letters_b57 (f_X8_letters_l11 n) l1 x3 l5_5 x7 x8_4 S
            else
              f_X8_letters_b61 (f_X8_letters_l11 n) l1 x3 l5_5 x7 x8_4 S
def f_X8_letters (l1 : Int64) (S : St) : Option (Int32 × St) :=
  f_X8_letters_l11 FU l1 0 1 l1 0 S
def f_X8_blank (S : St) : Option (Int32 × St) :=
  lett (S 55 1) fun x1_1 =>
  lett (su S 55 1 0) fun S_2 =>
  some (x1_1, S_2)
def f_X8_in (l0 : Int64) (l2 : Int64) (l4 : Int64) (S : St) : Option (Int32 × St) :=
  if (lg_cmp l0 l2) < 0 then
    some (0, S)
  else
    if 0 < (lg_cmp l0 l4) then
      some (0, S)
    else
      some (1, S)
def f_X8_goNext (x1 : Int32) (x2 : Int32) (S : St) : Option (Int32 × St) :=
  lett (su S 55 3 ((S 55 3) + 1)) fun S_1 =>
  lett (su S_1 55 2 0) fun S_2 =>
  if x1 = 44 then
    if x2 < (S_2 55 3) then
      some (0, S_2)
    else
      some (1, S_2)
  else
    some (0, S_2)
def f_X8_goHill (x1 : Int32) (S : St) : Option (Int32 × St) :=
  lett (3 * (S 55 3)) fun x2_1 =>
  if (S 55 2) = 0 then
    grd (inb x2_1 36) <|
    lett (su S 57 (x2_1 : Int32).toNatClampNeg (x1 - 48)) fun S_2 =>
    grd (inb (x2_1 + 1) 36) <|
    lett (su S_2 57 ((x2_1 + 1) : Int32).toNatClampNeg 0) fun S_3 =>
    grd (inb (x2_1 + 2) 36) <|
    lett (su S_3 57 ((x2_1 + 2) : Int32).toNatClampNeg 0) fun S_4 =>
    lett (su S_4 55 2 1) fun S_5 =>
    bnd (f_X8_in ((x1 : Int32).toInt64) 48 57 S_5) fun r_7 S_6 =>
    grd (isB r_7) (some (r_7, S_6))
  else
  if (S 55 2) = 1 then
    if x1 = 98 then
      lett (su S 55 2 2) fun S_9 =>
      some (1, S_9)
    else
      if x1 = 117 then
        grd (inb (x2_1 + 2) 36) <|
        lett (su S 57 ((x2_1 + 2) : Int32).toNatClampNeg 1) fun S_10 =>
        lett (su S_10 55 2 3) fun S_11 =>
        some (1, S_11)
      else
        bnd (f_X8_goNext x1 11 S) fun r_13 S_12 =>
        grd (isB r_13) (some (r_13, S_12))
  else
  if (S 55 2) = 2 then
    grd (inb (x2_1 + 1) 36) <|
    lett (su S 57 ((x2_1 + 1) : Int32).toNatClampNeg (x1 - 48)) fun S_15 =>
    lett (su S_15 55 2 3) fun S_16 =>
    bnd (f_X8_in ((x1 : Int32).toInt64) 49 57 S_16) fun r_18 S_17 =>
    grd (isB r_18) (some (r_18, S_17))
  else
    bnd (f_X8_goNext x1 11 S) fun r_21 S_20 =>
    grd (isB r_21) (some (r_21, S_20))
def f_X8_kindOf (x0 : Int32) (S : St) : Option (Int32 × St) :=
  if x0 = 108 then
    some (0, S)
  else
    if x0 = 114 then
      some (1, S)
    else
      if x0 = 116 then
        some (2, S)
      else
        if x0 = 97 then
          some (3, S)
        else
          if x0 = 117 then
            some (4, S)
          else
            if x0 = 115 then
              some (5, S)
            else
              some ((-1), S)
def f_X8_goCart (x1 : Int32) (S : St) : Option (Int32 × St) :=
  lett (S 55 2) fun x2_1 =>
  lett (su S 55 2 ((S 55 2) + 1)) fun S_2 =>
  if x2_1 = 0 then
    if x1 = 119 then
      some (1, S_2)
    else
      some (0, S_2)
  else
  if x2_1 = 1 then
    lett (su S_2 55 4 (10 * (x1 - 48))) fun S_4 =>
    bnd (f_X8_in ((x1 : Int32).toInt64) 49 57 S_4) fun r_6 S_5 =>
    grd (isB r_6) (some (r_6, S_5))
  else
  if x2_1 = 2 then
    lett (su S_2 55 4 ((S_2 55 4) + (x1 - 48))) fun S_8 =>
    bnd (f_X8_in ((x1 : Int32).toInt64) 48 57 S_8) fun r_10 S_9 =>
    grd (isB r_10) (some (r_10, S_9))
  else
  if x2_1 = 3 then
    if x1 = 44 then
      if 5 ≤ (S_2 55 3) then
        some (0, S_2)
      else
        some (1, S_2)
    else
      some (0, S_2)
  else
  if x2_1 = 4 then
    bnd (f_X8_kindOf x1 S_2) fun r_14 S_13 =>
    grd (inb (2 * (S_2 55 3)) 36) <|
    lett (su S_13 57 ((2 * (S_2 55 3)) : Int32).toNatClampNeg r_14) fun S_15 =>
    bnd (f_X8_kindOf x1 S_15) fun r_17 S_16 =>
    if r_17 = (-1) then
      some (0, S_16)
    else
      some (1, S_16)
  else
    grd (inb ((2 * (S_2 55 3)) + 1) 36) <|
    lett (su S_2 57 (((2 * (S_2 55 3)) + 1) : Int32).toNatClampNeg (x1 - 48)) fun S_19 =>
    lett (su S_19 55 3 ((S_19 55 3) + 1)) fun S_20 =>
    lett (su S_20 55 2 3) fun S_21 =>
    bnd (f_X8_in ((x1 : Int32).toInt64) 49 57 S_21) fun r_23 S_22 =>
    grd (isB r_23) (some (r_23, S_22))
def f_X8_faultOf_b53 (k12 : Int32 → Int32 → St → Option (Int32 × St)) (x1 : Int32) (x2 : Int32) (S : St) : Option (Int32 × St) :=
  lett (x2 + 1) fun x2_5 =>
  k12 x1 x2_5 S
def f_X8_faultOf_l12 : Nat → Int32 → Int32 → St → Option (Int32 × St)
  | 0, _, _, _ => none
  | n + 1, x1, x2, S =>
    if (S 55 1) ≤ x2 then
      some (x2, S)
    else
      if x1 = 0 then
        grd (inb x2 50) <|
        bnd (f_X8_goHill (S 56 (x2 : Int32).toNatClampNeg) S) fun r_4 S_3 =>
        if r_4 = 0 then
          some (x2, S_3)
        else
          f_X8_faultOf_b53 (f_X8_faultOf_l12 n) x1 x2 S_3
      else
        grd (inb x2 50) <|
        bnd (f_X8_goCart (S 56 (x2 : Int32).toNatClampNeg) S) fun r_7 S_6 =>
        if r_7 = 0 then
          some (x2, S_6)
        else
          f_X8_faultOf_b53 (f_X8_faultOf_l12 n) x1 x2 S_6
def f_X8_faultOf (x1 : Int32) (S : St) : Option (Int32 × St) :=
  lett (su S 55 2 0) fun S_1 =>
  lett (su S_1 55 3 0) fun S_2 =>
  f_X8_faultOf_l12 FU x1 0 S_2
def f_X8_fault (x1 : Int32) (S : St) : Option (Int32 × St) :=
  bnd (f_X8_in ((x1 : Int32).toInt64) 0 1 S) fun r_2 S_1 =>
  if r_2 = 0 then
    some ((-102), S_1)
  else
    bnd (f_X8_faultOf x1 S_1) fun r_4 S_3 =>
    some (r_4, S_3)
def f_X8_hill_l51 : Nat → Int32 → St → Option (Int32 × St)
  | 0, _, _ => none
  | n + 1, x1, S =>
    if (S 55 6) ≤ x1 then
      lett (su S 55 7 ((S 55 7) + 1)) fun S_4 =>
      lett (su S_4 55 1 0) fun S_5 =>
      some ((S_5 55 6), S_5)
    else
      grd (inb (3 * x1) 36) <|
      grd (inb x1 12) <|
      lett (su S 58 (x1 : Int32).toNatClampNeg (S 57 ((3 * x1) : Int32).toNatClampNeg)) fun S_6 =>
      grd (inb ((3 * x1) + 1) 36) <|
      grd (inb x1 12) <|
      lett (su S_6 59 (x1 : Int32).toNatClampNeg (S_6 57 (((3 * x1) + 1) : Int32).toNatClampNeg)) fun S_7 =>
      grd (inb ((3 * x1) + 2) 36) <|
      grd (inb x1 12) <|
      lett (su S_7 60 (x1 : Int32).toNatClampNeg (S_7 57 (((3 * x1) + 2) : Int32).toNatClampNeg)) fun S_8 =>
      grd (inb x1 12) <|
      lett (su S_8 61 (x1 : Int32).toNatClampNeg 0) fun S_9 =>
      lett (x1 + 1) fun x1_10 =>
      f_X8_hill_l51 n x1_10 S_9
def f_X8_hill_b28 (S : St) : Option (Int32 × St) :=
  if 1 ≤ (S 55 3) then
    lett (su S 55 6 ((S 55 3) + 1)) fun S_3 =>
    f_X8_hill_l51 FU 0 S_3
  else
    some ((-103), S)
def f_X8_hill (S : St) : Option (Int32 × St) :=
  bnd (f_X8_faultOf 0 S) fun r_2 S_1 =>
  if r_2 < (S_1 55 1) then
    some ((-103), S_1)
  else
    if (S_1 55 2) = 1 then
      f_X8_hill_b28 S_1
    else
      if (S_1 55 2) = 3 then
        f_X8_hill_b28 S_1
      else
        some ((-103), S_1)
def f_X8_cart_l63 : Nat → Int32 → St → Option (Int32 × St)
  | 0, _, _ => none
  | n + 1, x1, S =>
    if 10 ≤ x1 then
      lett (su S 55 12 ((S 55 12) + 1)) fun S_5 =>
      lett (su S_5 55 1 0) fun S_6 =>
      some (((S_6 55 12) - 1), S_6)
    else
      grd (inb x1 36) <|
      grd (inb ((10 * (S 55 12)) + x1) 80) <|
      lett (su S 64 (((10 * (S 55 12)) + x1) : Int32).toNatClampNeg (S 57 (x1 : Int32).toNatClampNeg)) fun S_7 =>
      lett (x1 + 1) fun x1_8 =>
      f_X8_cart_l63 n x1_8 S_7
def f_X8_cart (S : St) : Option (Int32 × St) :=
  bnd (f_X8_faultOf 1 S) fun r_2 S_1 =>
  if r_2 < (S_1 55 1) then
    some ((-103), S_1)
  else
    if (S_1 55 2) = 3 then
      if (S_1 55 12) = 8 then
        some ((-104), S_1)
      else
        grd (inb (S_1 55 12) 8) <|
        lett (su S_1 62 ((S_1 55 12) : Int32).toNatClampNeg (S_1 55 4)) fun S_3 =>
        grd (inb (S_3 55 12) 8) <|
        lett (su S_3 63 ((S_3 55 12) : Int32).toNatClampNeg (S_3 55 3)) fun S_4 =>
        f_X8_cart_l63 FU 0 S_4
    else
      some ((-103), S_1)
def f_X8_isCell (x1 : Int32) (S : St) : Option (Int32 × St) :=
  bnd (f_X8_in ((x1 : Int32).toInt64) 0 ((((S 55 6) - 1) : Int32).toInt64) S) fun r_2 S_1 =>
  grd (isB r_2) (some (r_2, S_1))
def f_X8_cellOf (x1 : Int32) (x2 : Int32) (S : St) : Option (Int32 × St) :=
  if x2 = 0 then
    grd (inb x1 12) <|
    some ((S 58 (x1 : Int32).toNatClampNeg), S)
  else
  if x2 = 1 then
    grd (inb x1 12) <|
    some ((S 59 (x1 : Int32).toNatClampNeg), S)
  else
  if x2 = 2 then
    grd (inb x1 12) <|
    some ((S 60 (x1 : Int32).toNatClampNeg), S)
  else
  if x2 = 3 then
    grd (inb x1 12) <|
    some ((S 61 (x1 : Int32).toNatClampNeg), S)
  else
    some ((-102), S)
def f_X8_cell (x1 : Int32) (x2 : Int32) (S : St) : Option (Int32 × St) :=
  bnd (f_X8_isCell x1 S) fun r_2 S_1 =>
  if r_2 = 0 then
    some ((-101), S_1)
  else
    bnd (f_X8_cellOf x1 x2 S_1) fun r_4 S_3 =>
    some (r_4, S_3)
def f_X8_isCart (x1 : Int32) (S : St) : Option (Int32 × St) :=
  bnd (f_X8_in ((x1 : Int32).toInt64) 0 ((((S 55 12) - 1) : Int32).toInt64) S) fun r_2 S_1 =>
  grd (isB r_2) (some (r_2, S_1))
def f_X8_about (x1 : Int32) (x2 : Int32) (S : St) : Option (Int32 × St) :=
  bnd (f_X8_isCart x1 S) fun r_2 S_1 =>
  if r_2 = 0 then
    some ((-101), S_1)
  else
    if x2 = 0 then
      grd (inb x1 8) <|
      some ((S_1 62 (x1 : Int32).toNatClampNeg), S_1)
    else
      if x2 = 1 then
        grd (inb x1 8) <|
        some ((S_1 63 (x1 : Int32).toNatClampNeg), S_1)
      else
        some ((-102), S_1)
def f_X8_isLoss (x1 : Int32) (x2 : Int32) (S : St) : Option (Int32 × St) :=
  bnd (f_X8_isCart x1 S) fun r_2 S_1 =>
  if r_2 = 0 then
    some (0, S_1)
  else
    grd (inb x1 8) <|
    bnd (f_X8_in ((x2 : Int32).toInt64) 0 ((((S_1 63 (x1 : Int32).toNatClampNeg) - 1) : Int32).toInt64) S_1) fun r_4 S_3 =>
    if r_4 = 0 then
      some (0, S_3)
    else
      some (1, S_3)
def f_X8_loss (x1 : Int32) (x2 : Int32) (x3 : Int32) (S : St) : Option (Int32 × St) :=
  bnd (f_X8_isLoss x1 x2 S) fun r_2 S_1 =>
  if r_2 = 0 then
    some ((-101), S_1)
  else
    bnd (f_X8_in ((x3 : Int32).toInt64) 0 1 S_1) fun r_4 S_3 =>
    if r_4 = 0 then
      some ((-102), S_3)
    else
      grd (inb (((10 * x1) + (2 * x2)) + x3) 80) <|
      some ((S_3 64 ((((10 * x1) + (2 * x2)) + x3) : Int32).toNatClampNeg), S_3)
def f_X8_as_b68 (x2 : Int32) (s0 : Int32) (S : St) : Option (Int32 × St) :=
  if s0 = 0 then
    some ((-1), S)
  else
    some (x2, S)
def f_X8_as_b63 (x2 : Int32) (S : St) : Option (Int32 × St) :=
  f_X8_as_b68 x2 1 S
def f_X8_as_b67 (x2 : Int32) (S : St) : Option (Int32 × St) :=
  f_X8_as_b68 x2 0 S
def f_X8_as (x1 : Int32) (x2 : Int32) (x3 : Int32) (S : St) : Option (Int32 × St) :=
  bnd (f_X8_isLoss x1 x2 S) fun r_2 S_1 =>
  if r_2 = 0 then
    some ((-101), S_1)
  else
    bnd (f_X8_in ((x3 : Int32).toInt64) 0 5 S_1) fun r_4 S_3 =>
    if r_4 = 0 then
      some ((-102), S_3)
    else
      grd (inb ((10 * x1) + (2 * x2)) 80) <|
      lett (S_3 64 (((10 * x1) + (2 * x2)) : Int32).toNatClampNeg) fun x4_5 =>
      if x3 = 0 then
        f_X8_as_b63 x2 S_3
      else
        if x3 = x4_5 then
          f_X8_as_b63 x2 S_3
        else
          if x3 = 1 then
            if x4_5 = 2 then
              f_X8_as_b63 x2 S_3
            else
              f_X8_as_b67 x2 S_3
          else
            f_X8_as_b67 x2 S_3
def f_X8_weigh (x1 : Int32) (x2 : Int32) (S : St) : Option (Int32 × St) :=
  bnd (f_X8_isCart x1 S) fun r_2 S_1 =>
  if r_2 = 0 then
    some ((-101), S_1)
  else
    bnd (f_X8_in ((x2 : Int32).toInt64) 10 99 S_1) fun r_4 S_3 =>
    if r_4 = 0 then
      some ((-102), S_3)
    else
      grd (inb x1 8) <|
      lett (S_3 62 (x1 : Int32).toNatClampNeg) fun x3_5 =>
      grd (inb x1 8) <|
      lett (su S_3 62 (x1 : Int32).toNatClampNeg x2) fun S_6 =>
      some (x3_5, S_6)
def f_X8_grip (x1 : Int32) (S : St) : Option (Int32 × St) :=
  bnd (f_X8_in ((x1 : Int32).toInt64) 1 99 S) fun r_2 S_1 =>
  if r_2 = 0 then
    some ((-102), S_1)
  else
    lett (S_1 55 16) fun x2_3 =>
    lett (su S_1 55 16 x1) fun S_4 =>
    some (x2_3, S_4)
def f_X8_brake (x1 : Int32) (x2 : Int32) (S : St) : Option (Int32 × St) :=
  bnd (f_X8_isCell x1 S) fun r_2 S_1 =>
  if r_2 = 0 then
    some ((-101), S_1)
  else
    bnd (f_X8_in ((x2 : Int32).toInt64) 0 9 S_1) fun r_4 S_3 =>
    if r_4 = 0 then
      some ((-102), S_3)
    else
      grd (inb x1 12) <|
      lett (S_3 61 (x1 : Int32).toNatClampNeg) fun x3_5 =>
      grd (inb x1 12) <|
      lett (su S_3 61 (x1 : Int32).toNatClampNeg x2) fun S_6 =>
      some (x3_5, S_6)
def f_X8_lacks (S : St) : Option (Int32 × St) :=
  if (S 55 6) = 0 then
    some (1, S)
  else
    some (0, S)
def f_X8_isSwing (x0 : Int32) (S : St) : Option (Int32 × St) :=
  bnd (f_X8_in ((x0 : Int32).toInt64) 0 9999 S) fun r_2 S_1 =>
  grd (isB r_2) (some (r_2, S_1))
def f_X8_take_l78 : Nat → Int32 → St → Option (Unit × St)
  | 0, _, _ => none
  | n + 1, x2, S =>
    if 12 ≤ x2 then
      some ((), S)
    else
      grd (inb x2 12) <|
      grd (inb x2 12) <|
      lett (su S 67 (x2 : Int32).toNatClampNeg (S 61 (x2 : Int32).toNatClampNeg)) fun S_3 =>
      lett (x2 + 1) fun x2_4 =>
      f_X8_take_l78 n x2_4 S_3
def f_X8_take_l22 : Nat → Int32 → Int32 → St → Option (Unit × St)
  | 0, _, _, _ => none
  | n + 1, x1, x2, S =>
    if (S 55 18) ≤ x2 then
      f_X8_take_l78 FU 0 S
    else
      grd (inb ((10 * x1) + (2 * x2)) 80) <|
      grd (inb x2 6) <|
      lett (su S 65 (x2 : Int32).toNatClampNeg (S 64 (((10 * x1) + (2 * x2)) : Int32).toNatClampNeg)) fun S_5 =>
      grd (inb (((10 * x1) + (2 * x2)) + 1) 80) <|
      grd (inb x2 6) <|
      lett (su S_5 66 (x2 : Int32).toNatClampNeg (S_5 64 ((((10 * x1) + (2 * x2)) + 1) : Int32).toNatClampNeg)) fun S_6 =>
      lett (x2 + 1) fun x2_7 =>
      f_X8_take_l22 n x1 x2_7 S_6
def f_X8_take (x1 : Int32) (S : St) : Option (Unit × St) :=
  grd (inb x1 8) <|
  lett (su S 55 17 (S 62 (x1 : Int32).toNatClampNeg)) fun S_1 =>
  grd (inb x1 8) <|
  lett (su S_1 55 18 (S_1 63 (x1 : Int32).toNatClampNeg)) fun S_2 =>
  f_X8_take_l22 FU x1 0 S_2
def f_X8_takes (x1 : Int32) (x2 : Int32) (x3 : Int32) (x4 : Int32) (x5 : Int32) (S : St) : Option (Int32 × St) :=
  grd (inb x1 6) <|
  lett (S 66 (x1 : Int32).toNatClampNeg) fun x6_1 =>
  grd (inb x1 6) <|
  if (S 65 (x1 : Int32).toNatClampNeg) = 0 then
    some (x6_1, S)
  else
  if (S 65 (x1 : Int32).toNatClampNeg) = 1 then
    some ((2 * x6_1), S)
  else
  if (S 65 (x1 : Int32).toNatClampNeg) = 2 then
    some ((x6_1 + (x6_1 * x4)), S)
  else
  if (S 65 (x1 : Int32).toNatClampNeg) = 3 then
    grd (nz (10 * (S 55 17))) <|
    some (((x2 * x6_1) / (10 * (S 55 17))), S)
  else
  if (S 65 (x1 : Int32).toNatClampNeg) = 4 then
    if x5 = 1 then
      grd (nz 40) <|
      some (((x2 * x6_1) / 40), S)
    else
      some (0, S)
  else
    some ((x6_1 * x3), S)
def f_X8_goCell_b98 (x3 : Int32) (s0 : Int32) (S : St) : Option (Int32 × St) :=
  lett (su S 55 28 ((S 55 28) + s0)) fun S_2 =>
  some ((x3 - s0), S_2)
def f_X8_goCell_l20 : Nat → Int32 → Int32 → Int32 → Int32 → St → Option (Int32 × St)
  | 0, _, _, _, _, _ => none
  | n + 1, x1, x2, x3, x4, S =>
    if (S 55 18) ≤ x4 then
      if x3 ≤ 0 then
        f_X8_goCell_b98 x3 0 S
      else
        grd (inb x1 12) <|
        grd (nz 10) <|
        f_X8_goCell_b98 x3 ((x3 * (S 67 (x1 : Int32).toNatClampNeg)) / 10) S
    else
      grd (inb x1 12) <|
      grd (inb x1 12) <|
      grd (inb x1 12) <|
      bnd (f_X8_takes x4 x2 (S 58 (x1 : Int32).toNatClampNeg) (S 59 (x1 : Int32).toNatClampNeg) (S 60 (x1 : Int32).toNatClampNeg) S) fun r_4 S_3 =>
      grd (inb x4 6) <|
      grd (inb x4 6) <|
      lett (su S_3 69 (x4 : Int32).toNatClampNeg ((S_3 69 (x4 : Int32).toNatClampNeg) + r_4)) fun S_5 =>
      lett (x3 - r_4) fun x3_6 =>
      lett (x4 + 1) fun x4_7 =>
      f_X8_goCell_l20 n x1 x2 x3_6 x4_7 S_5
def f_X8_goCell (x1 : Int32) (S : St) : Option (Int32 × St) :=
  grd (inb x1 12) <|
  lett ((S 55 25) + (20 * (S 58 (x1 : Int32).toNatClampNeg))) fun x2_1 =>
  f_X8_goCell_l20 FU x1 x2_1 x2_1 0 S
def f_X8_root_l2 : Nat → Int32 → Int32 → St → Option (Int32 × St)
  | 0, _, _, _ => none
  | n + 1, x0, x1, S =>
    if x0 < ((x1 + 1) * (x1 + 1)) then
      some (x1, S)
    else
      lett (x1 + 1) fun x1_1 =>
      f_X8_root_l2 n x0 x1_1 S
def f_X8_root (x0 : Int32) (S : St) : Option (Int32 × St) :=
  f_X8_root_l2 FU x0 0 S
def f_X8_bearable (x1 : Int32) (S : St) : Option (Int32 × St) :=
  grd (inb x1 12) <|
  grd (nz (S 59 (x1 : Int32).toNatClampNeg)) <|
  some (((100 * (S 55 16)) / (S 59 (x1 : Int32).toNatClampNeg)), S)
def f_X8_go_b176 (k74 : Int32 → St → Option (Unit × St)) (x2 : Int32) (S : St) : Option (Unit × St) :=
  lett (x2 + 1) fun x2_13 =>
  k74 x2_13 S
def f_X8_go_l74 : Nat → Int32 → St → Option (Unit × St)
  | 0, _, _ => none
  | n + 1, x2, S =>
    if (S 55 6) ≤ x2 then
      some ((), S)
    else
      bnd (f_X8_goCell x2 S) fun r_7 S_6 =>
      lett (su S_6 55 25 r_7) fun S_8 =>
      if 0 < (S_8 55 25) then
        grd (inb x2 12) <|
        lett (su S_8 68 (x2 : Int32).toNatClampNeg (S_8 55 25)) fun S_9 =>
        bnd (f_X8_root (S_9 55 25) S_9) fun r_11 S_10 =>
        grd (nz r_11) <|
        lett (su S_10 55 24 ((S_9 55 24) + (1000 / r_11))) fun S_12 =>
        grd (inb x2 12) <|
        if (S_12 59 (x2 : Int32).toNatClampNeg) ≤ 0 then
          f_X8_go_b176 (f_X8_go_l74 n) x2 S_12
        else
          bnd (f_X8_bearable x2 S_12) fun r_15 S_14 =>
          if (S_12 55 25) ≤ r_15 then
            f_X8_go_b176 (f_X8_go_l74 n) x2 S_14
          else
            lett (su S_14 55 22 2) fun S_16 =>
            lett (su S_16 55 23 x2) fun S_17 =>
            some ((), S_17)
      else
        lett (su S_8 55 25 0) fun S_18 =>
        lett (su S_18 55 22 1) fun S_19 =>
        lett (su S_19 55 23 x2) fun S_20 =>
        some ((), S_20)
def f_X8_go_l53 : Nat → Int32 → St → Option (Unit × St)
  | 0, _, _ => none
  | n + 1, x2, S =>
    if 12 ≤ x2 then
      f_X8_go_l74 FU 0 S
    else
      grd (inb x2 12) <|
      lett (su S 68 (x2 : Int32).toNatClampNeg (-1)) fun S_21 =>
      lett (x2 + 1) fun x2_22 =>
      f_X8_go_l53 n x2_22 S_21
def f_X8_go_l32 : Nat → Int32 → St → Option (Unit × St)
  | 0, _, _ => none
  | n + 1, x2, S =>
    if 6 ≤ x2 then
      f_X8_go_l53 FU 0 S
    else
      grd (inb x2 6) <|
      lett (su S 69 (x2 : Int32).toNatClampNeg 0) fun S_23 =>
      lett (x2 + 1) fun x2_24 =>
      f_X8_go_l32 n x2_24 S_23
def f_X8_go (x1 : Int32) (S : St) : Option (Unit × St) :=
  lett (su S 55 25 x1) fun S_1 =>
  lett (su S_1 55 24 0) fun S_2 =>
  lett (su S_2 55 22 0) fun S_3 =>
  lett (su S_3 55 23 ((S_3 55 6) - 1)) fun S_4 =>
  lett (su S_4 55 28 0) fun S_5 =>
  f_X8_go_l32 FU 0 S_5
def f_X8_run (x1 : Int32) (x2 : Int32) (x3 : Int32) (S : St) : Option (Int32 × St) :=
  bnd (f_X8_isCart x1 S) fun r_2 S_1 =>
  if r_2 = 0 then
    some ((-101), S_1)
  else
    bnd (f_X8_lacks S_1) fun r_4 S_3 =>
    if r_4 = 0 then
      bnd (f_X8_isSwing x2 S_3) fun r_6 S_5 =>
      if r_6 = 0 then
        some ((-102), S_5)
      else
        bnd (f_X8_in ((x3 : Int32).toInt64) 0 3 S_5) fun r_8 S_7 =>
        if r_8 = 0 then
          some ((-102), S_7)
        else
          bnd (f_X8_take x1 S_7) fun r_10 S_9 =>
          bnd (f_X8_go x2 S_9) fun r_12 S_11 =>
          if x3 = 0 then
            some ((S_11 55 22), S_11)
          else
            if x3 = 1 then
              some ((S_11 55 23), S_11)
            else
              if x3 = 2 then
                some ((S_11 55 24), S_11)
              else
                some ((S_11 55 25), S_11)
    else
      some ((-103), S_3)
def f_X8_pace (x1 : Int32) (x2 : Int32) (x3 : Int32) (S : St) : Option (Int32 × St) :=
  bnd (f_X8_isCart x1 S) fun r_2 S_1 =>
  if r_2 = 0 then
    some ((-101), S_1)
  else
    bnd (f_X8_isCell x3 S_1) fun r_4 S_3 =>
    if r_4 = 0 then
      some ((-101), S_3)
    else
      bnd (f_X8_isSwing x2 S_3) fun r_6 S_5 =>
      if r_6 = 0 then
        some ((-102), S_5)
      else
        bnd (f_X8_take x1 S_5) fun r_8 S_7 =>
        bnd (f_X8_go x2 S_7) fun r_10 S_9 =>
        grd (inb x3 12) <|
        some ((S_9 68 (x3 : Int32).toNatClampNeg), S_9)
def f_X8_lost_b25 (x1 : Int32) (x2 : Int32) (x3 : Int32) (S : St) : Option (Int32 × St) :=
  bnd (f_X8_lacks S) fun r_4 S_3 =>
  if r_4 = 0 then
    bnd (f_X8_isSwing x2 S_3) fun r_6 S_5 =>
    if r_6 = 0 then
      some ((-102), S_5)
    else
      bnd (f_X8_take x1 S_5) fun r_8 S_7 =>
      bnd (f_X8_go x2 S_7) fun r_10 S_9 =>
      if x3 = (-1) then
        some ((S_9 55 28), S_9)
      else
        grd (inb x3 6) <|
        some ((S_9 69 (x3 : Int32).toNatClampNeg), S_9)
  else
    some ((-103), S_3)
def f_X8_lost (x1 : Int32) (x2 : Int32) (x3 : Int32) (S : St) : Option (Int32 × St) :=
  bnd (f_X8_isCart x1 S) fun r_2 S_1 =>
  if r_2 = 0 then
    some ((-101), S_1)
  else
    if x3 = (-1) then
      f_X8_lost_b25 x1 x2 x3 S_1
    else
      bnd (f_X8_isLoss x1 x3 S_1) fun r_12 S_11 =>
      if r_12 = 0 then
        some ((-101), S_11)
      else
        f_X8_lost_b25 x1 x2 x3 S_11
def f_X8_bendAt_b31 (k4 : Int32 → Int32 → Int32 → St → Option (Int32 × St)) (x1 : Int32) (x2 : Int32) (x3 : Int32) (S : St) : Option (Int32 × St) :=
  lett (x3 + 1) fun x3_1 =>
  k4 x1 x2 x3_1 S
def f_X8_bendAt_l4 : Nat → Int32 → Int32 → Int32 → St → Option (Int32 × St)
  | 0, _, _, _, _ => none
  | n + 1, x1, x2, x3, S =>
    if (S 55 6) ≤ x3 then
      some ((-1), S)
    else
      grd (inb x3 12) <|
      if (S 59 (x3 : Int32).toNatClampNeg) ≤ 0 then
        f_X8_bendAt_b31 (f_X8_bendAt_l4 n) x1 x2 x3 S
      else
        if x2 = x1 then
          some (x3, S)
        else
          lett (x2 + 1) fun x2_2 =>
          f_X8_bendAt_b31 (f_X8_bendAt_l4 n) x1 x2_2 x3 S
def f_X8_bendAt (x1 : Int32) (S : St) : Option (Int32 × St) :=
  f_X8_bendAt_l4 FU x1 0 0 S
def f_X8_isBraked (x1 : Int32) (S : St) : Option (Int32 × St) :=
  bnd (f_X8_bendAt x1 S) fun r_2 S_1 =>
  if r_2 ≤ 0 then
    some (0, S_1)
  else
    some (1, S_1)
def f_X8_bestBrakes_b258 (x4 : Int32) (x5 : Int32) (S : St) : Option (Int32 × St) :=
  if x4 = (-1) then
    some ((-1), S)
  else
    some (x5, S)
def f_X8_bestBrakes_b242 (k57 : Int32 → Int32 → Int32 → Int32 → Int32 → St → Option (Int32 × St)) (x2 : Int32) (x3 : Int32) (x4 : Int32) (x5 : Int32) (x6 : Int32) (S : St) : Option (Int32 × St) :=
  lett (x6 + 1) fun x6_13 =>
  k57 x2 x3 x4 x5 x6_13 S
def f_X8_bestBrakes_b240 (k57 : Int32 → Int32 → Int32 → Int32 → Int32 → St → Option (Int32 × St)) (x2 : Int32) (x3 : Int32) (x4 : Int32) (x6 : Int32) (s0 : Int32) (S : St) : Option (Int32 × St) :=
  f_X8_bestBrakes_b242 k57 x2 x3 x4 s0 x6 S
def f_X8_bestBrakes_b224 (k57 : Int32 → Int32 → Int32 → Int32 → Int32 → St → Option (Int32 × St)) (x2 : Int32) (x3 : Int32) (x5 : Int32) (x6 : Int32) (x8 : Int32) (s0 : Int32) (S : St) : Option (Int32 × St) :=
  if x8 = 0 then
    f_X8_bestBrakes_b240 k57 x2 x3 s0 x6 x5 S
  else
    f_X8_bestBrakes_b240 k57 x2 x3 s0 x6 (S 55 24) S
def f_X8_bestBrakes_b210 (k57 : Int32 → Int32 → Int32 → Int32 → Int32 → St → Option (Int32 × St)) (x2 : Int32) (x3 : Int32) (x4 : Int32) (x5 : Int32) (x6 : Int32) (s0 : Int32) (S : St) : Option (Int32 × St) :=
  if s0 = 0 then
    f_X8_bestBrakes_b224 k57 x2 x3 x5 x6 s0 x4 S
  else
    f_X8_bestBrakes_b224 k57 x2 x3 x5 x6 s0 x6 S
def f_X8_bestBrakes_b205 (k57 : Int32 → Int32 → Int32 → Int32 → Int32 → St → Option (Int32 × St)) (x2 : Int32) (x3 : Int32) (x4 : Int32) (x5 : Int32) (x6 : Int32) (S : St) : Option (Int32 × St) :=
  f_X8_bestBrakes_b210 k57 x2 x3 x4 x5 x6 1 S
def f_X8_bestBrakes_b209 (k57 : Int32 → Int32 → Int32 → Int32 → Int32 → St → Option (Int32 × St)) (x2 : Int32) (x3 : Int32) (x4 : Int32) (x5 : Int32) (x6 : Int32) (S : St) : Option (Int32 × St) :=
  f_X8_bestBrakes_b210 k57 x2 x3 x4 x5 x6 0 S
def f_X8_bestBrakes_b167 (k57 : Int32 → Int32 → Int32 → Int32 → Int32 → St → Option (Int32 × St)) (k95 : Int32 → Int32 → Int32 → Int32 → Int32 → Int32 → Int32 → St → Option (Int32 × St)) (x2 : Int32) (x3 : Int32) (x4 : Int32) (x5 : Int32) (x6 : Int32) (x7 : Int32) (x8 : Int32) (S : St) : Option (Int32 × St) :=
  lett (x8 + 1) fun x8_19 =>
  k95 x2 x3 x4 x5 x6 x7 x8_19 S
def f_X8_bestBrakes_b139 (k57 : Int32 → Int32 → Int32 → Int32 → Int32 → St → Option (Int32 × St)) (k95 : Int32 → Int32 → Int32 → Int32 → Int32 → Int32 → Int32 → St → Option (Int32 × St)) (x2 : Int32) (x3 : Int32) (x4 : Int32) (x5 : Int32) (x6 : Int32) (x8 : Int32) (x9 : Int32) (s0 : Int32) (S : St) : Option (Int32 × St) :=
  bnd (f_X8_isBraked x8 S) fun r_18 S_17 =>
  if r_18 = 0 then
    f_X8_bestBrakes_b167 k57 k95 x2 x3 x4 x5 x6 s0 x8 S_17
  else
    bnd (f_X8_bendAt x8 S_17) fun r_21 S_20 =>
    grd (inb (r_21 - 1) 12) <|
    lett (su S_20 67 ((r_21 - 1) : Int32).toNatClampNeg (3 * x9)) fun S_22 =>
    f_X8_bestBrakes_b167 k57 k95 x2 x3 x4 x5 x6 s0 x8 S_22
def f_X8_bestBrakes_b138 (k57 : Int32 → Int32 → Int32 → Int32 → Int32 → St → Option (Int32 × St)) (k95 : Int32 → Int32 → Int32 → Int32 → Int32 → Int32 → Int32 → St → Option (Int32 × St)) (x2 : Int32) (x3 : Int32) (x4 : Int32) (x5 : Int32) (x6 : Int32) (x8 : Int32) (x9 : Int32) (S : St) : Option (Int32 × St) :=
  f_X8_bestBrakes_b139 k57 k95 x2 x3 x4 x5 x6 x8 x9 0 S
def f_X8_bestBrakes_b134 (k57 : Int32 → Int32 → Int32 → Int32 → Int32 → St → Option (Int32 × St)) (k95 : Int32 → Int32 → Int32 → Int32 → Int32 → Int32 → Int32 → St → Option (Int32 × St)) (x2 : Int32) (x3 : Int32) (x4 : Int32) (x5 : Int32) (x6 : Int32) (x8 : Int32) (x9 : Int32) (S : St) : Option (Int32 × St) :=
  f_X8_bestBrakes_b139 k57 k95 x2 x3 x4 x5 x6 x8 x9 1 S
def f_X8_bestBrakes_l95 (k57 : Int32 → Int32 → Int32 → Int32 → Int32 → St → Option (Int32 × St)) : Nat → Int32 → Int32 → Int32 → Int32 → Int32 → Int32 → Int32 → St → Option (Int32 × St)
  | 0, _, _, _, _, _, _, _, _ => none
  | n + 1, x2, x3, x4, x5, x6, x7, x8, S =>
    if 4 ≤ x8 then
      if x7 = 0 then
        f_X8_bestBrakes_b242 k57 x2 x3 x4 x5 x6 S
      else
        bnd (f_X8_go x2 S) fun r_15 S_14 =>
        if (S_14 55 22) = 0 then
          if x4 = (-1) then
            f_X8_bestBrakes_b205 k57 x2 x3 x4 x5 x6 S_14
          else
            if x5 ≤ (S_14 55 24) then
              f_X8_bestBrakes_b209 k57 x2 x3 x4 x5 x6 S_14
            else
              f_X8_bestBrakes_b205 k57 x2 x3 x4 x5 x6 S_14
        else
          f_X8_bestBrakes_b209 k57 x2 x3 x4 x5 x6 S_14
    else
      lett ((x6 >>> ((6 - (2 * x8)) &&& 31)) &&& 3) fun x9_16 =>
      if x7 = 0 then
        f_X8_bestBrakes_b138 k57 (f_X8_bestBrakes_l95 k57 n) x2 x3 x4 x5 x6 x8 x9_16 S
      else
        if x9_16 = 0 then
          f_X8_bestBrakes_b134 k57 (f_X8_bestBrakes_l95 k57 n) x2 x3 x4 x5 x6 x8 x9_16 S
        else
          bnd (f_X8_isBraked x8 S) fun r_24 S_23 =>
          if r_24 = 0 then
            f_X8_bestBrakes_b138 k57 (f_X8_bestBrakes_l95 k57 n) x2 x3 x4 x5 x6 x8 x9_16 S_23
          else
            f_X8_bestBrakes_b134 k57 (f_X8_bestBrakes_l95 k57 n) x2 x3 x4 x5 x6 x8 x9_16 S_23
def f_X8_bestBrakes_l71 (k57 : Int32 → Int32 → Int32 → Int32 → Int32 → St → Option (Int32 × St)) : Nat → Int32 → Int32 → Int32 → Int32 → Int32 → Int32 → Int32 → St → Option (Int32 × St)
  | 0, _, _, _, _, _, _, _, _ => none
  | n + 1, x2, x3, x4, x5, x6, x7, x8, S =>
    if 12 ≤ x8 then
      f_X8_bestBrakes_l95 k57 FU x2 x3 x4 x5 x6 x7 0 S
    else
      grd (inb x8 12) <|
      lett (su S 67 (x8 : Int32).toNatClampNeg 0) fun S_25 =>
      lett (x8 + 1) fun x8_26 =>
      f_X8_bestBrakes_l71 k57 n x2 x3 x4 x5 x6 x7 x8_26 S_25
def f_X8_bestBrakes_l57 : Nat → Int32 → Int32 → Int32 → Int32 → Int32 → St → Option (Int32 × St)
  | 0, _, _, _, _, _, _ => none
  | n + 1, x2, x3, x4, x5, x6, S =>
    if 256 ≤ x6 then
      if x4 = (-1) then
        f_X8_bestBrakes_b258 x4 x5 S
      else
        if x3 = 0 then
          f_X8_bestBrakes_b258 x4 x5 S
        else
          bnd (f_X8_isBraked (x3 - 1) S) fun r_12 S_11 =>
          if r_12 = 0 then
            some ((-1), S_11)
          else
            some ((3 * ((x4 >>> ((8 - (2 * x3)) &&& 31)) &&& 3)), S_11)
    else
      f_X8_bestBrakes_l71 (f_X8_bestBrakes_l57 n) FU x2 x3 x4 x5 x6 1 0 S
def f_X8_bestBrakes (x1 : Int32) (x2 : Int32) (x3 : Int32) (S : St) : Option (Int32 × St) :=
  bnd (f_X8_isCart x1 S) fun r_2 S_1 =>
  if r_2 = 0 then
    some ((-101), S_1)
  else
    bnd (f_X8_lacks S_1) fun r_4 S_3 =>
    if r_4 = 0 then
      bnd (f_X8_isSwing x2 S_3) fun r_6 S_5 =>
      if r_6 = 0 then
        some ((-102), S_5)
      else
        bnd (f_X8_in ((x3 : Int32).toInt64) 0 4 S_5) fun r_8 S_7 =>
        if r_8 = 0 then
          some ((-102), S_7)
        else
          bnd (f_X8_take x1 S_7) fun r_10 S_9 =>
          f_X8_bestBrakes_l57 FU x2 x3 (-1) 0 0 S_9
    else
      some ((-103), S_3)
def f_X8_bestPush_b166 (x4 : Int32) (S : St) : Option (Int32 × St) :=
  some (x4, S)
def f_X8_bestPush_b148 (k60 : Int32 → Int32 → Int32 → Int32 → Int32 → St → Option (Int32 × St)) (x2 : Int32) (x3 : Int32) (x4 : Int32) (x6 : Int32) (s0 : Int32) (S : St) : Option (Int32 × St) :=
  lett (x6 + 1) fun x6_14 =>
  k60 x2 x3 x4 s0 x6_14 S
def f_X8_bestPush_b134 (k60 : Int32 → Int32 → Int32 → Int32 → Int32 → St → Option (Int32 × St)) (x2 : Int32) (x3 : Int32) (x5 : Int32) (x6 : Int32) (x7 : Int32) (x8 : Int32) (s0 : Int32) (S : St) : Option (Int32 × St) :=
  if x8 = 0 then
    f_X8_bestPush_b148 k60 x2 x3 s0 x6 x5 S
  else
    f_X8_bestPush_b148 k60 x2 x3 s0 x6 x7 S
def f_X8_bestPush_b120 (k60 : Int32 → Int32 → Int32 → Int32 → Int32 → St → Option (Int32 × St)) (x2 : Int32) (x3 : Int32) (x4 : Int32) (x5 : Int32) (x6 : Int32) (x7 : Int32) (s0 : Int32) (S : St) : Option (Int32 × St) :=
  if s0 = 0 then
    f_X8_bestPush_b134 k60 x2 x3 x5 x6 x7 s0 x4 S
  else
    f_X8_bestPush_b134 k60 x2 x3 x5 x6 x7 s0 x6 S
def f_X8_bestPush_b115 (k60 : Int32 → Int32 → Int32 → Int32 → Int32 → St → Option (Int32 × St)) (x2 : Int32) (x3 : Int32) (x4 : Int32) (x5 : Int32) (x6 : Int32) (x7 : Int32) (S : St) : Option (Int32 × St) :=
  f_X8_bestPush_b120 k60 x2 x3 x4 x5 x6 x7 1 S
def f_X8_bestPush_b119 (k60 : Int32 → Int32 → Int32 → Int32 → Int32 → St → Option (Int32 × St)) (x2 : Int32) (x3 : Int32) (x4 : Int32) (x5 : Int32) (x6 : Int32) (x7 : Int32) (S : St) : Option (Int32 × St) :=
  f_X8_bestPush_b120 k60 x2 x3 x4 x5 x6 x7 0 S
def f_X8_bestPush_l60 : Nat → Int32 → Int32 → Int32 → Int32 → Int32 → St → Option (Int32 × St)
  | 0, _, _, _, _, _, _ => none
  | n + 1, x2, x3, x4, x5, x6, S =>
    if 20 < x6 then
      if x4 = (-1) then
        f_X8_bestPush_b166 x4 S
      else
        if x3 = 0 then
          f_X8_bestPush_b166 x4 S
        else
          some (x5, S)
    else
      grd (nz (S 55 17)) <|
      bnd (f_X8_go (((x6 * x2) * 10) / (S 55 17)) S) fun r_12 S_11 =>
      lett ((S_11 55 24) + (60 * x6)) fun x7_13 =>
      if (S_11 55 22) = 0 then
        if x4 = (-1) then
          f_X8_bestPush_b115 (f_X8_bestPush_l60 n) x2 x3 x4 x5 x6 x7_13 S_11
        else
          if x5 ≤ x7_13 then
            f_X8_bestPush_b119 (f_X8_bestPush_l60 n) x2 x3 x4 x5 x6 x7_13 S_11
          else
            f_X8_bestPush_b115 (f_X8_bestPush_l60 n) x2 x3 x4 x5 x6 x7_13 S_11
      else
        f_X8_bestPush_b119 (f_X8_bestPush_l60 n) x2 x3 x4 x5 x6 x7_13 S_11
def f_X8_bestPush (x1 : Int32) (x2 : Int32) (x3 : Int32) (S : St) : Option (Int32 × St) :=
  bnd (f_X8_isCart x1 S) fun r_2 S_1 =>
  if r_2 = 0 then
    some ((-101), S_1)
  else
    bnd (f_X8_lacks S_1) fun r_4 S_3 =>
    if r_4 = 0 then
      bnd (f_X8_in ((x2 : Int32).toInt64) 1 99 S_3) fun r_6 S_5 =>
      if r_6 = 0 then
        some ((-102), S_5)
      else
        bnd (f_X8_in ((x3 : Int32).toInt64) 0 1 S_5) fun r_8 S_7 =>
        if r_8 = 0 then
          some ((-102), S_7)
        else
          bnd (f_X8_take x1 S_7) fun r_10 S_9 =>
          f_X8_bestPush_l60 FU x2 x3 (-1) 0 0 S_9
    else
      some ((-103), S_3)
def f_X8_work_b285 (x5 : Int32) (x6 : Int32) (S : St) : Option (Int32 × St) :=
  if x5 = (-1) then
    some ((-1), S)
  else
    some (x6, S)
def f_X8_work_l319 : Nat → Int32 → Int32 → Int32 → St → Option (Int32 × St)
  | 0, _, _, _, _ => none
  | n + 1, x4, x5, x8, S =>
    if x8 ≤ x4 then
      grd (nz 7) <|
      some ((x5 - x5 / 7 * 7), S)
    else
      grd (nz 7) <|
      lett (x5 / 7) fun x5_12 =>
      lett (x8 + (-1)) fun x8_13 =>
      f_X8_work_l319 n x4 x5_12 x8_13 S
def f_X8_work_b268 (k95 : Int32 → Int32 → Int32 → Int32 → Int32 → Int32 → Int32 → Int32 → St → Option (Int32 × St)) (x1 : Int32) (x2 : Int32) (x3 : Int32) (x4 : Int32) (x5 : Int32) (x6 : Int32) (x7 : Int32) (x8 : Int32) (S : St) : Option (Int32 × St) :=
  lett (x8 + 1) fun x8_17 =>
  k95 x1 x2 x3 x4 x5 x6 x7 x8_17 S
def f_X8_work_b266 (k95 : Int32 → Int32 → Int32 → Int32 → Int32 → Int32 → Int32 → Int32 → St → Option (Int32 × St)) (x1 : Int32) (x2 : Int32) (x3 : Int32) (x4 : Int32) (x5 : Int32) (x7 : Int32) (x8 : Int32) (s0 : Int32) (S : St) : Option (Int32 × St) :=
  f_X8_work_b268 k95 x1 x2 x3 x4 x5 s0 x7 x8 S
def f_X8_work_b250 (k95 : Int32 → Int32 → Int32 → Int32 → Int32 → Int32 → Int32 → Int32 → St → Option (Int32 × St)) (x1 : Int32) (x2 : Int32) (x3 : Int32) (x4 : Int32) (x6 : Int32) (x7 : Int32) (x8 : Int32) (x12 : Int32) (s0 : Int32) (S : St) : Option (Int32 × St) :=
  if x12 = 0 then
    f_X8_work_b266 k95 x1 x2 x3 x4 s0 x7 x8 x6 S
  else
    f_X8_work_b266 k95 x1 x2 x3 x4 s0 x7 x8 (S 55 24) S
def f_X8_work_b236 (k95 : Int32 → Int32 → Int32 → Int32 → Int32 → Int32 → Int32 → Int32 → St → Option (Int32 × St)) (x1 : Int32) (x2 : Int32) (x3 : Int32) (x4 : Int32) (x5 : Int32) (x6 : Int32) (x7 : Int32) (x8 : Int32) (s0 : Int32) (S : St) : Option (Int32 × St) :=
  if s0 = 0 then
    f_X8_work_b250 k95 x1 x2 x3 x4 x6 x7 x8 s0 x5 S
  else
    f_X8_work_b250 k95 x1 x2 x3 x4 x6 x7 x8 s0 x8 S
def f_X8_work_b231 (k95 : Int32 → Int32 → Int32 → Int32 → Int32 → Int32 → Int32 → Int32 → St → Option (Int32 × St)) (x1 : Int32) (x2 : Int32) (x3 : Int32) (x4 : Int32) (x5 : Int32) (x6 : Int32) (x7 : Int32) (x8 : Int32) (S : St) : Option (Int32 × St) :=
  f_X8_work_b236 k95 x1 x2 x3 x4 x5 x6 x7 x8 1 S
def f_X8_work_b235 (k95 : Int32 → Int32 → Int32 → Int32 → Int32 → Int32 → Int32 → Int32 → St → Option (Int32 × St)) (x1 : Int32) (x2 : Int32) (x3 : Int32) (x4 : Int32) (x5 : Int32) (x6 : Int32) (x7 : Int32) (x8 : Int32) (S : St) : Option (Int32 × St) :=
  f_X8_work_b236 k95 x1 x2 x3 x4 x5 x6 x7 x8 0 S
def f_X8_work_b173 (k95 : Int32 → Int32 → Int32 → Int32 → Int32 → Int32 → Int32 → Int32 → St → Option (Int32 × St)) (k125 : Int32 → Int32 → Int32 → Int32 → Int32 → Int32 → Int32 → Int32 → Int32 → Int32 → Int32 → Int32 → St → Option (Int32 × St)) (x1 : Int32) (x2 : Int32) (x3 : Int32) (x4 : Int32) (x5 : Int32) (x6 : Int32) (x7 : Int32) (x8 : Int32) (x9 : Int32) (x10 : Int32) (x12 : Int32) (x13 : Int32) (s0 : Int32) (S : St) : Option (Int32 × St) :=
  grd (inb x12 6) <|
  grd (inb x12 6) <|
  lett (su S 66 (x12 : Int32).toNatClampNeg ((S 66 (x12 : Int32).toNatClampNeg) - x13)) fun S_23 =>
  lett (x12 + (-1)) fun x12_24 =>
  k125 x1 x2 x3 x4 x5 x6 x7 x8 x9 x10 s0 x12_24 S_23
def f_X8_work_b172 (k95 : Int32 → Int32 → Int32 → Int32 → Int32 → Int32 → Int32 → Int32 → St → Option (Int32 × St)) (k125 : Int32 → Int32 → Int32 → Int32 → Int32 → Int32 → Int32 → Int32 → Int32 → Int32 → Int32 → Int32 → St → Option (Int32 × St)) (x1 : Int32) (x2 : Int32) (x3 : Int32) (x4 : Int32) (x5 : Int32) (x6 : Int32) (x7 : Int32) (x8 : Int32) (x9 : Int32) (x10 : Int32) (x12 : Int32) (x13 : Int32) (S : St) : Option (Int32 × St) :=
  f_X8_work_b173 k95 k125 x1 x2 x3 x4 x5 x6 x7 x8 x9 x10 x12 x13 0 S
def f_X8_work_l125 (k95 : Int32 → Int32 → Int32 → Int32 → Int32 → Int32 → Int32 → Int32 → St → Option (Int32 × St)) : Nat → Int32 → Int32 → Int32 → Int32 → Int32 → Int32 → Int32 → Int32 → Int32 → Int32 → Int32 → Int32 → St → Option (Int32 × St)
  | 0, _, _, _, _, _, _, _, _, _, _, _, _, _ => none
  | n + 1, x1, x2, x3, x4, x5, x6, x7, x8, x9, x10, x11, x12, S =>
    if x12 < 0 then
      if x11 = 0 then
        f_X8_work_b268 k95 x1 x2 x3 x4 x5 x6 x7 x8 S
      else
        if x3 < x10 then
          f_X8_work_b268 k95 x1 x2 x3 x4 x5 x6 x7 x8 S
        else
          bnd (f_X8_go x2 S) fun r_19 S_18 =>
          if (S_18 55 22) = 0 then
            if x5 = (-1) then
              f_X8_work_b231 k95 x1 x2 x3 x4 x5 x6 x7 x8 S_18
            else
              if x6 ≤ (S_18 55 24) then
                f_X8_work_b235 k95 x1 x2 x3 x4 x5 x6 x7 x8 S_18
              else
                f_X8_work_b231 k95 x1 x2 x3 x4 x5 x6 x7 x8 S_18
          else
            f_X8_work_b235 k95 x1 x2 x3 x4 x5 x6 x7 x8 S_18
    else
      grd (nz 7) <|
      lett (x9 - x9 / 7 * 7) fun x13_20 =>
      grd (nz 7) <|
      lett (x9 / 7) fun x9_21 =>
      lett (x10 + x13_20) fun x10_22 =>
      if x11 = 0 then
        f_X8_work_b172 k95 (f_X8_work_l125 k95 n) x1 x2 x3 x4 x5 x6 x7 x8 x9_21 x10_22 x12 x13_20 S
      else
        grd (inb x12 6) <|
        if (S 66 (x12 : Int32).toNatClampNeg) < x13_20 then
          f_X8_work_b172 k95 (f_X8_work_l125 k95 n) x1 x2 x3 x4 x5 x6 x7 x8 x9_21 x10_22 x12 x13_20 S
        else
          f_X8_work_b173 k95 (f_X8_work_l125 k95 n) x1 x2 x3 x4 x5 x6 x7 x8 x9_21 x10_22 x12 x13_20 1 S
def f_X8_work_l95 : Nat → Int32 → Int32 → Int32 → Int32 → Int32 → Int32 → Int32 → Int32 → St → Option (Int32 × St)
  | 0, _, _, _, _, _, _, _, _, _ => none
  | n + 1, x1, x2, x3, x4, x5, x6, x7, x8, S =>
    if x7 ≤ x8 then
      if x5 = (-1) then
        f_X8_work_b285 x5 x6 S
      else
        if x4 = 0 then
          f_X8_work_b285 x5 x6 S
        else
          grd (inb x1 8) <|
          if x4 ≤ (S 63 (x1 : Int32).toNatClampNeg) then
            grd (inb x1 8) <|
            lett (S 63 (x1 : Int32).toNatClampNeg) fun x8_11 =>
            f_X8_work_l319 FU x4 x5 x8_11 S
          else
            some ((-1), S)
    else
      bnd (f_X8_take x1 S) fun r_15 S_14 =>
      lett ((S_14 55 18) - 1) fun x12_16 =>
      f_X8_work_l125 (f_X8_work_l95 n) FU x1 x2 x3 x4 x5 x6 x7 x8 x8 0 1 x12_16 S_14
def f_X8_work_l68 : Nat → Int32 → Int32 → Int32 → Int32 → Int32 → Int32 → Int32 → Int32 → St → Option (Int32 × St)
  | 0, _, _, _, _, _, _, _, _, _ => none
  | n + 1, x1, x2, x3, x4, x5, x6, x7, x8, S =>
    grd (inb x1 8) <|
    if (S 63 (x1 : Int32).toNatClampNeg) ≤ x8 then
      f_X8_work_l95 FU x1 x2 x3 x4 x5 x6 x7 0 S
    else
      lett (x7 * 7) fun x7_25 =>
      lett (x8 + 1) fun x8_26 =>
      f_X8_work_l68 n x1 x2 x3 x4 x5 x6 x7_25 x8_26 S
def f_X8_work (x1 : Int32) (x2 : Int32) (x3 : Int32) (x4 : Int32) (S : St) : Option (Int32 × St) :=
  bnd (f_X8_isCart x1 S) fun r_2 S_1 =>
  if r_2 = 0 then
    some ((-101), S_1)
  else
    bnd (f_X8_lacks S_1) fun r_4 S_3 =>
    if r_4 = 0 then
      bnd (f_X8_isSwing x2 S_3) fun r_6 S_5 =>
      if r_6 = 0 then
        some ((-102), S_5)
      else
        bnd (f_X8_in ((x3 : Int32).toInt64) 0 6 S_5) fun r_8 S_7 =>
        if r_8 = 0 then
          some ((-102), S_7)
        else
          bnd (f_X8_in ((x4 : Int32).toInt64) 0 5 S_7) fun r_10 S_9 =>
          if r_10 = 0 then
            some ((-102), S_9)
          else
            f_X8_work_l68 FU x1 x2 x3 x4 (-1) 0 1 0 S_9
    else
      some ((-103), S_3)
def f_X8_timeBy (x1 : Int32) (x2 : Int32) (x3 : Int32) (S : St) : Option (Int32 × St) :=
  bnd (f_X8_take x1 S) fun r_2 S_1 =>
  lett (su S_1 55 17 x3) fun S_3 =>
  bnd (f_X8_go x2 S_3) fun r_5 S_4 =>
  if (S_4 55 22) = 0 then
    some ((S_4 55 24), S_4)
  else
    some ((-1), S_4)
def f_X8_weighed (x1 : Int32) (x2 : Int32) (x3 : Int32) (S : St) : Option (Int32 × St) :=
  bnd (f_X8_isCart x1 S) fun r_2 S_1 =>
  if r_2 = 0 then
    some ((-101), S_1)
  else
    bnd (f_X8_lacks S_1) fun r_4 S_3 =>
    if r_4 = 0 then
      bnd (f_X8_isSwing x2 S_3) fun r_6 S_5 =>
      if r_6 = 0 then
        some ((-102), S_5)
      else
        bnd (f_X8_in ((x3 : Int32).toInt64) 10 99 S_5) fun r_8 S_7 =>
        if r_8 = 0 then
          some ((-102), S_7)
        else
          bnd (f_X8_timeBy x1 x2 x3 S_7) fun r_10 S_9 =>
          some (r_10, S_9)
    else
      some ((-103), S_3)
def f_X8_close_b239 (x3 : Int32) (S : St) : Option (Int32 × St) :=
  some (x3, S)
def f_X8_close_b222 (k46 : Int32 → Int32 → Int32 → Int32 → Int32 → St → Option (Int32 × St)) (x1 : Int32) (x2 : Int32) (x3 : Int32) (x5 : Int32) (s0 : Int32) (S : St) : Option (Int32 × St) :=
  lett (x5 + 1) fun x5_7 =>
  k46 x1 x2 x3 s0 x5_7 S
def f_X8_close_b206 (k46 : Int32 → Int32 → Int32 → Int32 → Int32 → St → Option (Int32 × St)) (x1 : Int32) (x2 : Int32) (x4 : Int32) (x5 : Int32) (x6 : Int32) (x7 : Int32) (x9 : Int32) (s0 : Int32) (S : St) : Option (Int32 × St) :=
  if x9 = 0 then
    f_X8_close_b222 k46 x1 x2 s0 x5 x4 S
  else
    f_X8_close_b222 k46 x1 x2 s0 x5 (x7 - x6) S
def f_X8_close_b193 (k46 : Int32 → Int32 → Int32 → Int32 → Int32 → St → Option (Int32 × St)) (x1 : Int32) (x2 : Int32) (x3 : Int32) (x4 : Int32) (x5 : Int32) (x6 : Int32) (x7 : Int32) (s0 : Int32) (S : St) : Option (Int32 × St) :=
  if s0 = 0 then
    f_X8_close_b206 k46 x1 x2 x4 x5 x6 x7 s0 x3 S
  else
    f_X8_close_b206 k46 x1 x2 x4 x5 x6 x7 s0 x5 S
def f_X8_close_b192 (k46 : Int32 → Int32 → Int32 → Int32 → Int32 → St → Option (Int32 × St)) (x1 : Int32) (x2 : Int32) (x3 : Int32) (x4 : Int32) (x5 : Int32) (x6 : Int32) (x7 : Int32) (S : St) : Option (Int32 × St) :=
  f_X8_close_b193 k46 x1 x2 x3 x4 x5 x6 x7 0 S
def f_X8_close_b188 (k46 : Int32 → Int32 → Int32 → Int32 → Int32 → St → Option (Int32 × St)) (x1 : Int32) (x2 : Int32) (x3 : Int32) (x4 : Int32) (x5 : Int32) (x6 : Int32) (x7 : Int32) (S : St) : Option (Int32 × St) :=
  f_X8_close_b193 k46 x1 x2 x3 x4 x5 x6 x7 1 S
def f_X8_close_b168 (k46 : Int32 → Int32 → Int32 → Int32 → Int32 → St → Option (Int32 × St)) (x1 : Int32) (x2 : Int32) (x3 : Int32) (x4 : Int32) (x5 : Int32) (x6 : Int32) (x7 : Int32) (x8 : Int32) (S : St) : Option (Int32 × St) :=
  if x8 = 0 then
    f_X8_close_b192 k46 x1 x2 x3 x4 x5 x6 x7 S
  else
    if x3 = (-1) then
      f_X8_close_b188 k46 x1 x2 x3 x4 x5 x6 x7 S
    else
      if x4 < (x7 - x6) then
        f_X8_close_b192 k46 x1 x2 x3 x4 x5 x6 x7 S
      else
        f_X8_close_b188 k46 x1 x2 x3 x4 x5 x6 x7 S
def f_X8_close_b160 (k46 : Int32 → Int32 → Int32 → Int32 → Int32 → St → Option (Int32 × St)) (k65 : Int32 → Int32 → Int32 → Int32 → Int32 → Int32 → Int32 → Int32 → Int32 → St → Option (Int32 × St)) (x1 : Int32) (x2 : Int32) (x3 : Int32) (x4 : Int32) (x5 : Int32) (x6 : Int32) (x8 : Int32) (x9 : Int32) (s0 : Int32) (S : St) : Option (Int32 × St) :=
  lett (x9 + 1) fun x9_10 =>
  k65 x1 x2 x3 x4 x5 x6 s0 x8 x9_10 S
def f_X8_close_b144 (k46 : Int32 → Int32 → Int32 → Int32 → Int32 → St → Option (Int32 × St)) (k65 : Int32 → Int32 → Int32 → Int32 → Int32 → Int32 → Int32 → Int32 → Int32 → St → Option (Int32 × St)) (x1 : Int32) (x2 : Int32) (x3 : Int32) (x4 : Int32) (x5 : Int32) (x7 : Int32) (x8 : Int32) (x9 : Int32) (x10 : Int32) (s0 : Int32) (S : St) : Option (Int32 × St) :=
  if x10 ≤ x7 then
    f_X8_close_b160 k46 k65 x1 x2 x3 x4 x5 s0 x8 x9 x7 S
  else
    f_X8_close_b160 k46 k65 x1 x2 x3 x4 x5 s0 x8 x9 x10 S
def f_X8_close_b137 (k46 : Int32 → Int32 → Int32 → Int32 → Int32 → St → Option (Int32 × St)) (k65 : Int32 → Int32 → Int32 → Int32 → Int32 → Int32 → Int32 → Int32 → Int32 → St → Option (Int32 × St)) (x1 : Int32) (x2 : Int32) (x3 : Int32) (x4 : Int32) (x5 : Int32) (x7 : Int32) (x8 : Int32) (x9 : Int32) (x10 : Int32) (S : St) : Option (Int32 × St) :=
  f_X8_close_b144 k46 k65 x1 x2 x3 x4 x5 x7 x8 x9 x10 x10 S
def f_X8_close_b123 (k46 : Int32 → Int32 → Int32 → Int32 → Int32 → St → Option (Int32 × St)) (k65 : Int32 → Int32 → Int32 → Int32 → Int32 → Int32 → Int32 → Int32 → Int32 → St → Option (Int32 × St)) (x1 : Int32) (x2 : Int32) (x3 : Int32) (x4 : Int32) (x5 : Int32) (x6 : Int32) (x7 : Int32) (x9 : Int32) (x10 : Int32) (s0 : Int32) (S : St) : Option (Int32 × St) :=
  if x9 = 0 then
    f_X8_close_b137 k46 k65 x1 x2 x3 x4 x5 x7 s0 x9 x10 S
  else
    if x6 ≤ x10 then
      f_X8_close_b144 k46 k65 x1 x2 x3 x4 x5 x7 s0 x9 x10 x6 S
    else
      f_X8_close_b137 k46 k65 x1 x2 x3 x4 x5 x7 s0 x9 x10 S
def f_X8_close_b107 (k46 : Int32 → Int32 → Int32 → Int32 → Int32 → St → Option (Int32 × St)) (k65 : Int32 → Int32 → Int32 → Int32 → Int32 → Int32 → Int32 → Int32 → Int32 → St → Option (Int32 × St)) (x1 : Int32) (x2 : Int32) (x3 : Int32) (x4 : Int32) (x5 : Int32) (x6 : Int32) (x7 : Int32) (x9 : Int32) (s0 : Int32) (s1 : Int32) (s2 : Int32) (S : St) : Option (Int32 × St) :=
  bnd (f_X8_timeBy s2 s1 s0 S) fun r_9 S_8 =>
  if r_9 = (-1) then
    f_X8_close_b123 k46 k65 x1 x2 x3 x4 x5 x6 x7 x9 r_9 0 S_8
  else
    f_X8_close_b123 k46 k65 x1 x2 x3 x4 x5 x6 x7 x9 r_9 1 S_8
def f_X8_close_l65 (k46 : Int32 → Int32 → Int32 → Int32 → Int32 → St → Option (Int32 × St)) : Nat → Int32 → Int32 → Int32 → Int32 → Int32 → Int32 → Int32 → Int32 → Int32 → St → Option (Int32 × St)
  | 0, _, _, _, _, _, _, _, _, _, _ => none
  | n + 1, x1, x2, x3, x4, x5, x6, x7, x8, x9, S =>
    if (S 55 12) ≤ x9 then
      f_X8_close_b168 k46 x1 x2 x3 x4 x5 x6 x7 x8 S
    else
      if x8 = 0 then
        f_X8_close_b168 k46 x1 x2 x3 x4 x5 x6 x7 x8 S
      else
        grd (inb x9 8) <|
        if (S 62 (x9 : Int32).toNatClampNeg) ≤ x5 then
          grd (inb x9 8) <|
          f_X8_close_b107 k46 (f_X8_close_l65 k46 n) x1 x2 x3 x4 x5 x6 x7 x9 (S 62 (x9 : Int32).toNatClampNeg) x1 x9 S
        else
          f_X8_close_b107 k46 (f_X8_close_l65 k46 n) x1 x2 x3 x4 x5 x6 x7 x9 x5 x1 x9 S
def f_X8_close_l46 : Nat → Int32 → Int32 → Int32 → Int32 → Int32 → St → Option (Int32 × St)
  | 0, _, _, _, _, _, _ => none
  | n + 1, x1, x2, x3, x4, x5, S =>
    if 100 ≤ x5 then
      if x3 = (-1) then
        f_X8_close_b239 x3 S
      else
        if x2 = 0 then
          f_X8_close_b239 x3 S
        else
          some (x4, S)
    else
      f_X8_close_l65 (f_X8_close_l46 n) FU x1 x2 x3 x4 x5 (-1) (-1) 1 0 S
def f_X8_close (x1 : Int32) (x2 : Int32) (S : St) : Option (Int32 × St) :=
  bnd (f_X8_lacks S) fun r_2 S_1 =>
  if r_2 = 0 then
    if (S_1 55 12) = 0 then
      some ((-103), S_1)
    else
      bnd (f_X8_isSwing x1 S_1) fun r_4 S_3 =>
      if r_4 = 0 then
        some ((-102), S_3)
      else
        bnd (f_X8_in ((x2 : Int32).toInt64) 0 1 S_3) fun r_6 S_5 =>
        if r_6 = 0 then
          some ((-102), S_5)
        else
          f_X8_close_l46 FU x1 x2 (-1) 0 10 S_5
  else
    some ((-103), S_1)
def f_X8_farthestBy_l56 (k41 : Int32 → Int32 → St → Option (Int32 × St)) : Nat → Int32 → Int32 → Int32 → Int32 → St → Option (Int32 × St)
  | 0, _, _, _, _, _ => none
  | n + 1, x4, x5, x6, x7, S =>
    if (S 55 18) ≤ x7 then
      if 0 < x4 then
        lett (x5 + 1) fun x5_6 =>
        k41 x4 x5_6 S
      else
        some (x5, S)
    else
      bnd (f_X8_takes x7 x6 0 0 0 S) fun r_8 S_7 =>
      lett (x4 - r_8) fun x4_9 =>
      lett (x7 + 1) fun x7_10 =>
      f_X8_farthestBy_l56 k41 n x4_9 x5 x6 x7_10 S_7
def f_X8_farthestBy_l41 : Nat → Int32 → Int32 → St → Option (Int32 × St)
  | 0, _, _, _ => none
  | n + 1, x4, x5, S =>
    if 999 ≤ x5 then
      some (999, S)
    else
      f_X8_farthestBy_l56 (f_X8_farthestBy_l41 n) FU x4 x5 x4 0 S
def f_X8_farthestBy (x1 : Int32) (x2 : Int32) (x3 : Int32) (S : St) : Option (Int32 × St) :=
  bnd (f_X8_take x1 S) fun r_2 S_1 =>
  grd (inb (S_1 55 18) 6) <|
  lett (su S_1 65 ((S_1 55 18) : Int32).toNatClampNeg 1) fun S_3 =>
  grd (inb (S_3 55 18) 6) <|
  lett (su S_3 66 ((S_3 55 18) : Int32).toNatClampNeg x3) fun S_4 =>
  lett (su S_4 55 18 ((S_4 55 18) + 1)) fun S_5 =>
  f_X8_farthestBy_l41 FU x2 0 S_5
def f_X8_farthest (x1 : Int32) (x2 : Int32) (S : St) : Option (Int32 × St) :=
  bnd (f_X8_isCart x1 S) fun r_2 S_1 =>
  if r_2 = 0 then
    some ((-101), S_1)
  else
    bnd (f_X8_isSwing x2 S_1) fun r_4 S_3 =>
    if r_4 = 0 then
      some ((-102), S_3)
    else
      bnd (f_X8_farthestBy x1 x2 0 S_3) fun r_6 S_5 =>
      some (r_6, S_5)
def f_X8_coast (x1 : Int32) (x2 : Int32) (x3 : Int32) (S : St) : Option (Int32 × St) :=
  bnd (f_X8_isCart x1 S) fun r_2 S_1 =>
  if r_2 = 0 then
    some ((-101), S_1)
  else
    bnd (f_X8_isSwing x2 S_1) fun r_4 S_3 =>
    if r_4 = 0 then
      some ((-102), S_3)
    else
      bnd (f_X8_in ((x3 : Int32).toInt64) 0 99 S_3) fun r_6 S_5 =>
      if r_6 = 0 then
        some ((-102), S_5)
      else
        if (S_5 55 29) = 8 then
          some ((-104), S_5)
        else
          grd (inb (3 * (S_5 55 29)) 24) <|
          lett (su S_5 70 ((3 * (S_5 55 29)) : Int32).toNatClampNeg x1) fun S_7 =>
          grd (inb ((3 * (S_7 55 29)) + 1) 24) <|
          lett (su S_7 70 (((3 * (S_7 55 29)) + 1) : Int32).toNatClampNeg x2) fun S_8 =>
          grd (inb ((3 * (S_8 55 29)) + 2) 24) <|
          lett (su S_8 70 (((3 * (S_8 55 29)) + 2) : Int32).toNatClampNeg x3) fun S_9 =>
          lett (su S_9 55 29 ((S_9 55 29) + 1)) fun S_10 =>
          some ((S_10 55 29), S_10)
def f_X8_rubsNow_b91 (k4 : Int32 → Int32 → St → Option (Int32 × St)) (x2 : Int32) (s0 : Int32) (s1 : Int32) (S : St) : Option (Int32 × St) :=
  lett (s1 ||| s0) fun x1_1 =>
  lett (x2 + 1) fun x2_2 =>
  k4 x1_1 x2_2 S
def f_X8_rubsNow_b72 (k4 : Int32 → Int32 → St → Option (Int32 × St)) (k15 : Int32 → Int32 → Int32 → Int32 → St → Option (Int32 × St)) (x1 : Int32) (x2 : Int32) (x4 : Int32) (s0 : Int32) (S : St) : Option (Int32 × St) :=
  lett (x4 + 1) fun x4_3 =>
  k15 x1 x2 s0 x4_3 S
def f_X8_rubsNow_b71 (k4 : Int32 → Int32 → St → Option (Int32 × St)) (k15 : Int32 → Int32 → Int32 → Int32 → St → Option (Int32 × St)) (x1 : Int32) (x2 : Int32) (x4 : Int32) (S : St) : Option (Int32 × St) :=
  f_X8_rubsNow_b72 k4 k15 x1 x2 x4 0 S
def f_X8_rubsNow_l15 (k4 : Int32 → Int32 → St → Option (Int32 × St)) : Nat → Int32 → Int32 → Int32 → Int32 → St → Option (Int32 × St)
  | 0, _, _, _, _, _ => none
  | n + 1, x1, x2, x3, x4, S =>
    if (S 55 29) ≤ x4 then
      if x3 = 0 then
        f_X8_rubsNow_b91 k4 x2 0 x1 S
      else
        f_X8_rubsNow_b91 k4 x2 (1 <<< (x2 &&& 31)) x1 S
    else
      if x3 = 0 then
        f_X8_rubsNow_b71 k4 (f_X8_rubsNow_l15 k4 n) x1 x2 x4 S
      else
        grd (inb (3 * x4) 24) <|
        grd (inb ((3 * x4) + 1) 24) <|
        bnd (f_X8_farthestBy (S 70 ((3 * x4) : Int32).toNatClampNeg) (S 70 (((3 * x4) + 1) : Int32).toNatClampNeg) x2 S) fun r_5 S_4 =>
        grd (inb ((3 * x4) + 2) 24) <|
        if r_5 = (S_4 70 (((3 * x4) + 2) : Int32).toNatClampNeg) then
          f_X8_rubsNow_b72 k4 (f_X8_rubsNow_l15 k4 n) x1 x2 x4 1 S_4
        else
          f_X8_rubsNow_b71 k4 (f_X8_rubsNow_l15 k4 n) x1 x2 x4 S_4
def f_X8_rubsNow_l4 : Nat → Int32 → Int32 → St → Option (Int32 × St)
  | 0, _, _, _ => none
  | n + 1, x1, x2, S =>
    if 10 ≤ x2 then
      some (x1, S)
    else
      f_X8_rubsNow_l15 (f_X8_rubsNow_l4 n) FU x1 x2 1 0 S
def f_X8_rubsNow (S : St) : Option (Int32 × St) :=
  f_X8_rubsNow_l4 FU 0 0 S
def f_X8_rubs (S : St) : Option (Int32 × St) :=
  bnd (f_X8_rubsNow S) fun r_2 S_1 =>
  some (r_2, S_1)
def f_X8_isSlip (x0 : Int32) (S : St) : Option (Int32 × St) :=
  bnd (f_X8_in ((x0 : Int32).toInt64) 1 99 S) fun r_2 S_1 =>
  grd (isB r_2) (some (r_2, S_1))
def f_X8_downTime (x1 : Int32) (x2 : Int32) (S : St) : Option (Int32 × St) :=
  grd (inb x1 8) <|
  bnd (f_X8_timeBy x1 x2 (S 62 (x1 : Int32).toNatClampNeg) S) fun r_2 S_1 =>
  some (r_2, S_1)
def f_X8_chanceOf_b28 (x5 : Int32) (x6 : Int32) (S : St) : Option (Int32 × St) :=
  if x5 = x6 then
    some (5, S)
  else
    if x5 = (-1) then
      some (0, S)
    else
      some (10, S)
def f_X8_chanceOf_b92 (x5 : Int32) (x6 : Int32) (s0 : Int32) (S : St) : Option (Int32 × St) :=
  if x6 ≤ x5 then
    some ((5 - s0), S)
  else
    some ((5 + s0), S)
def f_X8_chanceOf_b72 (x4 : Int32) (x5 : Int32) (x6 : Int32) (s0 : Int32) (S : St) : Option (Int32 × St) :=
  grd (nz (100 * x4)) <|
  lett (s0 / (100 * x4)) fun x7_5 =>
  if x7_5 ≤ 5 then
    f_X8_chanceOf_b92 x5 x6 x7_5 S
  else
    f_X8_chanceOf_b92 x5 x6 5 S
def f_X8_chanceOf (x1 : Int32) (x2 : Int32) (x3 : Int32) (x4 : Int32) (S : St) : Option (Int32 × St) :=
  bnd (f_X8_downTime x1 x3 S) fun r_2 S_1 =>
  bnd (f_X8_downTime x2 x3 S_1) fun r_4 S_3 =>
  if r_2 = (-1) then
    f_X8_chanceOf_b28 r_2 r_4 S_3
  else
    if r_4 = (-1) then
      f_X8_chanceOf_b28 r_2 r_4 S_3
    else
      if r_4 ≤ r_2 then
        f_X8_chanceOf_b72 x4 r_2 r_4 (r_2 - r_4) S_3
      else
        f_X8_chanceOf_b72 x4 r_2 r_4 (r_4 - r_2) S_3
def f_X8_chance (x1 : Int32) (x2 : Int32) (x3 : Int32) (x4 : Int32) (S : St) : Option (Int32 × St) :=
  bnd (f_X8_isCart x1 S) fun r_2 S_1 =>
  if r_2 = 0 then
    some ((-101), S_1)
  else
    bnd (f_X8_isCart x2 S_1) fun r_4 S_3 =>
    if r_4 = 0 then
      some ((-101), S_3)
    else
      bnd (f_X8_lacks S_3) fun r_6 S_5 =>
      if r_6 = 0 then
        bnd (f_X8_isSwing x3 S_5) fun r_8 S_7 =>
        if r_8 = 0 then
          some ((-102), S_7)
        else
          bnd (f_X8_isSlip x4 S_7) fun r_10 S_9 =>
          if r_10 = 0 then
            some ((-102), S_9)
          else
            bnd (f_X8_chanceOf x1 x2 x3 x4 S_9) fun r_12 S_11 =>
            some (r_12, S_11)
      else
        some ((-103), S_5)
def f_X8_areFour (x1 : Int32) (x2 : Int32) (x3 : Int32) (x4 : Int32) (S : St) : Option (Int32 × St) :=
  bnd (f_X8_isCart x1 S) fun r_2 S_1 =>
  if r_2 = 0 then
    some (0, S_1)
  else
    bnd (f_X8_isCart x2 S_1) fun r_4 S_3 =>
    if r_4 = 0 then
      some (0, S_3)
    else
      bnd (f_X8_isCart x3 S_3) fun r_6 S_5 =>
      if r_6 = 0 then
        some (0, S_5)
      else
        bnd (f_X8_isCart x4 S_5) fun r_8 S_7 =>
        if r_8 = 0 then
          some (0, S_7)
        else
          some (1, S_7)
def f_X8_areUnlike (x0 : Int32) (x1 : Int32) (x2 : Int32) (x3 : Int32) (S : St) : Option (Int32 × St) :=
  if x0 = x1 then
    some (0, S)
  else
    if x0 = x2 then
      some (0, S)
    else
      if x0 = x3 then
        some (0, S)
      else
        if x1 = x2 then
          some (0, S)
        else
          if x1 = x3 then
            some (0, S)
          else
            if x2 = x3 then
              some (0, S)
            else
              some (1, S)
def f_X8_winsOf (x1 : Int32) (x2 : Int32) (x3 : Int32) (x4 : Int32) (x5 : Int32) (x6 : Int32) (S : St) : Option (Int32 × St) :=
  bnd (f_X8_chanceOf x3 x4 x5 x6 S) fun r_2 S_1 =>
  bnd (f_X8_chanceOf x1 x2 x5 x6 S_1) fun r_4 S_3 =>
  bnd (f_X8_chanceOf x1 x3 x5 x6 S_3) fun r_6 S_5 =>
  bnd (f_X8_chanceOf x1 x4 x5 x6 S_5) fun r_8 S_7 =>
  some ((r_4 * ((r_2 * r_6) + ((10 - r_2) * r_8))), S_7)
def f_X8_common_l4 : Nat → Int32 → Int32 → St → Option (Int32 × St)
  | 0, _, _, _ => none
  | n + 1, x2, x3, S =>
    if x2 = 0 then
      some (x3, S)
    else
      grd (nz x2) <|
      lett (x3 - x3 / x2 * x2) fun x4_1 =>
      f_X8_common_l4 n x4_1 x2 S
def f_X8_common (x0 : Int32) (x1 : Int32) (S : St) : Option (Int32 × St) :=
  f_X8_common_l4 FU x0 x1 S
def f_X8_wins_b157 (x8 : Int32) (s0 : Int32) (S : St) : Option (Int32 × St) :=
  bnd (f_X8_common s0 1000 S) fun r_18 S_17 =>
  if x8 = 0 then
    grd (nz r_18) <|
    some ((s0 / r_18), S_17)
  else
    grd (nz r_18) <|
    some ((1000 / r_18), S_17)
def f_X8_wins (x1 : Int32) (x2 : Int32) (x3 : Int32) (x4 : Int32) (x5 : Int32) (x6 : Int32) (x7 : Int32) (x8 : Int32) (S : St) : Option (Int32 × St) :=
  bnd (f_X8_areFour x1 x2 x3 x4 S) fun r_2 S_1 =>
  if r_2 = 0 then
    some ((-101), S_1)
  else
    bnd (f_X8_lacks S_1) fun r_4 S_3 =>
    if r_4 = 0 then
      bnd (f_X8_areUnlike x1 x2 x3 x4 S_3) fun r_6 S_5 =>
      if r_6 = 0 then
        some ((-103), S_5)
      else
        bnd (f_X8_isSwing x5 S_5) fun r_8 S_7 =>
        if r_8 = 0 then
          some ((-102), S_7)
        else
          bnd (f_X8_isSlip x6 S_7) fun r_10 S_9 =>
          if r_10 = 0 then
            some ((-102), S_9)
          else
            bnd (f_X8_in ((x7 : Int32).toInt64) 0 3 S_9) fun r_12 S_11 =>
            if r_12 = 0 then
              some ((-102), S_11)
            else
              bnd (f_X8_in ((x8 : Int32).toInt64) 0 1 S_11) fun r_14 S_13 =>
              if r_14 = 0 then
                some ((-102), S_13)
              else
                if x7 = 0 then
                  bnd (f_X8_winsOf x1 x2 x3 x4 x5 x6 S_13) fun r_16 S_15 =>
                  f_X8_wins_b157 x8 r_16 S_15
                else
                  if x7 = 1 then
                    bnd (f_X8_winsOf x2 x1 x3 x4 x5 x6 S_13) fun r_20 S_19 =>
                    f_X8_wins_b157 x8 r_20 S_19
                  else
                    if x7 = 2 then
                      bnd (f_X8_winsOf x3 x4 x1 x2 x5 x6 S_13) fun r_22 S_21 =>
                      f_X8_wins_b157 x8 r_22 S_21
                    else
                      bnd (f_X8_winsOf x4 x3 x1 x2 x5 x6 S_13) fun r_24 S_23 =>
                      f_X8_wins_b157 x8 r_24 S_23
    else
      some ((-103), S_3)
def f_X8_quickest_b59 (k4 : Int32 → Int32 → Int32 → St → Option (Int32 × St)) (x1 : Int32) (x3 : Int32) (s0 : Int32) (S : St) : Option (Int32 × St) :=
  lett (x3 + 1) fun x3_5 =>
  k4 x1 s0 x3_5 S
def f_X8_quickest_b58 (k4 : Int32 → Int32 → Int32 → St → Option (Int32 × St)) (x1 : Int32) (x2 : Int32) (x3 : Int32) (S : St) : Option (Int32 × St) :=
  f_X8_quickest_b59 k4 x1 x3 x2 S
def f_X8_quickest_b54 (k4 : Int32 → Int32 → Int32 → St → Option (Int32 × St)) (x1 : Int32) (x3 : Int32) (S : St) : Option (Int32 × St) :=
  f_X8_quickest_b59 k4 x1 x3 x3 S
def f_X8_quickest_l4 : Nat → Int32 → Int32 → Int32 → St → Option (Int32 × St)
  | 0, _, _, _, _ => none
  | n + 1, x1, x2, x3, S =>
    if 4 ≤ x3 then
      some (x2, S)
    else
      grd (inb x3 4) <|
      bnd (f_X8_downTime (S 71 (x3 : Int32).toNatClampNeg) x1 S) fun r_2 S_1 =>
      grd (inb x2 4) <|
      bnd (f_X8_downTime (S_1 71 (x2 : Int32).toNatClampNeg) x1 S_1) fun r_4 S_3 =>
      if r_2 = (-1) then
        f_X8_quickest_b58 (f_X8_quickest_l4 n) x1 x2 x3 S_3
      else
        if r_4 = (-1) then
          f_X8_quickest_b54 (f_X8_quickest_l4 n) x1 x3 S_3
        else
          if r_4 ≤ r_2 then
            f_X8_quickest_b58 (f_X8_quickest_l4 n) x1 x2 x3 S_3
          else
            f_X8_quickest_b54 (f_X8_quickest_l4 n) x1 x3 S_3
def f_X8_quickest (x1 : Int32) (S : St) : Option (Int32 × St) :=
  f_X8_quickest_l4 FU x1 0 1 S
def f_X8_plan_b155 (k101 : Int32 → Int32 → Int32 → Int32 → Int32 → Int32 → St → Option (Int32 × St)) (k141 : Int32 → Int32 → Int32 → Int32 → Int32 → Int32 → Int32 → Int32 → St → Option (Int32 × St)) (x5 : Int32) (x6 : Int32) (x7 : Int32) (x8 : Int32) (x9 : Int32) (x10 : Int32) (x11 : Int32) (x12 : Int32) (S : St) : Option (Int32 × St) :=
  lett (x12 + 1) fun x12_17 =>
  k141 x5 x6 x7 x8 x9 x10 x11 x12_17 S
def f_X8_plan_b242 (k101 : Int32 → Int32 → Int32 → Int32 → Int32 → Int32 → St → Option (Int32 × St)) (x5 : Int32) (x6 : Int32) (x7 : Int32) (x8 : Int32) (x10 : Int32) (s0 : Int32) (S : St) : Option (Int32 × St) :=
  lett (x10 + 1) fun x10_21 =>
  k101 x5 x6 x7 x8 s0 x10_21 S
def f_X8_plan_b226 (k101 : Int32 → Int32 → Int32 → Int32 → Int32 → Int32 → St → Option (Int32 × St)) (x5 : Int32) (x6 : Int32) (x7 : Int32) (x9 : Int32) (x10 : Int32) (x14 : Int32) (s0 : Int32) (S : St) : Option (Int32 × St) :=
  if x14 ≤ x9 then
    f_X8_plan_b242 k101 x5 x6 x7 s0 x10 x9 S
  else
    f_X8_plan_b242 k101 x5 x6 x7 s0 x10 x14 S
def f_X8_plan_l141 (k101 : Int32 → Int32 → Int32 → Int32 → Int32 → Int32 → St → Option (Int32 × St)) : Nat → Int32 → Int32 → Int32 → Int32 → Int32 → Int32 → Int32 → Int32 → St → Option (Int32 × St)
  | 0, _, _, _, _, _, _, _, _, _ => none
  | n + 1, x5, x6, x7, x8, x9, x10, x11, x12, S =>
    if x12 = x7 then
      f_X8_plan_b155 k101 (f_X8_plan_l141 k101 n) x5 x6 x7 x8 x9 x10 x11 x12 S
    else
      if x12 = x11 then
        f_X8_plan_b155 k101 (f_X8_plan_l141 k101 n) x5 x6 x7 x8 x9 x10 x11 x12 S
      else
        lett (((6 - x7) - x11) - x12) fun x13_18 =>
        grd (inb x7 4) <|
        grd (inb x11 4) <|
        grd (inb x12 4) <|
        grd (inb x13_18 4) <|
        bnd (f_X8_winsOf (S 71 (x7 : Int32).toNatClampNeg) (S 71 (x11 : Int32).toNatClampNeg) (S 71 (x12 : Int32).toNatClampNeg) (S 71 (x13_18 : Int32).toNatClampNeg) x5 x6 S) fun r_20 S_19 =>
        if r_20 ≤ x9 then
          f_X8_plan_b226 k101 x5 x6 x7 x9 x10 r_20 x8 S_19
        else
          f_X8_plan_b226 k101 x5 x6 x7 x9 x10 r_20 x10 S_19
def f_X8_plan_b136 (k101 : Int32 → Int32 → Int32 → Int32 → Int32 → Int32 → St → Option (Int32 × St)) (x5 : Int32) (x6 : Int32) (x7 : Int32) (x8 : Int32) (x9 : Int32) (x10 : Int32) (s0 : Int32) (S : St) : Option (Int32 × St) :=
  f_X8_plan_l141 k101 FU x5 x6 x7 x8 x9 x10 s0 0 S
def f_X8_plan_l101 : Nat → Int32 → Int32 → Int32 → Int32 → Int32 → Int32 → St → Option (Int32 × St)
  | 0, _, _, _, _, _, _, _ => none
  | n + 1, x5, x6, x7, x8, x9, x10, S =>
    if 3 ≤ x10 then
      some (x8, S)
    else
      if x10 = 0 then
        f_X8_plan_b136 (f_X8_plan_l101 n) x5 x6 x7 x8 x9 x10 (x7 ^^^ 1) S
      else
        if x10 = 1 then
          f_X8_plan_b136 (f_X8_plan_l101 n) x5 x6 x7 x8 x9 x10 (x7 ^^^ 2) S
        else
          f_X8_plan_b136 (f_X8_plan_l101 n) x5 x6 x7 x8 x9 x10 (3 - x7) S
def f_X8_plan (x1 : Int32) (x2 : Int32) (x3 : Int32) (x4 : Int32) (x5 : Int32) (x6 : Int32) (S : St) : Option (Int32 × St) :=
  bnd (f_X8_areFour x1 x2 x3 x4 S) fun r_2 S_1 =>
  if r_2 = 0 then
    some ((-101), S_1)
  else
    bnd (f_X8_lacks S_1) fun r_4 S_3 =>
    if r_4 = 0 then
      bnd (f_X8_areUnlike x1 x2 x3 x4 S_3) fun r_6 S_5 =>
      if r_6 = 0 then
        some ((-103), S_5)
      else
        bnd (f_X8_isSwing x5 S_5) fun r_8 S_7 =>
        if r_8 = 0 then
          some ((-102), S_7)
        else
          bnd (f_X8_isSlip x6 S_7) fun r_10 S_9 =>
          if r_10 = 0 then
            some ((-102), S_9)
          else
            grd (inb 0 4) <|
            lett (su S_9 71 (0 : Int32).toNatClampNeg x1) fun S_11 =>
            grd (inb 1 4) <|
            lett (su S_11 71 (1 : Int32).toNatClampNeg x2) fun S_12 =>
            grd (inb 2 4) <|
            lett (su S_12 71 (2 : Int32).toNatClampNeg x3) fun S_13 =>
            grd (inb 3 4) <|
            lett (su S_13 71 (3 : Int32).toNatClampNeg x4) fun S_14 =>
            bnd (f_X8_quickest x5 S_14) fun r_16 S_15 =>
            f_X8_plan_l101 FU x5 x6 r_16 (-1) (-1) 0 S_15
    else
      some ((-103), S_3)
def f_X8_isShake (x0 : Int32) (S : St) : Option (Int32 × St) :=
  bnd (f_X8_in ((x0 : Int32).toInt64) 0 9 S) fun r_2 S_1 =>
  grd (isB r_2) (some (r_2, S_1))
def f_X8_leaving (x1 : Int32) (x2 : Int32) (S : St) : Option (Int32 × St) :=
  grd (inb x1 12) <|
  if (S 68 (x1 : Int32).toNatClampNeg) = (-1) then
    some (0, S)
  else
    grd (inb x1 12) <|
    bnd (f_X8_bearable x1 S) fun r_2 S_1 =>
    if (S 68 (x1 : Int32).toNatClampNeg) ≤ r_2 then
      grd (inb x1 12) <|
      bnd (f_X8_bearable x1 S_1) fun r_4 S_3 =>
      grd (nz r_4) <|
      some ((((10 * (S_1 68 (x1 : Int32).toNatClampNeg)) / r_4) * x2), S_3)
    else
      some (100, S_1)
def f_X8_staysBy_b77 (k16 : Int32 → Int32 → Int64 → Int32 → St → Option (Int64 × St)) (x3 : Int32) (x4 : Int32) (x7 : Int32) (s0 : Int64) (s1 : Int64) (S : St) : Option (Int64 × St) :=
  lett (s1 * s0) fun l5_7 =>
  lett (x7 + 1) fun x7_8 =>
  k16 x3 x4 l5_7 x7_8 S
def f_X8_staysBy_b51 (k16 : Int32 → Int32 → Int64 → Int32 → St → Option (Int64 × St)) (x3 : Int32) (x4 : Int32) (l5 : Int64) (x7 : Int32) (x8 : Int32) (s0 : Int32) (S : St) : Option (Int64 × St) :=
  if s0 = 0 then
    f_X8_staysBy_b77 k16 x3 x4 x7 100 l5 S
  else
    bnd (f_X8_leaving x8 x3 S) fun r_10 S_9 =>
    f_X8_staysBy_b77 k16 x3 x4 x7 (((100 - r_10) : Int32).toInt64) l5 S_9
def f_X8_staysBy_b50 (k16 : Int32 → Int32 → Int64 → Int32 → St → Option (Int64 × St)) (x3 : Int32) (x4 : Int32) (l5 : Int64) (x7 : Int32) (x8 : Int32) (S : St) : Option (Int64 × St) :=
  f_X8_staysBy_b51 k16 x3 x4 l5 x7 x8 0 S
def f_X8_staysBy_l16 : Nat → Int32 → Int32 → Int64 → Int32 → St → Option (Int64 × St)
  | 0, _, _, _, _, _ => none
  | n + 1, x3, x4, l5, x7, S =>
    if 4 ≤ x7 then
      some (l5, S)
    else
      bnd (f_X8_bendAt x7 S) fun r_6 S_5 =>
      if r_6 = (-1) then
        f_X8_staysBy_b50 (f_X8_staysBy_l16 n) x3 x4 l5 x7 r_6 S_5
      else
        if ((x4 >>> (x7 &&& 31)) &&& 1) = 0 then
          f_X8_staysBy_b51 (f_X8_staysBy_l16 n) x3 x4 l5 x7 r_6 1 S_5
        else
          f_X8_staysBy_b50 (f_X8_staysBy_l16 n) x3 x4 l5 x7 r_6 S_5
def f_X8_staysBy (x1 : Int32) (x2 : Int32) (x3 : Int32) (x4 : Int32) (S : St) : Option (Int64 × St) :=
  bnd (f_X8_take x1 S) fun r_2 S_1 =>
  bnd (f_X8_go x2 S_1) fun r_4 S_3 =>
  f_X8_staysBy_l16 FU x3 x4 1 0 S_3
def f_X8_stays_l89 : Nat → Int32 → Int64 → Int64 → Int64 → Int64 → St → Option (Int64 × St)
  | 0, _, _, _, _, _, _ => none
  | n + 1, x5, l6, l8, l10, l12, S =>
    if (lg_cmp l10 0) = 0 then
      if x5 = 0 then
        grd (nzL l12) <|
        some ((l8 / l12), S)
      else
        grd (nzL l12) <|
        some ((l6 / l12), S)
    else
      grd (nzL l10) <|
      lett (l12 - l12 / l10 * l10) fun l14_15 =>
      f_X8_stays_l89 n x5 l6 l8 l14_15 l10 S
def f_X8_stays (x1 : Int32) (x2 : Int32) (x3 : Int32) (x4 : Int32) (x5 : Int32) (S : St) : Option (Int64 × St) :=
  bnd (f_X8_isCart x1 S) fun r_2 S_1 =>
  if r_2 = 0 then
    some ((-101), S_1)
  else
    bnd (f_X8_lacks S_1) fun r_4 S_3 =>
    if r_4 = 0 then
      bnd (f_X8_isSwing x2 S_3) fun r_6 S_5 =>
      if r_6 = 0 then
        some ((-102), S_5)
      else
        bnd (f_X8_isShake x3 S_5) fun r_8 S_7 =>
        if r_8 = 0 then
          some ((-102), S_7)
        else
          bnd (f_X8_in ((x4 : Int32).toInt64) 0 15 S_7) fun r_10 S_9 =>
          if r_10 = 0 then
            some ((-102), S_9)
          else
            bnd (f_X8_in ((x5 : Int32).toInt64) 0 1 S_9) fun r_12 S_11 =>
            if r_12 = 0 then
              some ((-102), S_11)
            else
              bnd (f_X8_staysBy x1 x2 x3 x4 S_11) fun r_14 S_13 =>
              f_X8_stays_l89 FU x5 100000000 r_14 r_14 100000000 S_13
    else
      some ((-103), S_3)
def f_X8_bends_b27 (k4 : Int32 → Int32 → St → Option (Int32 × St)) (x2 : Int32) (s0 : Int32) (s1 : Int32) (S : St) : Option (Int32 × St) :=
  lett (s1 + s0) fun x1_1 =>
  lett (x2 + 1) fun x2_2 =>
  k4 x1_1 x2_2 S
def f_X8_bends_l4 : Nat → Int32 → Int32 → St → Option (Int32 × St)
  | 0, _, _, _ => none
  | n + 1, x1, x2, S =>
    if (S 55 6) ≤ x2 then
      some (x1, S)
    else
      grd (inb x2 12) <|
      if (S 59 (x2 : Int32).toNatClampNeg) ≤ 0 then
        f_X8_bends_b27 (f_X8_bends_l4 n) x2 0 x1 S
      else
        f_X8_bends_b27 (f_X8_bends_l4 n) x2 1 x1 S
def f_X8_bends (S : St) : Option (Int32 × St) :=
  f_X8_bends_l4 FU 0 0 S
def f_X8_straw_b181 (k74 : Int32 → Int32 → Int32 → Int32 → Int32 → Int64 → Int32 → St → Option (Int32 × St)) (x1 : Int32) (x2 : Int32) (x3 : Int32) (x4 : Int32) (x5 : Int32) (l6 : Int64) (x8 : Int32) (S : St) : Option (Int32 × St) :=
  lett (x8 + 1) fun x8_17 =>
  k74 x1 x2 x3 x4 x5 l6 x8_17 S
def f_X8_straw_b179 (k74 : Int32 → Int32 → Int32 → Int32 → Int32 → Int64 → Int32 → St → Option (Int32 × St)) (x1 : Int32) (x2 : Int32) (x3 : Int32) (x4 : Int32) (x5 : Int32) (x8 : Int32) (s0 : Int64) (S : St) : Option (Int32 × St) :=
  f_X8_straw_b181 k74 x1 x2 x3 x4 x5 s0 x8 S
def f_X8_straw_b162 (k74 : Int32 → Int32 → Int32 → Int32 → Int32 → Int64 → Int32 → St → Option (Int32 × St)) (x1 : Int32) (x2 : Int32) (x3 : Int32) (x4 : Int32) (l6 : Int64) (x8 : Int32) (l10 : Int64) (s0 : Int32) (S : St) : Option (Int32 × St) :=
  if (lg_cmp l10 l6) ≤ 0 then
    f_X8_straw_b179 k74 x1 x2 x3 x4 s0 x8 l6 S
  else
    f_X8_straw_b179 k74 x1 x2 x3 x4 s0 x8 l10 S
def f_X8_straw_b136 (k74 : Int32 → Int32 → Int32 → Int32 → Int32 → Int64 → Int32 → St → Option (Int32 × St)) (x1 : Int32) (x2 : Int32) (x3 : Int32) (x4 : Int32) (x5 : Int32) (l6 : Int64) (x8 : Int32) (S : St) : Option (Int32 × St) :=
  bnd (f_X8_staysBy x1 x2 x3 x8 S) fun r_16 S_15 =>
  if (lg_cmp r_16 l6) ≤ 0 then
    f_X8_straw_b162 k74 x1 x2 x3 x4 l6 x8 r_16 x5 S_15
  else
    f_X8_straw_b162 k74 x1 x2 x3 x4 l6 x8 r_16 x8 S_15
def f_X8_straw_l87 (k74 : Int32 → Int32 → Int32 → Int32 → Int32 → Int64 → Int32 → St → Option (Int32 × St)) : Nat → Int32 → Int32 → Int32 → Int32 → Int32 → Int64 → Int32 → Int32 → Int32 → St → Option (Int32 × St)
  | 0, _, _, _, _, _, _, _, _, _, _ => none
  | n + 1, x1, x2, x3, x4, x5, l6, x8, x9, x10, S =>
    if 4 ≤ x10 then
      if x9 = x4 then
        bnd (f_X8_bends S) fun r_14 S_13 =>
        if 3 < r_14 then
          f_X8_straw_b136 k74 x1 x2 x3 x4 x5 l6 x8 S_13
        else
          bnd (f_X8_bends S_13) fun r_19 S_18 =>
          if (x8 >>> (r_19 &&& 31)) = 0 then
            f_X8_straw_b136 k74 x1 x2 x3 x4 x5 l6 x8 S_18
          else
            f_X8_straw_b181 k74 x1 x2 x3 x4 x5 l6 x8 S_18
      else
        f_X8_straw_b181 k74 x1 x2 x3 x4 x5 l6 x8 S
    else
      lett (x9 + ((x8 >>> (x10 &&& 31)) &&& 1)) fun x9_20 =>
      lett (x10 + 1) fun x10_21 =>
      f_X8_straw_l87 k74 n x1 x2 x3 x4 x5 l6 x8 x9_20 x10_21 S
def f_X8_straw_l74 : Nat → Int32 → Int32 → Int32 → Int32 → Int32 → Int64 → Int32 → St → Option (Int32 × St)
  | 0, _, _, _, _, _, _, _, _ => none
  | n + 1, x1, x2, x3, x4, x5, l6, x8, S =>
    if 16 ≤ x8 then
      some (x5, S)
    else
      f_X8_straw_l87 (f_X8_straw_l74 n) FU x1 x2 x3 x4 x5 l6 x8 0 0 S
def f_X8_straw (x1 : Int32) (x2 : Int32) (x3 : Int32) (x4 : Int32) (S : St) : Option (Int32 × St) :=
  bnd (f_X8_isCart x1 S) fun r_2 S_1 =>
  if r_2 = 0 then
    some ((-101), S_1)
  else
    bnd (f_X8_lacks S_1) fun r_4 S_3 =>
    if r_4 = 0 then
      bnd (f_X8_isSwing x2 S_3) fun r_6 S_5 =>
      if r_6 = 0 then
        some ((-102), S_5)
      else
        bnd (f_X8_isShake x3 S_5) fun r_8 S_7 =>
        if r_8 = 0 then
          some ((-102), S_7)
        else
          bnd (f_X8_in ((x4 : Int32).toInt64) 1 4 S_7) fun r_10 S_9 =>
          if r_10 = 0 then
            some ((-102), S_9)
          else
            bnd (f_X8_bends S_9) fun r_12 S_11 =>
            if x4 ≤ r_12 then
              f_X8_straw_l74 FU x1 x2 x3 x4 (-1) (-1) 0 S_11
            else
              some ((-103), S_11)
    else
      some ((-103), S_3)
def f_X8_image_l64 : Nat → Int32 → St → Option (Int32 × St)
  | 0, _, _ => none
  | n + 1, x1, S =>
    if 24 ≤ x1 then
      lett (su S 55 33 (S 55 16)) fun S_3 =>
      lett (su S_3 55 34 (S_3 55 12)) fun S_4 =>
      lett (su S_4 55 35 (S_4 55 29)) fun S_5 =>
      lett (su S_5 55 32 (S_5 55 7)) fun S_6 =>
      some ((S_6 55 12), S_6)
    else
      grd (inb x1 24) <|
      grd (inb x1 24) <|
      lett (su S 74 (x1 : Int32).toNatClampNeg (S 70 (x1 : Int32).toNatClampNeg)) fun S_7 =>
      lett (x1 + 1) fun x1_8 =>
      f_X8_image_l64 n x1_8 S_7
def f_X8_image_l38 : Nat → Int32 → St → Option (Int32 × St)
  | 0, _, _ => none
  | n + 1, x1, S =>
    if 8 ≤ x1 then
      f_X8_image_l64 FU 0 S
    else
      grd (inb x1 8) <|
      grd (inb x1 8) <|
      lett (su S 73 (x1 : Int32).toNatClampNeg (S 62 (x1 : Int32).toNatClampNeg)) fun S_9 =>
      lett (x1 + 1) fun x1_10 =>
      f_X8_image_l38 n x1_10 S_9
def f_X8_image_l12 : Nat → Int32 → St → Option (Int32 × St)
  | 0, _, _ => none
  | n + 1, x1, S =>
    if 12 ≤ x1 then
      f_X8_image_l38 FU 0 S
    else
      grd (inb x1 12) <|
      grd (inb x1 12) <|
      lett (su S 72 (x1 : Int32).toNatClampNeg (S 61 (x1 : Int32).toNatClampNeg)) fun S_11 =>
      lett (x1 + 1) fun x1_12 =>
      f_X8_image_l12 n x1_12 S_11
def f_X8_image (S : St) : Option (Int32 × St) :=
  bnd (f_X8_lacks S) fun r_2 S_1 =>
  if r_2 = 0 then
    f_X8_image_l12 FU 0 S_1
  else
    some ((-103), S_1)
def f_X8_restore_l70 : Nat → Int32 → St → Option (Int32 × St)
  | 0, _, _ => none
  | n + 1, x1, S =>
    if 24 ≤ x1 then
      lett (su S 55 16 (S 55 33)) fun S_1 =>
      lett (su S_1 55 29 (S_1 55 35)) fun S_2 =>
      some ((S_2 55 12), S_2)
    else
      grd (inb x1 24) <|
      grd (inb x1 24) <|
      lett (su S 70 (x1 : Int32).toNatClampNeg (S 74 (x1 : Int32).toNatClampNeg)) fun S_3 =>
      lett (x1 + 1) fun x1_4 =>
      f_X8_restore_l70 n x1_4 S_3
def f_X8_restore_l42 : Nat → Int32 → St → Option (Int32 × St)
  | 0, _, _ => none
  | n + 1, x1, S =>
    if (S 55 34) ≤ x1 then
      f_X8_restore_l70 FU 0 S
    else
      grd (inb x1 8) <|
      grd (inb x1 8) <|
      lett (su S 62 (x1 : Int32).toNatClampNeg (S 73 (x1 : Int32).toNatClampNeg)) fun S_5 =>
      lett (x1 + 1) fun x1_6 =>
      f_X8_restore_l42 n x1_6 S_5
def f_X8_restore_l16 : Nat → Int32 → St → Option (Int32 × St)
  | 0, _, _ => none
  | n + 1, x1, S =>
    if 12 ≤ x1 then
      f_X8_restore_l42 FU 0 S
    else
      grd (inb x1 12) <|
      grd (inb x1 12) <|
      lett (su S 61 (x1 : Int32).toNatClampNeg (S 72 (x1 : Int32).toNatClampNeg)) fun S_7 =>
      lett (x1 + 1) fun x1_8 =>
      f_X8_restore_l16 n x1_8 S_7
def f_X8_restore (S : St) : Option (Int32 × St) :=
  if (S 55 32) = (S 55 7) then
    f_X8_restore_l16 FU 0 S
  else
    some ((-103), S)
def f_X8_countOf (x1 : Int32) (S : St) : Option (Int32 × St) :=
  if x1 = 0 then
    some ((S 55 6), S)
  else
  if x1 = 1 then
    bnd (f_X8_bends S) fun r_3 S_2 =>
    some (r_3, S_2)
  else
  if x1 = 2 then
    some ((S 55 12), S)
  else
  if x1 = 3 then
    some ((S 55 29), S)
  else
  if x1 = 4 then
    some ((S 55 1), S)
  else
  if x1 = 5 then
    some ((S 55 7), S)
  else
  if x1 = 6 then
    some ((S 55 16), S)
  else
    some ((-102), S)
def f_X8_count (x1 : Int32) (S : St) : Option (Int32 × St) :=
  bnd (f_X8_countOf x1 S) fun r_2 S_1 =>
  some (r_2, S_1)
def f_X8_say (l1 : Int64) (S : St) : Option (Unit × St) :=
  lett (sr S 55 (setL (S 55) ((31 * (getL (S 55))) + l1))) fun S_1 =>
  some ((), S_1)
def f_X8_sayCart_l24 : Nat → Int32 → Int32 → St → Option (Unit × St)
  | 0, _, _, _ => none
  | n + 1, x1, x2, S =>
    grd (inb x1 8) <|
    if (2 * (S 63 (x1 : Int32).toNatClampNeg)) ≤ x2 then
      bnd (f_X8_farthestBy x1 400 0 S) fun r_6 S_5 =>
      bnd (f_X8_say ((r_6 : Int32).toInt64) S_5) fun r_8 S_7 =>
      bnd (f_X8_lacks S_7) fun r_10 S_9 =>
      if r_10 = 0 then
        bnd (f_X8_take x1 S_9) fun r_12 S_11 =>
        bnd (f_X8_go 100 S_11) fun r_14 S_13 =>
        bnd (f_X8_say (((S_13 55 22) : Int32).toInt64) S_13) fun r_16 S_15 =>
        bnd (f_X8_say (((S_15 55 23) : Int32).toInt64) S_15) fun r_18 S_17 =>
        bnd (f_X8_say (((S_17 55 24) : Int32).toInt64) S_17) fun r_20 S_19 =>
        bnd (f_X8_say (((S_19 55 25) : Int32).toInt64) S_19) fun r_22 S_21 =>
        some ((), S_21)
      else
        some ((), S_9)
    else
      grd (inb ((10 * x1) + x2) 80) <|
      bnd (f_X8_say (((S 64 (((10 * x1) + x2) : Int32).toNatClampNeg) : Int32).toInt64) S) fun r_24 S_23 =>
      lett (x2 + 1) fun x2_25 =>
      f_X8_sayCart_l24 n x1 x2_25 S_23
def f_X8_sayCart (x1 : Int32) (S : St) : Option (Unit × St) :=
  grd (inb x1 8) <|
  bnd (f_X8_say (((S 62 (x1 : Int32).toNatClampNeg) : Int32).toInt64) S) fun r_2 S_1 =>
  grd (inb x1 8) <|
  bnd (f_X8_say (((S_1 63 (x1 : Int32).toNatClampNeg) : Int32).toInt64) S_1) fun r_4 S_3 =>
  f_X8_sayCart_l24 FU x1 0 S_3
def f_X8_digest_l135 : Nat → Int32 → St → Option (Int64 × St)
  | 0, _, _ => none
  | n + 1, x1, S =>
    if 7 ≤ x1 then
      some ((getL (S 55)), S)
    else
      bnd (f_X8_countOf x1 S) fun r_7 S_6 =>
      bnd (f_X8_say ((r_7 : Int32).toInt64) S_6) fun r_9 S_8 =>
      lett (x1 + 1) fun x1_10 =>
      f_X8_digest_l135 n x1_10 S_8
def f_X8_digest_l108 : Nat → Int32 → St → Option (Int64 × St)
  | 0, _, _ => none
  | n + 1, x1, S =>
    if (S 55 1) ≤ x1 then
      f_X8_digest_l135 FU 0 S
    else
      grd (inb x1 50) <|
      bnd (f_X8_say (((S 56 (x1 : Int32).toNatClampNeg) : Int32).toInt64) S) fun r_12 S_11 =>
      lett (x1 + 1) fun x1_13 =>
      f_X8_digest_l108 n x1_13 S_11
def f_X8_digest_l70 : Nat → Int32 → St → Option (Int64 × St)
  | 0, _, _ => none
  | n + 1, x1, S =>
    if (3 * (S 55 29)) ≤ x1 then
      bnd (f_X8_rubsNow S) fun r_3 S_2 =>
      bnd (f_X8_say ((r_3 : Int32).toInt64) S_2) fun r_5 S_4 =>
      f_X8_digest_l108 FU 0 S_4
    else
      grd (inb x1 24) <|
      bnd (f_X8_say (((S 70 (x1 : Int32).toNatClampNeg) : Int32).toInt64) S) fun r_15 S_14 =>
      lett (x1 + 1) fun x1_16 =>
      f_X8_digest_l70 n x1_16 S_14
def f_X8_digest_l49 : Nat → Int32 → St → Option (Int64 × St)
  | 0, _, _ => none
  | n + 1, x1, S =>
    if (S 55 12) ≤ x1 then
      f_X8_digest_l70 FU 0 S
    else
      bnd (f_X8_sayCart x1 S) fun r_18 S_17 =>
      lett (x1 + 1) fun x1_19 =>
      f_X8_digest_l49 n x1_19 S_17
def f_X8_digest_l19 (k9 : Int32 → St → Option (Int64 × St)) : Nat → Int32 → Int32 → St → Option (Int64 × St)
  | 0, _, _, _ => none
  | n + 1, x1, x2, S =>
    if 4 ≤ x2 then
      lett (x1 + 1) fun x1_20 =>
      k9 x1_20 S
    else
      bnd (f_X8_cellOf x1 x2 S) fun r_22 S_21 =>
      bnd (f_X8_say ((r_22 : Int32).toInt64) S_21) fun r_24 S_23 =>
      lett (x2 + 1) fun x2_25 =>
      f_X8_digest_l19 k9 n x1 x2_25 S_23
def f_X8_digest_l9 : Nat → Int32 → St → Option (Int64 × St)
  | 0, _, _ => none
  | n + 1, x1, S =>
    if (S 55 6) ≤ x1 then
      f_X8_digest_l49 FU 0 S
    else
      f_X8_digest_l19 (f_X8_digest_l9 n) FU x1 0 S
def f_X8_digest (S : St) : Option (Int64 × St) :=
  lett (sr S 55 (setL (S 55) 491)) fun S_1 =>
  f_X8_digest_l9 FU 0 S_1
